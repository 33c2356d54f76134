/-! dip, count, mean, digest -/
section KC2
theorem zm_row {I I' : am_I} (h : zm I I') {b : Nat} (h1 : b < 123) (h2 : b ≠ 79) (h3 : b < 102 ∨ 121 < b) : I' b = I b := h.1 b h1 h2 h3
theorem c_dps_53 {p : sP} {od : sO} {G : am_G} (hp : p_ok p) (ho : o_ok p od) {N : Nat} (hN : N ≤ 20) (v2 : Int32) : ∀ (m k n : Nat) (I : am_I) (x : sP × Int32 × Int32), t_ok p x.1 → cO I p od → cA_53 I p x.1 x.2.1 x.2.2 → k + m = N → m < n → ∃ I' : am_I, L_X11_dip_0 n 0 I G (Int32.ofNat N) v2 (Int32.ofNat k) = some (.inl ((s_dps p od m x).2.2 - v2), I', G) ∧ cA_53 I' p (s_dps p od m x).1 (s_dps p od m x).2.1 (s_dps p od m x).2.2 ∧ cZ_53 I I' := by
  intro m
  induction m with
  | zero =>
    intro k n I x ht hO h hk hn
    obtain ⟨n, rfl⟩ : ∃ n', n = n' + 1 := ⟨n - 1, by omega⟩
    rw [L_X11_dip_0_0, if_pos ((n_le (by omega) (by omega)).mpr (by omega)), h.2.2.2]
    exact ⟨I, rfl, h, cZ_53.rf I⟩
  | succ m ih =>
    intro k n I x ht hO h hk hn
    obtain ⟨n, rfl⟩ : ∃ n', n = n' + 1 := ⟨n - 1, by omega⟩
    obtain ⟨I1, e1, s1, z1⟩ := c_dp_53 (G := G) hp ho ht hO h
    obtain ⟨I2, e2, s2, z2⟩ := ih (k + 1) n I1 (s_dip p od x) (s_dip_ok hp od x ht) (hO.kept (fun b h1 h2 => z1 b (by omega) (by omega) (by omega))) s1 (by omega) (by omega)
    rw [L_X11_dip_0_0, if_neg (fun q => absurd ((n_le (by omega) (by omega)).mp q) (by omega)), e1, rb_go, n_inc, e2]
    exact ⟨I2, rfl, s2, z1.tr z2⟩
theorem k_dip_ok : k_dip kV := by
  intro I G x hV
  show kGoal hn_dip (fun I1 G1 bb I2 G2 => R_X14_dip_79 I1 G1 x = some (bb, I2, G2)) (R_X11_dip_0 I G x) (fun k => k = 71) I G
  have hV0 := hV
  obtain ⟨p, t, od, dp, ca, ln, h⟩ := hV
  have hp := h.1.1
  have ho := h.1.2.2
  by_cases hx : 1 ≤ x.toInt ∧ x.toInt ≤ 20
  · obtain ⟨N, hN, rfl⟩ := n_ofl (n := 20) (x := x) ⟨by omega, hx.2⟩
    have hN1 : 1 ≤ N := by rw [n_ti (by omega)] at hx; omega
    obtain ⟨I1, e1, c1, z1⟩ := c_dps_53 (G := G) hp ho hN (I 53 13) N 0 FU I (t, dp, ca) h.1.2.1 h.2.1.1 h.2.2.1.1 (by omega) (by unfold FU; omega)
    have r1 := (z1.toc.rS h.2.2.1.2).up79 0
    have rO1 : rO (am_up I1 79 0 0) p od := h.2.1.2.kept (fun b h1 h2 => by rw [up_row _ _ _ (by omega)]; exact z1 b (by omega) (by omega) (by omega)) (by rw [up_row _ _ _ (by omega), z1 86 (by omega) (by omega) (by omega)])
    obtain ⟨G', hG⟩ : ∃ G' : am_G, G' = am_up G 122 0 ((s_dps p od N (t, dp, ca)).2.2 - I 53 13).toInt64 := ⟨_, rfl⟩
    obtain ⟨I2, e2, s2, z2⟩ := r_dps_102 (G := G') hp ho hN N 0 FU (am_up I1 79 0 0) (t, dp, ca) h.1.2.1 rO1 r1 (by omega) (by unfold FU; omega)
    refine kG_ret (I1 := I1) (I2 := I2) hG ?_ ?_ ?_ ⟨p, _, od, _, _, ln, h.step z1.toc c1 ((zm.up I1 0).tr z2.tom) s2 (z2.toB ((z1.toc.rB h.2.2.2.1).up 0)) (s_dps_ok hp od N (t, dp, ca) h.1.2.1) (g3_up hG)⟩
    · unfold R_X11_dip_0
      rw [if_neg (by rw [i_lt, i_n1]; omega), if_pos (by rw [i_le, i_20]; omega)]
      exact e1
    · show R_X14_dip_79 I1 G' (Int32.ofNat N) = _
      unfold R_X14_dip_79
      rw [isIn_y (by rw [i_n1, i_20]; exact hx), if_neg (by decide)]
      unfold R_X13_dip__102
      rw [show L_X13_dip__102 FU 0 (am_up I1 79 0 0) G' (Int32.ofNat N) (0 : Int32) = _ from e2, rb_go, s2.2.2, (z1.toc.rS h.2.2.1.2).2.2, h.2.2.1.1.2.2.2]
    · rw [z2 79 (by omega), am_up_self]
  · refine kG_thr hV0 (k := 71) (n := 1) ?_ rfl rfl (by decide) ?_
    · unfold R_X11_dip_0
      by_cases h1 : x < (1 : Int32)
      · rw [if_pos h1]
      · rw [if_neg h1, if_neg (by rw [i_lt, i_n1] at h1; rw [i_le, i_20]; omega)]
    · show R_X14_dip_79 I G x = _
      unfold R_X14_dip_79
      rw [isIn_n (by rw [i_n1, i_20]; exact hx), if_pos rfl]
      rfl
/-- what a count of the reference changes -/
def zy (I I' : am_I) : Prop := (∀ b, b < 123 → b ≠ 102 → (b < 105 ∨ 111 < b) → I' b = I b) ∧ ∀ k, k ≠ 10 → I' 102 k = I 102 k
theorem zy.tr {I I1 I2 : am_I} (h1 : zy I I1) (h2 : zy I1 I2) : zy I I2 := ⟨fun b z1 z2 z3 => (h2.1 b z1 z2 z3).trans (h1.1 b z1 z2 z3), fun k hk => (h2.2 k hk).trans (h1.2 k hk)⟩
theorem zy.rf (I : am_I) : zy I I := ⟨fun _ _ _ _ => rfl, fun _ _ => rfl⟩
theorem rX_102.toy {I I' : am_I} (h : rX_102 I I') : zy I I' := ⟨fun b _ z2 z3 => h.1 b z2 z3, h.2⟩
theorem zy.tom {I I' : am_I} (h : zy I I') : zm I I' := ⟨fun b z1 _ z3 => h.1 b z1 (by omega) (by omega), fun k _ => by rw [h.1 79 (by omega) (by omega) (by omega)]⟩
theorem zy.toB {I I' : am_I} (hz : zy I I') (h : rB_112' I) : rB_112' I' := by unfold rB_112'; rw [hz.1 116 (by omega) (by omega) (by omega)]; exact h
theorem rS_102.ofy {p t : sP} {dp ca : Int32} {I I' : am_I} (h : rS_102 I p t dp ca) (hx : zy I I') (ha : rA_102 I' p t) : rS_102 I' p t dp ca := ⟨ha, by rw [hx.2 0 (by omega)]; exact h.2.1, by rw [hx.2 1 (by omega)]; exact h.2.2⟩
theorem rO.ofy {p : sP} {od : sO} {I I' : am_I} (h : rO I p od) (hx : zy I I') : rO I' p od := h.kept (fun b z1 z2 => hx.1 b (by omega) (by omega) (by omega)) (by rw [hx.1 86 (by omega) (by omega) (by omega)])
noncomputable def s_F (p t : sP) (dp ca : Int32) (ln k : Nat) : Int32 := if k = 14 then Int32.ofNat ln else s_tell p t dp ca k
def cU (I : am_I) : am_I := (am_up (am_up (am_up (am_up (am_up (am_up (am_up (am_z I 123 0) 123 (0 : Int32).toNatClampNeg ((am_z I 123 0) 102 0)) 123 (1 : Int32).toNatClampNeg ((am_z I 123 0) 86 0)) 123 (2 : Int32).toNatClampNeg ((am_z I 123 0) 86 1)) 123 (3 : Int32).toNatClampNeg ((am_z I 123 0) 86 2)) 123 (4 : Int32).toNatClampNeg ((am_z I 123 0) 86 3)) 123 (5 : Int32).toNatClampNeg ((am_z I 123 0) 86 4)) 123 (6 : Int32).toNatClampNeg ((am_z I 123 0) 86 13))
theorem cU_row (I : am_I) {b : Nat} (h : b ≠ 123) : cU I b = I b := by
  unfold cU
  rw [up_row _ _ _ h, up_row _ _ _ h, up_row _ _ _ h, up_row _ _ _ h, up_row _ _ _ h, up_row _ _ _ h, up_row _ _ _ h, am_z_row _ _ h]
theorem cU_at (I : am_I) : cU I 123 0 = I 102 0 ∧ cU I 123 1 = I 86 0 ∧ cU I 123 2 = I 86 1 ∧ cU I 123 3 = I 86 2 ∧ cU I 123 4 = I 86 3 ∧ cU I 123 5 = I 86 4 ∧ cU I 123 6 = I 86 13 := ⟨rfl, rfl, rfl, rfl, rfl, rfl, rfl⟩
theorem r_cnt14 {p t : sP} {od : sO} {dp ca : Int32} {ln : Nat} {I : am_I} {G : am_G} (hp : p_ok p) (ht : t_ok p t) (h : rS_102 I p t dp ca) (hO : rO I p od) (hl : I 79 2 = Int32.ofNat ln) {k : Nat} (hk : k ≤ 14) : ∃ I' : am_I, R_X14_counted_79 I G (Int32.ofNat k) = some (s_F p t dp ca ln k, I', G) ∧ rA_102 I' p t ∧ zy I I' := by
  have h7 : (7 : Int32).toInt = 7 := rfl
  have h13 : (13 : Int32).toInt = 13 := rfl
  unfold R_X14_counted_79
  by_cases hm : 7 ≤ k ∧ k < 14
  · obtain ⟨I1, e1, a1, x1⟩ := r_cnt_102 (G := G) hp ht h hm
    rw [isIn_y (by rw [h7, h13, n_ti (by omega)]; omega), if_neg (by decide), e1, rb_go]
    refine ⟨I1, ?_, a1, x1.toy⟩
    unfold s_F
    rw [if_neg (by omega)]
  · rw [isIn_n (by rw [h7, h13, n_ti (by omega)]; omega), if_pos rfl, rg_pos ((i_in (0 : Int32) 7).mpr (by decide)), rg_pos ((i_in (1 : Int32) 7).mpr (by decide)), rg_pos ((i_in (2 : Int32) 7).mpr (by decide)), rg_pos ((i_in (3 : Int32) 7).mpr (by decide)), rg_pos ((i_in (4 : Int32) 7).mpr (by decide)), rg_pos ((i_in (5 : Int32) 7).mpr (by decide)), rg_pos ((i_in (6 : Int32) 7).mpr (by decide))]
    have hU : rA_102 (cU I) p t := h.1.kept (fun b hb => cU_row I (by omega))
    have hz : zy I (cU I) := ⟨fun b z1 _ _ => cU_row I (by omega), fun k _ => by rw [cU_row I (by omega)]⟩
    by_cases h14 : k = 14
    · subst h14
      rw [if_pos (by decide)]
      refine ⟨cU I, ?_, hU, hz⟩
      show some ((am_z I 123 0) 79 2, cU I, G) = _
      rw [am_z_row _ _ (by omega), hl]
      rfl
    · rw [if_neg (by rw [i_le, h7, n_ti (by omega)]; omega), rg_pos ((n_in (by omega)).mpr (by omega)), n_cl (by omega)]
      refine ⟨cU I, ?_, hU, hz⟩
      show some (cU I 123 k, cU I, G) = _
      obtain ⟨u0, u1, u2, u3, u4, u5, u6⟩ := cU_at I
      unfold s_F s_tell
      rw [if_neg h14]
      rcases (show k = 0 ∨ k = 1 ∨ k = 2 ∨ k = 3 ∨ k = 4 ∨ k = 5 ∨ k = 6 by omega) with rfl | rfl | rfl | rfl | rfl | rfl | rfl
      · rw [if_pos rfl, u0, h.2.1]
      · rw [if_neg (by decide), if_pos rfl, u1, h.1.1.1.1]
      · rw [if_neg (by decide), if_neg (by decide), if_pos rfl, u2, h.1.1.1.2.1]
      · rw [if_neg (by decide), if_neg (by decide), if_neg (by decide), if_pos rfl, u3, h.1.1.1.2.2.1]
      · rw [if_neg (by decide), if_neg (by decide), if_neg (by decide), if_neg (by decide), if_pos rfl, u4, h.1.1.1.2.2.2.1]
      · rw [if_neg (by decide), if_neg (by decide), if_neg (by decide), if_neg (by decide), if_neg (by decide), if_pos rfl, u5, h.1.1.1.2.2.2.2]
      · rw [if_neg (by decide), if_neg (by decide), if_neg (by decide), if_neg (by decide), if_neg (by decide), if_neg (by decide), if_pos rfl, u6, hO.1]
theorem k_count_ok : k_count kV := by
  intro I G x hV
  show kGoal hn_count (fun I1 G1 bb I2 G2 => R_X14_count_79 I1 G1 x = some (bb, I2, G2)) (R_X11_count_0 I G x) (fun k => k = 93) I G
  have hV0 := hV
  obtain ⟨p, t, od, dp, ca, ln, h⟩ := hV
  have hp := h.1.1
  have i14 : (14 : Int32).toInt = 14 := rfl
  have i7 : (7 : Int32).toInt = 7 := rfl
  have i10 : (10 : Int32).toInt = 10 := rfl
  by_cases hx : 0 ≤ x.toInt ∧ x.toInt ≤ 14
  · obtain ⟨k, hk, rfl⟩ := n_ofl (n := 14) hx
    have key : ∃ I1, R_X11_count_0 I G (Int32.ofNat k) = some (.inl (s_F p t dp ca ln k), I1, G) ∧ cA_53 I1 p t dp ca ∧ cZ_53 I I1 := by
      unfold R_X11_count_0
      rw [if_neg (n_nlt0 k (by omega)), if_pos (by rw [i_le, i14, n_ti (by omega)]; omega)]
      have hn14 : k ≠ 14 → ¬ Int32.ofNat k = (14 : Int32) := fun z q => z ((n_eq (b := 14) (by omega) (by omega)).mp q)
      have hF : k ≠ 14 → s_F p t dp ca ln k = s_tell p t dp ca k := fun z => by unfold s_F; rw [if_neg z]
      by_cases h7 : k < 7
      · rw [if_pos (by rw [i_lt, i7, n_ti (by omega)]; omega), if_neg (hn14 (by omega)), c_tell_53 hp h.2.2.1.1 h.2.1.1.1 (by omega) (fun z => by omega) (fun z => by omega), rb_go, hF (by omega)]
        exact ⟨I, rfl, h.2.2.1.1, cZ_53.rf I⟩
      · rw [if_neg (by rw [i_lt, i7, n_ti (by omega)]; omega)]
        by_cases h10 : 10 < k
        · rw [if_pos (by rw [i_lt, i10, n_ti (by omega)]; omega)]
          by_cases h14 : k = 14
          · subst h14
            rw [if_pos (by decide), h.2.2.2.2.1.1]
            exact ⟨I, rfl, h.2.2.1.1, cZ_53.rf I⟩
          · rw [if_neg (hn14 h14), c_tell_53 hp h.2.2.1.1 h.2.1.1.1 (by omega) (fun z => by omega) (fun z => by omega), rb_go, hF h14]
            exact ⟨I, rfl, h.2.2.1.1, cZ_53.rf I⟩
        · obtain ⟨I1, e1, c1, z1, f1, g1⟩ := c_grA_53 (G := G) hp h.1.2.1 h.2.2.1.1
          rw [if_neg (by rw [i_lt, i10, n_ti (by omega)]; omega), e1, rb_go, if_neg (hn14 (by omega)), c_tell_53 hp c1 (by rw [z1 16 (by omega) (by omega) (by omega)]; exact h.2.1.1.1) (by omega) (fun _ => f1) (fun _ => g1), rb_go, hF (by omega)]
          exact ⟨I1, rfl, c1, z1⟩
    obtain ⟨I1, e1, c1, z1⟩ := key
    have r1 := (z1.toc.rS h.2.2.1.2).up79 0
    have rO1 : rO (am_up I1 79 0 0) p od := h.2.1.2.kept (fun b h1 h2 => by rw [up_row _ _ _ (by omega)]; exact z1 b (by omega) (by omega) (by omega)) (by rw [up_row _ _ _ (by omega), z1 86 (by omega) (by omega) (by omega)])
    obtain ⟨G', hG⟩ : ∃ G' : am_G, G' = am_up G 122 0 (s_F p t dp ca ln k).toInt64 := ⟨_, rfl⟩
    obtain ⟨I2, e2, a2, y2⟩ := r_cnt14 (G := G') (ln := ln) hp h.1.2.1 r1 rO1 (by rw [up_in, if_neg (by omega), z1 79 (by omega) (by omega) (by omega)]; exact h.2.2.2.2.1.2.1) hk
    refine kG_ret (I1 := I1) (I2 := I2) hG e1 ?_ ?_ ⟨p, t, od, dp, ca, ln, h.step z1.toc c1 ((zm.up I1 0).tr y2.tom) (r1.ofy y2 a2) (y2.toB ((z1.toc.rB h.2.2.2.1).up 0)) h.1.2.1 (g3_up hG)⟩
    · show R_X14_count_79 I1 G' (Int32.ofNat k) = _
      unfold R_X14_count_79
      rw [isIn_y (by rw [i_0, i14]; exact hx), if_neg (by decide), e2, rb_go]
    · rw [y2.1 79 (by omega) (by omega) (by omega), am_up_self]
  · refine kG_thr hV0 (k := 93) (n := 1) ?_ rfl rfl (by decide) ?_
    · unfold R_X11_count_0
      by_cases h1 : x < 0
      · rw [if_pos h1]
      · rw [if_neg h1, if_neg (by rw [i_lt, i_0] at h1; rw [i_le, i14]; omega)]
    · show R_X14_count_79 I G x = _
      unfold R_X14_count_79
      rw [isIn_n (by rw [i_0, i14]; exact hx), if_pos rfl]
      rfl
/-- a run: m steps from k on -/
def s_run {α : Type} (g : Nat → α → α) : Nat → Nat → α → α
  | 0, _, d => d
  | m + 1, k, d => s_run g m (k + 1) (g k d)
theorem c_meL {p t : sP} {dp ca : Int32} {I : am_I} {G : am_G} (hp : p_ok p) (h : cA_53 I p t dp ca) (hf : ¬ I 53 14 = 0) : ∀ (m k n : Nat) (a : Int32), k + m = s_S p → m < n → L_X11_mean_0 n 0 I G (Int32.ofNat (s_S p)) a (Int32.ofNat k) = some (FP.ddiv (FP.i2d (s_run (fun k a => a + s_ht p t k) m k a)) (FP.i2d (Int32.ofNat (s_S p))), I, G) := by
  have hS := s_S_le hp
  have hS1 := s_S_pos hp
  intro m
  induction m with
  | zero =>
    intro k n a hk hn
    obtain ⟨n, rfl⟩ : ∃ n', n = n' + 1 := ⟨n - 1, by omega⟩
    rw [L_X11_mean_0_0, if_pos ((n_le (by omega) (by omega)).mpr (by omega)), if_neg (n_nle0 (by omega) (by omega)), rg_pos (am_meanN a (by omega) (by omega))]
    rfl
  | succ m ih =>
    intro k n a hk hn
    obtain ⟨n, rfl⟩ : ∃ n', n = n' + 1 := ⟨n - 1, by omega⟩
    rw [L_X11_mean_0_0, if_neg (fun q => absurd ((n_le (by omega) (by omega)).mp q) (by omega)), n_gAt (by omega) (by omega), ((h.2.1.2.1 hf).1 k (by omega)).1, n_inc]
    exact ih (k + 1) n _ (by omega) (by omega)
theorem r_meL {p t : sP} {G : am_G} (hp : p_ok p) (ht : t_ok p t) : ∀ (m k n : Nat) (I : am_I) (a : Int32), rA_102 I p t → k + m = s_S p → m < n → ∃ I' : am_I, L_X14_mean_79 n 0 I G a (Int32.ofNat k) = some (FP.ddiv (FP.i2d (s_run (fun k a => a + s_ht p t k) m k a)) (FP.i2d (Int32.ofNat (s_S p))), I', G) ∧ rA_102 I' p t ∧ rX_102 I I' := by
  have hS := s_S_le hp
  have hS1 := s_S_pos hp
  intro m
  induction m with
  | zero =>
    intro k n I a h hk hn
    obtain ⟨n, rfl⟩ : ∃ n', n = n' + 1 := ⟨n - 1, by omega⟩
    rw [L_X14_mean_79_0, r_spots h.1, if_pos ((n_le (by omega) (by omega)).mpr (by omega)), rg_pos (am_meanN a (by omega) (by omega))]
    exact ⟨I, rfl, h, rX_102.rf I⟩
  | succ m ih =>
    intro k n I a h hk hn
    obtain ⟨n, rfl⟩ : ∃ n', n = n' + 1 := ⟨n - 1, by omega⟩
    obtain ⟨I1, e1, x1, a1, -⟩ := r_ht_102 (G := G) hp ht h (k := k) (by omega)
    obtain ⟨I2, e2, a2, x2⟩ := ih (k + 1) n I1 (a + s_ht p t k) a1 (by omega) (by omega)
    rw [L_X14_mean_79_0, r_spots h.1, if_neg (fun q => absurd ((n_le (by omega) (by omega)).mp q) (by omega)), e1, rb_go, n_inc, e2]
    exact ⟨I2, rfl, a2, x1.toX.tr x2⟩
theorem k_mean_ok : k_mean kV := by
  rintro I G ⟨p, t, od, dp, ca, ln, h⟩
  have hp := h.1.1
  have hS := s_S_le hp
  obtain ⟨I1, e1, c1, z1, f1⟩ := c_rfA_53 (G := G) hp h.1.2.1 h.2.2.1.1
  have r1 := (z1.toc.rS h.2.2.1.2).up79 0
  obtain ⟨I2, e2, a2, x2⟩ := r_meL (G := G) hp h.1.2.1 (s_S p) 0 FU (am_up I1 79 0 0) 0 r1.1 (by omega) (by unfold FU; omega)
  refine ⟨_, I1, G, I2, G, ?_, e2, p, t, od, dp, ca, ln, h.step z1.toc c1 ((zm.up I1 0).tr x2.toZ.tom) (r1.ofX x2 a2) (x2.toB ((z1.toc.rB h.2.2.2.1).up 0)) h.1.2.1 rfl⟩
  unfold R_X11_mean_0
  rw [e1, rb_go, c1.1.1.1.1, c1.1.1.1.2.1, n_mul]
  exact c_meL hp c1 f1 (s_S p) 0 FU 0 (by omega) (by unfold FU; omega)
/-! the digest -/
def s_to (p t : sP) (o w : Nat) : Int32 := if w = 0 then Int32.ofNat (p 1 o) else if w = 1 then Int32.ofNat (p 2 o) else if w = 2 then Int32.ofNat (p 3 o) else Int32.ofNat (t 1 o)
def s_tc (p t : sP) (c w : Nat) : Int32 := if w = 0 then Int32.ofNat (p 4 c) else if w = 1 then Int32.ofNat (p 5 c) else Int32.ofNat (t 2 c)
noncomputable def gT (p t : sP) (dp ca : Int32) (ln k : Nat) (d : Int64) : Int64 := d * 31 + (s_F p t dp ca ln k).toInt64
def gO (p t : sP) (o : Nat) (d : Int64) : Int64 := s_run (fun w d => d * 31 + (s_to p t o w).toInt64) 4 0 d
def gC (p t : sP) (c : Nat) (d : Int64) : Int64 := s_run (fun w d => d * 31 + (s_tc p t c w).toInt64) 3 0 d
def gK (p t : sP) (j : Nat) (d : Int64) : Int64 := d * 31 + (Int32.ofNat (s_shr p t j (s_S p))).toInt64
def gH (p t : sP) (k : Nat) (d : Int64) : Int64 := d * 31 + (s_ht p t k).toInt64
noncomputable def s_dg (p t : sP) (dp ca : Int32) (ln : Nat) : Int64 := s_run (gH p t) (s_S p) 0 (s_run (gK p t) (p 0 4 + 1) 0 (s_run (gC p t) (p 0 3) 0 (s_run (gO p t) (p 0 2) 0 (s_run (gT p t dp ca ln) 15 0 937))))
section DGC
variable {p t : sP} {dp ca : Int32} {ln : Nat} {I : am_I} {G : am_G}
theorem c_to (h : cA_53 I p t dp ca) (hp : p_ok p) {o w : Nat} (ho : o < p 0 2) (hw : w < 4) : f_X7_tellOctave_53 I G (Int32.ofNat o) (Int32.ofNat w) = s_to p t o w := by
  have h0 := hp.1
  unfold f_X7_tellOctave_53 s_to
  rw [n_gAt (by omega) (by omega), n_gAt (by omega) (by omega), n_gAt (by omega) (by omega), n_gAt (by omega) (by omega), (h.1.1.2.1 o ho).1, (h.1.1.2.1 o ho).2.1, (h.1.1.2.1 o ho).2.2.1, h.2.1.1.2.1 o ho]
  rcases (show w = 0 ∨ w = 1 ∨ w = 2 ∨ w = 3 by omega) with rfl | rfl | rfl | rfl <;> rfl
theorem c_tc (h : cA_53 I p t dp ca) (hp : p_ok p) {c w : Nat} (hc : c < p 0 3) (hw : w < 3) : f_X7_tellComb_53 I G (Int32.ofNat c) (Int32.ofNat w) = s_tc p t c w := by
  have h0 := hp.1
  unfold f_X7_tellComb_53 s_tc
  rw [n_gAt (by omega) (by omega), n_gAt (by omega) (by omega), n_gAt (by omega) (by omega), (h.1.1.2.2.1 c hc).1, (h.1.1.2.2.1 c hc).2.1, (h.2.1.1.2.2 c hc).1]
  rcases (show w = 0 ∨ w = 1 ∨ w = 2 by omega) with rfl | rfl | rfl <;> rfl
theorem c_dg6 (h : cA_53 I p t dp ca) (hp : p_ok p) (hf : ¬ I 53 14 = 0) : ∀ (m k n : Nat) (d : Int64), k + m = s_S p → L_X11_digest_0 (n + m + 1) 6 I G d (Int32.ofNat k) 0 = some (s_run (gH p t) m k d, I, G) := by
  have hS := s_S_le hp
  intro m
  induction m with
  | zero =>
    intro k n d hk
    rw [L_X11_digest_0_6, h.1.1.1.1, h.1.1.1.2.1, n_mul, if_pos ((n_le (by show s_S p < _; omega) (by omega)).mpr (by show s_S p ≤ k; omega))]
    rfl
  | succ m ih =>
    intro k n d hk
    rw [show n + (m + 1) + 1 = (n + m + 1) + 1 by omega, L_X11_digest_0_6, h.1.1.1.1, h.1.1.1.2.1, n_mul, if_neg (fun q => absurd ((n_le (by show s_S p < _; omega) (by omega)).mp q) (by show ¬ s_S p ≤ k; omega)), n_gAt (by omega) (by omega), ((h.2.1.2.1 hf).1 k (by omega)).1, n_inc]
    exact ih (k + 1) n _ (by omega)
theorem c_dg5 (h : cA_53 I p t dp ca) (hp : p_ok p) (hf : ¬ I 53 14 = 0) : ∀ (m k n : Nat) (d : Int64), k + m = p 0 4 + 1 → L_X11_digest_0 (n + m + 1) 5 I G d (Int32.ofNat k) 0 = L_X11_digest_0 n 6 I G (s_run (gK p t) m k d) (Int32.ofNat 0) 0 := by
  have h0 := hp.1
  intro m
  induction m with
  | zero =>
    intro k n d hk
    rw [L_X11_digest_0_5, h.1.1.1.2.2.2.2, if_pos ((n_lt (by omega) (by omega)).mpr (by omega))]
    rfl
  | succ m ih =>
    intro k n d hk
    rw [show n + (m + 1) + 1 = (n + m + 1) + 1 by omega, L_X11_digest_0_5, h.1.1.1.2.2.2.2, if_neg (fun q => absurd ((n_lt (by omega) (by omega)).mp q) (by omega)), n_gAt (by omega) (by omega), (h.2.1.2.1 hf).2 k (by omega), n_inc]
    exact ih (k + 1) n _ (by omega)
theorem c_dg4 (h : cA_53 I p t dp ca) (hp : p_ok p) {c : Nat} (hc : c < p 0 3) : ∀ (m w n : Nat) (d : Int64), w + m = 3 → L_X11_digest_0 (n + m + 1) 4 I G d (Int32.ofNat c) (Int32.ofNat w) = L_X11_digest_0 n 3 I G (s_run (fun w d => d * 31 + (s_tc p t c w).toInt64) m w d) (Int32.ofNat (c + 1)) 0 := by
  intro m
  induction m with
  | zero =>
    intro w n d hk
    rw [L_X11_digest_0_4, if_pos (show (2 : Int32) < Int32.ofNat w from (n_lt (a := 2) (by omega) (by omega)).mpr (by omega)), n_inc]
    rfl
  | succ m ih =>
    intro w n d hk
    rw [show n + (m + 1) + 1 = (n + m + 1) + 1 by omega, L_X11_digest_0_4, if_neg (show ¬ (2 : Int32) < Int32.ofNat w from fun q => absurd ((n_lt (a := 2) (by omega) (by omega)).mp q) (by omega)), c_tc h hp hc (by omega), n_inc]
    exact ih (w + 1) n _ (by omega)
theorem c_dg3 (h : cA_53 I p t dp ca) (hp : p_ok p) : ∀ (m c n : Nat) (d : Int64), c + m = p 0 3 → L_X11_digest_0 (n + 5 * m + 1) 3 I G d (Int32.ofNat c) 0 = L_X11_digest_0 n 5 I G (s_run (gC p t) m c d) (Int32.ofNat 0) 0 := by
  have h0 := hp.1
  intro m
  induction m with
  | zero =>
    intro c n d hk
    rw [L_X11_digest_0_3, h.1.1.1.2.2.2.1, if_pos ((n_le (by omega) (by omega)).mpr (by omega))]
    rfl
  | succ m ih =>
    intro c n d hk
    rw [show n + 5 * (m + 1) + 1 = ((n + 5 * m + 1) + 3 + 1) + 1 by omega, L_X11_digest_0_3, h.1.1.1.2.2.2.1, if_neg (fun q => absurd ((n_le (by omega) (by omega)).mp q) (by omega)), show (0 : Int32) = Int32.ofNat 0 from rfl, c_dg4 h hp (by omega) 3 0 _ d (by omega)]
    exact ih (c + 1) n _ (by omega)
theorem c_dg2 (h : cA_53 I p t dp ca) (hp : p_ok p) {o : Nat} (ho : o < p 0 2) : ∀ (m w n : Nat) (d : Int64), w + m = 4 → L_X11_digest_0 (n + m + 1) 2 I G d (Int32.ofNat o) (Int32.ofNat w) = L_X11_digest_0 n 1 I G (s_run (fun w d => d * 31 + (s_to p t o w).toInt64) m w d) (Int32.ofNat (o + 1)) 0 := by
  intro m
  induction m with
  | zero =>
    intro w n d hk
    rw [L_X11_digest_0_2, if_pos (show (3 : Int32) < Int32.ofNat w from (n_lt (a := 3) (by omega) (by omega)).mpr (by omega)), n_inc]
    rfl
  | succ m ih =>
    intro w n d hk
    rw [show n + (m + 1) + 1 = (n + m + 1) + 1 by omega, L_X11_digest_0_2, if_neg (show ¬ (3 : Int32) < Int32.ofNat w from fun q => absurd ((n_lt (a := 3) (by omega) (by omega)).mp q) (by omega)), c_to h hp ho (by omega), n_inc]
    exact ih (w + 1) n _ (by omega)
theorem c_dg1 (h : cA_53 I p t dp ca) (hp : p_ok p) : ∀ (m o n : Nat) (d : Int64), o + m = p 0 2 → L_X11_digest_0 (n + 6 * m + 1) 1 I G d (Int32.ofNat o) 0 = L_X11_digest_0 n 3 I G (s_run (gO p t) m o d) (Int32.ofNat 0) 0 := by
  have h0 := hp.1
  intro m
  induction m with
  | zero =>
    intro o n d hk
    rw [L_X11_digest_0_1, h.1.1.1.2.2.1, if_pos ((n_le (by omega) (by omega)).mpr (by omega))]
    rfl
  | succ m ih =>
    intro o n d hk
    rw [show n + 6 * (m + 1) + 1 = ((n + 6 * m + 1) + 4 + 1) + 1 by omega, L_X11_digest_0_1, h.1.1.1.2.2.1, if_neg (fun q => absurd ((n_le (by omega) (by omega)).mp q) (by omega)), show (0 : Int32) = Int32.ofNat 0 from rfl, c_dg2 h hp (by omega) 4 0 _ d (by omega)]
    exact ih (o + 1) n _ (by omega)
theorem c_dg0 (h : cA_53 I p t dp ca) (hp : p_ok p) (hO : I 16 8 = Int32.ofNat (p 0 5)) (hl : I 1 5 = Int32.ofNat ln) (hf : ¬ I 53 14 = 0) (hg : ¬ I 53 15 = 0) : ∀ (m k n : Nat) (d : Int64), k + m = 14 → L_X11_digest_0 (n + m + 1) 0 I G d (Int32.ofNat k) 0 = L_X11_digest_0 n 1 I G (s_run (gT p t dp ca ln) (m + 1) k d) (Int32.ofNat 0) 0 := by
  intro m
  induction m with
  | zero =>
    intro k n d hk
    obtain rfl : k = 14 := by omega
    rw [L_X11_digest_0_0, if_pos (by decide), hl]
    rfl
  | succ m ih =>
    intro k n d hk
    have hF : s_F p t dp ca ln k = s_tell p t dp ca k := by unfold s_F; rw [if_neg (by omega)]
    rw [show n + (m + 1) + 1 = (n + m + 1) + 1 by omega, L_X11_digest_0_0, if_neg (show ¬ (14 : Int32) ≤ Int32.ofNat k from fun q => absurd ((n_le (a := 14) (by omega) (by omega)).mp q) (by omega)), c_tell_53 hp h hO (by omega) (fun _ => hf) (fun _ => hg), rb_go, n_inc, ← hF]
    exact ih (k + 1) n _ (by omega)
end DGC
section DGR
variable {p t : sP} {od : sO} {dp ca : Int32} {ln : Nat} {G : am_G}
def rD (p t : sP) (od : sO) (dp ca : Int32) (ln : Nat) (I : am_I) : Prop := rS_102 I p t dp ca ∧ rO I p od ∧ I 79 2 = Int32.ofNat ln
theorem rD.ofy {I I' : am_I} (h : rD p t od dp ca ln I) (hy : zy I I') (ha : rA_102 I' p t) : rD p t od dp ca ln I' := ⟨h.1.ofy hy ha, h.2.1.ofy hy, by rw [hy.1 79 (by omega) (by omega) (by omega)]; exact h.2.2⟩
theorem r_dg6 (hp : p_ok p) (ht : t_ok p t) : ∀ (m k n : Nat) (I : am_I) (d : Int64), rD p t od dp ca ln I → k + m = s_S p → ∃ I' : am_I, L_X14_digest_79 (n + m + 1) 6 I G d (Int32.ofNat k) 0 = some (s_run (gH p t) m k d, I', G) ∧ rD p t od dp ca ln I' ∧ zy I I' := by
  have hS := s_S_le hp
  intro m
  induction m with
  | zero =>
    intro k n I d h hk
    rw [L_X14_digest_79_6, r_spots h.1.1.1, if_pos ((n_le (by omega) (by omega)).mpr (by omega))]
    exact ⟨I, rfl, h, zy.rf I⟩
  | succ m ih =>
    intro k n I d h hk
    obtain ⟨I1, e1, x1, a1, -⟩ := r_ht_102 (G := G) hp ht h.1.1 (k := k) (by omega)
    obtain ⟨I2, e2, d2, y2⟩ := ih (k + 1) n I1 (gH p t k d) (h.ofy x1.toX.toy a1) (by omega)
    rw [show n + (m + 1) + 1 = (n + m + 1) + 1 by omega, L_X14_digest_79_6, r_spots h.1.1.1, if_neg (fun q => absurd ((n_le (by omega) (by omega)).mp q) (by omega)), e1, rb_go, n_inc]
    exact ⟨I2, e2, d2, x1.toX.toy.tr y2⟩
theorem r_dg5 (hp : p_ok p) (ht : t_ok p t) : ∀ (m k n : Nat) (I : am_I) (d : Int64), rD p t od dp ca ln I → k + m = p 0 4 + 1 → ∃ I' : am_I, L_X14_digest_79 (n + m + 1) 5 I G d (Int32.ofNat k) 0 = L_X14_digest_79 n 6 I' G (s_run (gK p t) m k d) (Int32.ofNat 0) 0 ∧ rD p t od dp ca ln I' ∧ zy I I' := by
  have h0 := hp.1
  intro m
  induction m with
  | zero =>
    intro k n I d h hk
    rw [L_X14_digest_79_5, h.1.1.1.1.2.2.2.2, if_pos ((n_lt (by omega) (by omega)).mpr (by omega))]
    exact ⟨I, rfl, h, zy.rf I⟩
  | succ m ih =>
    intro k n I d h hk
    obtain ⟨I1, e1, x1, a1⟩ := r_sh_102 (G := G) hp ht h.1.1 (j := k) (by omega)
    obtain ⟨I2, e2, d2, y2⟩ := ih (k + 1) n I1 (gK p t k d) (h.ofy x1.toX.toy a1) (by omega)
    rw [show n + (m + 1) + 1 = (n + m + 1) + 1 by omega, L_X14_digest_79_5, h.1.1.1.1.2.2.2.2, if_neg (fun q => absurd ((n_lt (by omega) (by omega)).mp q) (by omega)), e1, rb_go, n_inc]
    exact ⟨I2, e2, d2, x1.toX.toy.tr y2⟩
theorem r_tc {I : am_I} (h : rA_102 I p t) (hp : p_ok p) {c w : Nat} (hc : c < p 0 3) (hw : w < 3) : f_X14_combTold_79 I G (Int32.ofNat c) (Int32.ofNat w) = s_tc p t c w ∧ q_X14_combTold_79 I G (Int32.ofNat c) (Int32.ofNat w) := by
  have h0 := hp.1
  have hin : vp_in (Int32.ofNat c) 4 := (n_in (by omega)).mpr (by omega)
  constructor
  · unfold f_X14_combTold_79 s_tc
    rw [n_cl (by omega), (h.1.2.2.1 c hc).1, (h.1.2.2.1 c hc).2.1, h.2.1.2.2 c hc]
    rcases (show w = 0 ∨ w = 1 ∨ w = 2 by omega) with rfl | rfl | rfl <;> rfl
  · unfold q_X14_combTold_79
    simp only [hin, true_and, implies_true, and_self]
theorem r_to {I : am_I} (h : rA_102 I p t) (hp : p_ok p) {o w : Nat} (ho : o < p 0 2) (hw : w < 4) : f_X14_octaveTold_79 I G (Int32.ofNat o) (Int32.ofNat w) = s_to p t o w ∧ q_X14_octaveTold_79 I G (Int32.ofNat o) (Int32.ofNat w) := by
  have h0 := hp.1
  have hin : vp_in (Int32.ofNat o) 4 := (n_in (by omega)).mpr (by omega)
  constructor
  · unfold f_X14_octaveTold_79 s_to
    rw [n_cl (by omega), (h.1.2.1 o ho).1, (h.1.2.1 o ho).2.1, (h.1.2.1 o ho).2.2.1, h.2.1.2.1 o ho]
    rcases (show w = 0 ∨ w = 1 ∨ w = 2 ∨ w = 3 by omega) with rfl | rfl | rfl | rfl <;> rfl
  · unfold q_X14_octaveTold_79
    simp only [hin, true_and, implies_true, and_self]
theorem r_dg4 {I : am_I} (hp : p_ok p) (h : rA_102 I p t) {c : Nat} (hc : c < p 0 3) : ∀ (m w n : Nat) (d : Int64), w + m = 3 → L_X14_digest_79 (n + m + 1) 4 I G d (Int32.ofNat c) (Int32.ofNat w) = L_X14_digest_79 n 3 I G (s_run (fun w d => d * 31 + (s_tc p t c w).toInt64) m w d) (Int32.ofNat (c + 1)) 0 := by
  intro m
  induction m with
  | zero =>
    intro w n d hk
    rw [L_X14_digest_79_4, if_pos (show (2 : Int32) < Int32.ofNat w from (n_lt (a := 2) (by omega) (by omega)).mpr (by omega)), n_inc]
    rfl
  | succ m ih =>
    intro w n d hk
    obtain ⟨v1, v2⟩ := r_tc (G := G) h hp hc (w := w) (by omega)
    rw [show n + (m + 1) + 1 = (n + m + 1) + 1 by omega, L_X14_digest_79_4, if_neg (show ¬ (2 : Int32) < Int32.ofNat w from fun q => absurd ((n_lt (a := 2) (by omega) (by omega)).mp q) (by omega)), rg_pos v2, v1, n_inc]
    exact ih (w + 1) n _ (by omega)
theorem r_dg3 {I : am_I} (hp : p_ok p) (h : rA_102 I p t) : ∀ (m c n : Nat) (d : Int64), c + m = p 0 3 → L_X14_digest_79 (n + 5 * m + 1) 3 I G d (Int32.ofNat c) 0 = L_X14_digest_79 n 5 I G (s_run (gC p t) m c d) (Int32.ofNat 0) 0 := by
  have h0 := hp.1
  intro m
  induction m with
  | zero =>
    intro c n d hk
    rw [L_X14_digest_79_3, h.1.1.2.2.2.1, if_pos ((n_le (by omega) (by omega)).mpr (by omega))]
    rfl
  | succ m ih =>
    intro c n d hk
    rw [show n + 5 * (m + 1) + 1 = ((n + 5 * m + 1) + 3 + 1) + 1 by omega, L_X14_digest_79_3, h.1.1.2.2.2.1, if_neg (fun q => absurd ((n_le (by omega) (by omega)).mp q) (by omega)), show (0 : Int32) = Int32.ofNat 0 from rfl, r_dg4 hp h (by omega) 3 0 _ d (by omega)]
    exact ih (c + 1) n _ (by omega)
theorem r_dg2 {I : am_I} (hp : p_ok p) (h : rA_102 I p t) {o : Nat} (ho : o < p 0 2) : ∀ (m w n : Nat) (d : Int64), w + m = 4 → L_X14_digest_79 (n + m + 1) 2 I G d (Int32.ofNat o) (Int32.ofNat w) = L_X14_digest_79 n 1 I G (s_run (fun w d => d * 31 + (s_to p t o w).toInt64) m w d) (Int32.ofNat (o + 1)) 0 := by
  intro m
  induction m with
  | zero =>
    intro w n d hk
    rw [L_X14_digest_79_2, if_pos (show (3 : Int32) < Int32.ofNat w from (n_lt (a := 3) (by omega) (by omega)).mpr (by omega)), n_inc]
    rfl
  | succ m ih =>
    intro w n d hk
    obtain ⟨v1, v2⟩ := r_to (G := G) h hp ho (w := w) (by omega)
    rw [show n + (m + 1) + 1 = (n + m + 1) + 1 by omega, L_X14_digest_79_2, if_neg (show ¬ (3 : Int32) < Int32.ofNat w from fun q => absurd ((n_lt (a := 3) (by omega) (by omega)).mp q) (by omega)), rg_pos v2, v1, n_inc]
    exact ih (w + 1) n _ (by omega)
theorem r_dg1 {I : am_I} (hp : p_ok p) (h : rA_102 I p t) : ∀ (m o n : Nat) (d : Int64), o + m = p 0 2 → L_X14_digest_79 (n + 6 * m + 1) 1 I G d (Int32.ofNat o) 0 = L_X14_digest_79 n 3 I G (s_run (gO p t) m o d) (Int32.ofNat 0) 0 := by
  have h0 := hp.1
  intro m
  induction m with
  | zero =>
    intro o n d hk
    rw [L_X14_digest_79_1, h.1.1.2.2.1, if_pos ((n_le (by omega) (by omega)).mpr (by omega))]
    rfl
  | succ m ih =>
    intro o n d hk
    rw [show n + 6 * (m + 1) + 1 = ((n + 6 * m + 1) + 4 + 1) + 1 by omega, L_X14_digest_79_1, h.1.1.2.2.1, if_neg (fun q => absurd ((n_le (by omega) (by omega)).mp q) (by omega)), show (0 : Int32) = Int32.ofNat 0 from rfl, r_dg2 hp h (by omega) 4 0 _ d (by omega)]
    exact ih (o + 1) n _ (by omega)
theorem r_dg0 (hp : p_ok p) (ht : t_ok p t) : ∀ (m k n : Nat) (I : am_I) (d : Int64), rD p t od dp ca ln I → k + m = 15 → ∃ I' : am_I, L_X14_digest_79 (n + m + 1) 0 I G d (Int32.ofNat k) 0 = L_X14_digest_79 n 1 I' G (s_run (gT p t dp ca ln) m k d) (Int32.ofNat 0) 0 ∧ rD p t od dp ca ln I' ∧ zy I I' := by
  intro m
  induction m with
  | zero =>
    intro k n I d h hk
    rw [L_X14_digest_79_0, if_pos (show (14 : Int32) < Int32.ofNat k from (n_lt (a := 14) (by omega) (by omega)).mpr (by omega))]
    exact ⟨I, rfl, h, zy.rf I⟩
  | succ m ih =>
    intro k n I d h hk
    obtain ⟨I1, e1, a1, y1⟩ := r_cnt14 (G := G) (ln := ln) hp ht h.1 h.2.1 h.2.2 (k := k) (by omega)
    obtain ⟨I2, e2, d2, y2⟩ := ih (k + 1) n I1 (gT p t dp ca ln k d) (h.ofy y1 a1) (by omega)
    rw [show n + (m + 1) + 1 = (n + m + 1) + 1 by omega, L_X14_digest_79_0, if_neg (show ¬ (14 : Int32) < Int32.ofNat k from fun q => absurd ((n_lt (a := 14) (by omega) (by omega)).mp q) (by omega)), e1, rb_go, n_inc]
    exact ⟨I2, e2, d2, y1.tr y2⟩
end DGR
theorem k_digest_ok : k_digest kV := by
  rintro I G ⟨p, t, od, dp, ca, ln, h⟩
  have hp := h.1.1
  have h0 := hp.1
  have hS := s_S_le hp
  obtain ⟨I1, e1, c1, z1, f1, g1⟩ := c_grA_53 (G := G) hp h.1.2.1 h.2.2.1.1
  have r1 := (z1.toc.rS h.2.2.1.2).up79 0
  have rO1 : rO (am_up I1 79 0 0) p od := h.2.1.2.kept (fun b h1 h2 => by rw [up_row _ _ _ (by omega)]; exact z1 b (by omega) (by omega) (by omega)) (by rw [up_row _ _ _ (by omega), z1 86 (by omega) (by omega) (by omega)])
  have d1 : rD p t od dp ca ln (am_up I1 79 0 0) := ⟨r1, rO1, by rw [up_in, if_neg (by omega), z1 79 (by omega) (by omega) (by omega)]; exact h.2.2.2.2.1.2.1⟩
  obtain ⟨n0, hn0⟩ : ∃ n0, FUD = ((((n0 + s_S p + 1) + (p 0 4 + 1) + 1) + 5 * p 0 3 + 1) + 6 * p 0 2 + 1) + 15 + 1 := ⟨FUD - (((((0 + s_S p + 1) + (p 0 4 + 1) + 1) + 5 * p 0 3 + 1) + 6 * p 0 2 + 1) + 15 + 1), by unfold FUD; omega⟩
  obtain ⟨n1, hn1⟩ : ∃ n1, FU = ((((n1 + s_S p + 1) + (p 0 4 + 1) + 1) + 5 * p 0 3 + 1) + 6 * p 0 2 + 1) + 14 + 1 := ⟨FU - (((((0 + s_S p + 1) + (p 0 4 + 1) + 1) + 5 * p 0 3 + 1) + 6 * p 0 2 + 1) + 14 + 1), by unfold FU; omega⟩
  obtain ⟨I2, e2, d2, y2⟩ := r_dg0 (G := G) hp h.1.2.1 15 0 ((((n0 + s_S p + 1) + (p 0 4 + 1) + 1) + 5 * p 0 3 + 1) + 6 * p 0 2 + 1) (am_up I1 79 0 0) 937 d1 (by omega)
  obtain ⟨I3, e3, d3, y3⟩ := r_dg5 (G := G) hp h.1.2.1 (p 0 4 + 1) 0 (n0 + s_S p + 1) I2 (s_run (gC p t) (p 0 3) 0 (s_run (gO p t) (p 0 2) 0 (s_run (gT p t dp ca ln) 15 0 937))) d2 (by omega)
  obtain ⟨I4, e4, d4, y4⟩ := r_dg6 (G := G) hp h.1.2.1 (s_S p) 0 n0 I3 (s_run (gK p t) (p 0 4 + 1) 0 (s_run (gC p t) (p 0 3) 0 (s_run (gO p t) (p 0 2) 0 (s_run (gT p t dp ca ln) 15 0 937)))) d3 (by omega)
  have y := (y2.tr y3).tr y4
  refine ⟨s_dg p t dp ca ln, I1, G, I4, G, ?_, ?_, p, t, od, dp, ca, ln, h.step z1.toc c1 ((zm.up I1 0).tr y.tom) d4.1 (y.toB ((z1.toc.rB h.2.2.2.1).up 0)) h.1.2.1 rfl⟩
  · unfold R_X11_digest_0
    rw [e1, rb_go, hn1, show (0 : Int32) = Int32.ofNat 0 from rfl]
    rw [show L_X11_digest_0 (((((n1 + s_S p + 1) + (p 0 4 + 1) + 1) + 5 * p 0 3 + 1) + 6 * p 0 2 + 1) + 14 + 1) 0 I1 G 937 (Int32.ofNat 0) (Int32.ofNat 0) = _ from c_dg0 c1 hp (by rw [z1 16 (by omega) (by omega) (by omega)]; exact h.2.1.1.1) (by rw [z1 1 (by omega) (by omega) (by omega)]; exact h.2.2.2.2.1.1) f1 g1 14 0 _ 937 (by omega)]
    rw [c_dg1 c1 hp (p 0 2) 0 _ _ (by omega), c_dg3 c1 hp (p 0 3) 0 _ _ (by omega), c_dg5 c1 hp f1 (p 0 4 + 1) 0 _ _ (by omega), c_dg6 c1 hp f1 (s_S p) 0 _ _ (by omega)]
    rfl
  · unfold R_X14_digest_79
    rw [hn0, show (0 : Int32) = Int32.ofNat 0 from rfl]
    rw [show L_X14_digest_79 (((((n0 + s_S p + 1) + (p 0 4 + 1) + 1) + 5 * p 0 3 + 1) + 6 * p 0 2 + 1) + 15 + 1) 0 (am_up I1 79 0 (Int32.ofNat 0)) G 937 (Int32.ofNat 0) (Int32.ofNat 0) = _ from e2]
    rw [r_dg1 hp d2.1.1 (p 0 2) 0 _ _ (by omega), r_dg3 hp d2.1.1 (p 0 3) 0 _ _ (by omega), e3, e4]
    rfl
end KC2
