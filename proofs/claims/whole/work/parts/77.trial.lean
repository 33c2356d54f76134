/-! what would be: the trial sheet, the state ahead -/
section KC3
theorem cA_53.to66 {p t : sP} {dp ca : Int32} {I : am_I} {G : am_G} (hp : p_ok p) (ht : t_ok p t) (h : cA_53 I p t dp ca) : ∃ I' : am_I, R_X7_take_66_53 I G = some ((), I', G) ∧ cA_66 I' p t dp ca ∧ cZ_66 I I' := by
  have h0 := hp.1
  obtain ⟨⟨h1, h2⟩, ⟨h3, h4, h5⟩, h6, h7⟩ := h
  obtain ⟨J, hJ⟩ : ∃ J : am_I, J = (am_up (am_up (am_up (am_up I 66 10 (I 53 10)) 66 11 (I 53 11)) 66 12 (I 53 12)) 66 13 (I 53 13)) := ⟨_, rfl⟩
  have eJ : ∀ b, b ≠ 66 → J b = I b := fun b hb => by rw [hJ, up_row _ _ _ hb, up_row _ _ _ hb, up_row _ _ _ hb, up_row _ _ _ hb]
  have j10 : J 66 10 = I 53 10 := by rw [hJ, up_in, if_neg (by omega), up_in, if_neg (by omega), up_in, if_neg (by omega), up_in, if_pos rfl]
  have j11 : J 66 11 = I 53 11 := by rw [hJ, up_in, if_neg (by omega), up_in, if_neg (by omega), up_in, if_pos rfl]
  have j12 : J 66 12 = I 53 12 := by rw [hJ, up_in, if_neg (by omega), up_in, if_pos rfl]
  have j13 : J 66 13 = I 53 13 := by rw [hJ, up_in, if_pos rfl]
  obtain ⟨K, k1, k2, k3⟩ := c_tp_66 (I := J) (G := G) (u := t 2) (h1.kept (fun b z1 z2 => eJ b (by omega))) hp (fun c => (ht.2.2 c).2) (fun c hc => by rw [eJ 54 (by omega)]; exact (h3.2.2 c hc).1)
  obtain ⟨s1, s2, s3, s4⟩ := c_spl_66 (G := G) (am_cp K 56 69 4)
  have eK : ∀ b, b ≠ 66 → b ≠ 67 → b ≠ 68 → b ≠ 69 → g_X7_spoil_66 (am_cp K 56 69 4) G b = I b := fun b z1 z2 z3 z4 => by rw [s4 b z1, am_cp_row _ z4, k2 b z2 z3, eJ b z1]
  have e66 : ∀ k, k ≠ 14 → k ≠ 15 → g_X7_spoil_66 (am_cp K 56 69 4) G 66 k = J 66 k := fun k z1 z2 => by rw [s3 k z1 z2, am_cp_row _ (by omega), k2 66 (by omega) (by omega)]
  refine ⟨g_X7_spoil_66 (am_cp K 56 69 4) G, ?_, ⟨⟨h1.kept (fun b z1 z2 => eK b (by omega) (by omega) (by omega) (by omega)), h2.kept (eK 26 (by omega) (by omega) (by omega) (by omega)) (eK 27 (by omega) (by omega) (by omega) (by omega))⟩, ⟨⟨⟨by rw [e66 10 (by omega) (by omega), j10]; exact h3.1.1, by rw [e66 11 (by omega) (by omega), j11]; exact h3.1.2⟩, fun o ho => ?_, fun c hc => ⟨?_, fun l hl => ?_⟩⟩, fun z => absurd s1 z, fun z => absurd s2 z⟩, by rw [e66 12 (by omega) (by omega), j12]; exact h6, by rw [e66 13 (by omega) (by omega), j13]; exact h7⟩, fun b z1 z2 z3 => eK b (by omega) (by omega) (by omega) (by omega)⟩
  · unfold R_X7_take_66_53
    rw [← hJ, k1, rb_go]
  · rw [s4 69 (by omega), am_cp_in _ (by omega), k2 56 (by omega) (by omega), eJ 56 (by omega)]
    exact h3.2.1 o ho
  · rw [s4 67 (by omega), am_cp_row _ (by omega)]
    exact (k3 c hc).1
  · rw [s4 68 (by omega), am_cp_row _ (by omega)]
    exact (k3 c hc).2 l hl
theorem r_beL0 {G : am_G} : ∀ (m k n : Nat) (I : am_I), k + m = 4 → ∃ I' : am_I, L_X13_become_112_102 (n + m + 1) 0 I G (Int32.ofNat k) = L_X13_become_112_102 n 1 I' G (Int32.ofNat 0) ∧ (∀ b, b ≠ 114 → I' b = I b) ∧ ∀ j, I' 114 j = if k ≤ j ∧ j < 4 then I 104 j else I 114 j := by
  intro m
  induction m with
  | zero =>
    intro k n I hk
    rw [L_X13_become_112_102_0, if_pos (show (4 : Int32) ≤ Int32.ofNat k from (n_le (a := 4) (by omega) (by omega)).mpr (by omega))]
    exact ⟨I, rfl, fun _ _ => rfl, fun j => by rw [if_neg (by omega)]⟩
  | succ m ih =>
    intro k n I hk
    obtain ⟨I', a1, a2, a3⟩ := ih (k + 1) n (am_up I 114 k (I 104 k)) (by omega)
    rw [show n + (m + 1) + 1 = (n + m + 1) + 1 by omega, L_X13_become_112_102_0, if_neg (show ¬ (4 : Int32) ≤ Int32.ofNat k from fun q => absurd ((n_le (a := 4) (by omega) (by omega)).mp q) (by omega)), rg_pos ((n_in (by omega)).mpr (by omega)), rg_pos ((n_in (by omega)).mpr (by omega)), n_cl (by omega), n_inc]
    refine ⟨I', a1, fun b hb => (a2 b hb).trans (up_row _ _ _ hb), fun j => ?_⟩
    rw [a3, up_row _ _ _ (by omega), up_in]
    by_cases h1 : j = k
    · subst h1; rw [if_neg (by omega), if_pos rfl, if_pos (by omega)]
    · rw [if_neg h1]
      by_cases h2 : k ≤ j ∧ j < 4
      · rw [if_pos (by omega), if_pos h2]
      · rw [if_neg (by omega), if_neg h2]
theorem r_beL1 {G : am_G} : ∀ (m k n : Nat) (I : am_I), k + m = 4 → rB_102 I → ∃ I' : am_I, L_X13_become_112_102 (n + m + 1) 1 I G (Int32.ofNat k) = some ((), am_cp I' 105 115 2304, G) ∧ (∀ b, b ≠ 113 → b ≠ 116 → I' b = I b) ∧ (∀ j, I' 113 j = if k ≤ j ∧ j < 4 then I 103 j else I 113 j) ∧ ∀ j, I' 116 j = if k ≤ j ∧ j < 4 then I 106 j else I 116 j := by
  intro m
  induction m with
  | zero =>
    intro k n I hk hB
    rw [L_X13_become_112_102_1, if_pos (show (4 : Int32) ≤ Int32.ofNat k from (n_le (a := 4) (by omega) (by omega)).mpr (by omega)), n_tn (by omega)]
    exact ⟨I, rfl, fun _ _ _ => rfl, fun j => by rw [if_neg (by omega)], fun j => by rw [if_neg (by omega)]⟩
  | succ m ih =>
    intro k n I hk hB
    have hin : vp_in (Int32.ofNat k) 4 := (n_in (by omega)).mpr (by omega)
    obtain ⟨I', a1, a2, a3, a4⟩ := ih (k + 1) n (am_up (am_up I 116 k (I 106 k)) 113 k (I 103 k)) (by omega) (by
      unfold rB_102
      rw [up_row _ _ _ (by omega), up_row _ _ _ (by omega)]
      exact hB)
    rw [show n + (m + 1) + 1 = (n + m + 1) + 1 by omega, L_X13_become_112_102_1, if_neg (show ¬ (4 : Int32) ≤ Int32.ofNat k from fun q => absurd ((n_le (a := 4) (by omega) (by omega)).mp q) (by omega)), rg_pos hin, n_cl (by omega), rg_pos ⟨hin, hB k⟩, rg_pos hin, rg_pos hin, n_inc]
    refine ⟨I', a1, fun b z1 z2 => (a2 b z1 z2).trans (by rw [up_row _ _ _ z1, up_row _ _ _ z2]), fun j => ?_, fun j => ?_⟩
    · rw [a3, up_in, up_row _ _ _ (by omega), up_row _ _ _ (by omega), up_row _ _ _ (by omega)]
      by_cases h1 : j = k
      · subst h1; rw [if_neg (by omega), if_pos rfl, if_pos (by omega)]
      · rw [if_neg h1]
        by_cases h2 : k ≤ j ∧ j < 4
        · rw [if_pos (by omega), if_pos h2]
        · rw [if_neg (by omega), if_neg h2]
    · rw [a4, up_row _ _ _ (by omega), up_row _ _ _ (by omega), up_row _ _ _ (by omega), up_in]
      by_cases h1 : j = k
      · subst h1; rw [if_neg (by omega), if_pos rfl, if_pos (by omega)]
      · rw [if_neg h1]
        by_cases h2 : k ≤ j ∧ j < 4
        · rw [if_pos (by omega), if_pos h2]
        · rw [if_neg (by omega), if_neg h2]
theorem rS_102.to112 {p t : sP} {dp ca : Int32} {I : am_I} {G : am_G} (hp : p_ok p) (h : rS_102 I p t dp ca) (hB : rB_112' I) : ∃ I' : am_I, R_X13_become_112_102 I G = some ((), I', G) ∧ rS_112 I' p t dp ca ∧ rZ_112 I I' := by
  have h0 := hp.1
  have hS := s_S_le hp
  obtain ⟨⟨h1, h2, h3, h4, h5⟩, h6, h7⟩ := h
  obtain ⟨J, hJ⟩ : ∃ J : am_I, J = (am_up (am_up (am_up (am_up (am_up I 112 0 (I 102 0)) 112 1 (I 102 1)) 112 2 (I 102 2)) 112 3 (I 102 3)) 112 10 (0 : Int32)) := ⟨_, rfl⟩
  have eJ : ∀ b, b ≠ 112 → J b = I b := fun b hb => by rw [hJ, up_row _ _ _ hb, up_row _ _ _ hb, up_row _ _ _ hb, up_row _ _ _ hb, up_row _ _ _ hb]
  have j10 : J 112 10 = 0 := by rw [hJ, up_in, if_pos rfl]
  have j3 : J 112 3 = I 102 3 := by rw [hJ, up_in, if_neg (by omega), up_in, if_pos rfl]
  have j2 : J 112 2 = I 102 2 := by rw [hJ, up_in, if_neg (by omega), up_in, if_neg (by omega), up_in, if_pos rfl]
  have j1 : J 112 1 = I 102 1 := by rw [hJ, up_in, if_neg (by omega), up_in, if_neg (by omega), up_in, if_neg (by omega), up_in, if_pos rfl]
  have j0 : J 112 0 = I 102 0 := by rw [hJ, up_in, if_neg (by omega), up_in, if_neg (by omega), up_in, if_neg (by omega), up_in, if_neg (by omega), up_in, if_pos rfl]
  obtain ⟨n0, hn0⟩ : ∃ n0, FU = (n0 + 4 + 1) + 4 + 1 := ⟨FU - 10, by unfold FU; omega⟩
  obtain ⟨K1, a1, a2, a3⟩ := r_beL0 (G := G) 4 0 (n0 + 4 + 1) J (by omega)
  have b106 : K1 106 = I 106 := (a2 106 (by omega)).trans (eJ 106 (by omega))
  obtain ⟨K2, b1, b2, b3, b4⟩ := r_beL1 (G := G) 4 0 n0 K1 (by omega) (by unfold rB_102; rw [b106]; exact h4)
  have eK : ∀ b, b ≠ 112 → b ≠ 113 → b ≠ 114 → b ≠ 115 → b ≠ 116 → am_cp K2 105 115 2304 b = I b := fun b z1 z2 z3 z4 z5 => by rw [am_cp_row _ z4, b2 b z2 z5, a2 b z3, eJ b z1]
  have e112 : am_cp K2 105 115 2304 112 = J 112 := by rw [am_cp_row _ (by omega), b2 112 (by omega) (by omega), a2 112 (by omega)]
  have e116 : ∀ j, am_cp K2 105 115 2304 116 j = if j < 4 then I 106 j else I 116 j := fun j => by
    rw [am_cp_row _ (by omega), b4, b106, a2 116 (by omega), eJ 116 (by omega)]
    by_cases hj : j < 4
    · rw [if_pos (by omega), if_pos hj]
    · rw [if_neg (by omega), if_neg hj]
  refine ⟨am_cp K2 105 115 2304, ?_, ⟨⟨h1.kept (fun b z1 z2 => eK b (by omega) (by omega) (by omega) (by omega) (by omega)), ⟨⟨by rw [e112, j2]; exact h2.1.1, by rw [e112, j3]; exact h2.1.2⟩, fun o ho => ?_, fun c hc => ?_⟩, fun o ho hk k hkk => ?_, fun k => ?_, fun z => absurd (by rw [e112, j10]) z⟩, by rw [e112, j0]; exact h6, by rw [e112, j1]; exact h7⟩, fun b hb => eK b (by omega) (by omega) (by omega) (by omega) (by omega)⟩
  · unfold R_X13_become_112_102
    rw [rg_pos (Or.inl rfl), ← hJ, hn0, show (0 : Int32) = Int32.ofNat 0 from rfl, a1, b1]
  · rw [am_cp_row _ (by omega), b3, if_pos (by omega), a2 103 (by omega), eJ 103 (by omega)]
    exact h2.2.1 o ho
  · rw [am_cp_row _ (by omega), b2 114 (by omega) (by omega), a3, if_pos (by omega), eJ 104 (by omega)]
    exact h2.2.2 c hc
  · rw [e116, if_pos (by omega)] at hk
    rw [am_cp_in _ (by omega), b2 105 (by omega) (by omega), a2 105 (by omega), eJ 105 (by omega)]
    exact h3 o ho hk k hkk
  · rw [e116]
    by_cases hj : k < 4
    · rw [if_pos hj]; exact h4 k
    · rw [if_neg hj]; exact hB k
theorem rA_112.toB {I : am_I} {p t : sP} (h : rA_112 I p t) : rB_112' I := h.2.2.2.1
theorem kI.ahead {p t : sP} {od : sO} {dp ca : Int32} {ln : Nat} {I I1 I2 : am_I} {G G2 : am_G} (h : kI p t od dp ca ln I G) (z1 : cZ_66 I I1) (hW : cW I1 p) (zk : ∀ b, (b < 112 ∨ 121 < b) → b < 123 → b ≠ 79 → I2 b = I1 b) (z79 : ∀ k, k ≠ 0 → I2 79 k = I1 79 k) (hB : rB_112' I2) (hG : G2 3 = G 3) : kI p t od dp ca ln I2 G2 := by
  have zc1 : zc I I1 := z1.toc
  have zm2 : zm I1 I2 := ⟨fun b a1 a2 a3 => zk b (by omega) a1 a2, z79⟩
  refine h.step zc1 ?_ zm2 ((zc1.rS h.2.2.1.2).kept (fun b hb => zk b (by omega) (by omega) (by omega))) hB h.1.2.1 hG
  obtain ⟨⟨a1, a2⟩, ⟨a3, a4, a5⟩, a6, a7⟩ := h.2.2.1.1
  have e : ∀ b, 53 ≤ b → b ≤ 65 → I1 b = I b := fun b y1 y2 => z1 b (by omega) (by omega) (by omega)
  refine ⟨⟨a1.kept (fun b y1 y2 => z1 b (by omega) (by omega) (by omega)), hW⟩, ⟨a3.kept ⟨by rw [e 53 (by omega) (by omega)], by rw [e 53 (by omega) (by omega)]⟩ ⟨e 54 (by omega) (by omega), e 55 (by omega) (by omega), e 56 (by omega) (by omega)⟩, ?_, ?_⟩, by rw [e 53 (by omega) (by omega)]; exact a6, by rw [e 53 (by omega) (by omega)]; exact a7⟩
  · unfold cF_53
    rw [e 53 (by omega) (by omega), e 57 (by omega) (by omega), e 58 (by omega) (by omega), e 59 (by omega) (by omega)]
    exact a4
  · unfold cQ_53
    rw [e 53 (by omega) (by omega), e 60 (by omega) (by omega), e 61 (by omega) (by omega), e 62 (by omega) (by omega)]
    exact a5
theorem c_foL {p : sP} {od : sO} {G : am_G} (hp : p_ok p) (ho : o_ok p od) {N w : Nat} (hN : N ≤ 20) (hw : 7 ≤ w ∧ w < 14) : ∀ (m k n : Nat) (I : am_I) (x : sP × Int32 × Int32), t_ok p x.1 → cO I p od → cA_66 I p x.1 x.2.1 x.2.2 → k + m = N → m < n → ∃ I' : am_I, L_X11_foresee_0 n 0 I G (Int32.ofNat N) (Int32.ofNat w) (Int32.ofNat k) = some (.inl (s_tell p (s_dps p od m x).1 (s_dps p od m x).2.1 (s_dps p od m x).2.2 w), I', G) ∧ cW I' p ∧ cZ_66 I I' := by
  have i10 : (10 : Int32).toInt = 10 := rfl
  intro m
  induction m with
  | zero =>
    intro k n I x ht hO h hk hn
    obtain ⟨n, rfl⟩ : ∃ n', n = n' + 1 := ⟨n - 1, by omega⟩
    rw [L_X11_foresee_0_0, if_pos ((n_le (by omega) (by omega)).mpr (by omega))]
    by_cases h10 : 10 < w
    · rw [if_pos (by rw [i_lt, i10, n_ti (by omega)]; omega), c_tell_66 hp h hO.1 (by omega) (fun z => by omega) (fun z => by omega), rb_go]
      exact ⟨I, rfl, h.1.2, cZ_66.rf I⟩
    · obtain ⟨I1, e1, c1, z1, f1, g1⟩ := c_grA_66 (G := G) hp ht h
      rw [if_neg (by rw [i_lt, i10, n_ti (by omega)]; omega), e1, rb_go, c_tell_66 hp c1 (by rw [z1 16 (by omega) (by omega) (by omega)]; exact hO.1) (by omega) (fun _ => f1) (fun _ => g1), rb_go]
      exact ⟨I1, rfl, c1.1.2, z1⟩
  | succ m ih =>
    intro k n I x ht hO h hk hn
    obtain ⟨n, rfl⟩ : ∃ n', n = n' + 1 := ⟨n - 1, by omega⟩
    obtain ⟨I1, e1, s1, z1⟩ := c_dp_66 (G := G) hp ho ht hO h
    obtain ⟨I2, e2, w2, z2⟩ := ih (k + 1) n I1 (s_dip p od x) (s_dip_ok hp od x ht) (hO.kept (fun b h1 h2 => z1 b (by omega) (by omega) (by omega))) s1 (by omega) (by omega)
    rw [L_X11_foresee_0_0, if_neg (fun q => absurd ((n_le (by omega) (by omega)).mp q) (by omega)), e1, rb_go, n_inc, e2]
    exact ⟨I2, rfl, w2, z1.tr z2⟩
theorem k_foresee_ok : k_foresee kV := by
  intro I G x y hV
  show kGoal hn_foresee (fun I1 G1 bb I2 G2 => R_X14_foresee_79 I1 G1 x y = some (bb, I2, G2)) (R_X11_foresee_0 I G x y) (fun k => k = 71 ∨ k = 93) I G
  have i7 : (7 : Int32).toInt = 7 := rfl
  have i13 : (13 : Int32).toInt = 13 := rfl
  have hV0 := hV
  obtain ⟨p, t, od, dp, ca, ln, h⟩ := hV
  have hp := h.1.1
  have ho := h.1.2.2
  by_cases hx : 1 ≤ x.toInt ∧ x.toInt ≤ 20
  · by_cases hy : 7 ≤ y.toInt ∧ y.toInt ≤ 13
    · obtain ⟨N, hN, rfl⟩ := n_ofl (n := 20) (x := x) ⟨by omega, hx.2⟩
      obtain ⟨w, hw, rfl⟩ := n_ofl (n := 13) (x := y) ⟨by omega, hy.2⟩
      have hw7 : 7 ≤ w := by rw [n_ti (by omega)] at hy; omega
      obtain ⟨I0, e0, c0, z0⟩ := h.2.2.1.1.to66 (G := G) hp h.1.2.1
      obtain ⟨I1, e1, w1, z1⟩ := c_foL (G := G) hp ho hN (w := w) ⟨hw7, by omega⟩ N 0 FU I0 (t, dp, ca) h.1.2.1 (h.2.1.1.kept (fun b h1 h2 => z0 b (by omega) (by omega) (by omega))) c0 (by omega) (by unfold FU; omega)
      have zz := z0.tr z1
      have r1 := (zz.toc.rS h.2.2.1.2).up79 0
      have rO1 : rO (am_up I1 79 0 0) p od := h.2.1.2.kept (fun b h1 h2 => by rw [up_row _ _ _ (by omega)]; exact zz b (by omega) (by omega) (by omega)) (by rw [up_row _ _ _ (by omega), zz 86 (by omega) (by omega) (by omega)])
      obtain ⟨G', hG⟩ : ∃ G' : am_G, G' = am_up G 122 0 (s_tell p (s_dps p od N (t, dp, ca)).1 (s_dps p od N (t, dp, ca)).2.1 (s_dps p od N (t, dp, ca)).2.2 w).toInt64 := ⟨_, rfl⟩
      obtain ⟨I2, e2, s2, z2⟩ := r1.to112 (G := G') hp ((zz.toc.rB h.2.2.2.1).up 0)
      obtain ⟨I3, e3, s3, z3⟩ := r_dps_112 (G := G') hp ho hN N 0 FU I2 (t, dp, ca) h.1.2.1 (rO1.kept (fun b h1 h2 => z2 b (by omega)) (by rw [z2 86 (by omega)])) s2 (by omega) (by unfold FU; omega)
      obtain ⟨I4, e4, a4, x4⟩ := r_cnt_112 (G := G') hp (s_dps_ok hp od N (t, dp, ca) h.1.2.1) s3 (k := w) ⟨hw7, by omega⟩
      have z4 : rZ_112 (am_up I1 79 0 0) I4 := (z2.tr z3).tr x4.toZ
      refine kG_ret (I1 := I1) (I2 := I4) hG ?_ ?_ ?_ ⟨p, t, od, dp, ca, ln, h.ahead zz w1 (fun b a1 a2 a3 => by rw [z4 b (by omega), up_row _ _ _ a3]) (fun k hk => by rw [z4 79 (by omega), up_in, if_neg hk]) a4.toB (g3_up hG)⟩
      · unfold R_X11_foresee_0
        rw [if_neg (by rw [i_lt, i_n1]; omega), if_pos (by rw [i_le, i_20]; omega), if_neg (by rw [i_lt, i7]; omega), if_pos (by rw [i_le, i13]; omega), e0, rb_go]
        exact e1
      · show R_X14_foresee_79 I1 G' (Int32.ofNat N) (Int32.ofNat w) = _
        unfold R_X14_foresee_79
        rw [isIn_y (by rw [i_n1, i_20]; exact hx), if_neg (by decide), isIn_y (by rw [i7, i13]; exact hy), if_neg (by decide), e2, rb_go]
        unfold R_X13_dip__112
        rw [show L_X13_dip__112 FU 0 I2 G' (Int32.ofNat N) (0 : Int32) = _ from e3, rb_go, e4, rb_go]
      · rw [z4 79 (by omega), am_up_self]
    · refine kG_thr hV0 (k := 93) (n := 2) ?_ (Or.inr rfl) rfl (by decide) ?_
      · unfold R_X11_foresee_0
        rw [if_neg (by rw [i_lt, i_n1]; omega), if_pos (by rw [i_le, i_20]; omega)]
        by_cases h1 : y < (7 : Int32)
        · rw [if_pos h1]
        · rw [if_neg h1, if_neg (by rw [i_lt, i7] at h1; rw [i_le, i13]; omega)]
      · show R_X14_foresee_79 I G x y = _
        unfold R_X14_foresee_79
        rw [isIn_y (by rw [i_n1, i_20]; exact hx), if_neg (by decide), isIn_n (by rw [i7, i13]; exact hy), if_pos rfl]
        rfl
  · refine kG_thr hV0 (k := 71) (n := 1) ?_ (Or.inl rfl) rfl (by decide) ?_
    · unfold R_X11_foresee_0
      by_cases h1 : x < (1 : Int32)
      · rw [if_pos h1]
      · rw [if_neg h1, if_neg (by rw [i_lt, i_n1] at h1; rw [i_le, i_20]; omega)]
    · show R_X14_foresee_79 I G x y = _
      unfold R_X14_foresee_79
      rw [isIn_n (by rw [i_n1, i_20]; exact hx), if_pos rfl]
      rfl
/-- the first dip at which the spot has the ink -/
def s_unt (p : sP) (od : sO) (q j : Nat) : Nat → Nat → sP × Int32 × Int32 → Int32
  | 0, _, _ => -1
  | m + 1, k, x => if s_ik p x.1 q = j then Int32.ofNat k else s_unt p od q j m (k + 1) (s_dip p od x)
theorem c_unL {p : sP} {od : sO} {G : am_G} (hp : p_ok p) (ho : o_ok p od) {q j : Nat} (hq : q < s_S p) (hj : j ≤ p 0 4) (v1 v2 : Int32) : ∀ (m k n : Nat) (I : am_I) (x : sP × Int32 × Int32), 1 ≤ k → t_ok p x.1 → cO I p od → cA_66 I p x.1 x.2.1 x.2.2 → k + m = 21 → m < n → ∃ I' : am_I, L_X11_until_0 n 0 I G v1 v2 (Int32.ofNat j) (Int32.ofNat q) (Int32.ofNat k) = some (.inl (s_unt p od q j m k (s_dip p od x)), I', G) ∧ cW I' p ∧ cZ_66 I I' := by
  have h0 := hp.1
  have hS := s_S_le hp
  intro m
  induction m with
  | zero =>
    intro k n I x h1 ht hO h hk hn
    obtain ⟨n, rfl⟩ : ∃ n', n = n' + 1 := ⟨n - 1, by omega⟩
    rw [L_X11_until_0_0, if_pos (show (20 : Int32) < Int32.ofNat k from (n_lt (a := 20) (by omega) (by omega)).mpr (by omega))]
    exact ⟨I, rfl, h.1.2, cZ_66.rf I⟩
  | succ m ih =>
    intro k n I x h1 ht hO h hk hn
    obtain ⟨n, rfl⟩ : ∃ n', n = n' + 1 := ⟨n - 1, by omega⟩
    have ht1 := s_dip_ok hp od x ht
    obtain ⟨I1, e1, s1, z1⟩ := c_dp_66 (G := G) hp ho ht hO h
    obtain ⟨I2, e2, c2, z2, f2⟩ := c_rfA_66 (G := G) hp ht1 s1
    have z12 := z1.tr z2
    have hik := s_ik_b p (s_dip p od x).1 q
    rw [L_X11_until_0_0, if_neg (show ¬ (20 : Int32) < Int32.ofNat k from fun z => absurd ((n_lt (a := 20) (by omega) (by omega)).mp z) (by omega)), if_neg (n_nle0 (by omega) (by omega)), e1, rb_go, e2, rb_go, n_gAt (by omega) (by omega), ((c2.2.1.2.1 f2).1 q hq).2, n_inc]
    unfold s_unt
    by_cases hz : s_ik p (s_dip p od x).1 q = j
    · rw [if_pos hz, if_pos (by rw [hz])]
      exact ⟨I2, rfl, c2.1.2, z12⟩
    · rw [if_neg hz, if_neg (fun z => hz ((n_eq (by omega) (by omega)).mp z))]
      obtain ⟨I3, e3, w3, z3⟩ := ih (k + 1) n I2 (s_dip p od x) (by omega) ht1 (hO.kept (fun b h1 h2 => z12 b (by omega) (by omega) (by omega))) c2 (by omega) (by omega)
      exact ⟨I3, e3, w3, z12.tr z3⟩
theorem r_unL {p : sP} {od : sO} {G : am_G} (hp : p_ok p) (ho : o_ok p od) {j : Nat} (hj : j ≤ p 0 4) (v1 v2 : Int32) : ∀ (m k n : Nat) (I : am_I) (x : sP × Int32 × Int32), t_ok p x.1 → rO I p od → rS_112 I p x.1 x.2.1 x.2.2 → k + m = 21 → m < n → ∃ I' : am_I, L_X14_until_79 n 0 I G v1 v2 (Int32.ofNat j) (Int32.ofNat k) = some (s_unt p od (s_spot p v1 v2) j m k x, I', G) ∧ rB_112' I' ∧ rZ_112 I I' := by
  have h0 := hp.1
  have hsp := s_spot_lt hp v1 v2
  intro m
  induction m with
  | zero =>
    intro k n I x ht hO h hk hn
    obtain ⟨n, rfl⟩ : ∃ n', n = n' + 1 := ⟨n - 1, by omega⟩
    rw [L_X14_until_79_0, if_pos (show (20 : Int32) < Int32.ofNat k from (n_lt (a := 20) (by omega) (by omega)).mpr (by omega))]
    exact ⟨I, rfl, h.1.toB, rZ_112.rf I⟩
  | succ m ih =>
    intro k n I x ht hO h hk hn
    obtain ⟨n, rfl⟩ : ∃ n', n = n' + 1 := ⟨n - 1, by omega⟩
    obtain ⟨I1, e1, w1, a1, -⟩ := r_ik_112 (G := G) hp ht h.1 hsp
    have s1 := h.ofX w1.toX a1
    have z1 := w1.toX.toZ
    have hik := s_ik_b p x.1 (s_spot p v1 v2)
    rw [L_X14_until_79_0, if_neg (show ¬ (20 : Int32) < Int32.ofNat k from fun z => absurd ((n_lt (a := 20) (by omega) (by omega)).mp z) (by omega)), rg_pos (r_spotq h.1.1 hp v1 v2), show f_X12_spot_86 I G v1 v2 = Int32.ofNat (s_spot p v1 v2) from r_spot h.1.1 hp v1 v2, e1, rb_go]
    unfold s_unt
    by_cases hz : s_ik p x.1 (s_spot p v1 v2) = j
    · rw [if_pos hz, if_pos (by rw [hz])]
      exact ⟨I1, rfl, a1.toB, z1⟩
    · rw [if_neg hz, if_neg (fun z => hz ((n_eq (by omega) (by omega)).mp z))]
      have hO1 : rO I1 p od := hO.kept (fun b h1 h2 => z1 b (by omega)) (by rw [z1 86 (by omega)])
      obtain ⟨I2, e2, s2, z2⟩ := r_dp_112 (G := G) hp ho ht hO1 s1
      obtain ⟨I3, e3, b3, z3⟩ := ih (k + 1) n I2 (s_dip p od x) (s_dip_ok hp od x ht) (hO1.kept (fun b h1 h2 => z2 b (by omega)) (by rw [z2 86 (by omega)])) s2 (by omega) (by omega)
      rw [e2, rb_go, n_inc, e3]
      exact ⟨I3, rfl, b3, (z1.tr z2).tr z3⟩
theorem k_until_ok : k_until kV := by
  intro I G x y z hV
  show kGoal hn_until (fun I1 G1 bb I2 G2 => R_X14_until_79 I1 G1 x y z = some (bb, I2, G2)) (R_X11_until_0 I G x y z) (fun k => k = 93) I G
  have hV0 := hV
  obtain ⟨p, t, od, dp, ca, ln, h⟩ := hV
  have hp := h.1.1
  have ho := h.1.2.2
  have h0 := hp.1
  have hS := s_S_le hp
  have hsp := s_spot_lt hp x y
  have e13 := h.2.2.1.1.1.1.1.2.2.2.2
  by_cases hz : 0 ≤ z.toInt ∧ z.toInt ≤ p 0 4
  · obtain ⟨j, hj, rfl⟩ := n_ofl hz
    obtain ⟨I0, e0, c0, z0⟩ := h.2.2.1.1.to66 (G := G) hp h.1.2.1
    have hO0 : cO I0 p od := h.2.1.1.kept (fun b h1 h2 => z0 b (by omega) (by omega) (by omega))
    obtain ⟨I1, e1, w1, z1⟩ : ∃ I' : am_I, L_X11_until_0 FU 0 I0 G x y (Int32.ofNat j) (Int32.ofNat (s_spot p x y)) (0 : Int32) = some (.inl (s_unt p od (s_spot p x y) j 21 0 (t, dp, ca)), I', G) ∧ cW I' p ∧ cZ_66 I0 I' := by
      obtain ⟨n0, hn0⟩ : ∃ n0, FU = n0 + 1 := ⟨FU - 1, by unfold FU; omega⟩
      obtain ⟨I2, e2, c2, z2, f2⟩ := c_rfA_66 (G := G) hp h.1.2.1 c0
      have hik := s_ik_b p t (s_spot p x y)
      rw [hn0, L_X11_until_0_0, if_neg (by decide), if_pos (by decide), e2, rb_go, n_gAt (by omega) (by omega), ((c2.2.1.2.1 f2).1 _ hsp).2]
      unfold s_unt
      by_cases hq : s_ik p t (s_spot p x y) = j
      · rw [if_pos hq, if_pos (by rw [hq])]
        exact ⟨I2, rfl, c2.1.2, z2⟩
      · rw [if_neg hq, if_neg (fun w => hq ((n_eq (by omega) (by omega)).mp w))]
        obtain ⟨I3, e3, w3, z3⟩ := c_unL (G := G) hp ho hsp hj x y 20 1 n0 I2 (t, dp, ca) (by omega) h.1.2.1 (hO0.kept (fun b h1 h2 => z2 b (by omega) (by omega) (by omega))) c2 (by omega) (by unfold FU at hn0; omega)
        exact ⟨I3, e3, w3, z2.tr z3⟩
    have zz := z0.tr z1
    have r1 := (zz.toc.rS h.2.2.1.2).up79 0
    have rO1 : rO (am_up I1 79 0 0) p od := h.2.1.2.kept (fun b h1 h2 => by rw [up_row _ _ _ (by omega)]; exact zz b (by omega) (by omega) (by omega)) (by rw [up_row _ _ _ (by omega), zz 86 (by omega) (by omega) (by omega)])
    obtain ⟨G', hG⟩ : ∃ G' : am_G, G' = am_up G 122 0 (s_unt p od (s_spot p x y) j 21 0 (t, dp, ca)).toInt64 := ⟨_, rfl⟩
    obtain ⟨I2, e2, s2, z2⟩ := r1.to112 (G := G') hp ((zz.toc.rB h.2.2.2.1).up 0)
    obtain ⟨I3, e3, b3, z3⟩ := r_unL (G := G') hp ho hj x y 21 0 FU I2 (t, dp, ca) h.1.2.1 (rO1.kept (fun b h1 h2 => z2 b (by omega)) (by rw [z2 86 (by omega)])) s2 (by omega) (by unfold FU; omega)
    have z4 : rZ_112 (am_up I1 79 0 0) I3 := z2.tr z3
    refine kG_ret (I1 := I1) (I2 := I3) hG ?_ ?_ ?_ ⟨p, t, od, dp, ca, ln, h.ahead zz w1 (fun b a1 a2 a3 => by rw [z4 b (by omega), up_row _ _ _ a3]) (fun k hk => by rw [z4 79 (by omega), up_in, if_neg hk]) b3 (g3_up hG)⟩
    · unfold R_X11_until_0
      rw [if_neg (n_nlt0 j (by omega)), e13, if_pos ((n_le (by omega) (by omega)).mpr hj), e0, rb_go, show f_X5_spot_7 I G x y = Int32.ofNat (s_spot p x y) from c_spot h.2.2.1.1.1.1 hp x y]
      exact e1
    · show R_X14_until_79 I1 G' x y (Int32.ofNat j) = _
      unfold R_X14_until_79
      rw [r_isK r1.1.1 hp, rb_go, if_pos hz, if_neg (by decide), e2, rb_go]
      exact e3
    · rw [z4 79 (by omega), am_up_self]
  · refine kG_thr hV0 (k := 93) (n := 1) ?_ rfl rfl (by decide) ?_
    · unfold R_X11_until_0
      rw [e13]
      by_cases h1 : z < 0
      · rw [if_pos h1]
      · rw [if_neg h1, if_neg (fun h2 => hz ⟨by rw [i_lt, i_0] at h1; omega, by rw [i_le, n_ti (by omega)] at h2; omega⟩)]
    · show R_X14_until_79 I G x y z = _
      unfold R_X14_until_79
      rw [r_isK (h.2.2.1.2.up79 0).1.1 hp, rb_go, if_neg hz, if_pos rfl]
      rfl
/-- the best pull -/
noncomputable def s_pn (p t : sP) : Nat := s_pat (p 0 0) (s_S p) (s_ik p t) (s_S p)
noncomputable def s_adv (p : sP) (c : Nat) : Nat → Nat → Nat → Nat → sP → Nat
  | 0, _, best, _, _ => best
  | m + 1, k, best, few, t => if s_pn p (if t 2 c = k then t else am_up t 2 c k) < few then s_adv p c m (k + 1) k (s_pn p (if t 2 c = k then t else am_up t 2 c k)) (if t 2 c = k then t else am_up t 2 c k) else s_adv p c m (k + 1) best few (if t 2 c = k then t else am_up t 2 c k)
theorem s_pn_le {p : sP} (hp : p_ok p) (t : sP) : s_pn p t ≤ 576 := Nat.le_trans (s_num_le _ _) (s_S_le hp)
theorem c_adL {p : sP} {dp ca : Int32} {G : am_G} (hp : p_ok p) {c : Nat} (hc : c < p 0 3) : ∀ (m k n : Nat) (I : am_I) (t : sP) (best few : Nat), t_ok p t → cA_66 I p t dp ca → best ≤ 16 → few ≤ 577 → k + m = 17 → m < n → ∃ I' : am_I, L_X11_advise_0 n 0 I G (Int32.ofNat c) (Int32.ofNat best) (Int32.ofNat few) (Int32.ofNat k) = some (.inl (Int32.ofNat (s_adv p c m k best few t)), I', G) ∧ cW I' p ∧ cZ_66 I I' := by
  intro m
  induction m with
  | zero =>
    intro k n I t best few ht h hb hf hk hn
    obtain ⟨n, rfl⟩ : ∃ n', n = n' + 1 := ⟨n - 1, by omega⟩
    rw [L_X11_advise_0_0, if_pos (show (16 : Int32) < Int32.ofNat k from (n_lt (a := 16) (by omega) (by omega)).mpr (by omega))]
    exact ⟨I, rfl, h.1.2, cZ_66.rf I⟩
  | succ m ih =>
    intro k n I t best few ht h hb hf hk hn
    obtain ⟨n, rfl⟩ : ∃ n', n = n' + 1 := ⟨n - 1, by omega⟩
    obtain ⟨I1, e1, c1, z1⟩ := c_cp_66 (G := G) hp ht h hc (x := k) (by omega)
    have ht1 : t_ok p (if t 2 c = k then t else am_up t 2 c k) := by
      split
      · exact ht
      · exact t_up2 ht (by omega)
    obtain ⟨I2, e2, c2, z2, f2, g2⟩ := c_grA_66 (G := G) hp ht1 c1
    have z12 := z1.tr z2
    have en : I2 73 4 = Int32.ofNat (s_pn p (if t 2 c = k then t else am_up t 2 c k)) := (c2.2.1.2.2 g2).2.1
    have hpn := s_pn_le hp (if t 2 c = k then t else am_up t 2 c k)
    rw [L_X11_advise_0_0, if_neg (show ¬ (16 : Int32) < Int32.ofNat k from fun z => absurd ((n_lt (a := 16) (by omega) (by omega)).mp z) (by omega)), e1, rb_go, e2, rb_go, en, n_inc]
    unfold s_adv
    by_cases hq : s_pn p (if t 2 c = k then t else am_up t 2 c k) < few
    · rw [if_pos hq, if_neg (fun z => absurd ((n_le (by omega) (by omega)).mp z) (by omega))]
      obtain ⟨I3, e3, w3, z3⟩ := ih (k + 1) n I2 _ k (s_pn p (if t 2 c = k then t else am_up t 2 c k)) ht1 c2 (by omega) (by omega) (by omega) (by omega)
      exact ⟨I3, e3, w3, z12.tr z3⟩
    · rw [if_neg hq, if_pos ((n_le (by omega) (by omega)).mpr (by omega))]
      obtain ⟨I3, e3, w3, z3⟩ := ih (k + 1) n I2 _ best few ht1 c2 hb hf (by omega) (by omega)
      exact ⟨I3, e3, w3, z12.tr z3⟩
theorem r_adL {p : sP} {dp ca : Int32} {G : am_G} (hp : p_ok p) {c : Nat} (hc : c < p 0 3) : ∀ (m k n : Nat) (I : am_I) (t : sP) (best few : Nat), t_ok p t → rS_112 I p t dp ca → best ≤ 16 → few ≤ 577 → k + m = 17 → m < n → ∃ I' : am_I, L_X14_advise_79 n 0 I G (Int32.ofNat c) (Int32.ofNat best) (Int32.ofNat few) (Int32.ofNat k) = some (Int32.ofNat (s_adv p c m k best few t), I', G) ∧ rB_112' I' ∧ rZ_112 I I' := by
  intro m
  induction m with
  | zero =>
    intro k n I t best few ht h hb hf hk hn
    obtain ⟨n, rfl⟩ : ∃ n', n = n' + 1 := ⟨n - 1, by omega⟩
    rw [L_X14_advise_79_0, if_pos (show (16 : Int32) < Int32.ofNat k from (n_lt (a := 16) (by omega) (by omega)).mpr (by omega))]
    exact ⟨I, rfl, h.1.toB, rZ_112.rf I⟩
  | succ m ih =>
    intro k n I t best few ht h hb hf hk hn
    obtain ⟨n, rfl⟩ : ∃ n', n = n' + 1 := ⟨n - 1, by omega⟩
    obtain ⟨q1, -, s1, z1⟩ := r_lp_112 (G := G) hp ht h hc (x := k) (by omega)
    have ht1 : t_ok p (if t 2 c = k then t else am_up t 2 c k) := by
      split
      · exact ht
      · exact t_up2 ht (by omega)
    obtain ⟨I2, e2, a2, x2⟩ := r_ps_112 (G := G) hp ht1 s1.1
    have s2 := s1.ofX x2.toX a2
    have z12 := z1.tr x2.toX.toZ
    have hpn := s_pn_le hp (if t 2 c = k then t else am_up t 2 c k)
    rw [L_X14_advise_79_0, if_neg (show ¬ (16 : Int32) < Int32.ofNat k from fun z => absurd ((n_lt (a := 16) (by omega) (by omega)).mp z) (by omega)), rg_pos q1, e2, rb_go, n_inc]
    unfold s_adv
    rw [show s_pat (p 0 0) (s_S p) (s_ik p (if t 2 c = k then t else am_up t 2 c k)) (s_S p) = s_pn p (if t 2 c = k then t else am_up t 2 c k) from rfl]
    by_cases hq : s_pn p (if t 2 c = k then t else am_up t 2 c k) < few
    · rw [if_pos hq, if_pos ((n_lt (by omega) (by omega)).mpr hq)]
      obtain ⟨I3, e3, w3, z3⟩ := ih (k + 1) n I2 _ k (s_pn p (if t 2 c = k then t else am_up t 2 c k)) ht1 s2 (by omega) (by omega) (by omega) (by omega)
      exact ⟨I3, e3, w3, z12.tr z3⟩
    · rw [if_neg hq, if_neg (fun z => hq ((n_lt (by omega) (by omega)).mp z))]
      obtain ⟨I3, e3, w3, z3⟩ := ih (k + 1) n I2 _ best few ht1 s2 hb hf (by omega) (by omega)
      exact ⟨I3, e3, w3, z12.tr z3⟩
theorem k_advise_ok : k_advise kV := by
  intro I G x hV
  show kGoal hn_advise (fun I1 G1 bb I2 G2 => R_X14_advise_79 I1 G1 x = some (bb, I2, G2)) (R_X11_advise_0 I G x) (fun k => k = 93) I G
  have hV0 := hV
  obtain ⟨p, t, od, dp, ca, ln, h⟩ := hV
  have hp := h.1.1
  have h0 := hp.1
  have e12 := h.2.2.1.1.1.1.1.2.2.2.1
  by_cases hx : 0 ≤ x.toInt ∧ x.toInt < p 0 3
  · obtain ⟨c, hc, rfl⟩ := n_ofs hx
    obtain ⟨I0, e0, c0, z0⟩ := h.2.2.1.1.to66 (G := G) hp h.1.2.1
    obtain ⟨I1, e1, w1, z1⟩ := c_adL (G := G) hp hc 17 0 FU I0 t 0 577 h.1.2.1 c0 (by omega) (by omega) (by omega) (by unfold FU; omega)
    have zz := z0.tr z1
    have r1 := (zz.toc.rS h.2.2.1.2).up79 0
    obtain ⟨G', hG⟩ : ∃ G' : am_G, G' = am_up G 122 0 (Int32.ofNat (s_adv p c 17 0 0 577 t)).toInt64 := ⟨_, rfl⟩
    obtain ⟨I2, e2, s2, z2⟩ := r1.to112 (G := G') hp ((zz.toc.rB h.2.2.2.1).up 0)
    obtain ⟨I3, e3, b3, z3⟩ := r_adL (G := G') hp hc 17 0 FU I2 t 0 577 h.1.2.1 s2 (by omega) (by omega) (by omega) (by unfold FU; omega)
    have z4 : rZ_112 (am_up I1 79 0 0) I3 := z2.tr z3
    refine kG_ret (I1 := I1) (I2 := I3) hG ?_ ?_ ?_ ⟨p, t, od, dp, ca, ln, h.ahead zz w1 (fun b a1 a2 a3 => by rw [z4 b (by omega), up_row _ _ _ a3]) (fun k hk => by rw [z4 79 (by omega), up_in, if_neg hk]) b3 (g3_up hG)⟩
    · unfold R_X11_advise_0
      rw [if_neg (n_nlt0 c (by omega)), e12, if_pos ((n_lt (by omega) (by omega)).mpr hc), e0, rb_go]
      exact e1
    · show R_X14_advise_79 I1 G' (Int32.ofNat c) = _
      unfold R_X14_advise_79
      rw [r_isC r1.1.1 hp, rb_go, if_pos hx, if_neg (by decide), e2, rb_go]
      exact e3
    · rw [z4 79 (by omega), am_up_self]
  · refine kG_thr hV0 (k := 93) (n := 1) ?_ rfl rfl (by decide) ?_
    · unfold R_X11_advise_0
      by_cases h1 : x < 0
      · rw [if_pos h1]
      · rw [if_neg h1, e12, if_neg (by rw [i_lt, i_0] at h1; rw [i_lt, n_ti (by omega)]; omega)]
    · show R_X14_advise_79 I G x = _
      unfold R_X14_advise_79
      rw [r_isC (h.2.2.1.2.up79 0).1.1 hp, rb_go, if_neg hx, if_pos rfl]
      rfl
end KC3
