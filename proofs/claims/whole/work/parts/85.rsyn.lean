/-! the reference's values, singles, brackets -/
section RPC
variable {K V : Nat → Nat} {T : Nat} {G : am_G}
theorem r_und {J : am_I} {d : Nat} (h : J 79 10 = Int32.ofNat (d + 1)) : am_up J 79 10 ((J 79 10) - (1 : Int32)) = am_up J 79 10 (Int32.ofNat d) := by rw [h, n_dec (by omega), Nat.add_sub_cancel]
theorem rG4.up {I J : am_I} {d d2 sz os p : Nat} {c : List (Nat × Nat)} (h : rG4 I J d sz os p c) : rG4 I (am_up J 79 10 (Int32.ofNat d2)) d2 sz os p c := h.dp
/-- brackets with one sum -/
theorem r_in0 {n0 : Nat} (hM : rM K V T G n0 3) {d p sz os : Nat} {I : am_I} (hd : d ≤ 8) (hnd : nd 6 d ≤ n0 + 1) (hX : rX K V T I G) (hS : rS4 I p d sz os) (hp : p ≤ T) (hsz : sz ≤ 2 * p) (hos : os ≤ p) (a : Int32) : ∃ (v : Int32) (I' : am_I), PG_X14_isTest (n0 + 1) 5 I G a (0 : Int32) = some (v, I', G) ∧ (v = 0 ∨ v = 1) ∧ rfr I I' ∧ rQ I I' d sz os (if K p = 24 ∧ d < 8 then sb (sp K V n0 3 (d + 1) (p + 1)) (fun p' c => if K p' = 25 then .inl (p' + 1, c) else .inr p') else .inr p) v := by
  have hT := hX.1.1
  have h9 := hS.1
  rw [PG_X14_isTest_5]
  unfold R_X14_isInside_79
  rw [rg_pos (r_q2 h9 (by omega) _)]
  by_cases hk : K p = 24
  · rw [if_neg (r_sgY (k := 24) (w := (40 : Int32)) hX h9 hp rfl hk)]
    by_cases h8 : d < 8
    · obtain ⟨d1, d2, d3⟩ := r_de1 (G := G) hS h8
      have hlt := hX.1.lt hp (by omega)
      have hnd1 : nd 3 (d + 1) ≤ n0 := by rw [nd_6] at hnd; rw [nd_3]; omega
      obtain ⟨v, I1, e1, hv, f1, q1⟩ := hM (d + 1) (p + 1) _ sz os (by omega) hnd1 (hX.kept d2) d3.1 (by omega) (by omega) (by omega) (0 : Int32) (0 : Int32)
      have e1 : PG_X14_isTest n0 3 (g_X14_isDeeper_79 I G) G (0 : Int32) (0 : Int32) = some (v, I1, G) := e1
      have hf1 := d2.tr f1
      have hpr := sp_pr hX.1 n0 3 (d + 1) (p + 1) (by omega)
      have hkd8 : K p = 24 ∧ d < 8 := ⟨hk, h8⟩
      rw [if_neg d1, e1, rb_go, if_pos hkd8]
      cases hr : sp K V n0 3 (d + 1) (p + 1) with
      | inl q =>
        obtain ⟨p', c'⟩ := q
        rw [hr] at q1 hpr
        obtain ⟨rfl, g2⟩ := q1
        have g3 : rG4 I I1 (d + 1) sz os p' c' := d3.tr g2
        have g4 := g3.dp (dp2 := d)
        have hf2 := hf1.dp (Int32.ofNat d)
        rw [if_neg (by decide), if_pos rfl, if_pos rfl, r_und g3.1.2.1, r_cls (k := 25) (hX.kept hf2) g4.1.1 hpr.2.1 rfl (by omega), sb_l rfl]
        by_cases h25 : K p' = 25
        · rw [if_pos h25, rb_go, rg_pos (Or.inr rfl), if_pos h25]
          exact ⟨1, _, rfl, Or.inr rfl, hf2.tr (r_tk _).1, rfl, g4.tk⟩
        · rw [if_neg h25, rb_go, rg_pos (Or.inl rfl), if_neg h25]
          exact ⟨0, _, rfl, Or.inl rfl, hf2, rfl, g4.1.1⟩
      | inr q =>
        rw [hr] at q1
        obtain ⟨rfl, g2⟩ := q1
        rw [sb_r rfl, if_pos rfl]
        exact ⟨0, I1, rfl, Or.inl rfl, hf1, rfl, g2⟩
    · obtain ⟨d1, d2⟩ := r_de0 (I := I) (G := G) (by rw [hS.2.1, show d = 8 by omega])
      rw [if_pos d1, d2, if_neg (fun z => h8 z.2)]
      exact ⟨0, I, rfl, Or.inl rfl, rfr.rf I, rfl, h9⟩
  · rw [if_pos (r_sg0 (k := 24) (w := (40 : Int32)) hX h9 hp rfl (by omega) (by omega)), if_neg (fun z => hk z.1)]
    exact ⟨0, I, rfl, Or.inl rfl, rfr.rf I, rfl, h9⟩
/-- brackets with two sums -/
theorem r_in1 {n0 : Nat} (hM : rM K V T G n0 3) {d p sz os op : Nat} {I : am_I} (hd : d ≤ 8) (hnd : nd 6 d ≤ n0 + 1) (hX : rX K V T I G) (hS : rS4 I p d sz os) (hp : p ≤ T) (hsz : sz ≤ 2 * p) (hos : os ≤ p) {a : Int32} (ha : a = Int32.ofNat (s_rop op)) (h2 : s_two op = false) : ∃ (v : Int32) (I' : am_I), PG_X14_isTest (n0 + 1) 5 I G a (1 : Int32) = some (v, I', G) ∧ (v = 0 ∨ v = 1) ∧ rfr I I' ∧ rQ I I' d sz os (sb (sp K V (n0 + 1) 6 d p) (fun p' c => .inl (p', c ++ [(op, 0)]))) v := by
  have hT := hX.1.1
  have h9 := hS.1
  rw [PG_X14_isTest_5, sp_6]
  unfold R_X14_isInside_79 sp_pa
  rw [rg_pos (r_q2 h9 (by omega) _)]
  by_cases hk : K p = 24
  · rw [if_neg (r_sgY (k := 24) (w := (40 : Int32)) hX h9 hp rfl hk)]
    by_cases h8 : d < 8
    · obtain ⟨d1, d2, d3⟩ := r_de1 (G := G) hS h8
      have hlt := hX.1.lt hp (by omega)
      have hnd1 : nd 3 (d + 1) ≤ n0 := by rw [nd_6] at hnd; rw [nd_3]; omega
      obtain ⟨v, I1, e1, hv, f1, q1⟩ := hM (d + 1) (p + 1) _ sz os (by omega) hnd1 (hX.kept d2) d3.1 (by omega) (by omega) (by omega) (0 : Int32) (0 : Int32)
      have e1 : PG_X14_isTest n0 3 (g_X14_isDeeper_79 I G) G (0 : Int32) (0 : Int32) = some (v, I1, G) := e1
      have hf1 := d2.tr f1
      have hX1 := hX.kept hf1
      have hpr := sp_pr hX.1 n0 3 (d + 1) (p + 1) (by omega)
      have hkd8 : K p = 24 ∧ d < 8 := ⟨hk, h8⟩
      rw [if_neg d1, e1, rb_go, if_pos hkd8]
      cases hr : sp K V n0 3 (d + 1) (p + 1) with
      | inl q =>
        obtain ⟨p1, c1⟩ := q
        rw [hr] at q1 hpr
        obtain ⟨rfl, g2⟩ := q1
        have g3 : rG4 I I1 (d + 1) sz os p1 c1 := d3.tr g2
        have q2 := hpr.2.1
        have q3 := hpr.2.2.1
        have q4 := hpr.2.2.2
        have q5 := hpr.1
        have q6 := s_nn_le c1
        rw [if_neg (by decide), if_neg (by decide), r_cls (k := 29) hX1 g3.1.1 q2 rfl (by omega), sb_l rfl]
        by_cases h29 : K p1 = 29
        · have hlt1 := hX.1.lt q2 (by omega)
          have g4 := g3.tk (p2 := p1 + 1)
          have hf2 := hf1.tr (r_tk (I := I1) (p1 + 1)).1
          obtain ⟨v2, I2, e2, hv2, f2, q1⟩ := hM (d + 1) (p1 + 1) _ _ _ (by omega) hnd1 (hX.kept hf2) g4.1 (by omega) (by omega) (by omega) (0 : Int32) (0 : Int32)
          have e2 : PG_X14_isTest n0 3 (am_up I1 79 9 (Int32.ofNat (p1 + 1))) G (0 : Int32) (0 : Int32) = some (v2, I2, G) := e2
          have hf3 := hf2.tr f2
          have hpr2 := sp_pr hX.1 n0 3 (d + 1) (p1 + 1) (by omega)
          rw [if_pos h29, rb_go, if_neg (by decide), e2, rb_go, if_pos h29]
          cases hr2 : sp K V n0 3 (d + 1) (p1 + 1) with
          | inl q =>
            obtain ⟨p2, c2⟩ := q
            rw [hr2] at q1 hpr2
            obtain ⟨rfl, g5⟩ := q1
            have g6 : rG4 I I2 (d + 1) sz os p2 (c1 ++ c2) := g4.tr g5
            have g7 := g6.dp (dp2 := d)
            have hf4 := hf3.dp (Int32.ofNat d)
            have w2 := hpr2.2.1
            have w3 := hpr2.2.2.1
            have w4 := hpr2.2.2.2
            have w5 := hpr2.1
            obtain ⟨j1, j2, j3⟩ := r_put (G := G) (op := op) (w := a) g7 hf4 (by rw [s_el_app]; omega) ha h2
            rw [if_neg (by decide), if_neg (by decide), r_und g6.1.2.1, rg_pos j1, r_cls (k := 25) (hX.kept j2) j3.1.1 w2 rfl (by omega), sb_l rfl]
            by_cases h25 : K p2 = 25
            · rw [if_pos h25, rb_go, rg_pos (Or.inr rfl), if_pos h25, sb_l rfl]
              exact ⟨1, _, rfl, Or.inr rfl, j2.tr (r_tk _).1, rfl, j3.tk⟩
            · rw [if_neg h25, rb_go, rg_pos (Or.inl rfl), if_neg h25, sb_r rfl]
              exact ⟨0, _, rfl, Or.inl rfl, j2, rfl, j3.1.1⟩
          | inr q =>
            rw [hr2] at q1
            obtain ⟨rfl, g5⟩ := q1
            rw [sb_r rfl, sb_r rfl, if_pos rfl]
            exact ⟨0, I2, rfl, Or.inl rfl, hf3, rfl, g5⟩
        · rw [if_neg h29, rb_go, if_pos rfl, if_neg h29, sb_r rfl]
          exact ⟨0, I1, rfl, Or.inl rfl, hf1, rfl, g3.1.1⟩
      | inr q =>
        rw [hr] at q1
        obtain ⟨rfl, g2⟩ := q1
        rw [sb_r rfl, sb_r rfl, if_pos rfl]
        exact ⟨0, I1, rfl, Or.inl rfl, hf1, rfl, g2⟩
    · obtain ⟨d1, d2⟩ := r_de0 (I := I) (G := G) (by rw [hS.2.1, show d = 8 by omega])
      rw [if_pos d1, d2, if_neg (fun z => h8 z.2), sb_r rfl]
      exact ⟨0, I, rfl, Or.inl rfl, rfr.rf I, rfl, h9⟩
  · rw [if_pos (r_sg0 (k := 24) (w := (40 : Int32)) hX h9 hp rfl (by omega) (by omega)), if_neg (fun z => hk z.1), sb_r rfl]
    exact ⟨0, I, rfl, Or.inl rfl, rfr.rf I, rfl, h9⟩
/-- a number is put -/
theorem r_num {I : am_I} (hX : rX K V T I G) {p d sz os : Nat} (hS : rS4 I p d sz os) (hp : p < T) (hsz : sz ≤ 2 * p) (hk : K p = 40) : ∃ I' : am_I, rg (q_X14_put_79 I G (32 : Int32)) (rb (R_X14_numberAt_79 (g_X14_put_79 I G (32 : Int32)) G ((g_X14_put_79 I G (32 : Int32)) 79 9)) (fun r15 I15 G15 => rg (q_X14_put_79 I15 G15 r15) (some ((1 : Int32), (am_up (g_X14_put_79 I15 G15 r15) 79 9 (((g_X14_put_79 I15 G15 r15) 79 9) + (1 : Int32))), G15)))) = some ((1 : Int32), I', G) ∧ rfr I I' ∧ rG4 I I' d sz os (p + 1) [(40, V p)] := by
  have hT := hX.1.1
  obtain ⟨J1, hJ1⟩ : ∃ J : am_I, J = g_X14_put_79 I G (32 : Int32) := ⟨_, rfl⟩
  have e1 : J1 = am_up (am_up I 137 sz (32 : Int32)) 123 21 (Int32.ofNat (sz + 1)) := by
    rw [hJ1]
    unfold g_X14_put_79
    rw [hS.2.2.1, n_cl (by omega), n_inc]
  have j9 : J1 79 9 = Int32.ofNat p := by rw [e1, up_row _ _ _ (by omega), up_row _ _ _ (by omega)]; exact hS.1
  have j21 : J1 123 21 = Int32.ofNat (sz + 1) := by rw [e1, am_up_self]
  have eb : ∀ b, b ≠ 137 → b ≠ 123 → J1 b = I b := fun b z1 z2 => by rw [e1, up_row _ _ _ z2, up_row _ _ _ z1]
  obtain ⟨J2, hJ2⟩ : ∃ J : am_I, J = g_X14_put_79 J1 G (Int32.ofNat (V p)) := ⟨_, rfl⟩
  have e2 : J2 = am_up (am_up J1 137 (sz + 1) (Int32.ofNat (V p))) 123 21 (Int32.ofNat (sz + 2)) := by
    rw [hJ2]
    unfold g_X14_put_79
    rw [j21, n_cl (by omega), n_inc]
  have k9 : J2 79 9 = Int32.ofNat p := by rw [e2, up_row _ _ _ (by omega), up_row _ _ _ (by omega)]; exact j9
  have eb2 : ∀ b, b ≠ 137 → b ≠ 123 → J2 b = I b := fun b z1 z2 => by rw [e2, up_row _ _ _ z2, up_row _ _ _ z1, eb b z1 z2]
  rw [rg_pos ⟨by rw [hS.2.2.1]; exact (n_in (by omega)).mpr (by omega), trivial⟩, ← hJ1, j9, hX.2.2 J1 (eb 80 (by omega) (by omega)) (eb 82 (by omega) (by omega)) (eb 83 (by omega) (by omega)) p (by omega) hk, rb_go, rg_pos ⟨by rw [j21]; exact (n_in (by omega)).mpr (by omega), trivial⟩, ← hJ2, k9, n_inc]
  refine ⟨_, rfl, ⟨fun b z1 z2 z3 z4 z5 => by rw [up_row _ _ _ z1, eb2 b z4 z3], fun k z1 _ => by rw [up_in, if_neg z1, eb2 79 (by omega) (by omega)], fun k z1 _ => by rw [up_row _ _ _ (by omega), e2, up_in, if_neg z1, up_row _ _ _ (by omega), e1, up_in, if_neg z1, up_row _ _ _ (by omega)]⟩, ⟨am_up_self _ _ _ _, by rw [up_in, if_neg (by omega), eb2 79 (by omega) (by omega)]; exact hS.2.1, by rw [up_row _ _ _ (by omega), e2, am_up_self]; rfl, by rw [up_row _ _ _ (by omega), e2, up_in, if_neg (by omega), up_row _ _ _ (by omega), e1, up_in, if_neg (by omega), up_row _ _ _ (by omega)]; exact hS.2.2.2⟩, ?_, ?_, ?_⟩
  · rw [up_row _ _ _ (by omega), eb2 84 (by omega) (by omega)]; rfl
  · rw [up_row _ _ _ (by omega), e2, up_row _ _ _ (by omega), up_w1, e1, up_row _ _ _ (by omega), up_w1]; rfl
  · rw [up_row _ _ _ (by omega), eb2 138 (by omega) (by omega)]; rfl
theorem r_va {n0 : Nat} (h3 : rM K V T G n0 3) (h5 : rM K V T G (n0 + 1) 5) : rM K V T G (n0 + 2) 5 := by
  intro d p I sz os hd hnd hX hS hp hsz hos a b
  have hT := hX.1.1
  have h9 := hS.1
  have hq1 := fun w => r_q1 (G := G) (I := I) h9 (by omega) w
  have hq2 := fun w => r_q2 (G := G) (I := I) h9 (by omega) w
  have hq3 := fun w => r_q3 (G := G) (I := I) h9 (by omega) w
  have hkd := r_kd hX h9 hp
  have hnd6 : nd 6 d ≤ n0 + 1 := by rw [nd_5] at hnd; rw [nd_6]; omega
  rw [show rmd 5 = 6 from rfl, PG_X14_isTest_6, sp_5]
  unfold R_X14_isValue_79 sp_va
  rw [rg_pos (r_tq h9 (by omega)), rg_pos (hq1 _)]
  by_cases hk : K p = 40
  · have hlt := hX.1.lt hp (by omega)
    obtain ⟨I1, e1, f1, g1⟩ := r_num hX hS hlt hsz hk
    rw [if_neg (r_isY (k := 40) (w := (41 : Int32)) hX h9 hp rfl hk), e1, if_neg (fun z => by omega), if_pos hk]
    exact ⟨1, I1, rfl, Or.inr rfl, f1, rfl, g1⟩
  rw [if_pos (r_is0 (k := 40) (w := (41 : Int32)) hX h9 hp rfl (by omega) (by omega)), rg_pos (hq1 _)]
  have hk40 := hk
  by_cases hk : K p = 15
  · have hlt := hX.1.lt hp (by omega)
    obtain ⟨j1, j2, j3⟩ := r_put (I := I) (J := I) (G := G) (op := 15) (w := I 81 (I 79 9).toNatClampNeg) (rG4.nil hS rfl rfl rfl) (rfr.rf I) (by simp only [s_el]; omega) (by rw [hkd, hk]; rfl) rfl
    rw [if_neg (r_isY (k := 15) (w := (15 : Int32)) hX h9 hp rfl hk), rg_pos j1, if_neg (fun z => by omega), if_neg hk40, if_pos hk, j3.1.1, n_inc]
    exact ⟨1, _, rfl, Or.inr rfl, j2.tr (r_tk _).1, rfl, j3.tk⟩
  rw [if_pos (r_is0 (k := 15) (w := (15 : Int32)) hX h9 hp rfl (by omega) (by omega)), rg_pos (hq1 _)]
  have hk15 := hk
  by_cases hk : K p = 9
  · have hlt := hX.1.lt hp (by omega)
    obtain ⟨v, I1, e1, hv, f1, g1⟩ := r_nmd (x := (18 : Int32)) hX hS hlt hsz hos hk rfl rfl
    rw [if_neg (r_isY (k := 9) (w := (9 : Int32)) hX h9 hp rfl hk), rg_pos (hq1 _), if_neg (r_isY (k := 9) (w := (9 : Int32)) hX h9 hp rfl hk), e1, rb_go, rg_pos hv, if_neg (fun z => by omega), if_neg hk40, if_neg hk15, if_pos (Or.inl hk), hk]
    exact ⟨v, I1, rfl, hv, f1, g1⟩
  rw [if_pos (r_is0 (k := 9) (w := (9 : Int32)) hX h9 hp rfl (by omega) (by omega)), rg_pos (hq1 _)]
  have hk9 := hk
  by_cases hk : K p = 16
  · have hlt := hX.1.lt hp (by omega)
    obtain ⟨v, I1, e1, hv, f1, g1⟩ := r_nmd (x := (19 : Int32)) hX hS hlt hsz hos hk rfl rfl
    rw [if_neg (r_isY (k := 16) (w := (16 : Int32)) hX h9 hp rfl hk), rg_pos (hq1 _), if_pos (r_is0 (k := 9) (w := (9 : Int32)) hX h9 hp rfl (by omega) (by omega)), rg_pos (hq1 _), if_neg (r_isY (k := 16) (w := (16 : Int32)) hX h9 hp rfl hk), e1, rb_go, rg_pos hv, if_neg (fun z => by omega), if_neg hk40, if_neg hk15, if_pos (Or.inr (Or.inl hk)), hk]
    exact ⟨v, I1, rfl, hv, f1, g1⟩
  rw [if_pos (r_is0 (k := 16) (w := (16 : Int32)) hX h9 hp rfl (by omega) (by omega)), rg_pos (hq1 _)]
  have hk16 := hk
  by_cases hk : K p = 6
  · have hlt := hX.1.lt hp (by omega)
    obtain ⟨v, I1, e1, hv, f1, g1⟩ := r_nmd (x := (20 : Int32)) hX hS hlt hsz hos hk rfl rfl
    rw [if_neg (r_isY (k := 6) (w := (6 : Int32)) hX h9 hp rfl hk), rg_pos (hq1 _), if_pos (r_is0 (k := 9) (w := (9 : Int32)) hX h9 hp rfl (by omega) (by omega)), rg_pos (hq1 _), if_pos (r_is0 (k := 16) (w := (16 : Int32)) hX h9 hp rfl (by omega) (by omega)), e1, rb_go, rg_pos hv, if_neg (fun z => by omega), if_neg hk40, if_neg hk15, if_pos (Or.inr (Or.inr hk)), hk]
    exact ⟨v, I1, rfl, hv, f1, g1⟩
  rw [if_pos (r_is0 (k := 6) (w := (6 : Int32)) hX h9 hp rfl (by omega) (by omega)), rg_pos (hq2 _)]
  have hk6 := hk
  by_cases hk : K p = 31
  · rw [if_neg (r_sgY (k := 31) (w := (45 : Int32)) hX h9 hp rfl hk)]
    by_cases h8 : d < 8
    · obtain ⟨d1, d2, d3⟩ := r_de1 (G := G) hS h8
      have hlt := hX.1.lt hp (by omega)
      have hnd1 : nd 5 (d + 1) ≤ n0 + 1 := by rw [nd_5] at hnd; rw [nd_5]; omega
      obtain ⟨v, I1, e1, hv, f1, q1⟩ := h5 (d + 1) (p + 1) _ sz os (by omega) hnd1 (hX.kept d2) d3.1 (by omega) (by omega) (by omega) (0 : Int32) (0 : Int32)
      have e1 : PG_X14_isTest (n0 + 1) 6 (g_X14_isDeeper_79 I G) G (0 : Int32) (0 : Int32) = some (v, I1, G) := e1
      have hf1 := d2.tr f1
      have hpr := sp_pr hX.1 (n0 + 1) 5 (d + 1) (p + 1) (by omega)
      have hnn : ¬ ((K p = 31 ∨ K p = 24) ∧ 8 ≤ d) := fun z => by omega
      have c4n : ¬ (K p = 9 ∨ K p = 16 ∨ K p = 6) := by omega
      have c5n : ¬ (K p = 17 ∨ K p = 22 ∨ K p = 23) := by omega
      rw [if_neg d1, e1, rb_go, if_neg hnn, if_neg hk40, if_neg hk15, if_neg c4n, if_neg c5n, if_pos hk]
      cases hr : sp K V (n0 + 1) 5 (d + 1) (p + 1) with
      | inl q =>
        obtain ⟨p', c'⟩ := q
        rw [hr] at q1 hpr
        obtain ⟨rfl, g2⟩ := q1
        have g3 : rG4 I I1 (d + 1) sz os p' c' := d3.tr g2
        have g4 := g3.dp (dp2 := d)
        have hf2 := hf1.dp (Int32.ofNat d)
        have q2 := hpr.2.1
        have q4 := hpr.2.2.2
        have q5 := hpr.1
        obtain ⟨j1, j2, j3⟩ := r_put (G := G) (op := 43) (w := (33 : Int32)) g4 hf2 (by omega) rfl rfl
        rw [if_neg (by decide), r_und g3.1.2.1, rg_pos j1, sb_l rfl]
        exact ⟨1, _, rfl, Or.inr rfl, j2, rfl, j3⟩
      | inr q =>
        rw [hr] at q1
        obtain ⟨rfl, g2⟩ := q1
        rw [sb_r rfl, if_pos rfl]
        exact ⟨0, I1, rfl, Or.inl rfl, hf1, rfl, g2⟩
    · obtain ⟨d1, d2⟩ := r_de0 (I := I) (G := G) (by rw [hS.2.1, show d = 8 by omega])
      rw [if_pos d1, d2, if_pos ⟨Or.inl hk, by omega⟩]
      exact ⟨0, I, rfl, Or.inl rfl, rfr.rf I, rfl, h9⟩
  rw [if_pos (r_sg0 (k := 31) (w := (45 : Int32)) hX h9 hp rfl (by omega) (by omega)), rg_pos (hq3 _)]
  have hk31 := hk
  have two : ∀ (op : Nat) (w : Int32), K p = op → w = Int32.ofNat (rk op) → rk op = op → s_rop op = op → s_two op = false → ∃ (v : Int32) (I' : am_I), rb (PG_X14_isTest (n0 + 1) 5 (am_up I 79 9 (Int32.ofNat (p + 1))) G (I 81 (I 79 9).toNatClampNeg) (1 : Int32)) (fun r9 I9 G9 => rg (r9 = 0 ∨ r9 = 1) (some (r9, I9, G9))) = some (v, I', G) ∧ (v = 0 ∨ v = 1) ∧ rfr I I' ∧ rQ I I' d sz os (sb (sp K V (n0 + 1) 6 d (p + 1)) (fun p' c => .inl (p', c ++ [(K p, 0)]))) v := by
    intro op w hk hw hrk hrop h2
    have hlt : p < T := by
      by_cases z : p = T
      · subst z
        have h41 := hX.1.2.2.1
        rcases h41 with h | h <;> (rw [← hk, h] at hrk; exact absurd hrk (by decide))
      · omega
    have g1 : rG4 I (am_up I 79 9 (Int32.ofNat (p + 1))) d sz os (p + 1) [] := (rG4.nil hS rfl rfl rfl).tk
    have f1 := (r_tk (I := I) (p + 1)).1
    obtain ⟨v, I1, e1, hv, f2, q1⟩ := r_in1 (op := op) (a := I 81 (I 79 9).toNatClampNeg) h3 hd hnd6 (hX.kept f1) g1.1 (by omega) (by simp only [s_el]; omega) (by simp only [s_nn]; omega) (by rw [hkd, hk, hrk, hrop]) h2
    rw [e1, rb_go, rg_pos hv, hk]
    refine ⟨v, I1, rfl, hv, f1.tr f2, ?_⟩
    cases hr : sp K V (n0 + 1) 6 d (p + 1) with
    | inl q =>
      obtain ⟨p', c'⟩ := q
      rw [hr, sb_l rfl] at q1
      rw [sb_l rfl]
      exact ⟨q1.1, g1.tr q1.2⟩
    | inr q =>
      rw [hr, sb_r rfl] at q1
      rw [sb_r rfl]
      exact q1
  by_cases hk : K p = 22
  · obtain ⟨u1, u2⟩ := r_eat1 (G := G) h9 (r_isY (k := 22) (w := (22 : Int32)) hX h9 hp rfl hk)
    rw [u1, u2, if_neg (by decide), if_neg (fun z => by omega), if_neg hk40, if_neg hk15, if_neg (by omega), if_pos (Or.inr (Or.inl hk))]
    exact two 22 (22 : Int32) hk rfl rfl rfl rfl
  obtain ⟨u1, u2⟩ := r_eat0 (G := G) (r_is0 (k := 22) (w := (22 : Int32)) hX h9 hp rfl (by omega) (by omega))
  rw [u1, u2, if_pos rfl, rg_pos (hq3 _)]
  have hk22 := hk
  by_cases hk : K p = 23
  · obtain ⟨u1, u2⟩ := r_eat1 (G := G) h9 (r_isY (k := 23) (w := (23 : Int32)) hX h9 hp rfl hk)
    rw [u1, u2, if_neg (by decide), if_neg (fun z => by omega), if_neg hk40, if_neg hk15, if_neg (by omega), if_pos (Or.inr (Or.inr hk))]
    exact two 23 (23 : Int32) hk rfl rfl rfl rfl
  obtain ⟨u1, u2⟩ := r_eat0 (G := G) (r_is0 (k := 23) (w := (23 : Int32)) hX h9 hp rfl (by omega) (by omega))
  rw [u1, u2, if_pos rfl, rg_pos (hq3 _)]
  have hk23 := hk
  by_cases hk : K p = 17
  · obtain ⟨u1, u2⟩ := r_eat1 (G := G) h9 (r_isY (k := 17) (w := (17 : Int32)) hX h9 hp rfl hk)
    rw [u1, u2, if_neg (by decide), if_neg (fun z => by omega), if_neg hk40, if_neg hk15, if_neg (by omega), if_pos (Or.inl hk)]
    exact two 17 (17 : Int32) hk rfl rfl rfl rfl
  obtain ⟨u1, u2⟩ := r_eat0 (G := G) (r_is0 (k := 17) (w := (17 : Int32)) hX h9 hp rfl (by omega) (by omega))
  rw [u1, u2, if_pos rfl]
  obtain ⟨v, I1, e1, hv, f1, q1⟩ := r_in0 h3 hd hnd6 hX hS hp hsz hos (I 81 (I 79 9).toNatClampNeg)
  rw [e1, rb_go, rg_pos hv]
  refine ⟨v, I1, rfl, hv, f1, ?_⟩
  by_cases h24 : K p = 24
  · by_cases h8 : d < 8
    · rw [if_pos ⟨h24, h8⟩, ← sp_st n0 3 (d + 1) (p + 1) (by omega) (by omega) (by rw [nd_6] at hnd6; rw [nd_3]; omega)] at q1
      rw [if_neg (fun z => by omega), if_neg hk40, if_neg hk15, if_neg (by omega), if_neg (by omega), if_neg hk31, if_pos h24]
      exact q1
    · rw [if_neg (fun z => h8 z.2)] at q1
      rw [if_pos ⟨Or.inr h24, by omega⟩]
      exact q1
  · rw [if_neg (fun z => h24 z.1)] at q1
    rw [if_neg (fun z => by omega), if_neg hk40, if_neg hk15, if_neg (by omega), if_neg (by omega), if_neg hk31, if_neg h24]
    exact q1
theorem r_si {n0 : Nat} (h2 : rM K V T G n0 2) (h0 : rM K V T G n0 0) (h3 : rM K V T G n0 3) : rM K V T G (n0 + 1) 2 := by
  intro d p I sz os hd hnd hX hS hp hsz hos a b
  have hT := hX.1.1
  have h9 := hS.1
  have hq1 := fun w => r_q1 (G := G) (I := I) h9 (by omega) w
  have hq2 := fun w => r_q2 (G := G) (I := I) h9 (by omega) w
  rw [show rmd 2 = 2 from rfl, PG_X14_isTest_2, sp_2]
  unfold R_X14_isSingle_79 sp_si
  rw [rg_pos (hq1 _)]
  by_cases hk : K p = 19
  · rw [if_neg (r_isY (k := 19) (w := (19 : Int32)) hX h9 hp rfl hk)]
    by_cases h8 : d < 8
    · obtain ⟨d1, d2, d3⟩ := r_de1 (G := G) hS h8
      have hlt := hX.1.lt hp (by omega)
      have hnd1 : nd 2 (d + 1) ≤ n0 := by rw [nd_2] at hnd; rw [nd_2]; omega
      obtain ⟨v, I1, e1, hv, f1, q1⟩ := h2 (d + 1) (p + 1) _ sz os (by omega) hnd1 (hX.kept d2) d3.1 (by omega) (by omega) (by omega) (0 : Int32) (0 : Int32)
      have e1 : PG_X14_isTest n0 2 (g_X14_isDeeper_79 I G) G (0 : Int32) (0 : Int32) = some (v, I1, G) := e1
      have hf1 := d2.tr f1
      have hpr := sp_pr hX.1 n0 2 (d + 1) (p + 1) (by omega)
      have hnn : ¬ ((K p = 19 ∨ K p = 26) ∧ 8 ≤ d) := fun z => by omega
      rw [if_neg d1, e1, rb_go, if_neg hnn, if_pos hk]
      cases hr : sp K V n0 2 (d + 1) (p + 1) with
      | inl q =>
        obtain ⟨p', c'⟩ := q
        rw [hr] at q1 hpr
        obtain ⟨rfl, g2⟩ := q1
        have g3 : rG4 I I1 (d + 1) sz os p' c' := d3.tr g2
        have g4 := g3.dp (dp2 := d)
        have hf2 := hf1.dp (Int32.ofNat d)
        have q2 := hpr.2.1
        have q4 := hpr.2.2.2
        have q5 := hpr.1
        obtain ⟨j1, j2, j3⟩ := r_put (G := G) (op := 19) (w := (19 : Int32)) g4 hf2 (by omega) rfl rfl
        rw [if_neg (by decide), r_und g3.1.2.1, rg_pos j1, sb_l rfl]
        exact ⟨1, _, rfl, Or.inr rfl, j2, rfl, j3⟩
      | inr q =>
        rw [hr] at q1
        obtain ⟨rfl, g2⟩ := q1
        rw [sb_r rfl, if_pos rfl]
        exact ⟨0, I1, rfl, Or.inl rfl, hf1, rfl, g2⟩
    · obtain ⟨d1, d2⟩ := r_de0 (I := I) (G := G) (by rw [hS.2.1, show d = 8 by omega])
      rw [if_pos d1, d2, if_pos ⟨Or.inl hk, by omega⟩]
      exact ⟨0, I, rfl, Or.inl rfl, rfr.rf I, rfl, h9⟩
  rw [if_pos (r_is0 (k := 19) (w := (19 : Int32)) hX h9 hp rfl (by omega) (by omega)), rg_pos (hq2 _)]
  have hk19 := hk
  by_cases hk : K p = 26
  · rw [if_neg (r_sgY (k := 26) (w := (91 : Int32)) hX h9 hp rfl hk)]
    by_cases h8 : d < 8
    · obtain ⟨d1, d2, d3⟩ := r_de1 (G := G) hS h8
      have hlt := hX.1.lt hp (by omega)
      have hnd1 : nd 0 (d + 1) ≤ n0 := by rw [nd_2] at hnd; rw [nd_0]; omega
      obtain ⟨v, I1, e1, hv, f1, q1⟩ := h0 (d + 1) (p + 1) _ sz os (by omega) hnd1 (hX.kept d2) d3.1 (by omega) (by omega) (by omega) (0 : Int32) (0 : Int32)
      have e1 : PG_X14_isTest n0 0 (g_X14_isDeeper_79 I G) G (0 : Int32) (0 : Int32) = some (v, I1, G) := e1
      have hf1 := d2.tr f1
      have hpr := sp_pr hX.1 n0 0 (d + 1) (p + 1) (by omega)
      have hnn : ¬ ((K p = 19 ∨ K p = 26) ∧ 8 ≤ d) := fun z => by omega
      rw [if_neg d1, e1, rb_go, if_neg hnn, if_neg hk19, if_pos hk]
      cases hr : sp K V n0 0 (d + 1) (p + 1) with
      | inl q =>
        obtain ⟨p', c'⟩ := q
        rw [hr] at q1 hpr
        obtain ⟨rfl, g2⟩ := q1
        have g3 : rG4 I I1 (d + 1) sz os p' c' := d3.tr g2
        have g4 := g3.dp (dp2 := d)
        have hf2 := hf1.dp (Int32.ofNat d)
        rw [if_neg (by decide), r_und g3.1.2.1, r_cls (k := 27) (hX.kept hf2) g4.1.1 hpr.2.1 rfl (by omega), sb_l rfl]
        by_cases h27 : K p' = 27
        · rw [if_pos h27, rb_go, rg_pos (Or.inr rfl), if_pos h27]
          exact ⟨1, _, rfl, Or.inr rfl, hf2.tr (r_tk _).1, rfl, g4.tk⟩
        · rw [if_neg h27, rb_go, rg_pos (Or.inl rfl), if_neg h27]
          exact ⟨0, _, rfl, Or.inl rfl, hf2, rfl, g4.1.1⟩
      | inr q =>
        rw [hr] at q1
        obtain ⟨rfl, g2⟩ := q1
        rw [sb_r rfl, if_pos rfl]
        exact ⟨0, I1, rfl, Or.inl rfl, hf1, rfl, g2⟩
    · obtain ⟨d1, d2⟩ := r_de0 (I := I) (G := G) (by rw [hS.2.1, show d = 8 by omega])
      rw [if_pos d1, d2, if_pos ⟨Or.inr hk, by omega⟩]
      exact ⟨0, I, rfl, Or.inl rfl, rfr.rf I, rfl, h9⟩
  rw [if_pos (r_sg0 (k := 26) (w := (91 : Int32)) hX h9 hp rfl (by omega) (by omega)), rg_pos (hq1 _)]
  have hk26 := hk
  by_cases hk : K p = 18
  · have hlt := hX.1.lt hp (by omega)
    obtain ⟨v, I1, e1, hv, f1, g1⟩ := r_nmd (x := (19 : Int32)) hX hS hlt hsz hos hk rfl rfl
    rw [if_neg (r_isY (k := 18) (w := (18 : Int32)) hX h9 hp rfl hk), e1, rb_go, rg_pos hv, if_neg (fun z => by omega), if_neg hk19, if_neg hk26, if_pos hk]
    exact ⟨v, I1, rfl, hv, f1, g1⟩
  rw [if_pos (r_is0 (k := 18) (w := (18 : Int32)) hX h9 hp rfl (by omega) (by omega)), if_neg (fun z => by omega), if_neg hk19, if_neg hk26, if_neg hk]
  have hnd1 : nd 3 d ≤ n0 := by rw [nd_2] at hnd; rw [nd_3]; omega
  obtain ⟨v, I1, e1, hv, f1, q1⟩ := h3 d p I sz os hd hnd1 hX hS hp hsz hos (0 : Int32) (0 : Int32)
  have e1 : PG_X14_isTest n0 3 I G (0 : Int32) (0 : Int32) = some (v, I1, G) := e1
  have hpr := sp_pr hX.1 n0 3 d p hp
  have hX1 := hX.kept f1
  rw [e1, rb_go]
  cases hr : sp K V n0 3 d p with
  | inr q =>
    rw [hr] at q1
    obtain ⟨rfl, g2⟩ := q1
    rw [sb_r rfl, if_pos rfl]
    exact ⟨0, I1, rfl, Or.inl rfl, f1, rfl, g2⟩
  | inl q =>
    obtain ⟨p1, c1⟩ := q
    rw [hr] at q1 hpr
    obtain ⟨rfl, g2⟩ := q1
    have hX := hX1
    have q2 := hpr.2.1
    have q3 := hpr.2.2.1
    have q4 := hpr.2.2.2
    have q5 := hpr.1
    have q6 := s_nn_le c1
    have h9 := g2.1.1
    have hp := q2
    have hq1 := fun w => r_q1 (G := G) (I := I1) h9 (by omega) w
    have hq2 := fun w => r_q2 (G := G) (I := I1) h9 (by omega) w
    have cmp : ∀ (op : Nat) (w : Int32), K p1 = op → w = Int32.ofNat (s_rop op) → s_two op = false → 34 ≤ op → op ≤ 38 → ∃ (v : Int32) (I' : am_I), rb (PG_X14_isTest n0 3 (am_up I1 79 9 ((I1 79 9) + (1 : Int32))) G (0 : Int32) (0 : Int32)) (fun r2 I2 G2 => (if r2 = 0 then some ((0 : Int32), I2, G2) else rg (q_X14_put_79 I2 G2 w) (some ((1 : Int32), (g_X14_put_79 I2 G2 w), G2)))) = some (v, I', G) ∧ (v = 0 ∨ v = 1) ∧ rfr I I' ∧ rQ I I' d sz os (sb (sp K V n0 3 d (p1 + 1)) (fun p2 c2 => .inl (p2, c1 ++ c2 ++ [(K p1, 0)]))) v := by
      intro op w hk hw h2 ho1 ho2
      have hlt := hX.1.lt q2 (by omega)
      have g3 := g2.tk (p2 := p1 + 1)
      have f2 := f1.tr (r_tk (I := I1) (p1 + 1)).1
      obtain ⟨v, I2, e2, hv, f3, q1⟩ := h3 d (p1 + 1) _ _ _ hd hnd1 (hX.kept (r_tk (I := I1) (p1 + 1)).1) g3.1 (by omega) (by omega) (by omega) (0 : Int32) (0 : Int32)
      have e2 : PG_X14_isTest n0 3 (am_up I1 79 9 (Int32.ofNat (p1 + 1))) G (0 : Int32) (0 : Int32) = some (v, I2, G) := e2
      have hpr2 := sp_pr hX.1 n0 3 d (p1 + 1) (by omega)
      rw [h9, n_inc, e2, rb_go, hk]
      cases hr2 : sp K V n0 3 d (p1 + 1) with
      | inl q =>
        obtain ⟨p2, c2⟩ := q
        rw [hr2] at q1 hpr2
        obtain ⟨rfl, g4⟩ := q1
        have w2 := hpr2.2.1
        have w4 := hpr2.2.2.2
        have w5 := hpr2.1
        obtain ⟨j1, j2, j3⟩ := r_put (G := G) (op := op) (w := w) (g3.tr g4) (f2.tr f3) (by rw [s_el_app]; omega) hw h2
        rw [sb_l rfl, if_neg (by decide), rg_pos j1]
        exact ⟨1, _, rfl, Or.inr rfl, j2, rfl, j3⟩
      | inr q =>
        rw [hr2] at q1
        obtain ⟨rfl, g4⟩ := q1
        rw [sb_r rfl, if_pos rfl]
        exact ⟨0, I2, rfl, Or.inl rfl, f2.tr f3, rfl, g4⟩
    rw [sb_l rfl, if_neg (by decide), rg_pos (hq2 _)]
    by_cases hk : K p1 = 34
    · rw [if_neg (r_sgY (k := 34) (w := (60 : Int32)) hX h9 hp rfl hk), if_neg (by decide), if_pos (by omega)]
      exact cmp 34 (38 : Int32) hk rfl rfl (by omega) (by omega)
    have hk34 := hk
    rw [if_pos (r_sg0 (k := 34) (w := (60 : Int32)) hX h9 hp rfl (by omega) hk), rg_pos (hq2 _)]
    by_cases hk : K p1 = 35
    · rw [if_neg (r_sgY (k := 35) (w := (62 : Int32)) hX h9 hp rfl hk), if_neg (by decide), if_pos (by omega)]
      exact cmp 35 (39 : Int32) hk rfl rfl (by omega) (by omega)
    have hk35 := hk
    rw [if_pos (r_sg0 (k := 35) (w := (62 : Int32)) hX h9 hp rfl (by omega) hk), rg_pos (hq2 _)]
    by_cases hk : K p1 = 36
    · rw [if_neg (r_sgY (k := 36) (w := (61 : Int32)) hX h9 hp rfl hk), if_neg (by decide), if_pos (by omega)]
      exact cmp 36 (42 : Int32) hk rfl rfl (by omega) (by omega)
    have hk36 := hk
    rw [if_pos (r_sg0 (k := 36) (w := (61 : Int32)) hX h9 hp rfl (by omega) hk), rg_pos (hq1 _)]
    by_cases hk : K p1 = 37
    · rw [if_neg (r_isY (k := 37) (w := (300 : Int32)) hX h9 hp rfl hk), if_neg (by decide), if_pos (by omega)]
      exact cmp 37 (43 : Int32) hk rfl rfl (by omega) (by omega)
    have hk37 := hk
    rw [if_pos (r_is0 (k := 37) (w := (300 : Int32)) hX h9 hp rfl (by omega) hk), rg_pos (hq1 _)]
    by_cases hk : K p1 = 38
    · rw [if_neg (r_isY (k := 38) (w := (301 : Int32)) hX h9 hp rfl hk), if_neg (by decide), if_pos (by omega)]
      exact cmp 38 (44 : Int32) hk rfl rfl (by omega) (by omega)
    rw [if_pos (r_is0 (k := 38) (w := (301 : Int32)) hX h9 hp rfl (by omega) hk), if_pos rfl, if_neg (by omega)]
    exact ⟨0, I1, rfl, Or.inl rfl, f1, rfl, h9⟩
theorem r_all : ∀ (n md : Nat), md ≤ 5 → rM K V T G n md := by
  have z0 : ∀ md, md ≤ 5 → rM K V T G 0 md := by
    intro md hm d p I sz os hd hnd
    unfold nd at hnd
    split at hnd
    · omega
    · split at hnd
      · omega
      · split at hnd
        · omega
        · split at hnd
          · omega
          · split at hnd
            · omega
            · split at hnd <;> omega
  have z1 : rM K V T G 1 5 := by
    intro d p I sz os hd hnd
    rw [nd_5] at hnd
    omega
  have key : ∀ n, (∀ md, md ≤ 5 → rM K V T G n md) ∧ ∀ md, md ≤ 5 → rM K V T G (n + 1) md := by
    intro n
    induction n with
    | zero =>
      refine ⟨z0, fun md hm => ?_⟩
      rcases (show md = 0 ∨ md = 1 ∨ md = 2 ∨ md = 3 ∨ md = 4 ∨ md = 5 by omega) with rfl | rfl | rfl | rfl | rfl | rfl
      · exact r_ch0 (z0 1 (by omega))
      · exact r_ch1 (z0 2 (by omega))
      · exact r_si (z0 2 (by omega)) (z0 0 (by omega)) (z0 3 (by omega))
      · exact r_ch3 (z0 4 (by omega))
      · exact r_ch4 (z0 5 (by omega))
      · exact z1
    | succ n ih =>
      obtain ⟨ih0, ih1⟩ := ih
      refine ⟨ih1, fun md hm => ?_⟩
      rcases (show md = 0 ∨ md = 1 ∨ md = 2 ∨ md = 3 ∨ md = 4 ∨ md = 5 by omega) with rfl | rfl | rfl | rfl | rfl | rfl
      · exact r_ch0 (ih1 1 (by omega))
      · exact r_ch1 (ih1 2 (by omega))
      · exact r_si (ih1 2 (by omega)) (ih1 0 (by omega)) (ih1 3 (by omega))
      · exact r_ch3 (ih1 4 (by omega))
      · exact r_ch4 (ih1 5 (by omega))
      · exact r_va (ih0 3 (by omega)) (ih1 5 (by omega))
  exact fun n => (key n).1
end RPC
