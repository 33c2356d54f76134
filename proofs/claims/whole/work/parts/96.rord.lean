/-! the reference's lines of orders -/
section ROL
variable {K V : Nat → Nat} {T : Nat} {G : am_G}
def rfo (I I' : am_I) : Prop := (∀ b, b ≠ 79 → b ≠ 84 → b ≠ 123 → b ≠ 134 → b ≠ 135 → b ≠ 136 → b ≠ 137 → b ≠ 138 → I' b = I b) ∧ (∀ k, k ≠ 9 → k ≠ 10 → I' 79 k = I 79 k) ∧ ∀ k, k ≠ 14 → k ≠ 21 → k ≠ 23 → I' 123 k = I 123 k
theorem rfo.rf (I : am_I) : rfo I I := ⟨fun _ _ _ _ _ _ _ _ _ => rfl, fun _ _ _ => rfl, fun _ _ _ _ => rfl⟩
theorem rfo.tr {I I1 I2 : am_I} (h1 : rfo I I1) (h2 : rfo I1 I2) : rfo I I2 := ⟨fun b a1 a2 a3 a4 a5 a6 a7 a8 => (h2.1 b a1 a2 a3 a4 a5 a6 a7 a8).trans (h1.1 b a1 a2 a3 a4 a5 a6 a7 a8), fun k a1 a2 => (h2.2.1 k a1 a2).trans (h1.2.1 k a1 a2), fun k a1 a2 a3 => (h2.2.2 k a1 a2 a3).trans (h1.2.2 k a1 a2 a3)⟩
theorem rfr.o {I I' : am_I} (h : rfr I I') : rfo I I' := ⟨fun b a1 a2 a3 a4 a5 a6 a7 a8 => h.1 b a1 a2 a3 a7 a8, h.2.1, fun k _ a2 a3 => h.2.2 k a2 a3⟩
theorem rfo.up (I : am_I) {b : Nat} (hb : b = 134 ∨ b = 135 ∨ b = 136) (k : Nat) (x : Int32) : rfo I (am_up I b k x) := ⟨fun b' a1 a2 a3 a4 a5 a6 a7 a8 => up_row _ _ _ (by omega), fun k _ _ => by rw [up_row _ _ _ (by omega)], fun k _ _ _ => by rw [up_row _ _ _ (by omega)]⟩
theorem rX.o {I I' : am_I} (h : rX K V T I G) (hf : rfo I I') : rX K V T I' G := by
  obtain ⟨a, b, c⟩ := h
  refine ⟨a, fun p hp => by rw [hf.1 81 (by omega) (by omega) (by omega) (by omega) (by omega) (by omega) (by omega) (by omega)]; exact b p hp, fun J h1 h2 h3 => c J (h1.trans (hf.1 80 (by omega) (by omega) (by omega) (by omega) (by omega) (by omega) (by omega) (by omega))) (h2.trans (hf.1 82 (by omega) (by omega) (by omega) (by omega) (by omega) (by omega) (by omega) (by omega))) (h3.trans (hf.1 83 (by omega) (by omega) (by omega) (by omega) (by omega) (by omega) (by omega) (by omega)))⟩
/-- what a line of an order leaves -/
def rOL (T : Nat) (I I' : am_I) (sz os no : Nat) (r : sL) (v : Int32) : Prop := match r with
  | .inl (p', (l, some (c1, c2))) => v = 1 ∧ (rS4 I' p' 0 (sz + s_el (c1 ++ c2)) (os + s_nn (c1 ++ c2)) ∧ p' ≤ T) ∧ (I' 84 = s_ov l (I 84) ∧ I' 137 = s_cw sz (c1 ++ c2) (I 137) ∧ I' 138 = s_ow os sz (c1 ++ c2) (I 138)) ∧ I' 123 14 = Int32.ofNat (no + 1) ∧ (I' 134 (min no 20) = Int32.ofNat sz ∧ I' 135 (min no 20) = Int32.ofNat (sz + s_el c1) ∧ I' 136 (min no 20) = Int32.ofNat (sz + s_el c1 + s_el c2)) ∧ ∀ j, j ≠ min no 20 → I' 134 j = I 134 j ∧ I' 135 j = I 135 j ∧ I' 136 j = I 136 j
  | .inl (_, (_, none)) => False
  | .inr q => v = 0 ∧ I' 79 9 = Int32.ofNat q ∧ q ≤ T
theorem ro_F {J : am_I} {m : Nat} (hm : m ≤ 20) (v1 : Int32) (n : Nat) : ∃ I' : am_I, L_X14_isOrderLine_79 (n + 2) 13 J G v1 (Int32.ofNat m) (0 : Int32) = some ((0 : Int32), I', G) ∧ rfo J I' ∧ I' 79 9 = J 79 9 := by
  rw [L_X14_isOrderLine_79_13, rg_pos ((n_in (by omega)).mpr (by omega)), L_X14_isOrderLine_79_14, if_pos rfl]
  exact ⟨_, rfl, rfo.up J (Or.inl rfl) _ _, by rw [up_row _ _ _ (by omega)]⟩
theorem ro_T {I Ib J : am_I} {kd m no p1 sz os n : Nat} {l : List (Nat × Nat)} (hX : rX K V T I G) (hIb : Ib = am_up I 123 14 (Int32.ofNat (no + 1))) (hJ : rSt T Ib J p1 l) (hm : m = min no 20) (h10 : I 79 10 = Int32.ofNat 0) (h21 : I 123 21 = Int32.ofNat sz) (h23 : I 123 23 = Int32.ofNat os) (hsz : sz ≤ 2 * p1) (hos : os ≤ p1) (hkd : kd = 9 ∨ kd = 6 ∨ kd = 12) : ∃ (v : Int32) (I' : am_I), L_X14_isOrderLine_79 (n + 15) 13 J G (Int32.ofNat kd) (Int32.ofNat m) (1 : Int32) = some (v, I', G) ∧ rfo I I' ∧ rOL T I I' sz os no (so2 K V kd p1 l) v := by
  have hT := hX.1.1
  have hp1 := hJ.2.1
  have hm20 : m ≤ 20 := by omega
  have hin : vp_in (Int32.ofNat m) 21 := (n_in (by omega)).mpr (by omega)
  have fb : rfo I Ib := by
    rw [hIb]
    exact ⟨fun b a1 a2 a3 a4 a5 a6 a7 a8 => up_row _ _ _ a3, fun k _ _ => by rw [up_row _ _ _ (by omega)], fun k a1 _ _ => by rw [up_in, if_neg a1]⟩
  have fJ : rfo I J := fb.tr hJ.fr.o
  have b123 : Ib 123 = am_up I 123 14 (Int32.ofNat (no + 1)) 123 := by rw [hIb]
  have j123 : ∀ k, J 123 k = if k = 14 then Int32.ofNat (no + 1) else I 123 k := fun k => by rw [hJ.2.2.2.1 123 (by omega) (by omega), b123, up_in]
  have jr : ∀ b, b ≠ 79 → b ≠ 84 → b ≠ 123 → J b = I b := fun b a1 a2 a3 => by rw [hJ.2.2.2.1 b a1 a2, hIb, up_row _ _ _ a3]
  have j84 : J 84 = s_ov l (I 84) := by rw [hJ.2.2.1, hIb, up_row _ _ _ (by omega)]
  obtain ⟨J1, hJ1⟩ : ∃ J1 : am_I, J1 = am_up J 134 m (Int32.ofNat sz) := ⟨_, rfl⟩
  have f1 : rfo J J1 := by rw [hJ1]; exact rfo.up J (Or.inl rfl) _ _
  have s1 : rS4 J1 p1 0 sz os := ⟨by rw [hJ1, up_row _ _ _ (by omega)]; exact hJ.1, by rw [hJ1, up_row _ _ _ (by omega), hJ.2.2.2.2 10 (by omega), hIb, up_row _ _ _ (by omega)]; exact h10, by rw [hJ1, up_row _ _ _ (by omega), j123, if_neg (by omega)]; exact h21, by rw [hJ1, up_row _ _ _ (by omega), j123, if_neg (by omega)]; exact h23⟩
  have e13 : L_X14_isOrderLine_79 (n + 15) 13 J G (Int32.ofNat kd) (Int32.ofNat m) (1 : Int32) = L_X14_isOrderLine_79 (n + 13) 15 J1 G (Int32.ofNat kd) (Int32.ofNat m) (1 : Int32) := by
    rw [L_X14_isOrderLine_79_13, rg_pos hin, L_X14_isOrderLine_79_14, if_neg (by decide), n_cl (by omega), j123, if_neg (by omega), h21, ← hJ1]
  have hX1 : rX K V T J1 G := (hX.o fJ).o f1
  obtain ⟨v, J2, e2, hv, g2, q2⟩ := r_all GDN 3 (by omega) 0 p1 J1 sz os (by omega) (by show 36 ≤ 40; omega) hX1 s1 hp1 hsz hos (0 : Int32) (0 : Int32)
  have e2 : PG_X14_isTest GDN 3 J1 G (0 : Int32) (0 : Int32) = some (v, J2, G) := e2
  have hpr := sp_pr hX.1 GDN 3 0 p1 hp1
  rw [e13, L_X14_isOrderLine_79_15, e2, rb_go]
  have f2 : rfo I J2 := (fJ.tr f1).tr g2.o
  unfold so2
  cases hr : sp K V GDN 3 0 p1 with
  | inr q =>
    rw [hr] at q2 hpr
    obtain ⟨rfl, q9⟩ := q2
    rw [if_pos rfl]
    exact ⟨0, J2, rfl, f2, rfl, q9, hpr.2⟩
  | inl z =>
    obtain ⟨p2, c1⟩ := z
    rw [hr] at q2 hpr
    obtain ⟨rfl, ⟨s2, a84, a137, a138⟩⟩ := q2
    obtain ⟨w1', w2, w3, w4⟩ := hpr
    have hnn := s_nn_le c1
    obtain ⟨J3, hJ3⟩ : ∃ J3 : am_I, J3 = am_up (am_up J2 135 m (Int32.ofNat (sz + s_el c1))) 136 m (Int32.ofNat (sz + s_el c1)) := ⟨_, rfl⟩
    have f3 : rfo J2 J3 := by rw [hJ3]; exact (rfo.up J2 (Or.inr (Or.inl rfl)) _ _).tr (rfo.up _ (Or.inr (Or.inr rfl)) _ _)
    have j3b : ∀ b, b ≠ 135 → b ≠ 136 → J3 b = J2 b := fun b a1 a2 => by rw [hJ3, up_row _ _ _ a2, up_row _ _ _ a1]
    have s3 : rS4 J3 p2 0 (sz + s_el c1) (os + s_nn c1) := ⟨by rw [j3b 79 (by omega) (by omega)]; exact s2.1, by rw [j3b 79 (by omega) (by omega)]; exact s2.2.1, by rw [j3b 123 (by omega) (by omega)]; exact s2.2.2.1, by rw [j3b 123 (by omega) (by omega)]; exact s2.2.2.2⟩
    have hX3 : rX K V T J3 G := (hX.o f2).o f3
    have j1b : ∀ b, b ≠ 134 → J1 b = J b := fun b a => by rw [hJ1, up_row _ _ _ a]
    have g2b : ∀ b, b = 134 ∨ b = 135 ∨ b = 136 → J2 b = J1 b := fun b hb => g2.1 b (by omega) (by omega) (by omega) (by omega) (by omega)
    have x14 : J3 123 14 = Int32.ofNat (no + 1) := by rw [j3b 123 (by omega) (by omega), g2.2.2 14 (by omega) (by omega), j1b 123 (by omega), j123, if_pos rfl]
    have x84 : J3 84 = s_ov (l ++ s_im c1) (I 84) := by rw [j3b 84 (by omega) (by omega), a84, j1b 84 (by omega), j84, s_ov_app]
    have x137 : J3 137 = s_cw sz c1 (I 137) := by rw [j3b 137 (by omega) (by omega), a137, j1b 137 (by omega), jr 137 (by omega) (by omega) (by omega)]
    have x138 : J3 138 = s_ow os sz c1 (I 138) := by rw [j3b 138 (by omega) (by omega), a138, j1b 138 (by omega), jr 138 (by omega) (by omega) (by omega)]
    have x134 : ∀ j, J3 134 j = if j = m then Int32.ofNat sz else I 134 j := fun j => by rw [j3b 134 (by omega) (by omega), g2b 134 (Or.inl rfl), hJ1, up_in, jr 134 (by omega) (by omega) (by omega)]
    have x135 : ∀ j, J3 135 j = if j = m then Int32.ofNat (sz + s_el c1) else I 135 j := fun j => by rw [hJ3, up_row _ _ _ (by omega), up_in, g2b 135 (Or.inr (Or.inl rfl)), j1b 135 (by omega), jr 135 (by omega) (by omega) (by omega)]
    have x136 : ∀ j, J3 136 j = if j = m then Int32.ofNat (sz + s_el c1) else I 136 j := fun j => by rw [hJ3, up_in, up_row _ _ _ (by omega), g2b 136 (Or.inr (Or.inr rfl)), j1b 136 (by omega), jr 136 (by omega) (by omega) (by omega)]
    have e16 : L_X14_isOrderLine_79 (n + 12) 16 J2 G (Int32.ofNat kd) (Int32.ofNat m) (1 : Int32) = L_X14_isOrderLine_79 (n + 10) 18 J3 G (Int32.ofNat kd) (Int32.ofNat m) (1 : Int32) := by
      rw [L_X14_isOrderLine_79_16, rg_pos hin, L_X14_isOrderLine_79_17, rg_pos hin, n_cl (by omega), up_row _ _ _ (show (123 : Nat) ≠ 135 by omega), s2.2.2.1, ← hJ3]
    rw [if_neg (by decide), e16, L_X14_isOrderLine_79_18]
    -- what stands behind WHEN
    have tstY : K p2 = 14 → ∀ n : Nat, ∃ (v : Int32) (I' : am_I), L_X14_isOrderLine_79 (n + 5) 20 J3 G (Int32.ofNat kd) (Int32.ofNat m) (1 : Int32) = some (v, I', G) ∧ rfo I I' ∧ rOL T I I' sz os no (match sp K V GDN 0 0 (p2 + 1) with
      | .inr q => .inr q
      | .inl (p3, c2) => .inl (p3, (l ++ s_im c1 ++ s_im c2, some (c1, c2)))) v := by
      intro h14 n
      rw [L_X14_isOrderLine_79_20, rg_pos (r_q3 s3.1 (by omega) _)]
      obtain ⟨k1, k2⟩ := r_eat1 (w := (14 : Int32)) s3.1 (r_isY (k := 14) hX3 s3.1 w2 rfl h14)
      have hlt := hX.1.lt w2 (by omega)
      obtain ⟨t1, t2⟩ := r_tk (I := J3) (p2 + 1)
      have s4 : rS4 (am_up J3 79 9 (Int32.ofNat (p2 + 1))) (p2 + 1) 0 (sz + s_el c1) (os + s_nn c1) := ⟨t2, by rw [up_in, if_neg (by omega)]; exact s3.2.1, by rw [up_row _ _ _ (by omega)]; exact s3.2.2.1, by rw [up_row _ _ _ (by omega)]; exact s3.2.2.2⟩
      obtain ⟨v, J4, e4, hv4, g4, q4⟩ := r_all GDN 0 (by omega) 0 (p2 + 1) _ _ _ (by omega) (by show 39 ≤ 40; omega) (hX3.kept t1) s4 (by omega) (by omega) (by omega) (0 : Int32) (0 : Int32)
      have e4 : PG_X14_isTest GDN 0 (am_up J3 79 9 (Int32.ofNat (p2 + 1))) G (0 : Int32) (0 : Int32) = some (v, J4, G) := e4
      have hpr2 := sp_pr hX.1 GDN 0 0 (p2 + 1) (by omega)
      have f4 : rfo I J4 := ((f2.tr f3).tr t1.o).tr g4.o
      rw [k1, k2, if_neg (by decide), L_X14_isOrderLine_79_21, e4, rb_go]
      cases hr2 : sp K V GDN 0 0 (p2 + 1) with
      | inr q =>
        rw [hr2] at q4 hpr2
        obtain ⟨rfl, q9⟩ := q4
        rw [if_pos rfl]
        exact ⟨0, J4, rfl, f4, rfl, q9, hpr2.2⟩
      | inl z =>
        obtain ⟨p3, c2⟩ := z
        rw [hr2] at q4 hpr2
        obtain ⟨rfl, ⟨s5, b84, b137, b138⟩⟩ := q4
        have hy : ∀ b, b ≠ 79 → am_up J3 79 9 (Int32.ofNat (p2 + 1)) b = J3 b := fun b hb => up_row _ _ _ hb
        have g4b : ∀ b, b = 134 ∨ b = 135 ∨ b = 136 → J4 b = J3 b := fun b hb => by rw [g4.1 b (by omega) (by omega) (by omega) (by omega) (by omega), hy b (by omega)]
        rw [if_neg (by decide), L_X14_isOrderLine_79_22, rg_pos hin, n_cl (by omega), s5.2.2.1]
        refine ⟨1, _, rfl, f4.tr (rfo.up J4 (Or.inr (Or.inr rfl)) _ _), rfl, ⟨⟨by rw [up_row _ _ _ (by omega)]; exact s5.1, by rw [up_row _ _ _ (by omega)]; exact s5.2.1, by rw [up_row _ _ _ (by omega), s_el_app, ← Nat.add_assoc]; exact s5.2.2.1, by rw [up_row _ _ _ (by omega), s_nn_app, ← Nat.add_assoc]; exact s5.2.2.2⟩, hpr2.2.1⟩, ⟨?_, ?_, ?_⟩, ?_, ⟨?_, ?_, ?_⟩, fun j hj => ⟨?_, ?_, ?_⟩⟩
        · rw [up_row _ _ _ (by omega), b84, hy 84 (by omega), x84, ← s_ov_app]
        · rw [up_row _ _ _ (by omega), b137, hy 137 (by omega), x137, ← s_cw_app]
        · rw [up_row _ _ _ (by omega), b138, hy 138 (by omega), x138, ← s_ow_app]
        · rw [up_row _ _ _ (by omega), g4.2.2 14 (by omega) (by omega), hy 123 (by omega), x14]
        · rw [up_row _ _ _ (by omega), g4b 134 (Or.inl rfl), x134, if_pos hm.symm]
        · rw [up_row _ _ _ (by omega), g4b 135 (Or.inr (Or.inl rfl)), x135, if_pos hm.symm]
        · rw [← hm, am_up_self]
        · rw [up_row _ _ _ (by omega), g4b 134 (Or.inl rfl), x134, if_neg (by rw [hm]; exact hj)]
        · rw [up_row _ _ _ (by omega), g4b 135 (Or.inr (Or.inl rfl)), x135, if_neg (by rw [hm]; exact hj)]
        · rw [up_in, if_neg (by rw [hm]; exact hj), g4b 136 (Or.inr (Or.inr rfl)), x136, if_neg (by rw [hm]; exact hj)]
    have tstN : ¬ K p2 = 14 → ∀ n : Nat, ∃ (v : Int32) (I' : am_I), L_X14_isOrderLine_79 (n + 5) 20 J3 G (Int32.ofNat kd) (Int32.ofNat m) (1 : Int32) = some (v, I', G) ∧ rfo I I' ∧ rOL T I I' sz os no (.inr p2) v := by
      intro h14 n
      rw [L_X14_isOrderLine_79_20, rg_pos (r_q3 s3.1 (by omega) _)]
      obtain ⟨k1, k2⟩ := r_eat0 (I := J3) (w := (14 : Int32)) (r_is0 (k := 14) hX3 s3.1 w2 rfl (by omega) h14)
      rw [k1, k2, if_pos rfl]
      exact ⟨0, J3, rfl, f2.tr f3, rfl, s3.1, w2⟩
    by_cases h12 : kd = 12
    · rw [if_pos (show Int32.ofNat kd = (12 : Int32) by rw [h12]; rfl), L_X14_isOrderLine_79_19, rg_pos (r_q1 s3.1 (by omega) _)]
      by_cases h14 : K p2 = 14
      · rw [if_neg (r_isY (k := 14) (w := (14 : Int32)) hX3 s3.1 w2 rfl h14)]
        obtain ⟨v, I', t1, t2, t3⟩ := tstY h14 (n + 3)
        refine ⟨v, I', t1, t2, ?_⟩
        dsimp only
        rw [if_pos h14]
        exact t3
      · rw [if_pos (r_is0 (k := 14) (w := (14 : Int32)) hX3 s3.1 w2 rfl (by omega) h14)]
        refine ⟨1, J3, rfl, f2.tr f3, ?_⟩
        dsimp only
        rw [if_neg h14, if_pos h12]
        refine ⟨rfl, ⟨by rw [List.append_nil]; exact s3, w2⟩, ⟨x84, by rw [List.append_nil]; exact x137, by rw [List.append_nil]; exact x138⟩, x14, ⟨by rw [x134, if_pos hm.symm], by rw [x135, if_pos hm.symm], by rw [x136, if_pos hm.symm]; rfl⟩, fun j hj => ⟨by rw [x134, if_neg (by rw [hm]; exact hj)], by rw [x135, if_neg (by rw [hm]; exact hj)], by rw [x136, if_neg (by rw [hm]; exact hj)]⟩⟩
    · rw [if_neg (show ¬ Int32.ofNat kd = (12 : Int32) from fun z => h12 ((n_eq (b := 12) (by omega) (by omega)).mp z))]
      by_cases h14 : K p2 = 14
      · obtain ⟨v, I', t1, t2, t3⟩ := tstY h14 (n + 4)
        refine ⟨v, I', t1, t2, ?_⟩
        dsimp only
        rw [if_pos h14]
        exact t3
      · obtain ⟨v, I', t1, t2, t3⟩ := tstN h14 (n + 4)
        refine ⟨v, I', t1, t2, ?_⟩
        dsimp only
        rw [if_neg h14, if_neg h12]
        exact t3
theorem r_as {I J : am_I} (hX : rX K V T I G) {p k r : Nat} {l : List (Nat × Nat)} {w x : Int32} (h : rSt T I J p l) (hw : w = Int32.ofNat (rk k)) (hk : k ≤ 40) (hx : x = Int32.ofNat r) : (K p = k → ∃ J' : am_I, R_X14_eatAs_79 J G w x = some ((1 : Int32), J', G) ∧ rSt T I J' (p + 1) (l ++ [(r, p)])) ∧ (¬ K p = k → ∃ J' : am_I, R_X14_eatAs_79 J G w x = some ((0 : Int32), J', G) ∧ rSt T I J' p (l ++ [(r, p)])) := by
  have hT := hX.1.1
  have hp := h.2.1
  have e9 := h.1
  have hXJ := hX.kept h.fr
  obtain ⟨J1, hJ1⟩ : ∃ J1 : am_I, J1 = am_up J 84 (J 79 9).toNatClampNeg x := ⟨_, rfl⟩
  have e1 : J1 = am_up J 84 p (Int32.ofNat r) := by rw [hJ1, e9, n_cl (by omega), hx]
  have j9 : J1 79 9 = Int32.ofNat p := by rw [e1, up_row _ _ _ (by omega)]; exact e9
  have hX1 : rX K V T J1 G := hXJ.kept ⟨fun b z1 z2 _ _ _ => by rw [e1, up_row _ _ _ z2], fun k _ _ => by rw [e1, up_row _ _ _ (by omega)], fun k _ _ => by rw [e1, up_row _ _ _ (by omega)]⟩
  have s1 : rSt T I J1 p (l ++ [(r, p)]) := ⟨j9, hp, by rw [e1, up_w1, s_ov_1, h.2.2.1], fun b z1 z2 => by rw [e1, up_row _ _ _ z2]; exact h.2.2.2.1 b z1 z2, fun k z => by rw [e1, up_row _ _ _ (by omega)]; exact h.2.2.2.2 k z⟩
  unfold R_X14_eatAs_79
  rw [rg_pos (r_tq e9 (by omega)), ← hJ1, rg_pos (r_q3 j9 (by omega) _)]
  refine ⟨fun hkp => ?_, fun hkp => ?_⟩
  · obtain ⟨f1, f2⟩ := r_eat1 j9 (r_isY hX1 j9 hp hw hkp)
    have hlt := hX.1.lt hp (by omega)
    rw [f1, f2, rg_pos (Or.inr rfl)]
    exact ⟨_, rfl, am_up_self _ _ _ _, by omega, by rw [up_row _ _ _ (by omega)]; exact s1.2.2.1, fun b z1 z2 => by rw [up_row _ _ _ z1]; exact s1.2.2.2.1 b z1 z2, fun k z => by rw [up_in, if_neg z]; exact s1.2.2.2.2 k z⟩
  · obtain ⟨f1, f2⟩ := r_eat0 (r_is0 hX1 j9 hp hw (by omega) hkp)
    rw [f1, f2, rg_pos (Or.inl rfl)]
    exact ⟨_, rfl, s1⟩
/-- the whole line -/
theorem r_lord {I : am_I} {p kd no sz os : Nat} (hX : rX K V T I G) (h9 : I 79 9 = Int32.ofNat p) (hp : p < T) (hk : K p = kd) (hkd : kd = 9 ∨ kd = 6 ∨ kd = 12) (h10 : I 79 10 = Int32.ofNat 0) (h14 : I 123 14 = Int32.ofNat no) (hno : no ≤ p) (h21 : I 123 21 = Int32.ofNat sz) (h23 : I 123 23 = Int32.ofNat os) (hsz : sz ≤ 2 * p) (hos : os ≤ p) : ∃ (v : Int32) (I' : am_I), R_X14_isOrderLine_79 I G = some (v, I', G) ∧ rfo I I' ∧ rOL T I I' sz os no (so1 K V kd (pts K (.inl (p + 1, [(14, p)])) (hpat kd))) v := by
  have hT := hX.1.1
  obtain ⟨Ib, hIb⟩ : ∃ J : am_I, J = am_up I 123 14 (Int32.ofNat (no + 1)) := ⟨_, rfl⟩
  obtain ⟨m, hm⟩ : ∃ m, m = min no 20 := ⟨_, rfl⟩
  have hm20 : m ≤ 20 := by omega
  have fb : rfo I Ib := by
    rw [hIb]
    exact ⟨fun b a1 a2 a3 a4 a5 a6 a7 a8 => up_row _ _ _ a3, fun k _ _ => by rw [up_row _ _ _ (by omega)], fun k a1 _ _ => by rw [up_in, if_neg a1]⟩
  have hXb := hX.o fb
  obtain ⟨J0, hJ0⟩ : ∃ J : am_I, J = am_up (am_up (am_up I 84 p (14 : Int32)) 79 9 (Int32.ofNat (p + 1))) 123 14 (Int32.ofNat (no + 1)) := ⟨_, rfl⟩
  have s0 : rSt T Ib J0 (p + 1) [(14, p)] := by
    rw [hJ0, hIb]
    refine ⟨by rw [up_row _ _ _ (by omega), am_up_self], by omega, ?_, fun b a1 a2 => ?_, fun k a => ?_⟩
    · rw [up_row _ _ _ (show (84 : Nat) ≠ 123 by omega), up_row _ _ _ (show (84 : Nat) ≠ 79 by omega), up_w1, up_row _ _ _ (show (84 : Nat) ≠ 123 by omega)]; rfl
    · by_cases hb : b = 123
      · subst hb
        funext j
        rw [up_in, up_in, up_row _ _ _ a1, up_row _ _ _ a2]
      · rw [up_row _ _ _ hb, up_row _ _ _ a1, up_row _ _ _ a2, up_row _ _ _ hb]
    · rw [up_row _ _ _ (by omega), up_in, if_neg a, up_row _ _ _ (by omega), up_row _ _ _ (by omega)]
  obtain ⟨n0, hn0⟩ : ∃ n, FU = n + 50 := ⟨FU - 50, by unfold FU; omega⟩
  have ek : I 81 (I 79 9).toNatClampNeg = Int32.ofNat kd := by rw [r_kd hX h9 (by omega), hk]; rcases hkd with rfl | rfl | rfl <;> rfl
  have e0 : R_X14_isOrderLine_79 I G = L_X14_isOrderLine_79 FU 0 I G (Int32.ofNat kd) 0 0 := by
    unfold R_X14_isOrderLine_79
    rw [rg_pos (r_tq h9 (by omega)), ek]
    rcases hkd with rfl | rfl | rfl
    · rw [if_pos (show Int32.ofNat 9 = (9 : Int32) from rfl)]
    · rw [if_neg (show ¬ Int32.ofNat 6 = (9 : Int32) by decide), if_neg (show ¬ Int32.ofNat 6 = (12 : Int32) by decide), if_pos (show Int32.ofNat 6 = (6 : Int32) from rfl)]
    · rw [if_neg (show ¬ Int32.ofNat 12 = (9 : Int32) by decide), if_pos (show Int32.ofNat 12 = (12 : Int32) from rfl)]
  have em : (if (20 : Int32) < Int32.ofNat no then (20 : Int32) else Int32.ofNat no) = Int32.ofNat m := by
    by_cases h : 20 < no
    · rw [if_pos (show (20 : Int32) < Int32.ofNat no from (n_lt (a := 20) (by omega) (by omega)).mpr h), hm, Nat.min_eq_right (by omega)]
      rfl
    · rw [if_neg (show ¬ (20 : Int32) < Int32.ofNat no from fun z => h ((n_lt (a := 20) (by omega) (by omega)).mp z)), hm, Nat.min_eq_left (by omega)]
  have e4 : R_X14_isOrderLine_79 I G = L_X14_isOrderLine_79 (n0 + 46) 4 J0 G (Int32.ofNat kd) (Int32.ofNat m) 0 := by
    rw [e0, hn0, L_X14_isOrderLine_79_0, rg_pos (r_tq h9 (by omega)), L_X14_isOrderLine_79_1, L_X14_isOrderLine_79_2, L_X14_isOrderLine_79_3]
    have i14 : am_up (am_up I 84 (I 79 9).toNatClampNeg (14 : Int32)) 79 9 ((am_up I 84 (I 79 9).toNatClampNeg (14 : Int32)) 79 9 + (1 : Int32)) 123 14 = Int32.ofNat no := by
      rw [up_row _ _ _ (by omega), up_row _ _ _ (by omega)]; exact h14
    rw [i14, em, n_inc, up_row _ _ _ (show (79 : Nat) ≠ 84 by omega), h9, n_inc, n_cl (by omega), ← hJ0]
  have fl : ∀ (J : am_I) (q : Nat) (n : Nat), J 79 9 = Int32.ofNat q → q ≤ T → (∀ b, b ≠ 79 → b ≠ 84 → J b = Ib b) → (∀ k, k ≠ 9 → J 79 k = Ib 79 k) → ∃ (v : Int32) (I' : am_I), L_X14_isOrderLine_79 (n + 2) 13 J G (Int32.ofNat kd) (Int32.ofNat m) (0 : Int32) = some (v, I', G) ∧ rfo I I' ∧ rOL T I I' sz os no (.inr q) v := by
    intro J q n j9 hq jb jk
    obtain ⟨I', a1, a2, a3⟩ := ro_F (G := G) (J := J) hm20 (Int32.ofNat kd) n
    exact ⟨0, I', a1, (fb.tr ⟨fun b b1 b2 b3 b4 b5 b6 b7 b8 => jb b b1 b2, fun k k1 k2 => jk k k1, fun k _ _ _ => by rw [jb 123 (by omega) (by omega)]⟩).tr a2, rfl, a3.trans j9, hq⟩
  have ok : ∀ (J : am_I) (p1 : Nat) (l : List (Nat × Nat)) (n : Nat), rSt T Ib J p1 l → p ≤ p1 → ∃ (v : Int32) (I' : am_I), L_X14_isOrderLine_79 (n + 15) 13 J G (Int32.ofNat kd) (Int32.ofNat m) (1 : Int32) = some (v, I', G) ∧ rfo I I' ∧ rOL T I I' sz os no (so2 K V kd p1 l) v := fun J p1 l n hs hpp => ro_T hX hIb hs hm h10 h21 h23 (by omega) (by omega) hkd
  rw [e4, L_X14_isOrderLine_79_4]
  rcases hkd with rfl | rfl | rfl
  · rw [if_neg (show ¬ Int32.ofNat 9 = (12 : Int32) by decide), L_X14_isOrderLine_79_9, if_pos (show Int32.ofNat 9 = (9 : Int32) from rfl)]
    show ∃ (v : Int32) (I' : am_I), _ ∧ _ ∧ rOL T I I' sz os no (so1 K V 9 (stp K (stp K (.inl (p + 1, [(14, p)])) (39, 15)) (13, 0))) v
    obtain ⟨w2, w3⟩ := r_as (k := 39) (r := 15) (w := (40 : Int32)) (x := (15 : Int32)) hXb s0 rfl (by omega) rfl
    by_cases hw : K (p + 1) = 39
    · obtain ⟨J1, a1, a2⟩ := w2 hw
      have ha2 := a2.2.1
      rw [a1, rb_go, if_neg (by decide), stp_y (mk_y hw (by omega)), if_neg (by omega), L_X14_isOrderLine_79_10, rg_pos (r_q3 a2.1 (by omega) _)]
      have hXa := hXb.kept a2.fr
      by_cases h1 : K (p + 1 + 1) = 13
      · obtain ⟨k1, k2⟩ := r_eat1 (w := (13 : Int32)) a2.1 (r_isY (k := 13) hXa a2.1 a2.2.1 rfl h1)
        have hlt := hX.1.lt a2.2.1 (by omega)
        rw [k1, k2, if_neg (by decide), L_X14_isOrderLine_79_11, stp_y (mk_y h1 (by omega)), if_pos rfl]
        exact ok _ _ _ _ ⟨am_up_self _ _ _ _, by omega, by rw [up_row _ _ _ (by omega)]; exact a2.2.2.1, fun b z1 z2 => by rw [up_row _ _ _ z1]; exact a2.2.2.2.1 b z1 z2, fun k z => by rw [up_in, if_neg z]; exact a2.2.2.2.2 k z⟩ (by omega)
      · obtain ⟨k1, k2⟩ := r_eat0 (w := (13 : Int32)) (r_is0 (k := 13) hXa a2.1 a2.2.1 rfl (by omega) h1)
        rw [k1, k2, if_pos rfl, L_X14_isOrderLine_79_12, stp_n (mk_n h1 (by omega))]
        exact fl _ _ _ a2.1 a2.2.1 a2.2.2.2.1 a2.2.2.2.2
    · obtain ⟨J1, a1, a2⟩ := w3 hw
      rw [a1, rb_go, if_pos rfl, stp_n (mk_n hw (by omega)), L_X14_isOrderLine_79_12]
      exact fl _ _ _ a2.1 a2.2.1 a2.2.2.2.1 a2.2.2.2.2
  · rw [if_neg (show ¬ Int32.ofNat 6 = (12 : Int32) by decide), L_X14_isOrderLine_79_9, if_neg (show ¬ Int32.ofNat 6 = (9 : Int32) by decide)]
    show ∃ (v : Int32) (I' : am_I), _ ∧ _ ∧ rOL T I I' sz os no (so1 K V 6 (stp K (stp K (.inl (p + 1, [(14, p)])) (39, 16)) (13, 0))) v
    obtain ⟨w2, w3⟩ := r_as (k := 39) (r := 16) (w := (40 : Int32)) (x := (16 : Int32)) hXb s0 rfl (by omega) rfl
    by_cases hw : K (p + 1) = 39
    · obtain ⟨J1, a1, a2⟩ := w2 hw
      have ha2 := a2.2.1
      rw [a1, rb_go, if_neg (by decide), stp_y (mk_y hw (by omega)), if_neg (by omega), L_X14_isOrderLine_79_10, rg_pos (r_q3 a2.1 (by omega) _)]
      have hXa := hXb.kept a2.fr
      by_cases h1 : K (p + 1 + 1) = 13
      · obtain ⟨k1, k2⟩ := r_eat1 (w := (13 : Int32)) a2.1 (r_isY (k := 13) hXa a2.1 a2.2.1 rfl h1)
        have hlt := hX.1.lt a2.2.1 (by omega)
        rw [k1, k2, if_neg (by decide), L_X14_isOrderLine_79_11, stp_y (mk_y h1 (by omega)), if_pos rfl]
        exact ok _ _ _ _ ⟨am_up_self _ _ _ _, by omega, by rw [up_row _ _ _ (by omega)]; exact a2.2.2.1, fun b z1 z2 => by rw [up_row _ _ _ z1]; exact a2.2.2.2.1 b z1 z2, fun k z => by rw [up_in, if_neg z]; exact a2.2.2.2.2 k z⟩ (by omega)
      · obtain ⟨k1, k2⟩ := r_eat0 (w := (13 : Int32)) (r_is0 (k := 13) hXa a2.1 a2.2.1 rfl (by omega) h1)
        rw [k1, k2, if_pos rfl, L_X14_isOrderLine_79_12, stp_n (mk_n h1 (by omega))]
        exact fl _ _ _ a2.1 a2.2.1 a2.2.2.2.1 a2.2.2.2.2
    · obtain ⟨J1, a1, a2⟩ := w3 hw
      rw [a1, rb_go, if_pos rfl, stp_n (mk_n hw (by omega)), L_X14_isOrderLine_79_12]
      exact fl _ _ _ a2.1 a2.2.1 a2.2.2.2.1 a2.2.2.2.2
  · rw [if_pos (show Int32.ofNat 12 = (12 : Int32) from rfl), L_X14_isOrderLine_79_5]
    obtain ⟨w1', w2, w3⟩ := r_way (r := 17) (x := (17 : Int32)) hXb s0 rfl
    rw [rg_pos w1']
    show ∃ (v : Int32) (I' : am_I), _ ∧ _ ∧ rOL T I I' sz os no (so1 K V 12 (stp K (stp K (.inl (p + 1, [(14, p)])) (100, 17)) (1, 0))) v
    by_cases hw : K (p + 1) = 3 ∨ K (p + 1) = 4
    · obtain ⟨a1, _, a2⟩ := w2 hw
      have ha2 := a2.2.1
      rw [if_neg a1, stp_y (by rw [if_pos rfl]; exact hw), if_neg (by omega), L_X14_isOrderLine_79_6, rg_pos (r_q3 a2.1 (by omega) _)]
      have hXa := hXb.kept a2.fr
      by_cases h1 : K (p + 1 + 1) = 1
      · obtain ⟨k1, k2⟩ := r_eat1 (w := (1 : Int32)) a2.1 (r_isY (k := 1) hXa a2.1 a2.2.1 rfl h1)
        have hlt := hX.1.lt a2.2.1 (by omega)
        rw [k1, k2, if_neg (by decide), L_X14_isOrderLine_79_7, stp_y (mk_y h1 (by omega)), if_pos rfl]
        exact ok _ _ _ _ ⟨am_up_self _ _ _ _, by omega, by rw [up_row _ _ _ (by omega)]; exact a2.2.2.1, fun b z1 z2 => by rw [up_row _ _ _ z1]; exact a2.2.2.2.1 b z1 z2, fun k z => by rw [up_in, if_neg z]; exact a2.2.2.2.2 k z⟩ (by omega)
      · obtain ⟨k1, k2⟩ := r_eat0 (w := (1 : Int32)) (r_is0 (k := 1) hXa a2.1 a2.2.1 rfl (by omega) h1)
        rw [k1, k2, if_pos rfl, L_X14_isOrderLine_79_8, stp_n (mk_n h1 (by omega))]
        exact fl _ _ _ a2.1 a2.2.1 a2.2.2.2.1 a2.2.2.2.2
    · obtain ⟨a1, a2⟩ := w3 hw
      rw [if_pos a1, stp_n (by rw [if_pos rfl]; exact hw), L_X14_isOrderLine_79_8]
      exact fl _ _ _ a2.1 a2.2.1 a2.2.2.2.1 a2.2.2.2.2
end ROL
