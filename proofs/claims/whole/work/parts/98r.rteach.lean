/-! teach: what the reference leaves -/
section RTE
theorem gR0_ne {a : Nat} (h : a ≠ 999) : gR0 a = a := by
  unfold gR0
  rw [if_neg h]
theorem gR1_o {a : Nat} (h : a < 86 ∨ 102 ≤ a) (h9 : a ≠ 999) : gR1 a = a := by
  unfold gR1
  rw [if_neg (show ¬ (86 ≤ a ∧ a < 102) by omega), if_neg h9]
theorem gR1_i' {a : Nat} (h : 86 ≤ a ∧ a < 102) : gR1 a = a + 37 := by
  unfold gR1
  rw [if_pos h]
theorem zG_lo (G : am_G) {b : Nat} (h : b < 123) : zG_X14r G b = G b := by
  unfold zG_X14r zG_X12_init_123r
  rw [z_row _ _ (by omega), z_row _ _ (by omega), z_row _ _ (by omega), z_row _ _ (by omega), z_row _ _ (by omega), z_row _ _ (by omega), z_row _ _ (by omega), z_row _ _ (by omega), z_row _ _ (by omega), z_row _ _ (by omega), z_row _ _ (by omega), z_row _ _ (by omega), z_row _ _ (by omega), z_row _ _ (by omega), z_row _ _ (by omega), z_row _ _ (by omega)]
/-- a list refused -/
theorem r_tch0 {J : am_I} {G : am_G} {n w : Int32} {I' : am_I} (hn : ¬ n ≤ 0) (he : R_X14_read_79 (zI_X14r (am_up (am_up J 79 0 (0 : Int32)) 79 3 (-1 : Int32))) (zG_X14r G) = some (n, am_up I' 79 3 w, zG_X14r G)) (hf : rfd (zI_X14r (am_up (am_up J 79 0 (0 : Int32)) 79 3 (-1 : Int32))) I') : ∃ (K : am_I) (G2 : am_G), R_X14_teach_79 J G = some (n, K, G2) ∧ (∀ b, b ≠ 79 → (b < 81 ∨ 85 < b) → b < 123 → K b = J b) ∧ K 79 2 = 0 ∧ K 79 3 = w ∧ G2 3 = G 3 := by
  refine ⟨fun a => (am_up (am_up I' 79 3 w) 79 2 (0 : Int32)) (gR0 a), fun a => zG_X14r G (gR0 a), ?_, fun b b1 b2 b3 => ?_, ?_, ?_, ?_⟩
  · unfold R_X14_teach_79
    rw [he, rb_go, if_neg hn]
  · show (am_up (am_up I' 79 3 w) 79 2 (0 : Int32)) (gR0 b) = J b
    rw [gR0_ne (by omega), up_row _ _ _ b1, up_row _ _ _ b1, hf.1 b (by omega), (z_new _).1 b b3, up_row _ _ _ b1, up_row _ _ _ b1]
  · show (am_up (am_up I' 79 3 w) 79 2 (0 : Int32)) (gR0 79) 2 = 0
    rw [gR0_ne (by omega), am_up_self]
  · show (am_up (am_up I' 79 3 w) 79 2 (0 : Int32)) (gR0 79) 3 = w
    rw [gR0_ne (by omega), up_in, if_neg (by omega), am_up_self]
  · show zG_X14r G (gR0 3) = G 3
    rw [gR0_ne (by omega), zG_lo G (by omega)]
/-- a list taken -/
theorem r_tch1 {J : am_I} {G : am_G} {I' : am_I} (he : R_X14_read_79 (zI_X14r (am_up (am_up J 79 0 (0 : Int32)) 79 3 (-1 : Int32))) (zG_X14r G) = some ((0 : Int32), I', zG_X14r G)) (hf : rfd (zI_X14r (am_up (am_up J 79 0 (0 : Int32)) 79 3 (-1 : Int32))) I') : ∃ (K : am_I) (G2 : am_G), R_X14_teach_79 J G = some ((0 : Int32), K, G2) ∧ (∀ b, b ≠ 79 → (b < 81 ∨ (106 < b ∧ b < 123)) → K b = J b) ∧ (∀ b, 86 ≤ b → b < 102 → K b = I' (b + 37)) ∧ (K 79 2 = 0 ∧ K 79 3 = I' 79 3) ∧ (K 102 0 = 0 ∧ K 102 1 = 0 ∧ K 102 2 = 0 ∧ K 102 3 = 0 ∧ K 102 10 = 0) ∧ (∀ j, j < 4 → K 103 j = I' 127 j ∧ K 104 j = I' 130 j ∧ K 106 j = 0) ∧ (∀ j, K 106 j = 0 ∨ K 106 j = J 106 j) ∧ G2 3 = G 3 := by
  obtain ⟨K, k1, k2, k3, k4, k5, k6⟩ := r_bg (G := fun a => zG_X14r G (gR1 a)) (fun a => (am_up I' 79 2 (0 : Int32)) (gR1 a))
  have k2 : ∀ b, b ≠ 102 → b ≠ 103 → b ≠ 104 → b ≠ 106 → K b = (am_up I' 79 2 (0 : Int32)) (gR1 b) := k2
  have k4 : ∀ j, K 104 j = if j < 4 then (am_up I' 79 2 (0 : Int32)) (gR1 93) j else (am_up I' 79 2 (0 : Int32)) (gR1 104) j := k4
  have k5 : ∀ j, K 103 j = if j < 4 then (am_up I' 79 2 (0 : Int32)) (gR1 90) j else (am_up I' 79 2 (0 : Int32)) (gR1 103) j := k5
  have k6 : ∀ j, K 106 j = if j < 4 then 0 else (am_up I' 79 2 (0 : Int32)) (gR1 106) j := k6
  refine ⟨K, fun a => zG_X14r G (gR1 a), ?_, fun b b1 b2 => ?_, fun b b1 b2 => ?_, ⟨?_, ?_⟩, k3, fun j hj => ⟨?_, ?_, ?_⟩, fun j => ?_, ?_⟩
  · unfold R_X14_teach_79
    rw [he, rb_go, if_pos (show (0 : Int32) ≤ 0 by decide), k1, rb_go]
  · rw [k2 b (by omega) (by omega) (by omega) (by omega), gR1_o (by omega) (by omega), up_row _ _ _ b1, hf.1 b (by omega), (z_new _).1 b (by omega), up_row _ _ _ b1, up_row _ _ _ b1]
  · rw [k2 b (by omega) (by omega) (by omega) (by omega), gR1_i' ⟨b1, b2⟩, up_row _ _ _ (by omega)]
  · rw [k2 79 (by omega) (by omega) (by omega) (by omega), gR1_o (by omega) (by omega), am_up_self]
  · rw [k2 79 (by omega) (by omega) (by omega) (by omega), gR1_o (by omega) (by omega), up_in, if_neg (by omega)]
  · rw [k5, if_pos hj, gR1_i' (by omega), up_row _ _ _ (by omega)]
  · rw [k4, if_pos hj, gR1_i' (by omega), up_row _ _ _ (by omega)]
  · rw [k6, if_pos hj]
  · rw [k6]
    by_cases hj : j < 4
    · rw [if_pos hj]; exact Or.inl rfl
    · rw [if_neg hj, gR1_o (by omega) (by omega), up_row _ _ _ (by omega), hf.1 106 (by omega), (z_new _).1 106 (by omega), up_row _ _ _ (by omega), up_row _ _ _ (by omega)]
      exact Or.inr rfl
  · show zG_X14r G (gR1 3) = G 3
    rw [gR1_o (by omega) (by omega), zG_lo G (by omega)]
/-- what a refused list leaves of the invariant -/
theorem kI.ref {p t : sP} {od : sO} {dp ca : Int32} {ln : Nat} {I : am_I} {G : am_G} (h : kI p t od dp ca ln I G) {K : am_I} {G2 : am_G} (hk : ∀ b, b ≠ 0 → b ≠ 1 → b ≠ 4 → b ≠ 5 → b ≠ 79 → (b < 28 ∨ 52 < b) → (b < 81 ∨ 85 < b) → b < 123 → K b = I b) (h15 : K 1 5 = 0) (h792 : K 79 2 = 0) (h0 : K 0 6 = K 79 3) (hG : G2 3 = G 3) : kI p t od dp ca 0 K G2 := by
  obtain ⟨a1, ⟨b1, b2⟩, ⟨c1, c2⟩, d1, e1, f1, g1, h1⟩ := h
  refine ⟨a1, ⟨b1.kept (fun b z1 z2 => hk b (by omega) (by omega) (by omega) (by omega) (by omega) (by omega) (by omega) (by omega)), b2.kept (fun b z1 z2 => hk b (by omega) (by omega) (by omega) (by omega) (by omega) (by omega) (by omega) (by omega)) (by rw [hk 86 (by omega) (by omega) (by omega) (by omega) (by omega) (by omega) (by omega) (by omega)])⟩, ⟨c1.kept (fun b hb => hk b (by omega) (by omega) (by omega) (by omega) (by omega) (by omega) (by omega) (by omega)), c2.kept (fun b hb => hk b (by omega) (by omega) (by omega) (by omega) (by omega) (by omega) (by omega) (by omega))⟩, ?_, ⟨h15, h792, by omega⟩, fun k hk => absurd hk (Nat.not_lt_zero k), h0, by rw [hG]; exact h1⟩
  unfold rB_112'
  rw [hk 116 (by omega) (by omega) (by omega) (by omega) (by omega) (by omega) (by omega) (by omega)]
  exact d1
theorem rcd_r {I : am_I} : ∀ (c : List (Nat × Nat)) (k : Nat), rcd (I 100) k c → r_code I k c
  | [], _, _ => trivial
  | (op, a) :: r, k, h => by
    unfold rcd at h
    unfold r_code
    refine ⟨h.1, ?_⟩
    have h2 := h.2
    by_cases ht : s_two op = true
    · rw [if_pos ht] at h2 ⊢
      exact ⟨h2.1, rcd_r r _ h2.2⟩
    · rw [if_neg ht] at h2 ⊢
      exact rcd_r r _ h2
theorem cco_split : ∀ (l : List (List (Nat × Nat) × List (Nat × Nat))) (k : Nat), k < l.length → cco l = cco (l.take k) ++ (((l.getD k ([], [])).1 ++ (l.getD k ([], [])).2) ++ cco (l.drop (k + 1)))
  | [], k, h => absurd h (Nat.not_lt_zero k)
  | c :: l, 0, _ => rfl
  | c :: l, k + 1, h => by
    have ih := cco_split l k (Nat.lt_of_succ_lt_succ h)
    show (c.1 ++ c.2) ++ cco l = ((c.1 ++ c.2) ++ cco (l.take k)) ++ (((l.getD k ([], [])).1 ++ (l.getD k ([], [])).2) ++ cco (l.drop (k + 1)))
    rw [List.append_assoc (c.1 ++ c.2) (cco (l.take k)), ← ih]
/-- the orders of the plan that was read -/
theorem rO_of {J : am_I} {p : sP} {od : sO} {lc : List (List (Nat × Nat) × List (Nat × Nat))} {m : Nat → Option Nat} {W : Nat → Nat × Nat} (h13 : J 86 13 = Int32.ofNat (p 0 5)) (hlen : p 0 5 = lc.length) (h20 : p 0 5 ≤ 20) (hW : ∀ k, J 95 k = Int32.ofNat (W k).1 ∧ J 96 k = Int32.ofNat (W k).2) (hod : ∀ k, k < lc.length → W k = (od k).1 ∧ (od k).2 = ((lc.getD k ([], [])).1.map (mrs m), (lc.getD k ([], [])).2.map (mrs m))) (hr : rcd (J 100) 0 ((cco lc).map (mrs m))) (he : s_el (cco lc) ≤ 800) (hrows : ∀ k, k < lc.length → k < 20 → J 97 k = Int32.ofNat (s_el (cco (lc.take k))) ∧ J 98 k = Int32.ofNat (s_el (cco (lc.take k)) + s_el (lc.getD k ([], [])).1) ∧ J 99 k = Int32.ofNat (s_el (cco (lc.take k)) + s_el (lc.getD k ([], [])).1 + s_el (lc.getD k ([], [])).2)) (hl4 : ∀ k, k < lc.length → (od k).2.1.length ≤ 400 ∧ (od k).2.2.length ≤ 400) : rO J p od := by
  refine ⟨h13, fun k hk => ?_⟩
  have hk' : k < lc.length := by omega
  obtain ⟨w1', w2⟩ := hod k hk'
  obtain ⟨g1, g2, g3⟩ := hrows k hk' (by omega)
  have hl := hl4 k hk'
  have o1 : (od k).2.1 = (lc.getD k ([], [])).1.map (mrs m) := by rw [w2]
  have o2 : (od k).2.2 = (lc.getD k ([], [])).2.map (mrs m) := by rw [w2]
  have hs := cco_split lc k hk'
  have es : s_el (cco lc) = s_el (cco (lc.take k)) + ((s_el (lc.getD k ([], [])).1 + s_el (lc.getD k ([], [])).2) + s_el (cco (lc.drop (k + 1)))) := by
    rw [← s_el_app, ← s_el_app, ← s_el_app, ← hs]
  rw [hs, List.map_append, List.map_append, List.map_append] at hr
  obtain ⟨_, hr1⟩ := rcd_app _ _ _ hr
  obtain ⟨hr2, _⟩ := rcd_app _ _ _ hr1
  obtain ⟨hr3, hr4⟩ := rcd_app _ _ _ hr2
  rw [s_el_m, Nat.zero_add] at hr3
  rw [s_el_m, s_el_m, Nat.zero_add] at hr4
  rw [o1, o2] at hl ⊢
  rw [s_el_m, s_el_m, ← w1']
  exact ⟨(hW k).1, (hW k).2, s_el (cco (lc.take k)), ⟨g1, g2, g3, by omega, hl.1, hl.2⟩, rcd_r _ _ hr3, rcd_r _ _ hr4⟩
end RTE
