/-! the reference's code and orders -/
def s_two (op : Nat) : Bool := op == 40 || op == 9 || op == 16 || op == 6 || op == 18
def s_rop (op : Nat) : Nat := if op = 40 then 32 else if op = 43 then 33 else if 30 ≤ op ∧ op ≤ 35 then op + 4 else if 36 ≤ op ∧ op ≤ 38 then op + 6 else op
def r_code (I : am_I) : Nat → List (Nat × Nat) → Prop
  | _, [] => True
  | k, (op, a) :: r => I 100 k = Int32.ofNat (s_rop op) ∧ (if s_two op = true then I 100 (k + 1) = Int32.ofNat a ∧ r_code I (k + 2) r else r_code I (k + 1) r)
def s_el : List (Nat × Nat) → Nat
  | [] => 0
  | (op, _) :: r => (if s_two op = true then 2 else 1) + s_el r
theorem r_code.kept {I I' : am_I} : ∀ {k : Nat} {c : List (Nat × Nat)}, r_code I k c → I' 100 = I 100 → r_code I' k c
  | _, [], _, _ => trivial
  | k, (op, a) :: r, h, h1 => by
    unfold r_code at h ⊢
    rw [h1]
    refine ⟨h.1, ?_⟩
    have h2 := h.2
    by_cases ht : s_two op = true
    · rw [if_pos ht] at h2 ⊢
      exact ⟨h2.1, r_code.kept h2.2 h1⟩
    · rw [if_neg ht] at h2 ⊢
      exact r_code.kept h2 h1
theorem s_el_le : ∀ c : List (Nat × Nat), c.length ≤ s_el c
  | [] => Nat.le_refl _
  | (op, a) :: r => by
    have := s_el_le r
    rw [List.length_cons]
    unfold s_el
    split <;> omega
theorem r_bothq (I : am_I) (G : am_G) (x l r : Int32) : q_X14_both I G x l r := by unfold q_X14_both; simp
theorem fb_20 (I : am_I) (G : am_G) (l r : Int32) : f_X14_both I G (Int32.ofNat 20) l r = (l &&& r) := by
  unfold f_X14_both
  exact (if_pos (by decide))
theorem fb_22 (I : am_I) (G : am_G) (l r : Int32) : f_X14_both I G (Int32.ofNat 22) l r = (if r < l then r else l) := by
  unfold f_X14_both
  exact ((if_neg (by decide)).trans (if_pos (by decide)))
theorem fb_23 (I : am_I) (G : am_G) (l r : Int32) : f_X14_both I G (Int32.ofNat 23) l r = (if l < r then r else l) := by
  unfold f_X14_both
  exact ((if_neg (by decide)).trans ((if_neg (by decide)).trans (if_pos (by decide))))
theorem fb_34 (I : am_I) (G : am_G) (l r : Int32) : f_X14_both I G (Int32.ofNat 34) l r = (l + r) := by
  unfold f_X14_both
  exact ((if_neg (by decide)).trans ((if_neg (by decide)).trans ((if_neg (by decide)).trans (if_pos (by decide)))))
theorem fb_35 (I : am_I) (G : am_G) (l r : Int32) : f_X14_both I G (Int32.ofNat 35) l r = (l - r) := by
  unfold f_X14_both
  exact ((if_neg (by decide)).trans ((if_neg (by decide)).trans ((if_neg (by decide)).trans ((if_neg (by decide)).trans (if_pos (by decide))))))
theorem fb_36 (I : am_I) (G : am_G) (l r : Int32) : f_X14_both I G (Int32.ofNat 36) l r = (l * r) := by
  unfold f_X14_both
  exact ((if_neg (by decide)).trans ((if_neg (by decide)).trans ((if_neg (by decide)).trans ((if_neg (by decide)).trans ((if_neg (by decide)).trans (if_pos (by decide)))))))
theorem fb_37 (I : am_I) (G : am_G) (l r : Int32) : f_X14_both I G (Int32.ofNat 37) l r = (if r = 0 then (0 : Int32) else l / r) := by
  unfold f_X14_both
  exact ((if_neg (by decide)).trans ((if_neg (by decide)).trans ((if_neg (by decide)).trans ((if_neg (by decide)).trans ((if_neg (by decide)).trans ((if_neg (by decide)).trans (if_pos (by decide))))))))
theorem fb_38 (I : am_I) (G : am_G) (l r : Int32) : f_X14_both I G (Int32.ofNat 38) l r = (if r ≤ l then (0 : Int32) else 1) := by
  unfold f_X14_both
  exact ((if_neg (by decide)).trans ((if_neg (by decide)).trans ((if_neg (by decide)).trans ((if_neg (by decide)).trans ((if_neg (by decide)).trans ((if_neg (by decide)).trans ((if_neg (by decide)).trans (if_pos (by decide)))))))))
theorem fb_39 (I : am_I) (G : am_G) (l r : Int32) : f_X14_both I G (Int32.ofNat 39) l r = (if l ≤ r then (0 : Int32) else 1) := by
  unfold f_X14_both
  exact ((if_neg (by decide)).trans ((if_neg (by decide)).trans ((if_neg (by decide)).trans ((if_neg (by decide)).trans ((if_neg (by decide)).trans ((if_neg (by decide)).trans ((if_neg (by decide)).trans ((if_neg (by decide)).trans (if_pos (by decide))))))))))
theorem fb_42 (I : am_I) (G : am_G) (l r : Int32) : f_X14_both I G (Int32.ofNat 42) l r = (if l = r then (1 : Int32) else 0) := by
  unfold f_X14_both
  exact ((if_neg (by decide)).trans ((if_neg (by decide)).trans ((if_neg (by decide)).trans ((if_neg (by decide)).trans ((if_neg (by decide)).trans ((if_neg (by decide)).trans ((if_neg (by decide)).trans ((if_neg (by decide)).trans ((if_neg (by decide)).trans (if_pos (by decide)))))))))))
theorem fb_43 (I : am_I) (G : am_G) (l r : Int32) : f_X14_both I G (Int32.ofNat 43) l r = (if r < l then (0 : Int32) else 1) := by
  unfold f_X14_both
  exact ((if_neg (by decide)).trans ((if_neg (by decide)).trans ((if_neg (by decide)).trans ((if_neg (by decide)).trans ((if_neg (by decide)).trans ((if_neg (by decide)).trans ((if_neg (by decide)).trans ((if_neg (by decide)).trans ((if_neg (by decide)).trans ((if_neg (by decide)).trans (if_pos (by decide))))))))))))
theorem fb_44 (I : am_I) (G : am_G) (l r : Int32) : f_X14_both I G (Int32.ofNat 44) l r = (if l < r then (0 : Int32) else 1) := by
  unfold f_X14_both
  exact ((if_neg (by decide)).trans ((if_neg (by decide)).trans ((if_neg (by decide)).trans ((if_neg (by decide)).trans ((if_neg (by decide)).trans ((if_neg (by decide)).trans ((if_neg (by decide)).trans ((if_neg (by decide)).trans ((if_neg (by decide)).trans ((if_neg (by decide)).trans ((if_neg (by decide)).trans (if_pos (by decide)))))))))))))
theorem fb_21 (I : am_I) (G : am_G) (l r : Int32) : f_X14_both I G (Int32.ofNat 21) l r = (l ||| r) := by
  unfold f_X14_both
  exact ((if_neg (by decide)).trans ((if_neg (by decide)).trans ((if_neg (by decide)).trans ((if_neg (by decide)).trans ((if_neg (by decide)).trans ((if_neg (by decide)).trans ((if_neg (by decide)).trans ((if_neg (by decide)).trans ((if_neg (by decide)).trans ((if_neg (by decide)).trans ((if_neg (by decide)).trans (if_neg (by decide)))))))))))))
theorem sb_22 (l r : Int32) : s_bin 22 l r = (if r < l then r else l) := by
  unfold s_bin f_X7_combine
  exact (if_pos (by decide))
theorem sb_23 (l r : Int32) : s_bin 23 l r = (if l < r then r else l) := by
  unfold s_bin f_X7_combine
  exact ((if_neg (by decide)).trans (if_pos (by decide)))
theorem sb_30 (l r : Int32) : s_bin 30 l r = (l + r) := by
  unfold s_bin f_X7_combine
  exact ((if_neg (by decide)).trans ((if_neg (by decide)).trans (if_pos (by decide))))
theorem sb_31 (l r : Int32) : s_bin 31 l r = (l - r) := by
  unfold s_bin f_X7_combine
  exact ((if_neg (by decide)).trans ((if_neg (by decide)).trans ((if_neg (by decide)).trans (if_pos (by decide)))))
theorem sb_32 (l r : Int32) : s_bin 32 l r = (l * r) := by
  unfold s_bin f_X7_combine
  exact ((if_neg (by decide)).trans ((if_neg (by decide)).trans ((if_neg (by decide)).trans ((if_neg (by decide)).trans (if_pos (by decide))))))
theorem sb_33 (l r : Int32) : s_bin 33 l r = (gQu l r) := by
  unfold s_bin f_X7_combine
  exact ((if_neg (by decide)).trans ((if_neg (by decide)).trans ((if_neg (by decide)).trans ((if_neg (by decide)).trans ((if_neg (by decide)).trans (if_pos (by decide)))))))
theorem so_20 (l r : Int32) : f_X7_isSo (fun _ _ => 0) (fun _ _ => 0) (Int32.ofNat 20) l r = (if l = 0 then (0 : Int32) else if r = 0 then (0 : Int32) else 1) := by
  unfold f_X7_isSo
  exact (if_pos (by decide))
theorem so_34 (l r : Int32) : f_X7_isSo (fun _ _ => 0) (fun _ _ => 0) (Int32.ofNat 34) l r = (if r ≤ l then (0 : Int32) else 1) := by
  unfold f_X7_isSo
  exact ((if_neg (by decide)).trans (if_pos (by decide)))
theorem so_35 (l r : Int32) : f_X7_isSo (fun _ _ => 0) (fun _ _ => 0) (Int32.ofNat 35) l r = (if l ≤ r then (0 : Int32) else 1) := by
  unfold f_X7_isSo
  exact ((if_neg (by decide)).trans ((if_neg (by decide)).trans (if_pos (by decide))))
theorem so_36 (l r : Int32) : f_X7_isSo (fun _ _ => 0) (fun _ _ => 0) (Int32.ofNat 36) l r = (if l = r then (1 : Int32) else 0) := by
  unfold f_X7_isSo
  exact ((if_neg (by decide)).trans ((if_neg (by decide)).trans ((if_neg (by decide)).trans (if_pos (by decide)))))
theorem so_37 (l r : Int32) : f_X7_isSo (fun _ _ => 0) (fun _ _ => 0) (Int32.ofNat 37) l r = (if r < l then (0 : Int32) else 1) := by
  unfold f_X7_isSo
  exact ((if_neg (by decide)).trans ((if_neg (by decide)).trans ((if_neg (by decide)).trans ((if_neg (by decide)).trans (if_pos (by decide))))))
theorem so_38 (l r : Int32) : f_X7_isSo (fun _ _ => 0) (fun _ _ => 0) (Int32.ofNat 38) l r = (if l < r then (0 : Int32) else 1) := by
  unfold f_X7_isSo
  exact ((if_neg (by decide)).trans ((if_neg (by decide)).trans ((if_neg (by decide)).trans ((if_neg (by decide)).trans ((if_neg (by decide)).trans (if_pos (by decide)))))))
theorem so_21 (l r : Int32) : f_X7_isSo (fun _ _ => 0) (fun _ _ => 0) (Int32.ofNat 21) l r = (if l = 0 then (if r = 0 then (0 : Int32) else 1) else 1) := by
  unfold f_X7_isSo
  exact ((if_neg (by decide)).trans ((if_neg (by decide)).trans ((if_neg (by decide)).trans ((if_neg (by decide)).trans ((if_neg (by decide)).trans (if_neg (by decide)))))))
theorem sb_20 (l r : Int32) : s_bin 20 l r = (if f_X7_isSo (fun _ _ => 0) (fun _ _ => 0) (Int32.ofNat 20) l r = 0 then (0 : Int32) else 1) := by
  unfold s_bin f_X7_combine
  exact ((if_neg (by decide)).trans ((if_neg (by decide)).trans ((if_neg (by decide)).trans ((if_neg (by decide)).trans ((if_neg (by decide)).trans (if_neg (by decide)))))))
theorem sb_34 (l r : Int32) : s_bin 34 l r = (if f_X7_isSo (fun _ _ => 0) (fun _ _ => 0) (Int32.ofNat 34) l r = 0 then (0 : Int32) else 1) := by
  unfold s_bin f_X7_combine
  exact ((if_neg (by decide)).trans ((if_neg (by decide)).trans ((if_neg (by decide)).trans ((if_neg (by decide)).trans ((if_neg (by decide)).trans (if_neg (by decide)))))))
theorem sb_35 (l r : Int32) : s_bin 35 l r = (if f_X7_isSo (fun _ _ => 0) (fun _ _ => 0) (Int32.ofNat 35) l r = 0 then (0 : Int32) else 1) := by
  unfold s_bin f_X7_combine
  exact ((if_neg (by decide)).trans ((if_neg (by decide)).trans ((if_neg (by decide)).trans ((if_neg (by decide)).trans ((if_neg (by decide)).trans (if_neg (by decide)))))))
theorem sb_36 (l r : Int32) : s_bin 36 l r = (if f_X7_isSo (fun _ _ => 0) (fun _ _ => 0) (Int32.ofNat 36) l r = 0 then (0 : Int32) else 1) := by
  unfold s_bin f_X7_combine
  exact ((if_neg (by decide)).trans ((if_neg (by decide)).trans ((if_neg (by decide)).trans ((if_neg (by decide)).trans ((if_neg (by decide)).trans (if_neg (by decide)))))))
theorem sb_37 (l r : Int32) : s_bin 37 l r = (if f_X7_isSo (fun _ _ => 0) (fun _ _ => 0) (Int32.ofNat 37) l r = 0 then (0 : Int32) else 1) := by
  unfold s_bin f_X7_combine
  exact ((if_neg (by decide)).trans ((if_neg (by decide)).trans ((if_neg (by decide)).trans ((if_neg (by decide)).trans ((if_neg (by decide)).trans (if_neg (by decide)))))))
theorem sb_38 (l r : Int32) : s_bin 38 l r = (if f_X7_isSo (fun _ _ => 0) (fun _ _ => 0) (Int32.ofNat 38) l r = 0 then (0 : Int32) else 1) := by
  unfold s_bin f_X7_combine
  exact ((if_neg (by decide)).trans ((if_neg (by decide)).trans ((if_neg (by decide)).trans ((if_neg (by decide)).trans ((if_neg (by decide)).trans (if_neg (by decide)))))))
theorem sb_21 (l r : Int32) : s_bin 21 l r = (if f_X7_isSo (fun _ _ => 0) (fun _ _ => 0) (Int32.ofNat 21) l r = 0 then (0 : Int32) else 1) := by
  unfold s_bin f_X7_combine
  exact ((if_neg (by decide)).trans ((if_neg (by decide)).trans ((if_neg (by decide)).trans ((if_neg (by decide)).trans ((if_neg (by decide)).trans (if_neg (by decide)))))))
theorem n_01 (c : Prop) [h : Decidable c] : (if (if c then (0 : Int32) else 1) = 0 then (0 : Int32) else 1) = if c then (0 : Int32) else 1 := by
  by_cases hc : c
  · rw [if_pos hc, if_pos rfl]
  · rw [if_neg hc, if_neg (by decide)]
theorem n_10 (c : Prop) [h : Decidable c] : (if (if c then (1 : Int32) else 0) = 0 then (0 : Int32) else 1) = if c then (1 : Int32) else 0 := by
  by_cases hc : c
  · rw [if_pos hc, if_neg (by decide)]
  · rw [if_neg hc, if_pos rfl]
theorem r_both {op : Nat} (h : op = 20 ∨ op = 21 ∨ op = 22 ∨ op = 23 ∨ op = 30 ∨ op = 31 ∨ op = 32 ∨ op = 33 ∨ op = 34 ∨ op = 35 ∨ op = 36 ∨ op = 37 ∨ op = 38) (I : am_I) (G : am_G) (l r : Int32) (hb : (op = 20 ∨ op = 21) → (l = 0 ∨ l = 1) ∧ (r = 0 ∨ r = 1)) : f_X14_both I G (Int32.ofNat (s_rop op)) l r = s_bin op l r := by
  rcases h with rfl | rfl | rfl | rfl | rfl | rfl | rfl | rfl | rfl | rfl | rfl | rfl | rfl
  · obtain ⟨h1, h2⟩ := hb (Or.inl rfl)
    rw [show s_rop 20 = 20 from rfl, fb_20, sb_20, so_20]
    rcases h1 with rfl | rfl <;> rcases h2 with rfl | rfl <;> decide
  · obtain ⟨h1, h2⟩ := hb (Or.inr rfl)
    rw [show s_rop 21 = 21 from rfl, fb_21, sb_21, so_21]
    rcases h1 with rfl | rfl <;> rcases h2 with rfl | rfl <;> decide
  · rw [show s_rop 22 = 22 from rfl, fb_22, sb_22]
  · rw [show s_rop 23 = 23 from rfl, fb_23, sb_23]
  · rw [show s_rop 30 = 34 from rfl, fb_34, sb_30]
  · rw [show s_rop 31 = 35 from rfl, fb_35, sb_31]
  · rw [show s_rop 32 = 36 from rfl, fb_36, sb_32]
  · rw [show s_rop 33 = 37 from rfl, fb_37, sb_33]; rfl
  · rw [show s_rop 34 = 38 from rfl, fb_38, sb_34, so_34, n_01]
  · rw [show s_rop 35 = 39 from rfl, fb_39, sb_35, so_35, n_01]
  · rw [show s_rop 36 = 42 from rfl, fb_42, sb_36, so_36, n_10]
  · rw [show s_rop 37 = 43 from rfl, fb_43, sb_37, so_37, n_01]
  · rw [show s_rop 38 = 44 from rfl, fb_44, sb_38, so_38, n_01]
theorem n_m1p (n : Nat) : Int32.ofNat n + (-1 : Int32) + 1 = Int32.ofNat n := by
  rw [Int32.add_assoc, show (-1 : Int32) + 1 = 0 from rfl, Int32.add_zero]
theorem s_md_add {a n : Nat} (ha : a < n) (x : Int) : s_md ((a : Int) + x) n = (a + s_md x n) % n ∧ (s_md ((a : Int) + x) n = a ↔ s_md x n = 0) := by
  have hn : 0 < n := by omega
  have hr := s_md_lt x hn
  have h1 := Int.emod_nonneg x (show (n : Int) ≠ 0 by omega)
  have e0 : x = (n : Int) * (x / n) + ((s_md x n : Nat) : Int) := by
    have := Int.mul_ediv_add_emod x n
    unfold s_md; omega
  have e : s_md ((a : Int) + x) n = (a + s_md x n) % n := by
    have h2 : ((a : Int) + x) % (n : Int) = ((a + s_md x n : Nat) : Int) % (n : Int) := by
      rw [show (a : Int) + x = ((a + s_md x n : Nat) : Int) + (n : Int) * (x / n) by omega, Int.add_mul_emod_self_left]
    show (((a : Int) + x) % (n : Int)).toNat = _
    rw [h2, ← Int.natCast_emod]
    rfl
  refine ⟨e, ?_⟩
  rw [e]
  generalize s_md x n = r at hr ⊢
  rcases Nat.lt_or_ge (a + r) n with h | h
  · rw [Nat.mod_eq_of_lt h]; omega
  · rw [Nat.mod_eq_sub_mod h, Nat.mod_eq_of_lt (by omega)]; omega
theorem r_holdm {m : Int32} (x : Int32) : (if (0 : Int32) < (if x < m then x else m) then (if x < m then x else m) else (0 : Int32)) = gHo x 0 m := by
  have e : (if x < m then x else m) = (if m < x then m else x) := by
    by_cases h1 : x < m
    · rw [if_pos h1, if_neg (by rw [i_lt] at h1 ⊢; omega)]
    · rw [if_neg h1]
      by_cases h2 : m < x
      · rw [if_pos h2]
      · rw [if_neg h2, i_eq]; rw [i_lt] at h1 h2; omega
  rw [e]; rfl
/-- the reference's orders -/
def rO (I : am_I) (p : sP) (od : sO) : Prop := I 86 13 = Int32.ofNat (p 0 5) ∧ ∀ k, k < p 0 5 → I 95 k = Int32.ofNat (od k).1.1 ∧ I 96 k = Int32.ofNat (od k).1.2 ∧ ∃ a : Nat, (I 97 k = Int32.ofNat a ∧ I 98 k = Int32.ofNat (a + s_el (od k).2.1) ∧ I 99 k = Int32.ofNat (a + s_el (od k).2.1 + s_el (od k).2.2) ∧ a + s_el (od k).2.1 + s_el (od k).2.2 ≤ 800 ∧ (od k).2.1.length ≤ 400 ∧ (od k).2.2.length ≤ 400) ∧
  r_code I a (od k).2.1 ∧ r_code I (a + s_el (od k).2.1) (od k).2.2
theorem rO.kept {I I' : am_I} {p : sP} {od : sO} (h : rO I p od) (hk : ∀ b, 95 ≤ b → b ≤ 100 → I' b = I b) (h13 : I' 86 13 = I 86 13) : rO I' p od := by
  refine ⟨by rw [h13]; exact h.1, fun k hkk => ?_⟩
  rw [hk 95 (by omega) (by omega), hk 96 (by omega) (by omega), hk 97 (by omega) (by omega), hk 98 (by omega) (by omega), hk 99 (by omega) (by omega)]
  obtain ⟨h1, h2, a, h3, h4, h5⟩ := h.2 k hkk
  exact ⟨h1, h2, a, h3, h4.kept (hk 100 (by omega) (by omega)), h5.kept (hk 100 (by omega) (by omega))⟩
/-- what sums and tests change -/
def rX_102 (I I' : am_I) : Prop := (∀ b, b ≠ 102 → (b < 105 ∨ 111 < b) → I' b = I b) ∧ ∀ k, k ≠ 10 → I' 102 k = I 102 k
theorem rX_102.rf (I : am_I) : rX_102 I I := ⟨fun _ _ _ => rfl, fun _ _ => rfl⟩
theorem rX_102.tr {I I1 I2 : am_I} (h1 : rX_102 I I1) (h2 : rX_102 I1 I2) : rX_102 I I2 := ⟨fun b z1 z2 => (h2.1 b z1 z2).trans (h1.1 b z1 z2), fun k hk => (h2.2 k hk).trans (h1.2 k hk)⟩
theorem rW_102.toX {I I' : am_I} (h : rW_102 I I') : rX_102 I I' := ⟨fun b z1 z2 => h.1 b (by omega) (by omega) (by omega) (by omega) z1, h.2.1⟩
theorem rG_102.toX {I I' : am_I} (h : rG_102 I I') : rX_102 I I' := ⟨fun b z1 z2 => h.1 b (by omega) (by omega) (by omega) (by omega) z1 (by omega) (by omega), h.2⟩
/-- nothing else has changed -/
def rZ_102 (I I' : am_I) : Prop := ∀ b, (b < 102 ∨ 111 < b) → I' b = I b
theorem rX_102.toZ {I I' : am_I} (h : rX_102 I I') : rZ_102 I I' := fun b hb => h.1 b (by omega) (by omega)
theorem rZ_102.rf (I : am_I) : rZ_102 I I := fun _ _ => rfl
theorem rZ_102.tr {I I1 I2 : am_I} (h1 : rZ_102 I I1) (h2 : rZ_102 I1 I2) : rZ_102 I I2 := fun b hb => (h2 b hb).trans (h1 b hb)
section MU102
variable {p t : sP} {G : am_G} {dp : Int32}
theorem rA_102.kst {I : am_I} (h : rA_102 I p t) (j : Nat) (x : Int32) : rA_102 (am_up I 109 j x) p t := by
  obtain ⟨h1, h2, h3, h4, h5⟩ := h
  have hk : ∀ b, b ≠ 109 → am_up I 109 j x b = I b := fun b hb => up_row _ _ _ hb
  refine ⟨h1.kept (fun b z1 z2 => hk b (by omega)), h2.kept ⟨by rw [hk 102 (by omega)], by rw [hk 102 (by omega)]⟩ ⟨hk _ (by omega), hk _ (by omega)⟩, ?_, ?_, ?_⟩
  · unfold rV_102; rw [hk 105 (by omega), hk 106 (by omega)]; exact h3
  · unfold rB_102; rw [hk 106 (by omega)]; exact h4
  · unfold rF_102; rw [hk 102 (by omega), hk 107 (by omega), hk 108 (by omega)]; exact h5
theorem rX_102.kst (I : am_I) (j : Nat) (x : Int32) : rX_102 I (am_up I 109 j x) := ⟨fun b z1 z2 => up_row _ _ _ (by omega), fun k _ => by rw [up_row _ _ _ (by omega)]⟩
/-- what is pushed with an operand -/
theorem r_pd_102 {I : am_I} (hp : p_ok p) (ht : t_ok p t) (h : rA_102 I p t) {op a : Nat} {st : List Int32} (ho : (op = 40 ∧ a ≤ 999999) ∨ (op = 9 ∧ a < p 0 3) ∨ (op = 6 ∧ a < p 0 2) ∨ ((op = 16 ∨ op = 18) ∧ a < p 0 4)) :
    ∃ (I' : am_I) (v : Int32), R_X13_pushed_102 I G (Int32.ofNat (s_rop op)) (Int32.ofNat a) = some (v, I', G) ∧ s_st p t dp op a st = v :: st ∧ rW_102 I I' ∧ rA_102 I' p t := by
  have h0 := hp.1
  unfold R_X13_pushed_102
  rcases ho with ⟨rfl, ha⟩ | ⟨rfl, ha⟩ | ⟨rfl, ha⟩ | ⟨rfl | rfl, ha⟩
  · rw [if_neg (by decide), if_neg (by decide), if_neg (by decide), if_neg (by decide)]
    exact ⟨I, _, rfl, s_st40, rW_102.rf I, h⟩
  · rw [if_neg (by decide), if_pos (by decide), rg_pos ((n_in (by omega)).mpr (by omega)), n_cl (by omega), h.2.1.2.2 a ha]
    exact ⟨I, _, rfl, s_st9, rW_102.rf I, h⟩
  · rw [if_pos (by decide), rg_pos ((n_in (by omega)).mpr (by omega)), n_cl (by omega), h.2.1.2.1 a ha]
    exact ⟨I, _, rfl, s_st6, rW_102.rf I, h⟩
  · obtain ⟨I', a1, a2, a3⟩ := r_sh_102 (G := G) hp ht h (j := a + 1) (by omega)
    rw [if_neg (by decide), if_neg (by decide), if_pos (by decide), n_inc, a1, rb_go]
    exact ⟨I', _, rfl, s_st16, a2, a3⟩
  · obtain ⟨I', a1, a2, a3⟩ := r_eg_102 (G := G) hp ht h (j := a + 1) (by omega)
    rw [if_neg (by decide), if_neg (by decide), if_neg (by decide), if_pos (by decide), n_inc, a1, rb_go]
    rcases s_eg_b p t (a + 1) (p 0 1) 0 with e | e
    · rw [e, if_pos rfl]
      exact ⟨I', _, rfl, by rw [s_st18, e], a2, a3⟩
    · rw [e, if_neg (by decide)]
      exact ⟨I', _, rfl, by rw [s_st18, e], a2, a3⟩
/-- one instruction -/
theorem r_stp_102 {I : am_I} (hp : p_ok p) (ht : t_ok p t) (h : rA_102 I p t) (hd : I 102 0 = dp) {op a k n z : Nat} {c : List (Nat × Nat)} {ts ts' : List Bool} {st : List Int32} (hc : r_code I k ((op, a) :: c)) (hw : s_wt p op a ts = some ts') (hy : s_ty ts st) (hl : st.length < 400) (hk : k + s_el ((op, a) :: c) ≤ 800) (hS : c_stk 109 I st) (hz : k + s_el ((op, a) :: c) = z) (v1 : Int32) :
    ∃ (I' : am_I) (k' : Nat), L_X13_carryOut_102 (n + 1) 0 I G v1 (Int32.ofNat z) (Int32.ofNat st.length + (-1 : Int32)) (Int32.ofNat k) = L_X13_carryOut_102 n 0 I' G v1 (Int32.ofNat z) (Int32.ofNat (s_st p t dp op a st).length + (-1 : Int32)) (Int32.ofNat k') ∧ k' + s_el c = z ∧ r_code I' k' c ∧ rA_102 I' p t ∧ rX_102 I I' ∧ c_stk 109 I' (s_st p t dp op a st) := by
  have h0 := hp.1
  have hSle := s_S_le hp
  have hel : 1 ≤ s_el ((op, a) :: c) := by unfold s_el; split <;> omega
  rw [L_X13_carryOut_102_0, if_neg (fun q => absurd ((n_le (by omega) (by omega)).mp q) (by omega)), rg_pos ((n_in (by omega)).mpr (by omega)), n_cl (k := k) (by omega), hc.1]
  have push : ∀ (I1 : am_I) (v : Int32), c_stk 109 I1 st → c_stk 109 (am_up I1 109 st.length v) (v :: st) := fun I1 v h1 => ⟨by rw [up_in, if_pos rfl], h1.kept (fun j hj => by rw [up_in, if_neg (by omega)])⟩
  have hcase := s_wt_sp hw
  by_cases t2 : s_two op = true
  · have ho : ((op = 40 ∧ a ≤ 999999) ∨ (op = 9 ∧ a < p 0 3) ∨ (op = 6 ∧ a < p 0 2) ∨ ((op = 16 ∨ op = 18) ∧ a < p 0 4)) := by
      rcases hcase with (⟨rfl, ha, -⟩ | ⟨rfl, -⟩ | ⟨rfl, ha, -⟩ | ⟨rfl, ha, -⟩ | ⟨rfl, ha, -⟩ | ⟨rfl, ha, -⟩) | (⟨rfl, -⟩ | ⟨rfl, -⟩) | ⟨h1, -⟩ | ⟨h1, -⟩ | ⟨h1, -⟩
      · exact Or.inl ⟨rfl, ha⟩
      · exact absurd t2 (by decide)
      · exact Or.inr (Or.inl ⟨rfl, ha⟩)
      · exact Or.inr (Or.inr (Or.inl ⟨rfl, ha⟩))
      · exact Or.inr (Or.inr (Or.inr ⟨Or.inl rfl, ha⟩))
      · exact Or.inr (Or.inr (Or.inr ⟨Or.inr rfl, ha⟩))
      · exact absurd t2 (by decide)
      · exact absurd t2 (by decide)
      · rcases h1 with rfl | rfl <;> exact absurd t2 (by decide)
      · rcases h1 with rfl | rfl | rfl | rfl | rfl <;> exact absurd t2 (by decide)
      · rcases h1 with rfl | rfl | rfl | rfl | rfl | rfl | rfl <;> exact absurd t2 (by decide)
    have f1 : f_X13_isPushed_102 I G (Int32.ofNat (s_rop op)) = 1 := by
      unfold f_X13_isPushed_102
      rcases ho with ⟨rfl, -⟩ | ⟨rfl, -⟩ | ⟨rfl, -⟩ | ⟨rfl | rfl, -⟩ <;> decide
    have f2 : ¬ Int32.ofNat (s_rop op) = 15 := by
      rcases ho with ⟨rfl, -⟩ | ⟨rfl, -⟩ | ⟨rfl, -⟩ | ⟨rfl | rfl, -⟩ <;> decide
    have hc2 := hc.2
    rw [if_pos t2] at hc2
    have hel2 : s_el ((op, a) :: c) = 2 + s_el c := by
      show (if s_two op = true then 2 else 1) + s_el c = _
      rw [if_pos t2]
    rw [f1, if_neg (by decide), if_neg f2, n_inc, rg_pos ((n_in (by omega)).mpr (by omega)), n_cl (k := k + 1) (by omega), hc2.1]
    obtain ⟨I1, v, a1, a2, a3, a4⟩ := r_pd_102 (G := G) (dp := dp) (st := st) hp ht h ho
    rw [a1, rb_go, n_m1p, rg_pos ((n_in (by omega)).mpr (by omega)), if_neg f2, n_cl (by omega), n_inc, a2]
    refine ⟨am_up I1 109 st.length v, k + 1 + 1, ?_, by omega, (hc2.2.kept (by rw [up_row _ _ _ (by omega), a3.1 _ (by omega) (by omega) (by omega) (by omega) (by omega)])), a4.kst _ _, a3.toX.tr (rX_102.kst _ _ _), push I1 v (hS.kept (fun j _ => by rw [a3.1 109 (by omega) (by omega) (by omega) (by omega) (by omega)]))⟩
    rw [List.length_cons, n_decm]
  rcases hcase with (⟨rfl, -, -⟩ | ⟨rfl, -⟩ | ⟨rfl, -, -⟩ | ⟨rfl, -, -⟩ | ⟨rfl, -, -⟩ | ⟨rfl, -, -⟩) | (⟨rfl, r, rfl, -⟩ | ⟨rfl, r, rfl, -⟩) | hbin
  · exact absurd rfl t2
  · have hc2 := hc.2
    rw [if_neg (by decide)] at hc2
    have hel2 : s_el ((15, a) :: c) = 1 + s_el c := rfl
    have f1 : f_X13_isPushed_102 I G (Int32.ofNat (s_rop 15)) = 1 := by unfold f_X13_isPushed_102; decide
    rw [f1, if_neg (by decide), if_pos (by decide), n_m1p, rg_pos ((n_in (by omega)).mpr (by omega)), if_pos (by decide), n_cl (by omega), n_inc, Int32.add_zero, hd, s_st15]
    refine ⟨am_up I 109 st.length dp, k + 1, ?_, by omega, hc2.kept (by rw [up_row _ _ _ (by omega)]), h.kst _ _, rX_102.kst _ _ _, push I dp hS⟩
    rw [List.length_cons, n_decm]
  · exact absurd rfl t2
  · exact absurd rfl t2
  · exact absurd rfl t2
  · exact absurd rfl t2
  · match st, hy, hl, hS with
    | x :: xs, hy, hl, hS =>
      rw [List.length_cons] at hl
      have hc2 := hc.2
      rw [if_neg (by decide)] at hc2
      have hel2 : s_el ((43, a) :: c) = 1 + s_el c := rfl
      have f1 : f_X13_isPushed_102 I G (Int32.ofNat (s_rop 43)) = 0 := by unfold f_X13_isPushed_102; decide
      have f2 : Int32.ofNat (s_rop 43) = 33 := by decide
      rw [f1, if_pos rfl, f2, if_pos rfl, if_pos rfl, s_st43, List.length_cons, n_decm, rg_pos ((n_in (by omega)).mpr (by omega)), rg_pos ((n_in (by omega)).mpr (by omega)), n_cl (by omega), hS.1, n_inc]
      refine ⟨am_up I 109 xs.length (-x), k + 1, ?_, by omega, hc2.kept (by rw [up_row _ _ _ (by omega)]), h.kst _ _, rX_102.kst _ _ _, ⟨by rw [up_in, if_pos rfl], hS.2.kept (fun j hj => by rw [up_in, if_neg (by omega)])⟩⟩
      rw [List.length_cons, n_decm]
  · match st, hy, hl, hS with
    | x :: xs, hy, hl, hS =>
      rw [List.length_cons] at hl
      have hc2 := hc.2
      rw [if_neg (by decide)] at hc2
      have hel2 : s_el ((19, a) :: c) = 1 + s_el c := rfl
      have f1 : f_X13_isPushed_102 I G (Int32.ofNat (s_rop 19)) = 0 := by unfold f_X13_isPushed_102; decide
      have f2 : ¬ Int32.ofNat (s_rop 19) = 33 := by decide
      have f3 : Int32.ofNat (s_rop 19) = 19 := by decide
      have hx : (1 : Int32) - x = (if x = 0 then 1 else 0) := by
        rcases hy.1 rfl with rfl | rfl <;> decide
      rw [f1, if_pos rfl, if_neg f2, if_pos f3, if_neg f2, s_st19, List.length_cons, n_decm, rg_pos ((n_in (by omega)).mpr (by omega)), rg_pos ((n_in (by omega)).mpr (by omega)), n_cl (by omega), hS.1, n_inc, hx]
      refine ⟨am_up I 109 xs.length (if x = 0 then 1 else 0), k + 1, ?_, by omega, hc2.kept (by rw [up_row _ _ _ (by omega)]), h.kst _ _, rX_102.kst _ _ _, ⟨by rw [up_in, if_pos rfl], hS.2.kept (fun j hj => by rw [up_in, if_neg (by omega)])⟩⟩
      rw [List.length_cons, n_decm]
  · have hops : op = 17 ∨ (op = 20 ∨ op = 21 ∨ op = 22 ∨ op = 23 ∨ op = 30 ∨ op = 31 ∨ op = 32 ∨ op = 33 ∨ op = 34 ∨ op = 35 ∨ op = 36 ∨ op = 37 ∨ op = 38) := by
      rcases hbin with ⟨ho, -⟩ | ⟨ho, -⟩ | ⟨ho, -⟩ <;> omega
    have hst : ∃ (x y : Int32) (r : List Int32), st = x :: y :: r ∧ ((op = 20 ∨ op = 21) → (y = 0 ∨ y = 1) ∧ (x = 0 ∨ x = 1)) := by
      rcases hbin with ⟨ho, r, rfl, -⟩ | ⟨ho, r, rfl, -⟩ | ⟨ho, r, rfl, -⟩
      · match st, hy with
        | x :: y :: xs, hy => exact ⟨x, y, xs, rfl, fun _ => ⟨hy.2.1 rfl, hy.1 rfl⟩⟩
      · match st, hy with
        | x :: y :: xs, hy => exact ⟨x, y, xs, rfl, fun w => by omega⟩
      · match st, hy with
        | x :: y :: xs, hy => exact ⟨x, y, xs, rfl, fun w => by omega⟩
    obtain ⟨x, y, r, rfl, hb⟩ := hst
    rw [List.length_cons, List.length_cons] at hl
    have hc2 := hc.2
    rw [if_neg t2] at hc2
    have hel2 : s_el ((op, a) :: c) = 1 + s_el c := by
      show (if s_two op = true then 2 else 1) + s_el c = _
      rw [if_neg t2]
    have f1 : f_X13_isPushed_102 I G (Int32.ofNat (s_rop op)) = 0 := by
      unfold f_X13_isPushed_102
      rcases hops with rfl | rfl | rfl | rfl | rfl | rfl | rfl | rfl | rfl | rfl | rfl | rfl | rfl | rfl <;> decide
    have f2 : ¬ Int32.ofNat (s_rop op) = 33 ∧ ¬ Int32.ofNat (s_rop op) = 19 := by
      rcases hops with rfl | rfl | rfl | rfl | rfl | rfl | rfl | rfl | rfl | rfl | rfl | rfl | rfl | rfl <;> decide
    have s1 : I 109 (r.length + 1) = x := by have := hS.1; rw [List.length_cons] at this; exact this
    have s2 : I 109 r.length = y := hS.2.1
    rw [f1, if_pos rfl, if_neg f2.1, if_neg f2.2, List.length_cons, List.length_cons, n_decm, n_decm, n_inc]
    by_cases h17 : op = 17
    · subst h17
      have hsl := s_spot_lt hp y x
      rw [if_pos (by decide), rg_pos ((n_in (by omega)).mpr (by omega)), rg_pos ((n_in (by omega)).mpr (by omega)), n_cl (by omega), n_cl (by omega), s1, s2, rg_pos (r_spotq h.1 hp _ _), r_spot h.1 hp, show s_md x.toInt (p 0 1) * p 0 0 + s_md y.toInt (p 0 0) = s_spot p y x from rfl]
      obtain ⟨I1, a1, a2, a3, a4⟩ := r_ht_102 (G := G) hp ht h hsl
      rw [a1, rb_go, rg_pos ((n_in (by omega)).mpr (by omega)), n_inc, s_st17]
      have eT : I1 109 = I 109 := a2.1 _ (by omega) (by omega) (by omega) (by omega) (by omega)
      refine ⟨am_up I1 109 r.length (s_ht p t (s_spot p y x)), k + 1, ?_, by omega, hc2.kept (by rw [up_row _ _ _ (by omega), a2.1 _ (by omega) (by omega) (by omega) (by omega) (by omega)]), a3.kst _ _, a2.toX.tr (rX_102.kst _ _ _), ⟨by rw [up_in, if_pos rfl], hS.2.2.kept (fun j hj => by rw [up_in, if_neg (by omega), eT])⟩⟩
      rw [List.length_cons, n_decm]
    · have f3 : ¬ Int32.ofNat (s_rop op) = 17 := by
        rcases hops with rfl | rfl | rfl | rfl | rfl | rfl | rfl | rfl | rfl | rfl | rfl | rfl | rfl | rfl <;> first | exact absurd rfl h17 | decide
      have ho := hops.resolve_left h17
      rw [if_neg f3, rg_pos ((n_in (by omega)).mpr (by omega)), rg_pos ((n_in (by omega)).mpr (by omega)), n_cl (by omega), n_cl (by omega), s1, s2, rg_pos (r_bothq _ _ _ _ _), rg_pos ((n_in (by omega)).mpr (by omega)), r_both ho I G y x hb, n_inc, s_stb ho]
      refine ⟨am_up I 109 r.length (s_bin op y x), k + 1, ?_, by omega, hc2.kept (by rw [up_row _ _ _ (by omega)]), h.kst _ _, rX_102.kst _ _ _, ⟨by rw [up_in, if_pos rfl], hS.2.2.kept (fun j hj => by rw [up_in, if_neg (by omega)])⟩⟩
      rw [List.length_cons, n_decm]
theorem r_coL_102 (hp : p_ok p) (ht : t_ok p t) (v1 : Int32) : ∀ (c : List (Nat × Nat)) (k n : Nat) (I : am_I) (st : List Int32) (ts ts' : List Bool), rA_102 I p t → I 102 0 = dp → r_code I k c → s_wc p c ts = some ts' → s_ty ts st → c_stk 109 I st → st.length + c.length ≤ 400 → k + s_el c ≤ 800 → ts'.length = 1 → c.length < n →
    ∃ I' : am_I, L_X13_carryOut_102 n 0 I G v1 (Int32.ofNat (k + s_el c)) (Int32.ofNat st.length + (-1 : Int32)) (Int32.ofNat k) = some ((s_ev p t dp c st).headD 0, I', G) ∧ rA_102 I' p t ∧ rX_102 I I' := by
  intro c
  induction c with
  | nil =>
    intro k n I st ts ts' h hd hc hw hy hS hl hk hts hn
    obtain ⟨n, rfl⟩ : ∃ n', n = n' + 1 := ⟨n - 1, by omega⟩
    cases hw
    have hlen := s_ty_len hy
    have v0 : vp_in (0 : Int32) 400 := (n_in (k := 0) (by omega)).mpr (by omega)
    match st, hy, hS, hlen with
    | [], _, _, hlen => rw [hts] at hlen; cases hlen
    | x :: y :: xs, _, _, hlen => rw [hts, List.length_cons, List.length_cons] at hlen; omega
    | [x], hy, hS, hlen =>
      have hk2 : k ≤ 800 := Nat.le_trans (Nat.le_add_right _ _) hk
      have hle : Int32.ofNat (k + s_el []) ≤ Int32.ofNat k := (n_le (by omega) (by omega)).mpr (Nat.le_refl _)
      rw [L_X13_carryOut_102_0, if_pos hle, rg_pos v0, show (0 : Int32).toNatClampNeg = 0 from rfl, show I 109 0 = x from hS.1]
      exact ⟨I, rfl, h, rX_102.rf I⟩
  | cons q c ih =>
    intro k n I st ts ts' h hd hc hw hy hS hl hk hts hn
    obtain ⟨op, a⟩ := q
    obtain ⟨n, rfl⟩ : ∃ n', n = n' + 1 := ⟨n - 1, by omega⟩
    rw [List.length_cons] at hl hn
    unfold s_wc at hw
    cases h1 : s_wt p op a ts with
    | none => rw [h1] at hw; cases hw
    | some t1 =>
      rw [h1] at hw
      have hlen := s_ty_len hy
      obtain ⟨I1, k', a1, a2, a3, a4, a5, a6⟩ := r_stp_102 (G := G) (n := n) hp ht h hd hc h1 hy (by omega) hk hS rfl v1
      have hy1 := s_st_ty (t := t) (dp := dp) h1 hy
      have hl1 : (s_st p t dp op a st).length ≤ st.length + 1 := by
        rw [← s_ty_len hy1, ← hlen]
        rcases s_wt_sp h1 with (⟨-, -, rfl⟩ | ⟨-, rfl⟩ | ⟨-, -, rfl⟩ | ⟨-, -, rfl⟩ | ⟨-, -, rfl⟩ | ⟨-, -, rfl⟩) | (⟨-, r, rfl, rfl⟩ | ⟨-, r, rfl, rfl⟩) | ⟨-, r, rfl, rfl⟩ | ⟨-, r, rfl, rfl⟩ | ⟨-, r, rfl, rfl⟩ <;> simp only [List.length_cons] <;> omega
      obtain ⟨I', b1, b2, b3⟩ := ih k' n I1 (s_st p t dp op a st) t1 ts' a4 (by rw [a5.2 0 (by omega)]; exact hd) a3 hw hy1 a6 (by omega) (by omega) hts (by omega)
      rw [a2] at b1
      rw [a1]
      exact ⟨I', b1, b2, a5.tr b3⟩
/-- carryOut -/
theorem r_co_102 {I : am_I} (hp : p_ok p) (ht : t_ok p t) (h : rA_102 I p t) (hd : I 102 0 = dp) {c : List (Nat × Nat)} {k : Nat} {b0 : Bool} (hc : r_code I k c) (hw : s_wc p c [] = some [b0]) (hk : k + s_el c ≤ 800) (hl : c.length ≤ 400) :
    ∃ I' : am_I, R_X13_carryOut_102 I G (Int32.ofNat k) (Int32.ofNat (k + s_el c)) = some (s_res p t dp c, I', G) ∧ rA_102 I' p t ∧ rX_102 I I' :=
  r_coL_102 hp ht _ c k FU I [] [] [b0] h hd hc hw trivial trivial (by rw [List.length_nil]; omega) hk rfl (by unfold FU; omega)
/-- all that is known of the state, with its counters -/
def rS_102 (I : am_I) (p t : sP) (dp ca : Int32) : Prop := rA_102 I p t ∧ I 102 0 = dp ∧ I 102 1 = ca
theorem rS_102.ofX {I I' : am_I} {ca : Int32} (h : rS_102 I p t dp ca) (hx : rX_102 I I') (ha : rA_102 I' p t) : rS_102 I' p t dp ca := ⟨ha, by rw [hx.2 0 (by omega)]; exact h.2.1, by rw [hx.2 1 (by omega)]; exact h.2.2⟩
end MU102
section MV102
variable {p t : sP} {G : am_G} {dp ca : Int32} {I : am_I}
theorem r_lp_102 (hp : p_ok p) (ht : t_ok p t) (h : rS_102 I p t dp ca) {c x : Nat} (hc : c < p 0 3) (hx : x ≤ 16) : q_X13_letPull_102 I G (Int32.ofNat c) (Int32.ofNat x) ∧ f_X13_letPull_102 I G (Int32.ofNat c) (Int32.ofNat x) = (if t 2 c = x then 0 else 1) ∧ rS_102 (g_X13_letPull_102 I G (Int32.ofNat c) (Int32.ofNat x)) p (if t 2 c = x then t else am_up t 2 c x) dp ca ∧ rZ_102 I (g_X13_letPull_102 I G (Int32.ofNat c) (Int32.ofNat x)) := by
  have h0 := hp.1
  have hA := h
  obtain ⟨⟨h1, h2, h3, h4, h5⟩, h6, h7⟩ := h
  have hu := (ht.2.2 c).2
  have vi : vp_in (Int32.ofNat c) 4 := (n_in (by omega)).mpr (by omega)
  refine ⟨⟨vi, fun _ => trivial, fun _ => ⟨vi, Or.inl rfl, trivial⟩⟩, ?_⟩
  unfold f_X13_letPull_102 g_X13_letPull_102
  rw [n_cl (by omega), h2.2.2 c hc]
  by_cases he : t 2 c = x
  · have eh : Int32.ofNat (t 2 c) = Int32.ofNat x := by rw [he]
    simp only [if_pos eh, if_pos he]
    exact ⟨trivial, hA, rZ_102.rf I⟩
  · have nh : ¬ Int32.ofNat (t 2 c) = Int32.ofNat x := fun z => he ((n_eq (by omega) (by omega)).mp z)
    simp only [if_neg nh, if_neg he]
    have e : ∀ b, b ≠ 104 → b ≠ 102 → am_up (am_up I 104 c (Int32.ofNat x)) 102 10 0 b = I b := fun b z1 z2 => by rw [up_row _ _ _ z2, up_row _ _ _ z1]
    have eS : ∀ k, k ≠ 10 → am_up (am_up I 104 c (Int32.ofNat x)) 102 10 0 102 k = I 102 k := fun k z => by rw [up_in, if_neg z, up_row _ _ _ (by omega)]
    refine ⟨trivial, ⟨⟨h1.kept (fun b z1 z2 => e b (by omega) (by omega)), ⟨⟨?_, ?_⟩, fun o ho => ?_, fun c' hc' => ?_⟩, ?_, ?_, ?_⟩, by rw [eS 0 (by omega)]; exact h6, by rw [eS 1 (by omega)]; exact h7⟩, fun b hb => e b (by omega) (by omega)⟩
    · rw [eS 2 (by omega), up_row t _ _ (by omega)]; exact h2.1.1
    · rw [eS 3 (by omega), up_row t _ _ (by omega)]; exact h2.1.2
    · rw [e 103 (by omega) (by omega), up_row t _ _ (by omega)]; exact h2.2.1 o ho
    · rw [up_row _ _ _ (by omega), up_in, up_in]
      by_cases hcc : c' = c
      · rw [if_pos hcc, if_pos hcc]
      · rw [if_neg hcc, if_neg hcc]; exact h2.2.2 c' hc'
    · unfold rV_102
      rw [e 105 (by omega) (by omega), e 106 (by omega) (by omega), up_row t _ _ (by omega : (1 : Nat) ≠ 2)]; exact h3
    · unfold rB_102
      rw [e 106 (by omega) (by omega)]; exact h4
    · intro z
      exact absurd (by rw [up_in, if_pos rfl]) z
theorem r_ls_102 (hp : p_ok p) (ht : t_ok p t) (h : rS_102 I p t dp ca) {o x : Nat} (ho : o < p 0 2) (hx : x ≤ 999) : q_X13_letSeed_102 I G (Int32.ofNat o) (Int32.ofNat x) ∧ f_X13_letSeed_102 I G (Int32.ofNat o) (Int32.ofNat x) = (if t 1 o = x then 0 else 1) ∧ rS_102 (g_X13_letSeed_102 I G (Int32.ofNat o) (Int32.ofNat x)) p (if t 1 o = x then t else am_up t 1 o x) dp ca ∧ rZ_102 I (g_X13_letSeed_102 I G (Int32.ofNat o) (Int32.ofNat x)) := by
  have h0 := hp.1
  have hA := h
  obtain ⟨⟨h1, h2, h3, h4, h5⟩, h6, h7⟩ := h
  have hu := (ht.2.2 o).1
  have vi : vp_in (Int32.ofNat o) 4 := (n_in (by omega)).mpr (by omega)
  refine ⟨⟨vi, fun _ => trivial, fun _ => ⟨vi, ⟨vi, Or.inl rfl⟩, Or.inl rfl, trivial⟩⟩, ?_⟩
  unfold f_X13_letSeed_102 g_X13_letSeed_102
  rw [n_cl (by omega), h2.2.1 o ho]
  by_cases he : t 1 o = x
  · have eh : Int32.ofNat (t 1 o) = Int32.ofNat x := by rw [he]
    simp only [if_pos eh, if_pos he]
    exact ⟨trivial, hA, rZ_102.rf I⟩
  · have nh : ¬ Int32.ofNat (t 1 o) = Int32.ofNat x := fun z => he ((n_eq (by omega) (by omega)).mp z)
    simp only [if_neg nh, if_neg he]
    have e : ∀ b, b ≠ 103 → b ≠ 106 → b ≠ 102 → am_up (am_up (am_up I 103 o (Int32.ofNat x)) 106 o 0) 102 10 0 b = I b := fun b z1 z2 z3 => by rw [up_row _ _ _ z3, up_row _ _ _ z2, up_row _ _ _ z1]
    have eS : ∀ k, k ≠ 10 → am_up (am_up (am_up I 103 o (Int32.ofNat x)) 106 o 0) 102 10 0 102 k = I 102 k := fun k z => by rw [up_in, if_neg z, up_row _ _ _ (by omega), up_row _ _ _ (by omega)]
    have eK : ∀ k, am_up (am_up (am_up I 103 o (Int32.ofNat x)) 106 o 0) 102 10 0 106 k = if k = o then 0 else I 106 k := fun k => by rw [up_row _ _ _ (by omega), up_in, up_row _ _ _ (by omega)]
    refine ⟨trivial, ⟨⟨h1.kept (fun b z1 z2 => e b (by omega) (by omega) (by omega)), ⟨⟨?_, ?_⟩, fun o' ho' => ?_, fun c' hc' => ?_⟩, ?_, ?_, ?_⟩, by rw [eS 0 (by omega)]; exact h6, by rw [eS 1 (by omega)]; exact h7⟩, fun b hb => e b (by omega) (by omega) (by omega)⟩
    · rw [eS 2 (by omega), up_row t _ _ (by omega)]; exact h2.1.1
    · rw [eS 3 (by omega), up_row t _ _ (by omega)]; exact h2.1.2
    · rw [up_row _ _ _ (by omega), up_row _ _ _ (by omega), up_in, up_in]
      by_cases hoo : o' = o
      · rw [if_pos hoo, if_pos hoo]
      · rw [if_neg hoo, if_neg hoo]; exact h2.2.1 o' ho'
    · rw [e 104 (by omega) (by omega) (by omega), up_row t _ _ (by omega)]; exact h2.2.2 c' hc'
    · intro o' ho' hk k hkS
      rw [eK] at hk
      by_cases hoo : o' = o
      · rw [if_pos hoo] at hk; exact absurd rfl hk
      · rw [if_neg hoo] at hk
        rw [e 105 (by omega) (by omega) (by omega), up_in, if_neg hoo]
        exact h3 o' ho' hk k hkS
    · intro k
      rw [eK]
      split
      · exact Or.inl rfl
      · exact h4 k
    · intro z
      exact absurd (by rw [up_in, if_pos rfl]) z
/-- the state with a drift set anew -/
theorem r_ldu_102 (h : rS_102 I p t dp ca) (d u : Nat) : rS_102 (am_up (am_up (am_up I 102 2 (Int32.ofNat d)) 102 3 (Int32.ofNat u)) 102 10 0) p (am_up (am_up t 0 0 d) 0 1 u) dp ca := by
  obtain ⟨⟨h1, h2, h3, h4, h5⟩, h6, h7⟩ := h
  have e : ∀ b, b ≠ 102 → am_up (am_up (am_up I 102 2 (Int32.ofNat d)) 102 3 (Int32.ofNat u)) 102 10 0 b = I b := fun b z => by rw [up_row _ _ _ z, up_row _ _ _ z, up_row _ _ _ z]
  have et : ∀ b, b ≠ 0 → am_up (am_up t 0 0 d) 0 1 u b = t b := fun b z => by rw [up_row _ _ _ z, up_row _ _ _ z]
  refine ⟨⟨h1.kept (fun b z1 z2 => e b (by omega)), ⟨⟨?_, ?_⟩, fun o ho => ?_, fun c hc => ?_⟩, ?_, ?_, ?_⟩, ?_, ?_⟩
  · rw [up_in, if_neg (by omega), up_in, if_neg (by omega), up_in, if_pos rfl, up_in, if_neg (by omega), up_in, if_pos rfl]
  · rw [up_in, if_neg (by omega), up_in, if_pos rfl, up_in, if_pos rfl]
  · rw [e 103 (by omega), et 1 (by omega)]; exact h2.2.1 o ho
  · rw [e 104 (by omega), et 2 (by omega)]; exact h2.2.2 c hc
  · unfold rV_102
    rw [e 105 (by omega), e 106 (by omega), et 1 (by omega)]; exact h3
  · unfold rB_102
    rw [e 106 (by omega)]; exact h4
  · intro z
    exact absurd (by rw [up_in, if_pos rfl]) z
  · rw [up_in, if_neg (by omega), up_in, if_neg (by omega), up_in, if_neg (by omega)]; exact h6
  · rw [up_in, if_neg (by omega), up_in, if_neg (by omega), up_in, if_neg (by omega)]; exact h7
theorem r_ld0_102 (hp : p_ok p) (ht : t_ok p t) (h : rS_102 I p t dp ca) (x : Int32) : q_X13_letDrift_102 I G 0 x ∧ f_X13_letDrift_102 I G 0 x = (if s_md ((t 0 0 : Int) + x.toInt) (p 0 0) = t 0 0 then 0 else 1) ∧ rS_102 (g_X13_letDrift_102 I G 0 x) p (am_up t 0 0 (s_md ((t 0 0 : Int) + x.toInt) (p 0 0))) dp ca ∧ rZ_102 I (g_X13_letDrift_102 I G 0 x) := by
  have h0 := hp.1
  have t0 := ht.1
  have hP := h.1.1
  have hT := h.1.2.1
  obtain ⟨m1, m2⟩ := s_md_add t0 x.toInt
  have hb := s_md_lt x.toInt (show 0 < p 0 0 by omega)
  have hb2 := s_md_lt ((t 0 0 : Int) + x.toInt) (show 0 < p 0 0 by omega)
  have c1 : 0 < (I 86 0).toInt := by rw [hP.1.1]; exact n_pos (by omega) (by omega)
  have c2 : ¬ I 86 0 = 0 := by rw [hP.1.1]; exact n_ne0 (by omega) (by omega)
  refine ⟨⟨fun _ => ⟨c1, fun _ => ⟨c2, fun _ => trivial, fun _ => ⟨Or.inl rfl, trivial⟩⟩, fun z => absurd rfl z⟩, fun z => absurd rfl z⟩, ?_⟩
  have eq : Int32.ofInt (x.toInt % (I 86 0).toInt) = Int32.ofNat (s_md x.toInt (p 0 0)) := by rw [hP.1.1, n_fm (by omega) (by omega)]
  have ev : (I 102 2 + Int32.ofNat (s_md x.toInt (p 0 0))) - (I 102 2 + Int32.ofNat (s_md x.toInt (p 0 0))) / (I 86 0) * (I 86 0) = Int32.ofNat (s_md ((t 0 0 : Int) + x.toInt) (p 0 0)) := by rw [hT.1.1, hP.1.1, n_add, n_mod (by omega) (by omega), m1]
  unfold f_X13_letDrift_102 g_X13_letDrift_102
  rw [eq, ev]
  simp only [if_true]
  by_cases he : s_md x.toInt (p 0 0) = 0
  · have hd := m2.mpr he
    have cz : Int32.ofNat (s_md x.toInt (p 0 0)) ≤ 0 := by rw [he]; decide
    simp only [if_pos cz, if_pos hd]
    rw [hd, am_up_id hT.1.1, am_up_id rfl]
    exact ⟨trivial, h, rZ_102.rf I⟩
  · have hd : ¬ s_md ((t 0 0 : Int) + x.toInt) (p 0 0) = t 0 0 := fun z => he (m2.mp z)
    have cz : ¬ Int32.ofNat (s_md x.toInt (p 0 0)) ≤ 0 := n_nle0 (by omega) (by omega)
    simp only [if_neg cz, if_neg hd]
    refine ⟨trivial, ?_, fun b hb => by rw [up_row _ _ _ (by omega), up_row _ _ _ (by omega)]⟩
    have := r_ldu_102 h (s_md ((t 0 0 : Int) + x.toInt) (p 0 0)) (t 0 1)
    rw [am_up_id (f := am_up t 0 0 _) (by rw [up_in, if_neg (by omega)]), am_up_id (f := am_up I 102 2 _) (by rw [up_in, if_neg (by omega)]; exact hT.1.2)] at this
    exact this
theorem r_ld1_102 (hp : p_ok p) (ht : t_ok p t) (h : rS_102 I p t dp ca) (x : Int32) : q_X13_letDrift_102 I G 1 x ∧ f_X13_letDrift_102 I G 1 x = (if s_md ((t 0 1 : Int) + x.toInt) (p 0 1) = t 0 1 then 0 else 1) ∧ rS_102 (g_X13_letDrift_102 I G 1 x) p (am_up t 0 1 (s_md ((t 0 1 : Int) + x.toInt) (p 0 1))) dp ca ∧ rZ_102 I (g_X13_letDrift_102 I G 1 x) := by
  have h0 := hp.1
  have t0 := ht.2.1
  have hP := h.1.1
  have hT := h.1.2.1
  obtain ⟨m1, m2⟩ := s_md_add t0 x.toInt
  have hb := s_md_lt x.toInt (show 0 < p 0 1 by omega)
  have hb2 := s_md_lt ((t 0 1 : Int) + x.toInt) (show 0 < p 0 1 by omega)
  have c1 : 0 < (I 86 1).toInt := by rw [hP.1.2.1]; exact n_pos (by omega) (by omega)
  have c2 : ¬ I 86 1 = 0 := by rw [hP.1.2.1]; exact n_ne0 (by omega) (by omega)
  have n10 : ¬ (1 : Int32) = 0 := by decide
  refine ⟨⟨fun z => absurd z n10, fun _ => ⟨c1, fun z => absurd z n10, fun _ => ⟨c2, fun _ => trivial, fun _ => ⟨Or.inl rfl, trivial⟩⟩⟩⟩, ?_⟩
  have eq : Int32.ofInt (x.toInt % (I 86 1).toInt) = Int32.ofNat (s_md x.toInt (p 0 1)) := by rw [hP.1.2.1, n_fm (by omega) (by omega)]
  have ev : (I 102 3 + Int32.ofNat (s_md x.toInt (p 0 1))) - (I 102 3 + Int32.ofNat (s_md x.toInt (p 0 1))) / (I 86 1) * (I 86 1) = Int32.ofNat (s_md ((t 0 1 : Int) + x.toInt) (p 0 1)) := by rw [hT.1.2, hP.1.2.1, n_add, n_mod (by omega) (by omega), m1]
  unfold f_X13_letDrift_102 g_X13_letDrift_102
  rw [eq, ev]
  simp only [if_neg n10]
  by_cases he : s_md x.toInt (p 0 1) = 0
  · have hd := m2.mpr he
    have cz : Int32.ofNat (s_md x.toInt (p 0 1)) ≤ 0 := by rw [he]; decide
    simp only [if_pos cz, if_pos hd]
    rw [hd, am_up_id hT.1.2, am_up_id rfl]
    exact ⟨trivial, h, rZ_102.rf I⟩
  · have hd : ¬ s_md ((t 0 1 : Int) + x.toInt) (p 0 1) = t 0 1 := fun z => he (m2.mp z)
    have cz : ¬ Int32.ofNat (s_md x.toInt (p 0 1)) ≤ 0 := n_nle0 (by omega) (by omega)
    simp only [if_neg cz, if_neg hd]
    refine ⟨trivial, ?_, fun b hb => by rw [up_row _ _ _ (by omega), up_row _ _ _ (by omega)]⟩
    have := r_ldu_102 h (t 0 0) (s_md ((t 0 1 : Int) + x.toInt) (p 0 1))
    rw [am_up_id (f := t) rfl, am_up_id (f := I) hT.1.1] at this
    exact this
/-- order -/
theorem r_or_102 {od : sO} (hp : p_ok p) (ht : t_ok p t) (ho : o_ok p od) (hO : rO I p od) (h : rS_102 I p t dp ca) {k : Nat} (hk : k < p 0 5) :
    ∃ I' : am_I, R_X13_order_102 I G (Int32.ofNat k) = some (s_fl (s_do p t (od k).1.1 (od k).1.2 (s_res p t dp (od k).2.1)).2, I', G) ∧ rS_102 I' p (s_do p t (od k).1.1 (od k).1.2 (s_res p t dp (od k).2.1)).1 dp ca ∧ rZ_102 I I' := by
  have hk20 : k < 20 := by have := ho.1; omega
  have h0 := hp.1
  obtain ⟨o1, o2, o3⟩ := ho.2 k hk
  obtain ⟨q1, q2, a, ⟨q3, q4, q5, q6, q6a, q6b⟩, q7, q8⟩ := hO.2 k hk
  have vi : vp_in (Int32.ofNat k) 20 := (n_in (by omega)).mpr hk20
  have vi1 : vp_in (Int32.ofNat k) 21 := (n_in (by omega)).mpr (by omega)
  unfold R_X13_order_102
  rw [rg_pos vi1, rg_pos vi1, n_cl (by omega), q3, q4]
  obtain ⟨I1, a1, a2, a3⟩ := r_co_102 (G := G) hp ht h.1 h.2.1 q7 o2 (by omega) q6a
  have h1 := h.ofX a3 a2
  rw [a1, rb_go, rg_pos vi, a3.1 95 (by omega) (by omega), a3.1 96 (by omega) (by omega), q1, q2]
  generalize s_res p t dp (od k).2.1 = r1
  generalize hkd : (od k).1.1 = kd at o1 ⊢
  generalize htg : (od k).1.2 = tg at o1 ⊢
  rcases o1 with ⟨rfl, ho1⟩ | ⟨rfl, ho1⟩ | ⟨rfl, ho1⟩
  · have hb := gHo_b16 r1
    rw [if_neg (by decide), rg_pos vi, if_pos (by decide), rg_pos vi, r_holdm, n_ex hb.1]
    obtain ⟨b1, b2, b3, b4⟩ := r_lp_102 (G := G) hp ht h1 (c := tg) (x := (gHo r1 0 16).toInt.toNat) ho1 (by omega)
    rw [rg_pos b1, b2]
    by_cases he : t 2 tg = (gHo r1 0 16).toInt.toNat
    · have es : s_do p t 9 tg r1 = (t, false) := by rw [s_do9, if_pos he]
      rw [if_pos he] at b3
      rw [es, if_pos he, rg_pos (Or.inl rfl)]
      exact ⟨_, rfl, b3, a3.toZ.tr b4⟩
    · have es : s_do p t 9 tg r1 = (am_up t 2 tg (gHo r1 0 16).toInt.toNat, true) := by rw [s_do9, if_neg he]
      rw [if_neg he] at b3
      rw [es, if_neg he, rg_pos (Or.inr rfl)]
      exact ⟨_, rfl, b3, a3.toZ.tr b4⟩
  · have hb := gHo_b r1
    rw [if_neg (by decide), rg_pos vi, if_neg (by decide), rg_pos vi, r_holdm, n_ex hb.1]
    obtain ⟨b1, b2, b3, b4⟩ := r_ls_102 (G := G) hp ht h1 (o := tg) (x := (gHo r1 0 999).toInt.toNat) ho1 (by omega)
    rw [rg_pos b1, b2]
    by_cases he : t 1 tg = (gHo r1 0 999).toInt.toNat
    · have es : s_do p t 6 tg r1 = (t, false) := by rw [s_do6, if_pos he]
      rw [if_pos he] at b3
      rw [es, if_pos he, rg_pos (Or.inl rfl)]
      exact ⟨_, rfl, b3, a3.toZ.tr b4⟩
    · have es : s_do p t 6 tg r1 = (am_up t 1 tg (gHo r1 0 999).toInt.toNat, true) := by rw [s_do6, if_neg he]
      rw [if_neg he] at b3
      rw [es, if_neg he, rg_pos (Or.inr rfl)]
      exact ⟨_, rfl, b3, a3.toZ.tr b4⟩
  · rw [if_pos (by decide), rg_pos vi]
    by_cases hg : tg = 0
    · subst hg
      obtain ⟨b1, b2, b3, b4⟩ := r_ld0_102 (G := G) hp ht h1 r1
      rw [if_neg (by decide), rg_pos b1, b2]
      by_cases he : s_md ((t 0 0 : Int) + r1.toInt) (p 0 0) = t 0 0
      · have es : s_do p t 12 0 r1 = (t, false) := by rw [s_do120, if_pos he]
        rw [es, if_pos he, rg_pos (Or.inl rfl)]
        rw [he, am_up_id rfl] at b3
        exact ⟨_, rfl, b3, a3.toZ.tr b4⟩
      · have es : s_do p t 12 0 r1 = (am_up t 0 0 (s_md ((t 0 0 : Int) + r1.toInt) (p 0 0)), true) := by rw [s_do120, if_neg he]
        rw [es, if_neg he, rg_pos (Or.inr rfl)]
        exact ⟨_, rfl, b3, a3.toZ.tr b4⟩
    · obtain ⟨b1, b2, b3, b4⟩ := r_ld1_102 (G := G) hp ht h1 r1
      rw [if_pos (show Int32.ofNat tg = 1 by rw [show tg = 1 by omega]; rfl), rg_pos b1, b2]
      by_cases he : s_md ((t 0 1 : Int) + r1.toInt) (p 0 1) = t 0 1
      · have es : s_do p t 12 tg r1 = (t, false) := by rw [s_do121 p t hg, if_pos he]
        rw [es, if_pos he, rg_pos (Or.inl rfl)]
        rw [he, am_up_id rfl] at b3
        exact ⟨_, rfl, b3, a3.toZ.tr b4⟩
      · have es : s_do p t 12 tg r1 = (am_up t 0 1 (s_md ((t 0 1 : Int) + r1.toInt) (p 0 1)), true) := by rw [s_do121 p t hg, if_neg he]
        rw [es, if_neg he, rg_pos (Or.inr rfl)]
        exact ⟨_, rfl, b3, a3.toZ.tr b4⟩
/-- holds -/
theorem r_hd_102 {od : sO} (hp : p_ok p) (ht : t_ok p t) (ho : o_ok p od) (hO : rO I p od) (h : rS_102 I p t dp ca) {k : Nat} (hk : k < p 0 5) :
    ∃ I' : am_I, R_X13_holds_102 I G (Int32.ofNat k) = some (@ite Int32 ((od k).2.2 = [] ∨ ¬ s_res p t dp (od k).2.2 = 0) (Classical.propDecidable _) 1 0, I', G) ∧ rS_102 I' p t dp ca ∧ rX_102 I I' := by
  have hk20 : k < 20 := by have := ho.1; omega
  obtain ⟨o1, o2, o3⟩ := ho.2 k hk
  obtain ⟨q1, q2, a, ⟨q3, q4, q5, q6, q6a, q6b⟩, q7, q8⟩ := hO.2 k hk
  have vi1 : vp_in (Int32.ofNat k) 21 := (n_in (by omega)).mpr (by omega)
  unfold R_X13_holds_102
  rw [rg_pos vi1, rg_pos vi1, n_cl (by omega), q4, q5]
  by_cases hte : (od k).2.2 = []
  · have hz : s_el (od k).2.2 = 0 := by rw [hte]; rfl
    rw [if_pos (show Int32.ofNat (a + s_el (od k).2.1 + s_el (od k).2.2) = Int32.ofNat (a + s_el (od k).2.1) by rw [hz, Nat.add_zero]), if_pos (Or.inl hte)]
    exact ⟨I, rfl, h, rX_102.rf I⟩
  · have hw := o3.resolve_left hte
    have hz : 0 < s_el (od k).2.2 := Nat.lt_of_lt_of_le (Nat.pos_of_ne_zero (fun z => hte (List.length_eq_zero_iff.mp z))) (s_el_le _)
    rw [if_neg (fun z => absurd ((n_eq (by omega) (by omega)).mp z) (by omega)), rg_pos vi1, rg_pos vi1]
    obtain ⟨I1, a1, a2, a3⟩ := r_co_102 (G := G) hp ht h.1 h.2.1 q8 hw q6 q6b
    rw [a1, rb_go]
    have hty := s_ev_ty (t := t) (dp := dp) (st := []) hw trivial
    have h01 : s_res p t dp (od k).2.2 = 0 ∨ s_res p t dp (od k).2.2 = 1 := by
      unfold s_res
      match s_ev p t dp (od k).2.2 [], hty with
      | x :: xs, hty => exact hty.1 rfl
    rcases h01 with e | e
    · rw [e, if_neg (by decide), if_neg (fun z => z.elim hte (fun y => y rfl))]
      exact ⟨I1, rfl, h.ofX a3 a2, a3⟩
    · rw [e, if_pos rfl, if_pos (Or.inr (by decide))]
      exact ⟨I1, rfl, h.ofX a3 a2, a3⟩
end MV102
section MY102
variable {p : sP} {dp : Int32} {G : am_G}
theorem r_dpL_102 {od : sO} (hp : p_ok p) (ho : o_ok p od) : ∀ (m k n : Nat) (I : am_I) (t : sP) (ca : Int32), t_ok p t → rO I p od → rS_102 I p t dp ca → k + m = p 0 5 → m < n →
    ∃ I' : am_I, L_X13_dip_102 n 0 I G (Int32.ofNat k) = some ((), I', G) ∧ rS_102 I' p (s_dl p od dp m k (t, ca)).1 (dp + 1) (s_dl p od dp m k (t, ca)).2 ∧ rZ_102 I I' := by
  have h20 := ho.1
  intro m
  induction m with
  | zero =>
    intro k n I t ca ht hO h hk hn
    obtain ⟨n, rfl⟩ : ∃ n', n = n' + 1 := ⟨n - 1, by omega⟩
    rw [L_X13_dip_102_0, hO.1, if_pos ((n_le (by omega) (by omega)).mpr (by omega)), h.2.1]
    obtain ⟨⟨h1, h2, h3, h4, h5⟩, h6, h7⟩ := h
    refine ⟨_, rfl, ⟨⟨h1.kept (fun b z1 z2 => up_row _ _ _ (by omega)), h2.kept ⟨by rw [up_in, if_neg (by omega)], by rw [up_in, if_neg (by omega)]⟩ ⟨up_row _ _ _ (by omega), up_row _ _ _ (by omega)⟩, ?_, ?_, ?_⟩, by rw [up_in, if_pos rfl], by rw [up_in, if_neg (by omega)]; exact h7⟩, fun b z => up_row _ _ _ (by omega)⟩
    · unfold rV_102; rw [up_row _ _ _ (by omega), up_row _ _ _ (by omega)]; exact h3
    · unfold rB_102; rw [up_row _ _ _ (by omega)]; exact h4
    · unfold rF_102; rw [up_in, if_neg (by omega), up_row _ _ _ (by omega), up_row _ _ _ (by omega)]; exact h5
  | succ m ih =>
    intro k n I t ca ht hO h hk hn
    obtain ⟨n, rfl⟩ : ∃ n', n = n' + 1 := ⟨n - 1, by omega⟩
    obtain ⟨I1, a1, a2, a3⟩ := r_hd_102 (G := G) hp ht ho hO h (k := k) (by omega)
    rw [L_X13_dip_102_0, hO.1, if_neg (fun z => absurd ((n_le (by omega) (by omega)).mp z) (by omega)), a1, rb_go, n_inc]
    have hdl : s_dl p od dp (m + 1) k (t, ca) = s_dl p od dp m (k + 1) ((s_o1 p dp (od k) t).1, if (s_o1 p dp (od k) t).2 then ca + 1 else ca) := rfl
    rw [hdl]
    have ht2 := s_o1_ok hp ht dp (od k)
    have hO1 : rO I1 p od := hO.kept (fun b z1 z2 => a3.1 b (by omega) (by omega)) (by rw [a3.1 86 (by omega) (by omega)])
    by_cases hc : (od k).2.2 = [] ∨ ¬ s_res p t dp (od k).2.2 = 0
    · rw [if_pos hc, if_neg (by decide)]
      have es : s_o1 p dp (od k) t = s_do p t (od k).1.1 (od k).1.2 (s_res p t dp (od k).2.1) := by unfold s_o1; rw [if_pos hc]
      obtain ⟨I2, b1, b2, b3⟩ := r_or_102 (G := G) hp ht ho hO1 a2 (k := k) (by omega)
      rw [← es] at b1 b2
      rw [b1, rb_go]
      have hO2 : rO I2 p od := hO1.kept (fun b z1 z2 => b3 b (by omega)) (by rw [b3 86 (by omega)])
      cases hb : (s_o1 p dp (od k) t).2 with
      | false =>
        rw [show s_fl false = 0 from rfl, if_pos rfl]
        obtain ⟨I', c1, c2, c3⟩ := ih (k + 1) n I2 _ ca ht2 hO2 b2 (by omega) (by omega)
        exact ⟨I', c1, c2, (a3.toZ.tr b3).tr c3⟩
      | true =>
        rw [show s_fl true = 1 from rfl, if_neg (by decide), b2.2.2]
        obtain ⟨⟨h1, h2, h3, h4, h5⟩, h6, h7⟩ := b2
        have hA3 : rS_102 (am_up I2 102 1 (ca + 1)) p (s_o1 p dp (od k) t).1 dp (ca + 1) := by
          refine ⟨⟨h1.kept (fun b z1 z2 => up_row _ _ _ (by omega)), h2.kept ⟨by rw [up_in, if_neg (by omega)], by rw [up_in, if_neg (by omega)]⟩ ⟨up_row _ _ _ (by omega), up_row _ _ _ (by omega)⟩, ?_, ?_, ?_⟩, by rw [up_in, if_neg (by omega)]; exact h6, by rw [up_in, if_pos rfl]⟩
          · unfold rV_102; rw [up_row _ _ _ (by omega), up_row _ _ _ (by omega)]; exact h3
          · unfold rB_102; rw [up_row _ _ _ (by omega)]; exact h4
          · unfold rF_102; rw [up_in, if_neg (by omega), up_row _ _ _ (by omega), up_row _ _ _ (by omega)]; exact h5
        obtain ⟨I', c1, c2, c3⟩ := ih (k + 1) n (am_up I2 102 1 (ca + 1)) _ (ca + 1) ht2 (hO2.kept (fun b z1 z2 => up_row _ _ _ (by omega)) (by rw [up_row _ _ _ (by omega)])) hA3 (by omega) (by omega)
        exact ⟨I', c1, c2, (a3.toZ.tr b3).tr (rZ_102.tr (fun b z => up_row _ _ _ (by omega)) c3)⟩
    · rw [if_neg hc, if_pos rfl]
      have es : s_o1 p dp (od k) t = (t, false) := by unfold s_o1; rw [if_neg hc]
      rw [es] at ht2 ⊢
      obtain ⟨I', c1, c2, c3⟩ := ih (k + 1) n I1 t ca ht hO1 a2 (by omega) (by omega)
      exact ⟨I', c1, c2, a3.toZ.tr c3⟩
/-- a dip -/
theorem r_dp_102 {od : sO} {I : am_I} {t : sP} {ca : Int32} (hp : p_ok p) (ho : o_ok p od) (ht : t_ok p t) (hO : rO I p od) (h : rS_102 I p t dp ca) :
    ∃ I' : am_I, R_X13_dip_102 I G = some ((), I', G) ∧ rS_102 I' p (s_dip p od (t, dp, ca)).1 (s_dip p od (t, dp, ca)).2.1 (s_dip p od (t, dp, ca)).2.2 ∧ rZ_102 I I' :=
  r_dpL_102 hp ho (p 0 5) 0 FU I t ca ht hO h (by omega) (by have := ho.1; unfold FU; omega)
end MY102
/-- what sums and tests change -/
def rX_112 (I I' : am_I) : Prop := (∀ b, b ≠ 112 → (b < 115 ∨ 121 < b) → I' b = I b) ∧ ∀ k, k ≠ 10 → I' 112 k = I 112 k
theorem rX_112.rf (I : am_I) : rX_112 I I := ⟨fun _ _ _ => rfl, fun _ _ => rfl⟩
theorem rX_112.tr {I I1 I2 : am_I} (h1 : rX_112 I I1) (h2 : rX_112 I1 I2) : rX_112 I I2 := ⟨fun b z1 z2 => (h2.1 b z1 z2).trans (h1.1 b z1 z2), fun k hk => (h2.2 k hk).trans (h1.2 k hk)⟩
theorem rW_112.toX {I I' : am_I} (h : rW_112 I I') : rX_112 I I' := ⟨fun b z1 z2 => h.1 b (by omega) (by omega) (by omega) (by omega) z1, h.2.1⟩
theorem rG_112.toX {I I' : am_I} (h : rG_112 I I') : rX_112 I I' := ⟨fun b z1 z2 => h.1 b (by omega) (by omega) (by omega) (by omega) z1 (by omega) (by omega), h.2⟩
/-- nothing else has changed -/
def rZ_112 (I I' : am_I) : Prop := ∀ b, (b < 112 ∨ 121 < b) → I' b = I b
theorem rX_112.toZ {I I' : am_I} (h : rX_112 I I') : rZ_112 I I' := fun b hb => h.1 b (by omega) (by omega)
theorem rZ_112.rf (I : am_I) : rZ_112 I I := fun _ _ => rfl
theorem rZ_112.tr {I I1 I2 : am_I} (h1 : rZ_112 I I1) (h2 : rZ_112 I1 I2) : rZ_112 I I2 := fun b hb => (h2 b hb).trans (h1 b hb)
section MU112
variable {p t : sP} {G : am_G} {dp : Int32}
theorem rA_112.kst {I : am_I} (h : rA_112 I p t) (j : Nat) (x : Int32) : rA_112 (am_up I 119 j x) p t := by
  obtain ⟨h1, h2, h3, h4, h5⟩ := h
  have hk : ∀ b, b ≠ 119 → am_up I 119 j x b = I b := fun b hb => up_row _ _ _ hb
  refine ⟨h1.kept (fun b z1 z2 => hk b (by omega)), h2.kept ⟨by rw [hk 112 (by omega)], by rw [hk 112 (by omega)]⟩ ⟨hk _ (by omega), hk _ (by omega)⟩, ?_, ?_, ?_⟩
  · unfold rV_112; rw [hk 115 (by omega), hk 116 (by omega)]; exact h3
  · unfold rB_112; rw [hk 116 (by omega)]; exact h4
  · unfold rF_112; rw [hk 112 (by omega), hk 117 (by omega), hk 118 (by omega)]; exact h5
theorem rX_112.kst (I : am_I) (j : Nat) (x : Int32) : rX_112 I (am_up I 119 j x) := ⟨fun b z1 z2 => up_row _ _ _ (by omega), fun k _ => by rw [up_row _ _ _ (by omega)]⟩
/-- what is pushed with an operand -/
theorem r_pd_112 {I : am_I} (hp : p_ok p) (ht : t_ok p t) (h : rA_112 I p t) {op a : Nat} {st : List Int32} (ho : (op = 40 ∧ a ≤ 999999) ∨ (op = 9 ∧ a < p 0 3) ∨ (op = 6 ∧ a < p 0 2) ∨ ((op = 16 ∨ op = 18) ∧ a < p 0 4)) :
    ∃ (I' : am_I) (v : Int32), R_X13_pushed_112 I G (Int32.ofNat (s_rop op)) (Int32.ofNat a) = some (v, I', G) ∧ s_st p t dp op a st = v :: st ∧ rW_112 I I' ∧ rA_112 I' p t := by
  have h0 := hp.1
  unfold R_X13_pushed_112
  rcases ho with ⟨rfl, ha⟩ | ⟨rfl, ha⟩ | ⟨rfl, ha⟩ | ⟨rfl | rfl, ha⟩
  · rw [if_neg (by decide), if_neg (by decide), if_neg (by decide), if_neg (by decide)]
    exact ⟨I, _, rfl, s_st40, rW_112.rf I, h⟩
  · rw [if_neg (by decide), if_pos (by decide), rg_pos ((n_in (by omega)).mpr (by omega)), n_cl (by omega), h.2.1.2.2 a ha]
    exact ⟨I, _, rfl, s_st9, rW_112.rf I, h⟩
  · rw [if_pos (by decide), rg_pos ((n_in (by omega)).mpr (by omega)), n_cl (by omega), h.2.1.2.1 a ha]
    exact ⟨I, _, rfl, s_st6, rW_112.rf I, h⟩
  · obtain ⟨I', a1, a2, a3⟩ := r_sh_112 (G := G) hp ht h (j := a + 1) (by omega)
    rw [if_neg (by decide), if_neg (by decide), if_pos (by decide), n_inc, a1, rb_go]
    exact ⟨I', _, rfl, s_st16, a2, a3⟩
  · obtain ⟨I', a1, a2, a3⟩ := r_eg_112 (G := G) hp ht h (j := a + 1) (by omega)
    rw [if_neg (by decide), if_neg (by decide), if_neg (by decide), if_pos (by decide), n_inc, a1, rb_go]
    rcases s_eg_b p t (a + 1) (p 0 1) 0 with e | e
    · rw [e, if_pos rfl]
      exact ⟨I', _, rfl, by rw [s_st18, e], a2, a3⟩
    · rw [e, if_neg (by decide)]
      exact ⟨I', _, rfl, by rw [s_st18, e], a2, a3⟩
/-- one instruction -/
theorem r_stp_112 {I : am_I} (hp : p_ok p) (ht : t_ok p t) (h : rA_112 I p t) (hd : I 112 0 = dp) {op a k n z : Nat} {c : List (Nat × Nat)} {ts ts' : List Bool} {st : List Int32} (hc : r_code I k ((op, a) :: c)) (hw : s_wt p op a ts = some ts') (hy : s_ty ts st) (hl : st.length < 400) (hk : k + s_el ((op, a) :: c) ≤ 800) (hS : c_stk 119 I st) (hz : k + s_el ((op, a) :: c) = z) (v1 : Int32) :
    ∃ (I' : am_I) (k' : Nat), L_X13_carryOut_112 (n + 1) 0 I G v1 (Int32.ofNat z) (Int32.ofNat st.length + (-1 : Int32)) (Int32.ofNat k) = L_X13_carryOut_112 n 0 I' G v1 (Int32.ofNat z) (Int32.ofNat (s_st p t dp op a st).length + (-1 : Int32)) (Int32.ofNat k') ∧ k' + s_el c = z ∧ r_code I' k' c ∧ rA_112 I' p t ∧ rX_112 I I' ∧ c_stk 119 I' (s_st p t dp op a st) := by
  have h0 := hp.1
  have hSle := s_S_le hp
  have hel : 1 ≤ s_el ((op, a) :: c) := by unfold s_el; split <;> omega
  rw [L_X13_carryOut_112_0, if_neg (fun q => absurd ((n_le (by omega) (by omega)).mp q) (by omega)), rg_pos ((n_in (by omega)).mpr (by omega)), n_cl (k := k) (by omega), hc.1]
  have push : ∀ (I1 : am_I) (v : Int32), c_stk 119 I1 st → c_stk 119 (am_up I1 119 st.length v) (v :: st) := fun I1 v h1 => ⟨by rw [up_in, if_pos rfl], h1.kept (fun j hj => by rw [up_in, if_neg (by omega)])⟩
  have hcase := s_wt_sp hw
  by_cases t2 : s_two op = true
  · have ho : ((op = 40 ∧ a ≤ 999999) ∨ (op = 9 ∧ a < p 0 3) ∨ (op = 6 ∧ a < p 0 2) ∨ ((op = 16 ∨ op = 18) ∧ a < p 0 4)) := by
      rcases hcase with (⟨rfl, ha, -⟩ | ⟨rfl, -⟩ | ⟨rfl, ha, -⟩ | ⟨rfl, ha, -⟩ | ⟨rfl, ha, -⟩ | ⟨rfl, ha, -⟩) | (⟨rfl, -⟩ | ⟨rfl, -⟩) | ⟨h1, -⟩ | ⟨h1, -⟩ | ⟨h1, -⟩
      · exact Or.inl ⟨rfl, ha⟩
      · exact absurd t2 (by decide)
      · exact Or.inr (Or.inl ⟨rfl, ha⟩)
      · exact Or.inr (Or.inr (Or.inl ⟨rfl, ha⟩))
      · exact Or.inr (Or.inr (Or.inr ⟨Or.inl rfl, ha⟩))
      · exact Or.inr (Or.inr (Or.inr ⟨Or.inr rfl, ha⟩))
      · exact absurd t2 (by decide)
      · exact absurd t2 (by decide)
      · rcases h1 with rfl | rfl <;> exact absurd t2 (by decide)
      · rcases h1 with rfl | rfl | rfl | rfl | rfl <;> exact absurd t2 (by decide)
      · rcases h1 with rfl | rfl | rfl | rfl | rfl | rfl | rfl <;> exact absurd t2 (by decide)
    have f1 : f_X13_isPushed_112 I G (Int32.ofNat (s_rop op)) = 1 := by
      unfold f_X13_isPushed_112
      rcases ho with ⟨rfl, -⟩ | ⟨rfl, -⟩ | ⟨rfl, -⟩ | ⟨rfl | rfl, -⟩ <;> decide
    have f2 : ¬ Int32.ofNat (s_rop op) = 15 := by
      rcases ho with ⟨rfl, -⟩ | ⟨rfl, -⟩ | ⟨rfl, -⟩ | ⟨rfl | rfl, -⟩ <;> decide
    have hc2 := hc.2
    rw [if_pos t2] at hc2
    have hel2 : s_el ((op, a) :: c) = 2 + s_el c := by
      show (if s_two op = true then 2 else 1) + s_el c = _
      rw [if_pos t2]
    rw [f1, if_neg (by decide), if_neg f2, n_inc, rg_pos ((n_in (by omega)).mpr (by omega)), n_cl (k := k + 1) (by omega), hc2.1]
    obtain ⟨I1, v, a1, a2, a3, a4⟩ := r_pd_112 (G := G) (dp := dp) (st := st) hp ht h ho
    rw [a1, rb_go, n_m1p, rg_pos ((n_in (by omega)).mpr (by omega)), if_neg f2, n_cl (by omega), n_inc, a2]
    refine ⟨am_up I1 119 st.length v, k + 1 + 1, ?_, by omega, (hc2.2.kept (by rw [up_row _ _ _ (by omega), a3.1 _ (by omega) (by omega) (by omega) (by omega) (by omega)])), a4.kst _ _, a3.toX.tr (rX_112.kst _ _ _), push I1 v (hS.kept (fun j _ => by rw [a3.1 119 (by omega) (by omega) (by omega) (by omega) (by omega)]))⟩
    rw [List.length_cons, n_decm]
  rcases hcase with (⟨rfl, -, -⟩ | ⟨rfl, -⟩ | ⟨rfl, -, -⟩ | ⟨rfl, -, -⟩ | ⟨rfl, -, -⟩ | ⟨rfl, -, -⟩) | (⟨rfl, r, rfl, -⟩ | ⟨rfl, r, rfl, -⟩) | hbin
  · exact absurd rfl t2
  · have hc2 := hc.2
    rw [if_neg (by decide)] at hc2
    have hel2 : s_el ((15, a) :: c) = 1 + s_el c := rfl
    have f1 : f_X13_isPushed_112 I G (Int32.ofNat (s_rop 15)) = 1 := by unfold f_X13_isPushed_112; decide
    rw [f1, if_neg (by decide), if_pos (by decide), n_m1p, rg_pos ((n_in (by omega)).mpr (by omega)), if_pos (by decide), n_cl (by omega), n_inc, Int32.add_zero, hd, s_st15]
    refine ⟨am_up I 119 st.length dp, k + 1, ?_, by omega, hc2.kept (by rw [up_row _ _ _ (by omega)]), h.kst _ _, rX_112.kst _ _ _, push I dp hS⟩
    rw [List.length_cons, n_decm]
  · exact absurd rfl t2
  · exact absurd rfl t2
  · exact absurd rfl t2
  · exact absurd rfl t2
  · match st, hy, hl, hS with
    | x :: xs, hy, hl, hS =>
      rw [List.length_cons] at hl
      have hc2 := hc.2
      rw [if_neg (by decide)] at hc2
      have hel2 : s_el ((43, a) :: c) = 1 + s_el c := rfl
      have f1 : f_X13_isPushed_112 I G (Int32.ofNat (s_rop 43)) = 0 := by unfold f_X13_isPushed_112; decide
      have f2 : Int32.ofNat (s_rop 43) = 33 := by decide
      rw [f1, if_pos rfl, f2, if_pos rfl, if_pos rfl, s_st43, List.length_cons, n_decm, rg_pos ((n_in (by omega)).mpr (by omega)), rg_pos ((n_in (by omega)).mpr (by omega)), n_cl (by omega), hS.1, n_inc]
      refine ⟨am_up I 119 xs.length (-x), k + 1, ?_, by omega, hc2.kept (by rw [up_row _ _ _ (by omega)]), h.kst _ _, rX_112.kst _ _ _, ⟨by rw [up_in, if_pos rfl], hS.2.kept (fun j hj => by rw [up_in, if_neg (by omega)])⟩⟩
      rw [List.length_cons, n_decm]
  · match st, hy, hl, hS with
    | x :: xs, hy, hl, hS =>
      rw [List.length_cons] at hl
      have hc2 := hc.2
      rw [if_neg (by decide)] at hc2
      have hel2 : s_el ((19, a) :: c) = 1 + s_el c := rfl
      have f1 : f_X13_isPushed_112 I G (Int32.ofNat (s_rop 19)) = 0 := by unfold f_X13_isPushed_112; decide
      have f2 : ¬ Int32.ofNat (s_rop 19) = 33 := by decide
      have f3 : Int32.ofNat (s_rop 19) = 19 := by decide
      have hx : (1 : Int32) - x = (if x = 0 then 1 else 0) := by
        rcases hy.1 rfl with rfl | rfl <;> decide
      rw [f1, if_pos rfl, if_neg f2, if_pos f3, if_neg f2, s_st19, List.length_cons, n_decm, rg_pos ((n_in (by omega)).mpr (by omega)), rg_pos ((n_in (by omega)).mpr (by omega)), n_cl (by omega), hS.1, n_inc, hx]
      refine ⟨am_up I 119 xs.length (if x = 0 then 1 else 0), k + 1, ?_, by omega, hc2.kept (by rw [up_row _ _ _ (by omega)]), h.kst _ _, rX_112.kst _ _ _, ⟨by rw [up_in, if_pos rfl], hS.2.kept (fun j hj => by rw [up_in, if_neg (by omega)])⟩⟩
      rw [List.length_cons, n_decm]
  · have hops : op = 17 ∨ (op = 20 ∨ op = 21 ∨ op = 22 ∨ op = 23 ∨ op = 30 ∨ op = 31 ∨ op = 32 ∨ op = 33 ∨ op = 34 ∨ op = 35 ∨ op = 36 ∨ op = 37 ∨ op = 38) := by
      rcases hbin with ⟨ho, -⟩ | ⟨ho, -⟩ | ⟨ho, -⟩ <;> omega
    have hst : ∃ (x y : Int32) (r : List Int32), st = x :: y :: r ∧ ((op = 20 ∨ op = 21) → (y = 0 ∨ y = 1) ∧ (x = 0 ∨ x = 1)) := by
      rcases hbin with ⟨ho, r, rfl, -⟩ | ⟨ho, r, rfl, -⟩ | ⟨ho, r, rfl, -⟩
      · match st, hy with
        | x :: y :: xs, hy => exact ⟨x, y, xs, rfl, fun _ => ⟨hy.2.1 rfl, hy.1 rfl⟩⟩
      · match st, hy with
        | x :: y :: xs, hy => exact ⟨x, y, xs, rfl, fun w => by omega⟩
      · match st, hy with
        | x :: y :: xs, hy => exact ⟨x, y, xs, rfl, fun w => by omega⟩
    obtain ⟨x, y, r, rfl, hb⟩ := hst
    rw [List.length_cons, List.length_cons] at hl
    have hc2 := hc.2
    rw [if_neg t2] at hc2
    have hel2 : s_el ((op, a) :: c) = 1 + s_el c := by
      show (if s_two op = true then 2 else 1) + s_el c = _
      rw [if_neg t2]
    have f1 : f_X13_isPushed_112 I G (Int32.ofNat (s_rop op)) = 0 := by
      unfold f_X13_isPushed_112
      rcases hops with rfl | rfl | rfl | rfl | rfl | rfl | rfl | rfl | rfl | rfl | rfl | rfl | rfl | rfl <;> decide
    have f2 : ¬ Int32.ofNat (s_rop op) = 33 ∧ ¬ Int32.ofNat (s_rop op) = 19 := by
      rcases hops with rfl | rfl | rfl | rfl | rfl | rfl | rfl | rfl | rfl | rfl | rfl | rfl | rfl | rfl <;> decide
    have s1 : I 119 (r.length + 1) = x := by have := hS.1; rw [List.length_cons] at this; exact this
    have s2 : I 119 r.length = y := hS.2.1
    rw [f1, if_pos rfl, if_neg f2.1, if_neg f2.2, List.length_cons, List.length_cons, n_decm, n_decm, n_inc]
    by_cases h17 : op = 17
    · subst h17
      have hsl := s_spot_lt hp y x
      rw [if_pos (by decide), rg_pos ((n_in (by omega)).mpr (by omega)), rg_pos ((n_in (by omega)).mpr (by omega)), n_cl (by omega), n_cl (by omega), s1, s2, rg_pos (r_spotq h.1 hp _ _), r_spot h.1 hp, show s_md x.toInt (p 0 1) * p 0 0 + s_md y.toInt (p 0 0) = s_spot p y x from rfl]
      obtain ⟨I1, a1, a2, a3, a4⟩ := r_ht_112 (G := G) hp ht h hsl
      rw [a1, rb_go, rg_pos ((n_in (by omega)).mpr (by omega)), n_inc, s_st17]
      have eT : I1 119 = I 119 := a2.1 _ (by omega) (by omega) (by omega) (by omega) (by omega)
      refine ⟨am_up I1 119 r.length (s_ht p t (s_spot p y x)), k + 1, ?_, by omega, hc2.kept (by rw [up_row _ _ _ (by omega), a2.1 _ (by omega) (by omega) (by omega) (by omega) (by omega)]), a3.kst _ _, a2.toX.tr (rX_112.kst _ _ _), ⟨by rw [up_in, if_pos rfl], hS.2.2.kept (fun j hj => by rw [up_in, if_neg (by omega), eT])⟩⟩
      rw [List.length_cons, n_decm]
    · have f3 : ¬ Int32.ofNat (s_rop op) = 17 := by
        rcases hops with rfl | rfl | rfl | rfl | rfl | rfl | rfl | rfl | rfl | rfl | rfl | rfl | rfl | rfl <;> first | exact absurd rfl h17 | decide
      have ho := hops.resolve_left h17
      rw [if_neg f3, rg_pos ((n_in (by omega)).mpr (by omega)), rg_pos ((n_in (by omega)).mpr (by omega)), n_cl (by omega), n_cl (by omega), s1, s2, rg_pos (r_bothq _ _ _ _ _), rg_pos ((n_in (by omega)).mpr (by omega)), r_both ho I G y x hb, n_inc, s_stb ho]
      refine ⟨am_up I 119 r.length (s_bin op y x), k + 1, ?_, by omega, hc2.kept (by rw [up_row _ _ _ (by omega)]), h.kst _ _, rX_112.kst _ _ _, ⟨by rw [up_in, if_pos rfl], hS.2.2.kept (fun j hj => by rw [up_in, if_neg (by omega)])⟩⟩
      rw [List.length_cons, n_decm]
theorem r_coL_112 (hp : p_ok p) (ht : t_ok p t) (v1 : Int32) : ∀ (c : List (Nat × Nat)) (k n : Nat) (I : am_I) (st : List Int32) (ts ts' : List Bool), rA_112 I p t → I 112 0 = dp → r_code I k c → s_wc p c ts = some ts' → s_ty ts st → c_stk 119 I st → st.length + c.length ≤ 400 → k + s_el c ≤ 800 → ts'.length = 1 → c.length < n →
    ∃ I' : am_I, L_X13_carryOut_112 n 0 I G v1 (Int32.ofNat (k + s_el c)) (Int32.ofNat st.length + (-1 : Int32)) (Int32.ofNat k) = some ((s_ev p t dp c st).headD 0, I', G) ∧ rA_112 I' p t ∧ rX_112 I I' := by
  intro c
  induction c with
  | nil =>
    intro k n I st ts ts' h hd hc hw hy hS hl hk hts hn
    obtain ⟨n, rfl⟩ : ∃ n', n = n' + 1 := ⟨n - 1, by omega⟩
    cases hw
    have hlen := s_ty_len hy
    have v0 : vp_in (0 : Int32) 400 := (n_in (k := 0) (by omega)).mpr (by omega)
    match st, hy, hS, hlen with
    | [], _, _, hlen => rw [hts] at hlen; cases hlen
    | x :: y :: xs, _, _, hlen => rw [hts, List.length_cons, List.length_cons] at hlen; omega
    | [x], hy, hS, hlen =>
      have hk2 : k ≤ 800 := Nat.le_trans (Nat.le_add_right _ _) hk
      have hle : Int32.ofNat (k + s_el []) ≤ Int32.ofNat k := (n_le (by omega) (by omega)).mpr (Nat.le_refl _)
      rw [L_X13_carryOut_112_0, if_pos hle, rg_pos v0, show (0 : Int32).toNatClampNeg = 0 from rfl, show I 119 0 = x from hS.1]
      exact ⟨I, rfl, h, rX_112.rf I⟩
  | cons q c ih =>
    intro k n I st ts ts' h hd hc hw hy hS hl hk hts hn
    obtain ⟨op, a⟩ := q
    obtain ⟨n, rfl⟩ : ∃ n', n = n' + 1 := ⟨n - 1, by omega⟩
    rw [List.length_cons] at hl hn
    unfold s_wc at hw
    cases h1 : s_wt p op a ts with
    | none => rw [h1] at hw; cases hw
    | some t1 =>
      rw [h1] at hw
      have hlen := s_ty_len hy
      obtain ⟨I1, k', a1, a2, a3, a4, a5, a6⟩ := r_stp_112 (G := G) (n := n) hp ht h hd hc h1 hy (by omega) hk hS rfl v1
      have hy1 := s_st_ty (t := t) (dp := dp) h1 hy
      have hl1 : (s_st p t dp op a st).length ≤ st.length + 1 := by
        rw [← s_ty_len hy1, ← hlen]
        rcases s_wt_sp h1 with (⟨-, -, rfl⟩ | ⟨-, rfl⟩ | ⟨-, -, rfl⟩ | ⟨-, -, rfl⟩ | ⟨-, -, rfl⟩ | ⟨-, -, rfl⟩) | (⟨-, r, rfl, rfl⟩ | ⟨-, r, rfl, rfl⟩) | ⟨-, r, rfl, rfl⟩ | ⟨-, r, rfl, rfl⟩ | ⟨-, r, rfl, rfl⟩ <;> simp only [List.length_cons] <;> omega
      obtain ⟨I', b1, b2, b3⟩ := ih k' n I1 (s_st p t dp op a st) t1 ts' a4 (by rw [a5.2 0 (by omega)]; exact hd) a3 hw hy1 a6 (by omega) (by omega) hts (by omega)
      rw [a2] at b1
      rw [a1]
      exact ⟨I', b1, b2, a5.tr b3⟩
/-- carryOut -/
theorem r_co_112 {I : am_I} (hp : p_ok p) (ht : t_ok p t) (h : rA_112 I p t) (hd : I 112 0 = dp) {c : List (Nat × Nat)} {k : Nat} {b0 : Bool} (hc : r_code I k c) (hw : s_wc p c [] = some [b0]) (hk : k + s_el c ≤ 800) (hl : c.length ≤ 400) :
    ∃ I' : am_I, R_X13_carryOut_112 I G (Int32.ofNat k) (Int32.ofNat (k + s_el c)) = some (s_res p t dp c, I', G) ∧ rA_112 I' p t ∧ rX_112 I I' :=
  r_coL_112 hp ht _ c k FU I [] [] [b0] h hd hc hw trivial trivial (by rw [List.length_nil]; omega) hk rfl (by unfold FU; omega)
/-- all that is known of the state, with its counters -/
def rS_112 (I : am_I) (p t : sP) (dp ca : Int32) : Prop := rA_112 I p t ∧ I 112 0 = dp ∧ I 112 1 = ca
theorem rS_112.ofX {I I' : am_I} {ca : Int32} (h : rS_112 I p t dp ca) (hx : rX_112 I I') (ha : rA_112 I' p t) : rS_112 I' p t dp ca := ⟨ha, by rw [hx.2 0 (by omega)]; exact h.2.1, by rw [hx.2 1 (by omega)]; exact h.2.2⟩
end MU112
section MV112
variable {p t : sP} {G : am_G} {dp ca : Int32} {I : am_I}
theorem r_lp_112 (hp : p_ok p) (ht : t_ok p t) (h : rS_112 I p t dp ca) {c x : Nat} (hc : c < p 0 3) (hx : x ≤ 16) : q_X13_letPull_112 I G (Int32.ofNat c) (Int32.ofNat x) ∧ f_X13_letPull_112 I G (Int32.ofNat c) (Int32.ofNat x) = (if t 2 c = x then 0 else 1) ∧ rS_112 (g_X13_letPull_112 I G (Int32.ofNat c) (Int32.ofNat x)) p (if t 2 c = x then t else am_up t 2 c x) dp ca ∧ rZ_112 I (g_X13_letPull_112 I G (Int32.ofNat c) (Int32.ofNat x)) := by
  have h0 := hp.1
  have hA := h
  obtain ⟨⟨h1, h2, h3, h4, h5⟩, h6, h7⟩ := h
  have hu := (ht.2.2 c).2
  have vi : vp_in (Int32.ofNat c) 4 := (n_in (by omega)).mpr (by omega)
  refine ⟨⟨vi, fun _ => trivial, fun _ => ⟨vi, Or.inl rfl, trivial⟩⟩, ?_⟩
  unfold f_X13_letPull_112 g_X13_letPull_112
  rw [n_cl (by omega), h2.2.2 c hc]
  by_cases he : t 2 c = x
  · have eh : Int32.ofNat (t 2 c) = Int32.ofNat x := by rw [he]
    simp only [if_pos eh, if_pos he]
    exact ⟨trivial, hA, rZ_112.rf I⟩
  · have nh : ¬ Int32.ofNat (t 2 c) = Int32.ofNat x := fun z => he ((n_eq (by omega) (by omega)).mp z)
    simp only [if_neg nh, if_neg he]
    have e : ∀ b, b ≠ 114 → b ≠ 112 → am_up (am_up I 114 c (Int32.ofNat x)) 112 10 0 b = I b := fun b z1 z2 => by rw [up_row _ _ _ z2, up_row _ _ _ z1]
    have eS : ∀ k, k ≠ 10 → am_up (am_up I 114 c (Int32.ofNat x)) 112 10 0 112 k = I 112 k := fun k z => by rw [up_in, if_neg z, up_row _ _ _ (by omega)]
    refine ⟨trivial, ⟨⟨h1.kept (fun b z1 z2 => e b (by omega) (by omega)), ⟨⟨?_, ?_⟩, fun o ho => ?_, fun c' hc' => ?_⟩, ?_, ?_, ?_⟩, by rw [eS 0 (by omega)]; exact h6, by rw [eS 1 (by omega)]; exact h7⟩, fun b hb => e b (by omega) (by omega)⟩
    · rw [eS 2 (by omega), up_row t _ _ (by omega)]; exact h2.1.1
    · rw [eS 3 (by omega), up_row t _ _ (by omega)]; exact h2.1.2
    · rw [e 113 (by omega) (by omega), up_row t _ _ (by omega)]; exact h2.2.1 o ho
    · rw [up_row _ _ _ (by omega), up_in, up_in]
      by_cases hcc : c' = c
      · rw [if_pos hcc, if_pos hcc]
      · rw [if_neg hcc, if_neg hcc]; exact h2.2.2 c' hc'
    · unfold rV_112
      rw [e 115 (by omega) (by omega), e 116 (by omega) (by omega), up_row t _ _ (by omega : (1 : Nat) ≠ 2)]; exact h3
    · unfold rB_112
      rw [e 116 (by omega) (by omega)]; exact h4
    · intro z
      exact absurd (by rw [up_in, if_pos rfl]) z
theorem r_ls_112 (hp : p_ok p) (ht : t_ok p t) (h : rS_112 I p t dp ca) {o x : Nat} (ho : o < p 0 2) (hx : x ≤ 999) : q_X13_letSeed_112 I G (Int32.ofNat o) (Int32.ofNat x) ∧ f_X13_letSeed_112 I G (Int32.ofNat o) (Int32.ofNat x) = (if t 1 o = x then 0 else 1) ∧ rS_112 (g_X13_letSeed_112 I G (Int32.ofNat o) (Int32.ofNat x)) p (if t 1 o = x then t else am_up t 1 o x) dp ca ∧ rZ_112 I (g_X13_letSeed_112 I G (Int32.ofNat o) (Int32.ofNat x)) := by
  have h0 := hp.1
  have hA := h
  obtain ⟨⟨h1, h2, h3, h4, h5⟩, h6, h7⟩ := h
  have hu := (ht.2.2 o).1
  have vi : vp_in (Int32.ofNat o) 4 := (n_in (by omega)).mpr (by omega)
  refine ⟨⟨vi, fun _ => trivial, fun _ => ⟨vi, ⟨vi, Or.inl rfl⟩, Or.inl rfl, trivial⟩⟩, ?_⟩
  unfold f_X13_letSeed_112 g_X13_letSeed_112
  rw [n_cl (by omega), h2.2.1 o ho]
  by_cases he : t 1 o = x
  · have eh : Int32.ofNat (t 1 o) = Int32.ofNat x := by rw [he]
    simp only [if_pos eh, if_pos he]
    exact ⟨trivial, hA, rZ_112.rf I⟩
  · have nh : ¬ Int32.ofNat (t 1 o) = Int32.ofNat x := fun z => he ((n_eq (by omega) (by omega)).mp z)
    simp only [if_neg nh, if_neg he]
    have e : ∀ b, b ≠ 113 → b ≠ 116 → b ≠ 112 → am_up (am_up (am_up I 113 o (Int32.ofNat x)) 116 o 0) 112 10 0 b = I b := fun b z1 z2 z3 => by rw [up_row _ _ _ z3, up_row _ _ _ z2, up_row _ _ _ z1]
    have eS : ∀ k, k ≠ 10 → am_up (am_up (am_up I 113 o (Int32.ofNat x)) 116 o 0) 112 10 0 112 k = I 112 k := fun k z => by rw [up_in, if_neg z, up_row _ _ _ (by omega), up_row _ _ _ (by omega)]
    have eK : ∀ k, am_up (am_up (am_up I 113 o (Int32.ofNat x)) 116 o 0) 112 10 0 116 k = if k = o then 0 else I 116 k := fun k => by rw [up_row _ _ _ (by omega), up_in, up_row _ _ _ (by omega)]
    refine ⟨trivial, ⟨⟨h1.kept (fun b z1 z2 => e b (by omega) (by omega) (by omega)), ⟨⟨?_, ?_⟩, fun o' ho' => ?_, fun c' hc' => ?_⟩, ?_, ?_, ?_⟩, by rw [eS 0 (by omega)]; exact h6, by rw [eS 1 (by omega)]; exact h7⟩, fun b hb => e b (by omega) (by omega) (by omega)⟩
    · rw [eS 2 (by omega), up_row t _ _ (by omega)]; exact h2.1.1
    · rw [eS 3 (by omega), up_row t _ _ (by omega)]; exact h2.1.2
    · rw [up_row _ _ _ (by omega), up_row _ _ _ (by omega), up_in, up_in]
      by_cases hoo : o' = o
      · rw [if_pos hoo, if_pos hoo]
      · rw [if_neg hoo, if_neg hoo]; exact h2.2.1 o' ho'
    · rw [e 114 (by omega) (by omega) (by omega), up_row t _ _ (by omega)]; exact h2.2.2 c' hc'
    · intro o' ho' hk k hkS
      rw [eK] at hk
      by_cases hoo : o' = o
      · rw [if_pos hoo] at hk; exact absurd rfl hk
      · rw [if_neg hoo] at hk
        rw [e 115 (by omega) (by omega) (by omega), up_in, if_neg hoo]
        exact h3 o' ho' hk k hkS
    · intro k
      rw [eK]
      split
      · exact Or.inl rfl
      · exact h4 k
    · intro z
      exact absurd (by rw [up_in, if_pos rfl]) z
/-- the state with a drift set anew -/
theorem r_ldu_112 (h : rS_112 I p t dp ca) (d u : Nat) : rS_112 (am_up (am_up (am_up I 112 2 (Int32.ofNat d)) 112 3 (Int32.ofNat u)) 112 10 0) p (am_up (am_up t 0 0 d) 0 1 u) dp ca := by
  obtain ⟨⟨h1, h2, h3, h4, h5⟩, h6, h7⟩ := h
  have e : ∀ b, b ≠ 112 → am_up (am_up (am_up I 112 2 (Int32.ofNat d)) 112 3 (Int32.ofNat u)) 112 10 0 b = I b := fun b z => by rw [up_row _ _ _ z, up_row _ _ _ z, up_row _ _ _ z]
  have et : ∀ b, b ≠ 0 → am_up (am_up t 0 0 d) 0 1 u b = t b := fun b z => by rw [up_row _ _ _ z, up_row _ _ _ z]
  refine ⟨⟨h1.kept (fun b z1 z2 => e b (by omega)), ⟨⟨?_, ?_⟩, fun o ho => ?_, fun c hc => ?_⟩, ?_, ?_, ?_⟩, ?_, ?_⟩
  · rw [up_in, if_neg (by omega), up_in, if_neg (by omega), up_in, if_pos rfl, up_in, if_neg (by omega), up_in, if_pos rfl]
  · rw [up_in, if_neg (by omega), up_in, if_pos rfl, up_in, if_pos rfl]
  · rw [e 113 (by omega), et 1 (by omega)]; exact h2.2.1 o ho
  · rw [e 114 (by omega), et 2 (by omega)]; exact h2.2.2 c hc
  · unfold rV_112
    rw [e 115 (by omega), e 116 (by omega), et 1 (by omega)]; exact h3
  · unfold rB_112
    rw [e 116 (by omega)]; exact h4
  · intro z
    exact absurd (by rw [up_in, if_pos rfl]) z
  · rw [up_in, if_neg (by omega), up_in, if_neg (by omega), up_in, if_neg (by omega)]; exact h6
  · rw [up_in, if_neg (by omega), up_in, if_neg (by omega), up_in, if_neg (by omega)]; exact h7
theorem r_ld0_112 (hp : p_ok p) (ht : t_ok p t) (h : rS_112 I p t dp ca) (x : Int32) : q_X13_letDrift_112 I G 0 x ∧ f_X13_letDrift_112 I G 0 x = (if s_md ((t 0 0 : Int) + x.toInt) (p 0 0) = t 0 0 then 0 else 1) ∧ rS_112 (g_X13_letDrift_112 I G 0 x) p (am_up t 0 0 (s_md ((t 0 0 : Int) + x.toInt) (p 0 0))) dp ca ∧ rZ_112 I (g_X13_letDrift_112 I G 0 x) := by
  have h0 := hp.1
  have t0 := ht.1
  have hP := h.1.1
  have hT := h.1.2.1
  obtain ⟨m1, m2⟩ := s_md_add t0 x.toInt
  have hb := s_md_lt x.toInt (show 0 < p 0 0 by omega)
  have hb2 := s_md_lt ((t 0 0 : Int) + x.toInt) (show 0 < p 0 0 by omega)
  have c1 : 0 < (I 86 0).toInt := by rw [hP.1.1]; exact n_pos (by omega) (by omega)
  have c2 : ¬ I 86 0 = 0 := by rw [hP.1.1]; exact n_ne0 (by omega) (by omega)
  refine ⟨⟨fun _ => ⟨c1, fun _ => ⟨c2, fun _ => trivial, fun _ => ⟨Or.inl rfl, trivial⟩⟩, fun z => absurd rfl z⟩, fun z => absurd rfl z⟩, ?_⟩
  have eq : Int32.ofInt (x.toInt % (I 86 0).toInt) = Int32.ofNat (s_md x.toInt (p 0 0)) := by rw [hP.1.1, n_fm (by omega) (by omega)]
  have ev : (I 112 2 + Int32.ofNat (s_md x.toInt (p 0 0))) - (I 112 2 + Int32.ofNat (s_md x.toInt (p 0 0))) / (I 86 0) * (I 86 0) = Int32.ofNat (s_md ((t 0 0 : Int) + x.toInt) (p 0 0)) := by rw [hT.1.1, hP.1.1, n_add, n_mod (by omega) (by omega), m1]
  unfold f_X13_letDrift_112 g_X13_letDrift_112
  rw [eq, ev]
  simp only [if_true]
  by_cases he : s_md x.toInt (p 0 0) = 0
  · have hd := m2.mpr he
    have cz : Int32.ofNat (s_md x.toInt (p 0 0)) ≤ 0 := by rw [he]; decide
    simp only [if_pos cz, if_pos hd]
    rw [hd, am_up_id hT.1.1, am_up_id rfl]
    exact ⟨trivial, h, rZ_112.rf I⟩
  · have hd : ¬ s_md ((t 0 0 : Int) + x.toInt) (p 0 0) = t 0 0 := fun z => he (m2.mp z)
    have cz : ¬ Int32.ofNat (s_md x.toInt (p 0 0)) ≤ 0 := n_nle0 (by omega) (by omega)
    simp only [if_neg cz, if_neg hd]
    refine ⟨trivial, ?_, fun b hb => by rw [up_row _ _ _ (by omega), up_row _ _ _ (by omega)]⟩
    have := r_ldu_112 h (s_md ((t 0 0 : Int) + x.toInt) (p 0 0)) (t 0 1)
    rw [am_up_id (f := am_up t 0 0 _) (by rw [up_in, if_neg (by omega)]), am_up_id (f := am_up I 112 2 _) (by rw [up_in, if_neg (by omega)]; exact hT.1.2)] at this
    exact this
theorem r_ld1_112 (hp : p_ok p) (ht : t_ok p t) (h : rS_112 I p t dp ca) (x : Int32) : q_X13_letDrift_112 I G 1 x ∧ f_X13_letDrift_112 I G 1 x = (if s_md ((t 0 1 : Int) + x.toInt) (p 0 1) = t 0 1 then 0 else 1) ∧ rS_112 (g_X13_letDrift_112 I G 1 x) p (am_up t 0 1 (s_md ((t 0 1 : Int) + x.toInt) (p 0 1))) dp ca ∧ rZ_112 I (g_X13_letDrift_112 I G 1 x) := by
  have h0 := hp.1
  have t0 := ht.2.1
  have hP := h.1.1
  have hT := h.1.2.1
  obtain ⟨m1, m2⟩ := s_md_add t0 x.toInt
  have hb := s_md_lt x.toInt (show 0 < p 0 1 by omega)
  have hb2 := s_md_lt ((t 0 1 : Int) + x.toInt) (show 0 < p 0 1 by omega)
  have c1 : 0 < (I 86 1).toInt := by rw [hP.1.2.1]; exact n_pos (by omega) (by omega)
  have c2 : ¬ I 86 1 = 0 := by rw [hP.1.2.1]; exact n_ne0 (by omega) (by omega)
  have n10 : ¬ (1 : Int32) = 0 := by decide
  refine ⟨⟨fun z => absurd z n10, fun _ => ⟨c1, fun z => absurd z n10, fun _ => ⟨c2, fun _ => trivial, fun _ => ⟨Or.inl rfl, trivial⟩⟩⟩⟩, ?_⟩
  have eq : Int32.ofInt (x.toInt % (I 86 1).toInt) = Int32.ofNat (s_md x.toInt (p 0 1)) := by rw [hP.1.2.1, n_fm (by omega) (by omega)]
  have ev : (I 112 3 + Int32.ofNat (s_md x.toInt (p 0 1))) - (I 112 3 + Int32.ofNat (s_md x.toInt (p 0 1))) / (I 86 1) * (I 86 1) = Int32.ofNat (s_md ((t 0 1 : Int) + x.toInt) (p 0 1)) := by rw [hT.1.2, hP.1.2.1, n_add, n_mod (by omega) (by omega), m1]
  unfold f_X13_letDrift_112 g_X13_letDrift_112
  rw [eq, ev]
  simp only [if_neg n10]
  by_cases he : s_md x.toInt (p 0 1) = 0
  · have hd := m2.mpr he
    have cz : Int32.ofNat (s_md x.toInt (p 0 1)) ≤ 0 := by rw [he]; decide
    simp only [if_pos cz, if_pos hd]
    rw [hd, am_up_id hT.1.2, am_up_id rfl]
    exact ⟨trivial, h, rZ_112.rf I⟩
  · have hd : ¬ s_md ((t 0 1 : Int) + x.toInt) (p 0 1) = t 0 1 := fun z => he (m2.mp z)
    have cz : ¬ Int32.ofNat (s_md x.toInt (p 0 1)) ≤ 0 := n_nle0 (by omega) (by omega)
    simp only [if_neg cz, if_neg hd]
    refine ⟨trivial, ?_, fun b hb => by rw [up_row _ _ _ (by omega), up_row _ _ _ (by omega)]⟩
    have := r_ldu_112 h (t 0 0) (s_md ((t 0 1 : Int) + x.toInt) (p 0 1))
    rw [am_up_id (f := t) rfl, am_up_id (f := I) hT.1.1] at this
    exact this
/-- order -/
theorem r_or_112 {od : sO} (hp : p_ok p) (ht : t_ok p t) (ho : o_ok p od) (hO : rO I p od) (h : rS_112 I p t dp ca) {k : Nat} (hk : k < p 0 5) :
    ∃ I' : am_I, R_X13_order_112 I G (Int32.ofNat k) = some (s_fl (s_do p t (od k).1.1 (od k).1.2 (s_res p t dp (od k).2.1)).2, I', G) ∧ rS_112 I' p (s_do p t (od k).1.1 (od k).1.2 (s_res p t dp (od k).2.1)).1 dp ca ∧ rZ_112 I I' := by
  have hk20 : k < 20 := by have := ho.1; omega
  have h0 := hp.1
  obtain ⟨o1, o2, o3⟩ := ho.2 k hk
  obtain ⟨q1, q2, a, ⟨q3, q4, q5, q6, q6a, q6b⟩, q7, q8⟩ := hO.2 k hk
  have vi : vp_in (Int32.ofNat k) 20 := (n_in (by omega)).mpr hk20
  have vi1 : vp_in (Int32.ofNat k) 21 := (n_in (by omega)).mpr (by omega)
  unfold R_X13_order_112
  rw [rg_pos vi1, rg_pos vi1, n_cl (by omega), q3, q4]
  obtain ⟨I1, a1, a2, a3⟩ := r_co_112 (G := G) hp ht h.1 h.2.1 q7 o2 (by omega) q6a
  have h1 := h.ofX a3 a2
  rw [a1, rb_go, rg_pos vi, a3.1 95 (by omega) (by omega), a3.1 96 (by omega) (by omega), q1, q2]
  generalize s_res p t dp (od k).2.1 = r1
  generalize hkd : (od k).1.1 = kd at o1 ⊢
  generalize htg : (od k).1.2 = tg at o1 ⊢
  rcases o1 with ⟨rfl, ho1⟩ | ⟨rfl, ho1⟩ | ⟨rfl, ho1⟩
  · have hb := gHo_b16 r1
    rw [if_neg (by decide), rg_pos vi, if_pos (by decide), rg_pos vi, r_holdm, n_ex hb.1]
    obtain ⟨b1, b2, b3, b4⟩ := r_lp_112 (G := G) hp ht h1 (c := tg) (x := (gHo r1 0 16).toInt.toNat) ho1 (by omega)
    rw [rg_pos b1, b2]
    by_cases he : t 2 tg = (gHo r1 0 16).toInt.toNat
    · have es : s_do p t 9 tg r1 = (t, false) := by rw [s_do9, if_pos he]
      rw [if_pos he] at b3
      rw [es, if_pos he, rg_pos (Or.inl rfl)]
      exact ⟨_, rfl, b3, a3.toZ.tr b4⟩
    · have es : s_do p t 9 tg r1 = (am_up t 2 tg (gHo r1 0 16).toInt.toNat, true) := by rw [s_do9, if_neg he]
      rw [if_neg he] at b3
      rw [es, if_neg he, rg_pos (Or.inr rfl)]
      exact ⟨_, rfl, b3, a3.toZ.tr b4⟩
  · have hb := gHo_b r1
    rw [if_neg (by decide), rg_pos vi, if_neg (by decide), rg_pos vi, r_holdm, n_ex hb.1]
    obtain ⟨b1, b2, b3, b4⟩ := r_ls_112 (G := G) hp ht h1 (o := tg) (x := (gHo r1 0 999).toInt.toNat) ho1 (by omega)
    rw [rg_pos b1, b2]
    by_cases he : t 1 tg = (gHo r1 0 999).toInt.toNat
    · have es : s_do p t 6 tg r1 = (t, false) := by rw [s_do6, if_pos he]
      rw [if_pos he] at b3
      rw [es, if_pos he, rg_pos (Or.inl rfl)]
      exact ⟨_, rfl, b3, a3.toZ.tr b4⟩
    · have es : s_do p t 6 tg r1 = (am_up t 1 tg (gHo r1 0 999).toInt.toNat, true) := by rw [s_do6, if_neg he]
      rw [if_neg he] at b3
      rw [es, if_neg he, rg_pos (Or.inr rfl)]
      exact ⟨_, rfl, b3, a3.toZ.tr b4⟩
  · rw [if_pos (by decide), rg_pos vi]
    by_cases hg : tg = 0
    · subst hg
      obtain ⟨b1, b2, b3, b4⟩ := r_ld0_112 (G := G) hp ht h1 r1
      rw [if_neg (by decide), rg_pos b1, b2]
      by_cases he : s_md ((t 0 0 : Int) + r1.toInt) (p 0 0) = t 0 0
      · have es : s_do p t 12 0 r1 = (t, false) := by rw [s_do120, if_pos he]
        rw [es, if_pos he, rg_pos (Or.inl rfl)]
        rw [he, am_up_id rfl] at b3
        exact ⟨_, rfl, b3, a3.toZ.tr b4⟩
      · have es : s_do p t 12 0 r1 = (am_up t 0 0 (s_md ((t 0 0 : Int) + r1.toInt) (p 0 0)), true) := by rw [s_do120, if_neg he]
        rw [es, if_neg he, rg_pos (Or.inr rfl)]
        exact ⟨_, rfl, b3, a3.toZ.tr b4⟩
    · obtain ⟨b1, b2, b3, b4⟩ := r_ld1_112 (G := G) hp ht h1 r1
      rw [if_pos (show Int32.ofNat tg = 1 by rw [show tg = 1 by omega]; rfl), rg_pos b1, b2]
      by_cases he : s_md ((t 0 1 : Int) + r1.toInt) (p 0 1) = t 0 1
      · have es : s_do p t 12 tg r1 = (t, false) := by rw [s_do121 p t hg, if_pos he]
        rw [es, if_pos he, rg_pos (Or.inl rfl)]
        rw [he, am_up_id rfl] at b3
        exact ⟨_, rfl, b3, a3.toZ.tr b4⟩
      · have es : s_do p t 12 tg r1 = (am_up t 0 1 (s_md ((t 0 1 : Int) + r1.toInt) (p 0 1)), true) := by rw [s_do121 p t hg, if_neg he]
        rw [es, if_neg he, rg_pos (Or.inr rfl)]
        exact ⟨_, rfl, b3, a3.toZ.tr b4⟩
/-- holds -/
theorem r_hd_112 {od : sO} (hp : p_ok p) (ht : t_ok p t) (ho : o_ok p od) (hO : rO I p od) (h : rS_112 I p t dp ca) {k : Nat} (hk : k < p 0 5) :
    ∃ I' : am_I, R_X13_holds_112 I G (Int32.ofNat k) = some (@ite Int32 ((od k).2.2 = [] ∨ ¬ s_res p t dp (od k).2.2 = 0) (Classical.propDecidable _) 1 0, I', G) ∧ rS_112 I' p t dp ca ∧ rX_112 I I' := by
  have hk20 : k < 20 := by have := ho.1; omega
  obtain ⟨o1, o2, o3⟩ := ho.2 k hk
  obtain ⟨q1, q2, a, ⟨q3, q4, q5, q6, q6a, q6b⟩, q7, q8⟩ := hO.2 k hk
  have vi1 : vp_in (Int32.ofNat k) 21 := (n_in (by omega)).mpr (by omega)
  unfold R_X13_holds_112
  rw [rg_pos vi1, rg_pos vi1, n_cl (by omega), q4, q5]
  by_cases hte : (od k).2.2 = []
  · have hz : s_el (od k).2.2 = 0 := by rw [hte]; rfl
    rw [if_pos (show Int32.ofNat (a + s_el (od k).2.1 + s_el (od k).2.2) = Int32.ofNat (a + s_el (od k).2.1) by rw [hz, Nat.add_zero]), if_pos (Or.inl hte)]
    exact ⟨I, rfl, h, rX_112.rf I⟩
  · have hw := o3.resolve_left hte
    have hz : 0 < s_el (od k).2.2 := Nat.lt_of_lt_of_le (Nat.pos_of_ne_zero (fun z => hte (List.length_eq_zero_iff.mp z))) (s_el_le _)
    rw [if_neg (fun z => absurd ((n_eq (by omega) (by omega)).mp z) (by omega)), rg_pos vi1, rg_pos vi1]
    obtain ⟨I1, a1, a2, a3⟩ := r_co_112 (G := G) hp ht h.1 h.2.1 q8 hw q6 q6b
    rw [a1, rb_go]
    have hty := s_ev_ty (t := t) (dp := dp) (st := []) hw trivial
    have h01 : s_res p t dp (od k).2.2 = 0 ∨ s_res p t dp (od k).2.2 = 1 := by
      unfold s_res
      match s_ev p t dp (od k).2.2 [], hty with
      | x :: xs, hty => exact hty.1 rfl
    rcases h01 with e | e
    · rw [e, if_neg (by decide), if_neg (fun z => z.elim hte (fun y => y rfl))]
      exact ⟨I1, rfl, h.ofX a3 a2, a3⟩
    · rw [e, if_pos rfl, if_pos (Or.inr (by decide))]
      exact ⟨I1, rfl, h.ofX a3 a2, a3⟩
end MV112
section MY112
variable {p : sP} {dp : Int32} {G : am_G}
theorem r_dpL_112 {od : sO} (hp : p_ok p) (ho : o_ok p od) : ∀ (m k n : Nat) (I : am_I) (t : sP) (ca : Int32), t_ok p t → rO I p od → rS_112 I p t dp ca → k + m = p 0 5 → m < n →
    ∃ I' : am_I, L_X13_dip_112 n 0 I G (Int32.ofNat k) = some ((), I', G) ∧ rS_112 I' p (s_dl p od dp m k (t, ca)).1 (dp + 1) (s_dl p od dp m k (t, ca)).2 ∧ rZ_112 I I' := by
  have h20 := ho.1
  intro m
  induction m with
  | zero =>
    intro k n I t ca ht hO h hk hn
    obtain ⟨n, rfl⟩ : ∃ n', n = n' + 1 := ⟨n - 1, by omega⟩
    rw [L_X13_dip_112_0, hO.1, if_pos ((n_le (by omega) (by omega)).mpr (by omega)), h.2.1]
    obtain ⟨⟨h1, h2, h3, h4, h5⟩, h6, h7⟩ := h
    refine ⟨_, rfl, ⟨⟨h1.kept (fun b z1 z2 => up_row _ _ _ (by omega)), h2.kept ⟨by rw [up_in, if_neg (by omega)], by rw [up_in, if_neg (by omega)]⟩ ⟨up_row _ _ _ (by omega), up_row _ _ _ (by omega)⟩, ?_, ?_, ?_⟩, by rw [up_in, if_pos rfl], by rw [up_in, if_neg (by omega)]; exact h7⟩, fun b z => up_row _ _ _ (by omega)⟩
    · unfold rV_112; rw [up_row _ _ _ (by omega), up_row _ _ _ (by omega)]; exact h3
    · unfold rB_112; rw [up_row _ _ _ (by omega)]; exact h4
    · unfold rF_112; rw [up_in, if_neg (by omega), up_row _ _ _ (by omega), up_row _ _ _ (by omega)]; exact h5
  | succ m ih =>
    intro k n I t ca ht hO h hk hn
    obtain ⟨n, rfl⟩ : ∃ n', n = n' + 1 := ⟨n - 1, by omega⟩
    obtain ⟨I1, a1, a2, a3⟩ := r_hd_112 (G := G) hp ht ho hO h (k := k) (by omega)
    rw [L_X13_dip_112_0, hO.1, if_neg (fun z => absurd ((n_le (by omega) (by omega)).mp z) (by omega)), a1, rb_go, n_inc]
    have hdl : s_dl p od dp (m + 1) k (t, ca) = s_dl p od dp m (k + 1) ((s_o1 p dp (od k) t).1, if (s_o1 p dp (od k) t).2 then ca + 1 else ca) := rfl
    rw [hdl]
    have ht2 := s_o1_ok hp ht dp (od k)
    have hO1 : rO I1 p od := hO.kept (fun b z1 z2 => a3.1 b (by omega) (by omega)) (by rw [a3.1 86 (by omega) (by omega)])
    by_cases hc : (od k).2.2 = [] ∨ ¬ s_res p t dp (od k).2.2 = 0
    · rw [if_pos hc, if_neg (by decide)]
      have es : s_o1 p dp (od k) t = s_do p t (od k).1.1 (od k).1.2 (s_res p t dp (od k).2.1) := by unfold s_o1; rw [if_pos hc]
      obtain ⟨I2, b1, b2, b3⟩ := r_or_112 (G := G) hp ht ho hO1 a2 (k := k) (by omega)
      rw [← es] at b1 b2
      rw [b1, rb_go]
      have hO2 : rO I2 p od := hO1.kept (fun b z1 z2 => b3 b (by omega)) (by rw [b3 86 (by omega)])
      cases hb : (s_o1 p dp (od k) t).2 with
      | false =>
        rw [show s_fl false = 0 from rfl, if_pos rfl]
        obtain ⟨I', c1, c2, c3⟩ := ih (k + 1) n I2 _ ca ht2 hO2 b2 (by omega) (by omega)
        exact ⟨I', c1, c2, (a3.toZ.tr b3).tr c3⟩
      | true =>
        rw [show s_fl true = 1 from rfl, if_neg (by decide), b2.2.2]
        obtain ⟨⟨h1, h2, h3, h4, h5⟩, h6, h7⟩ := b2
        have hA3 : rS_112 (am_up I2 112 1 (ca + 1)) p (s_o1 p dp (od k) t).1 dp (ca + 1) := by
          refine ⟨⟨h1.kept (fun b z1 z2 => up_row _ _ _ (by omega)), h2.kept ⟨by rw [up_in, if_neg (by omega)], by rw [up_in, if_neg (by omega)]⟩ ⟨up_row _ _ _ (by omega), up_row _ _ _ (by omega)⟩, ?_, ?_, ?_⟩, by rw [up_in, if_neg (by omega)]; exact h6, by rw [up_in, if_pos rfl]⟩
          · unfold rV_112; rw [up_row _ _ _ (by omega), up_row _ _ _ (by omega)]; exact h3
          · unfold rB_112; rw [up_row _ _ _ (by omega)]; exact h4
          · unfold rF_112; rw [up_in, if_neg (by omega), up_row _ _ _ (by omega), up_row _ _ _ (by omega)]; exact h5
        obtain ⟨I', c1, c2, c3⟩ := ih (k + 1) n (am_up I2 112 1 (ca + 1)) _ (ca + 1) ht2 (hO2.kept (fun b z1 z2 => up_row _ _ _ (by omega)) (by rw [up_row _ _ _ (by omega)])) hA3 (by omega) (by omega)
        exact ⟨I', c1, c2, (a3.toZ.tr b3).tr (rZ_112.tr (fun b z => up_row _ _ _ (by omega)) c3)⟩
    · rw [if_neg hc, if_pos rfl]
      have es : s_o1 p dp (od k) t = (t, false) := by unfold s_o1; rw [if_neg hc]
      rw [es] at ht2 ⊢
      obtain ⟨I', c1, c2, c3⟩ := ih (k + 1) n I1 t ca ht hO1 a2 (by omega) (by omega)
      exact ⟨I', c1, c2, a3.toZ.tr c3⟩
/-- a dip -/
theorem r_dp_112 {od : sO} {I : am_I} {t : sP} {ca : Int32} (hp : p_ok p) (ho : o_ok p od) (ht : t_ok p t) (hO : rO I p od) (h : rS_112 I p t dp ca) :
    ∃ I' : am_I, R_X13_dip_112 I G = some ((), I', G) ∧ rS_112 I' p (s_dip p od (t, dp, ca)).1 (s_dip p od (t, dp, ca)).2.1 (s_dip p od (t, dp, ca)).2.2 ∧ rZ_112 I I' :=
  r_dpL_112 hp ho (p 0 5) 0 FU I t ca ht hO h (by omega) (by have := ho.1; unfold FU; omega)
end MY112
