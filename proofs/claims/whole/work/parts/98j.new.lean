/-! the reference's new plan -/
section RNW
theorem z_row {α : Type} (f : Nat → Nat → α) {a b : Nat} (z : α) (h : b ≠ a) : am_z f a z b = f b := by
  funext j
  show (bif Nat.beq b a then z else f b j) = f b j
  rw [show Nat.beq b a = false from by
    cases hq : Nat.beq b a with
    | true => exact absurd (Nat.eq_of_beq_eq_true hq) h
    | false => rfl]
  rfl
theorem z_in {α : Type} (f : Nat → Nat → α) (a k : Nat) (z : α) : am_z f a z a k = z := by
  show (bif Nat.beq a a then z else f a k) = z
  rw [Nat.beq_refl]
  rfl
theorem z_lo (I : am_I) {b : Nat} (h : b ≤ 123) : zI_X14r I b = am_up (am_up (am_z I 123 0) 123 0 (16 : Int32)) 123 1 (12 : Int32) b := by
  unfold zI_X14r zI_X12_init_123r
  rw [z_row _ _ (by omega), z_row _ _ (by omega), z_row _ _ (by omega), z_row _ _ (by omega), z_row _ _ (by omega), z_row _ _ (by omega), z_row _ _ (by omega), z_row _ _ (by omega), z_row _ _ (by omega), z_row _ _ (by omega), z_row _ _ (by omega), z_row _ _ (by omega), z_row _ _ (by omega), z_row _ _ (by omega), z_row _ _ (by omega)]
theorem z_new (I : am_I) : (∀ b, b < 123 → zI_X14r I b = I b) ∧ (zI_X14r I 123 0 = 16 ∧ zI_X14r I 123 1 = 12) ∧ (∀ k, 2 ≤ k → zI_X14r I 123 k = 0) ∧ ∀ b, 124 ≤ b → b ≤ 138 → ∀ k, zI_X14r I b k = 0 := by
  refine ⟨fun b hb => ?_, ⟨?_, ?_⟩, fun k hk => ?_, fun b h1 h2 k => ?_⟩
  · rw [z_lo I (by omega), up_row _ _ _ (by omega), up_row _ _ _ (by omega), z_row _ _ (by omega)]
  · rw [z_lo I (by omega), up_in, if_neg (by omega), am_up_self]
  · rw [z_lo I (by omega), am_up_self]
  · rw [z_lo I (by omega), up_in, if_neg (by omega), up_in, if_neg (by omega), z_in]
  · unfold zI_X14r zI_X12_init_123r
    rcases (show b = 124 ∨ b = 125 ∨ b = 126 ∨ b = 127 ∨ b = 128 ∨ b = 129 ∨ b = 130 ∨ b = 131 ∨ b = 132 ∨ b = 133 ∨ b = 134 ∨ b = 135 ∨ b = 136 ∨ b = 137 ∨ b = 138 by omega) with rfl | rfl | rfl | rfl | rfl | rfl | rfl | rfl | rfl | rfl | rfl | rfl | rfl | rfl | rfl <;> rfl
end RNW
section RWF
variable {K V C : Nat → Nat}
/-- roles of well-formed items -/
theorem wf_rof : ∀ (l : List (Nat × Nat)) (X : sX), wfI K V C X l → ∀ a r, rof l a = some r → 1 ≤ r ∧ r ≤ 20 ∧ ((r = 3 ∨ r = 8 ∨ r = 12) → K a = 39)
  | [], _, _, _, _, h => by cases h
  | (r0, b) :: l, X, hw, a, r, h => by
    rw [rof_c] at h
    by_cases hb : b = a
    · rw [if_pos hb] at h
      cases h
      have h1 := hw.1
      refine ⟨h1.2.2.2.2.2.2.2.2.1, h1.2.2.2.2.2.2.2.2.2, fun hr => ?_⟩
      rw [← hb]
      exact h1.2.1 (by dsimp only; omega)
    · rw [if_neg hb] at h
      exact wf_rof l _ hw.2 a r h
end RWF
