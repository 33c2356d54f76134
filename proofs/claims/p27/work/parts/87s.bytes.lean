/-- the bytes of a tape -/
def tpR (B : Nat → Nat) (ln : Nat) (_ : am_I) : Prop := ln ≤ 2000 ∧ (∀ i, i < ln → B i ≤ 255) ∧ ∀ i, ln ≤ i → B i = 256
section RT
variable {B : Nat → Nat} {ln : Nat} {I : am_I}
theorem tpR.le (h : tpR B ln I) (i : Nat) : B i ≤ 256 := by
  by_cases hi : i < ln
  · have := h.2.1 i hi; omega
  · rw [h.2.2 i (by omega)]; exact Nat.le_refl _
theorem tpR.lt (h : tpR B ln I) {i : Nat} (hb : ¬ B i = 256) : i < ln := by
  by_cases hi : i < ln
  · exact hi
  · exact absurd (h.2.2 i (by omega)) hb
theorem tK_i {i a : Nat} (h : ¬ i = 400) : tK B ln i a = tK B ln 0 a ∧ tE B ln i a = tE B ln 0 a := by
  unfold tK tE
  rw [if_neg h, if_neg h, if_neg (show ¬ (0 : Nat) = 400 by omega), if_neg (show ¬ (0 : Nat) = 400 by omega)]
  exact ⟨rfl, rfl⟩
theorem tK_400 (a : Nat) : tK B ln 400 a = if B a = 256 then 41 else 42 := by
  unfold tK
  rw [if_pos rfl]
theorem tK_0le (hT : tpR B ln I) (a : Nat) : tK B ln 0 a ≤ 42 := by
  unfold tK
  have h1 := (kwf_le (cd B a (rn B ln qW a - a)) 24 0 rfl).1
  have h2 := (bI_v (hT.le a)).2.2.2.2.1
  unfold kwi
  repeat' split
  all_goals omega
theorem tE_leR (hT : tpR B ln I) {i a : Nat} (ha : a ≤ ln) : tE B ln i a ≤ ln ∧ a ≤ tE B ln i a := by
  have hl := hT.2.1
  unfold tE
  by_cases h1 : B a = 256
  · rw [if_pos h1]; omega
  · have h2 := hT.lt h1
    rw [if_neg h1]
    by_cases h3 : i = 400
    · rw [if_pos h3]; omega
    · rw [if_neg h3]
      have r1 := ru_b qW B (ln - a) a
      have r2 := ru_b qD B (ln - a) a
      split
      · unfold rn; omega
      · split
        · unfold rn; omega
        · split
          · rename_i h5
            have := hT.lt (i := a + 1) (by rw [h5.2]; omega)
            omega
          · split <;> omega
theorem tK_40 (hT : tpR B ln I) {i a : Nat} (ha : a ≤ ln) (h : tK B ln i a = 40) : ¬ i = 400 ∧ qL (B a) = false ∧ qD (B a) = true ∧ rn B ln qD a - a ≤ 6 ∧ tE B ln i a = rn B ln qD a := by
  have h1 := (kwf_le (cd B a (rn B ln qW a - a)) 24 0 rfl)
  have h2 := (bI_v (hT.le a)).2.2.2.2.1
  unfold tK at h
  unfold kwi at h
  unfold tE
  by_cases c1 : B a = 256
  · rw [if_pos c1] at h; omega
  · rw [if_neg c1] at h ⊢
    by_cases c2 : i = 400
    · rw [if_pos c2] at h; omega
    · rw [if_neg c2] at h ⊢
      by_cases c3 : qL (B a) = true
      · rw [if_pos c3] at h; split at h <;> omega
      · rw [if_neg c3] at h ⊢
        by_cases c4 : qD (B a) = true
        · rw [if_pos c4] at h ⊢
          by_cases c5 : rn B ln qD a - a ≤ 6
          · exact ⟨c2, Bool.eq_false_iff.mpr c3, c4, c5, rfl⟩
          · rw [if_neg c5] at h; omega
        · rw [if_neg c4] at h
          split at h
          · split at h <;> omega
          · omega
theorem tK_39 (hT : tpR B ln I) {i a : Nat} (ha : a ≤ ln) (h : tK B ln i a = 39) : ¬ i = 400 ∧ qL (B a) = true ∧ rn B ln qW a - a ≤ 10 ∧ tE B ln i a = rn B ln qW a := by
  have h2 := (bI_v (hT.le a)).2.2.2.2.1
  unfold tK at h
  unfold tE
  by_cases c1 : B a = 256
  · rw [if_pos c1] at h; omega
  · rw [if_neg c1] at h ⊢
    by_cases c2 : i = 400
    · rw [if_pos c2] at h; omega
    · rw [if_neg c2] at h ⊢
      by_cases c3 : qL (B a) = true
      · rw [if_pos c3] at h ⊢
        by_cases c5 : rn B ln qW a - a ≤ 10
        · exact ⟨c2, c3, c5, rfl⟩
        · rw [if_neg c5] at h; omega
      · rw [if_neg c3] at h
        by_cases c4 : qD (B a) = true
        · rw [if_pos c4] at h; split at h <;> omega
        · rw [if_neg c4] at h
          split at h
          · split at h <;> omega
          · omega
theorem tS_le (hT : tpR B ln I) : ∀ i, tS B ln i ≤ ln
  | 0 => by
    have := ru_b qS B (ln - 0) 0
    show ru qS B (ln - 0) 0 ≤ ln
    omega
  | i + 1 => by
    have h := (tE_leR hT (i := i) (tS_le hT i)).1
    have := ru_b qS B (ln - tE B ln i (tS B ln i)) (tE B ln i (tS B ln i))
    show ru qS B (ln - tE B ln i (tS B ln i)) (tE B ln i (tS B ln i)) ≤ ln
    omega
end RT
