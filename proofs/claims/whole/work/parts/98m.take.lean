/-! taking the plan: the plan told, with right rows everywhere -/
section RTP
def pad (p : sP) : sP := fun a k => if a = 0 then p 0 k else if a = 1 ∨ a = 2 ∨ a = 3 then (if k < p 0 2 then p a k else 1) else if a = 7 then (if k < p 0 2 then p 7 k else 0) else if a = 5 then (if k < p 0 3 then p 5 k else 1) else if a = 4 ∨ a = 8 then (if k < p 0 3 then p a k else 0) else if a = 6 then (if k < p 0 4 then p 6 k else 0) else 0
theorem pad_0 (p : sP) (k : Nat) : pad p 0 k = p 0 k := rfl
theorem pad_1 (p : sP) (k : Nat) : pad p 1 k = if k < p 0 2 then p 1 k else 1 := rfl
theorem pad_2 (p : sP) (k : Nat) : pad p 2 k = if k < p 0 2 then p 2 k else 1 := rfl
theorem pad_3 (p : sP) (k : Nat) : pad p 3 k = if k < p 0 2 then p 3 k else 1 := rfl
theorem pad_7 (p : sP) (k : Nat) : pad p 7 k = if k < p 0 2 then p 7 k else 0 := rfl
theorem pad_5 (p : sP) (k : Nat) : pad p 5 k = if k < p 0 3 then p 5 k else 1 := rfl
theorem pad_4 (p : sP) (k : Nat) : pad p 4 k = if k < p 0 3 then p 4 k else 0 := rfl
theorem pad_8 (p : sP) (k : Nat) : pad p 8 k = if k < p 0 3 then p 8 k else 0 := rfl
theorem pad_6 (p : sP) (k : Nat) : pad p 6 k = if k < p 0 4 then p 6 k else 0 := rfl
theorem pad_ok {p : sP} (h : pk p) : p_ok (pad p) := by
  obtain ⟨h1, h2, h3, h4, h5⟩ := h
  refine ⟨h1, fun k => ?_, fun i j hij hj => ?_⟩
  · rw [pad_1, pad_2, pad_3, pad_7, pad_5, pad_4, pad_8, pad_6]
    have a2 := h2 k
    have a3 := h3 k
    have a4 := h4 k
    by_cases b2 : k < p 0 2
    · have a2 := a2 b2
      by_cases b3 : k < p 0 3
      · have a3 := a3 b3
        by_cases b4 : k < p 0 4
        · have a4 := a4 b4
          simp only [if_pos b2, if_pos b3, if_pos b4]; omega
        · simp only [if_pos b2, if_pos b3, if_neg b4]; omega
      · by_cases b4 : k < p 0 4
        · have a4 := a4 b4
          simp only [if_pos b2, if_neg b3, if_pos b4]; omega
        · simp only [if_pos b2, if_neg b3, if_neg b4]; omega
    · by_cases b3 : k < p 0 3
      · have a3 := a3 b3
        by_cases b4 : k < p 0 4
        · have a4 := a4 b4
          simp only [if_neg b2, if_pos b3, if_pos b4]; omega
        · simp only [if_neg b2, if_pos b3, if_neg b4]; omega
      · by_cases b4 : k < p 0 4
        · have a4 := a4 b4
          simp only [if_neg b2, if_neg b3, if_pos b4]; omega
        · simp only [if_neg b2, if_neg b3, if_neg b4]; omega
  · rw [pad_0] at hj
    rw [pad_6, pad_6, if_pos (by omega), if_pos hj]
    exact h5 i j hij hj
theorem cp_o {I : am_I} {a b n c : Nat} (h : c ≠ b) : am_cp I a b n c = I c := by
  funext j
  show (if c = b ∧ j < n then I a j else I c j) = _
  rw [if_neg (fun z => h z.1)]
theorem cp_i {I : am_I} {a b n j : Nat} (h : j < n) : am_cp I a b n b j = I a j := by
  show (if b = b ∧ j < n then I a j else I b j) = _
  rw [if_pos ⟨rfl, h⟩]
end RTP
