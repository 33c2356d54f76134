/-! the state's begin over the cells of the constructor is the same function -/
set_option maxHeartbeats 100000 in
theorem L_begin_k (n : Nat) : ∀ (h : Nat) (I : am_I) (G : am_G) (v1 : Int32), L_X13_begin_102k n h I G v1 = L_X13_begin_102 n h I G v1 := by
  induction n with
  | zero => intro h I G v1; rfl
  | succ n ih =>
    intro h I G v1
    unfold L_X13_begin_102k L_X13_begin_102
    simp only [ih]
    cases h with
    | zero => rfl
    | succ h => rfl
set_option maxHeartbeats 100000 in
theorem R_begin_k (I : am_I) (G : am_G) : R_X13_begin_102k I G = R_X13_begin_102 I G := by
  unfold R_X13_begin_102k R_X13_begin_102
  simp only [L_begin_k]
