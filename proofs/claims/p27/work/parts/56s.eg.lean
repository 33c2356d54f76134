/-! an edge; two places -/
def s_eg (p t : sP) (j : Nat) : Nat → Nat → Int32
  | 0, _ => 0
  | m + 1, y => if s_ik p t (y * p 0 0) = j then 1 else s_eg p t j m (y + 1)
theorem s_row_lt {p : sP} (hp : p_ok p) {y : Nat} (hy : y < p 0 1) : y * p 0 0 < s_S p := by
  have := s_pair_b (C := p 0 0) (R := p 0 1) (a := 0) (b := y) (by have := hp.1; omega) hy
  rw [Nat.add_zero] at this
  exact this
def s_two (op : Nat) : Bool := op == 40 || op == 9 || op == 16 || op == 6 || op == 18
def s_el : List (Nat × Nat) → Nat
  | [] => 0
  | (op, _) :: r => (if s_two op = true then 2 else 1) + s_el r
