/-! names in a code -/
def kwL : List Int64 := [30059336, 99, 1046797086, 75899451, 224012, 1856278475211, 969441, 172977, 37744078, 839653, 12850, 329128, 8420961, 755, 1176170, 5825, 36016323, 564588237, 259005, 19741, 1891, 573, 18144, 17858]
def w1 (f : Nat → Int32) (k : Nat) (v : Int32) : Nat → Int32 := fun x => if x = k then v else f x
theorem up_w1 (I : am_I) (a k : Nat) (v : Int32) : am_up I a k v a = w1 (I a) k v := am_up_row I v
def s_rl (op : Nat) : Nat := if op = 9 then 18 else if op = 6 then 20 else 19
def s_im : List (Nat × Nat) → List (Nat × Nat)
  | [] => []
  | (op, a) :: r => if s_nmd op = true then (s_rl op, a) :: s_im r else s_im r
theorem s_im_app : ∀ (a b : List (Nat × Nat)), s_im (a ++ b) = s_im a ++ s_im b
  | [], _ => rfl
  | (op, x) :: l, b => by
    simp only [List.cons_append, s_im, s_im_app l b]
    split <;> rfl
