/-! small numbers: Int32.ofNat k throughout -/
theorem n_ti {k : Nat} (h : k < 2147483648) : (Int32.ofNat k).toInt = (k : Int) := i_of k h
theorem n_cl {k : Nat} (h : k < 2147483648) : (Int32.ofNat k).toNatClampNeg = k := by rw [i_cl, n_ti h]; rfl
theorem n_tn {k : Nat} (h : k < 2147483648) : (Int32.ofNat k).toInt.toNat = k := by rw [n_ti h]; rfl
theorem n_ex {a : Int32} (h : 0 ≤ a.toInt) : a = Int32.ofNat a.toInt.toNat := by
  have := i_b a
  rw [i_eq, n_ti (by omega)]; omega
theorem n_add (a b : Nat) : Int32.ofNat a + Int32.ofNat b = Int32.ofNat (a + b) := (Int32.ofNat_add a b).symm
theorem n_mul (a b : Nat) : Int32.ofNat a * Int32.ofNat b = Int32.ofNat (a * b) := (Int32.ofNat_mul a b).symm
theorem n_sub {a b : Nat} (h : b ≤ a) : Int32.ofNat a - Int32.ofNat b = Int32.ofNat (a - b) := (Int32.ofNat_sub a b h).symm
theorem n_div {a b : Nat} (ha : a < 2147483648) (hb : b < 2147483648) : Int32.ofNat a / Int32.ofNat b = Int32.ofNat (a / b) := (Int32.ofNat_div ha hb).symm
theorem n_mod {a b : Nat} (ha : a < 2147483648) (hb : b < 2147483648) : Int32.ofNat a - Int32.ofNat a / Int32.ofNat b * Int32.ofNat b = Int32.ofNat (a % b) := by
  have h1 : a / b * b ≤ a := Nat.div_mul_le_self a b
  rw [n_div ha hb, n_mul, n_sub h1]
  congr 1
  have := Nat.div_add_mod a b
  rw [Nat.mul_comm] at this
  omega
theorem n_le {a b : Nat} (ha : a < 2147483648) (hb : b < 2147483648) : (Int32.ofNat a ≤ Int32.ofNat b) ↔ a ≤ b := by rw [i_le, n_ti ha, n_ti hb]; omega
theorem n_lt {a b : Nat} (ha : a < 2147483648) (hb : b < 2147483648) : (Int32.ofNat a < Int32.ofNat b) ↔ a < b := by rw [i_lt, n_ti ha, n_ti hb]; omega
theorem n_eq {a b : Nat} (ha : a < 2147483648) (hb : b < 2147483648) : (Int32.ofNat a = Int32.ofNat b) ↔ a = b := by rw [i_eq, n_ti ha, n_ti hb]; omega
theorem n_0 : (0 : Int32) = Int32.ofNat 0 := rfl
theorem n_1 : (1 : Int32) = Int32.ofNat 1 := rfl
theorem n_inc (a : Nat) : Int32.ofNat a + 1 = Int32.ofNat (a + 1) := n_add a 1
theorem n_dec {a : Nat} (h : 1 ≤ a) : Int32.ofNat a - 1 = Int32.ofNat (a - 1) := n_sub h
theorem n_decm {a : Nat} : Int32.ofNat (a + 1) + (-1) = Int32.ofNat a := by
  rw [Int32.ofNat_add, Int32.add_assoc, show Int32.ofNat 1 + -1 = 0 from rfl, Int32.add_zero]
theorem n_in {k n : Nat} (h : k < 2147483648) : vp_in (Int32.ofNat k) n ↔ k < n := by rw [i_in, n_ti h]; omega
theorem n_gAt {f : Nat → Int32} {n k : Nat} (h : k < n) (hn : n ≤ 2147483648) : gAt f n (Int32.ofNat k) = f k := by
  rw [gAt_in (by rw [n_ti (by omega)]; omega) (by rw [n_ti (by omega)]; omega), n_tn (by omega)]
theorem n_gAto {f : Nat → Int32} {n k : Nat} (h : n ≤ k) (hk : k < 2147483648) : gAt f n (Int32.ofNat k) = 0 := gAt_out (Or.inr (by rw [n_ti hk]; omega))
theorem n_gPut {I : am_I} {a n k : Nat} {x : Int32} (h : k < n) (hn : n ≤ 2147483648) : gPut I a n (Int32.ofNat k) x = am_up I a k x := by
  unfold gPut
  rw [if_neg (by rw [n_ti (by omega)]; omega), n_tn (by omega)]
/-- a remainder as a number -/
def s_md (a : Int) (n : Nat) : Nat := (a % (n : Int)).toNat
theorem s_md_lt (a : Int) {n : Nat} (h : 0 < n) : s_md a n < n := by
  have h1 := Int.emod_nonneg a (show (n : Int) ≠ 0 by omega)
  have h2 := Int.emod_lt_of_pos a (show (0 : Int) < n by omega)
  unfold s_md; omega
theorem s_md_nat (a n : Nat) : s_md (a : Int) n = a % n := by
  unfold s_md
  rw [← Int.natCast_emod]
  rfl
theorem s_md_id {a n : Nat} (h : a < n) : s_md (a : Int) n = a := by rw [s_md_nat, Nat.mod_eq_of_lt h]
theorem n_gWr {x : Int} {m : Nat} (h : 0 < m) (hm : m < 2147483648) : gWr x (Int32.ofNat m) = Int32.ofNat (s_md x m) := by
  have h2 := s_md_lt x h
  rw [i_eq, gWr_b (by rw [n_ti hm]; omega), n_ti hm, n_ti (by omega)]
  have h1 := Int.emod_nonneg x (show (m : Int) ≠ 0 by omega)
  unfold s_md; omega
theorem n_fm {x : Int} {m : Nat} (h : 0 < m) (hm : m < 2147483648) : Int32.ofInt (x % (Int32.ofNat m).toInt) = Int32.ofNat (s_md x m) := by
  have h2 := s_md_lt x h
  have h1 := Int.emod_nonneg x (show (m : Int) ≠ 0 by omega)
  have h3 := Int.emod_lt_of_pos x (show (0 : Int) < m by omega)
  rw [n_ti hm, i_eq, i_ofi _ (by omega), n_ti (by omega)]
  unfold s_md; omega
theorem n_gQu {a b : Nat} (ha : a < 2147483648) (h : 0 < b) (hb : b < 2147483648) : gQu (Int32.ofNat a) (Int32.ofNat b) = Int32.ofNat (a / b) := by
  unfold gQu
  rw [if_neg (by rw [n_0, n_eq hb (by omega)]; omega), n_div ha hb]
theorem n_l (x : Int32) : x.toInt64.toInt = x.toInt := Int32.toInt_toInt64 x
theorem n_sti {a b : Nat} (ha : a < 1000000000) (hb : b < 1000000000) : (Int32.ofNat a - Int32.ofNat b).toInt = (a : Int) - (b : Int) := by
  rw [Int32.toInt_sub, n_ti (by omega), n_ti (by omega)]
  exact Int.bmod_eq_of_le_mul_two (by omega) (by omega)
theorem n_ne0 {b : Nat} (h : 0 < b) (hb : b < 2147483648) : ¬ Int32.ofNat b = 0 := by rw [n_0, n_eq hb (by omega)]; omega
theorem n_pos {b : Nat} (h : 0 < b) (hb : b < 2147483648) : 0 < (Int32.ofNat b).toInt := by rw [n_ti hb]; omega
theorem n_nlt0 (k : Nat) (h : k < 2147483648) : ¬ Int32.ofNat k < 0 := by rw [i_lt, n_ti h, i_0]; omega
theorem n_m1 : (-1 : Int32) < 0 := by decide
theorem am_up_lit2 {α : Type} (f : Nat → Nat → α) (a k : Nat) (x : α) (b j : Nat) : am_up f a k x b j = if b = a ∧ j = k then x else f b j := by
  by_cases hb : b = a
  · subst hb
    by_cases hj : j = k
    · subst hj; simp [am_up]
    · rw [am_up_k f x hj, if_neg (fun h => hj h.2)]
  · rw [am_up_a f k j x hb, if_neg (fun h => hb h.1)]
theorem up_row {α : Type} (f : Nat → Nat → α) {a b : Nat} (k : Nat) (x : α) (h : b ≠ a) : am_up f a k x b = f b := am_up_rowb f k x h
theorem up_in {α : Type} (f : Nat → Nat → α) (a k j : Nat) (x : α) : am_up f a k x a j = if j = k then x else f a j := by rw [am_up_lit2]; simp
theorem gPut_row {I : am_I} {a n b : Nat} {k x : Int32} (h : b ≠ a) : gPut I a n k x b = I b := by
  unfold gPut
  split
  · rfl
  · exact am_up_rowb I _ x h
theorem gPut_out {I : am_I} {a n : Nat} {k x : Int32} (h : k.toInt < 0 ∨ (n : Int) ≤ k.toInt) : gPut I a n k x = I := by unfold gPut; rw [if_pos h]
theorem mul_lt_of {a b A B : Nat} (ha : a ≤ A) (hb : b ≤ B) : a * b ≤ A * B := Nat.mul_le_mul ha hb
