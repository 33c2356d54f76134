/-! StringBuilder.append(int) of numbers below 1000 -/
def dT (x : Nat) : List Nat := if x < 10 then [48 + x] else if x < 100 then [48 + x / 10, 48 + x % 10] else [48 + x / 100, 48 + x / 10 % 10, 48 + x % 10]
theorem dT_len (x : Nat) : 1 ≤ (dT x).length ∧ (dT x).length ≤ 3 := by
  unfold dT
  (repeat' split) <;> simp
theorem am_row_id (I : am_I) (v : Nat) : am_row I v (I v) = I := by
  funext a
  by_cases h : a = v
  · subst h; rw [am_row_self]
  · rw [am_row_ne _ _ h]
theorem ss_c : ∀ x, x < 1000 → ((-(Int32.ofNat x) ≤ (-10 : Int32) ↔ 10 ≤ x) ∧ (-(Int32.ofNat x) ≤ (10 : Int32) * (-10 : Int32) ↔ 100 ≤ x) ∧ (-(Int32.ofNat x) ≤ (10 : Int32) * ((10 : Int32) * (-10 : Int32)) ↔ 1000 ≤ x) ∧ ((-100 : Int32) < -(Int32.ofNat x) ↔ x < 100) ∧ ((-9 : Int32) ≤ -(Int32.ofNat x) ↔ x < 10)) := by decide +kernel
theorem gc_t : ∀ x, x < 100 → ((am_bT.getD 1 ("", "", [])).2.2.getD (-(-(Int32.ofNat x))).toNatClampNeg 0 = Int32.ofNat (48 + x % 10) ∧ (am_bT.getD 0 ("", "", [])).2.2.getD (-(-(Int32.ofNat x))).toNatClampNeg 0 = Int32.ofNat (48 + x / 10) ∧ (-(-(Int32.ofNat x))).toInt = x) := by decide +kernel
theorem gc_u : ∀ x, x < 100 → ((am_bT.getD 1 ("", "", [])).2.2.getD (Int32.ofNat x).toNatClampNeg 0 = Int32.ofNat (48 + x % 10) ∧ (am_bT.getD 0 ("", "", [])).2.2.getD (Int32.ofNat x).toNatClampNeg 0 = Int32.ofNat (48 + x / 10) ∧ (Int32.ofNat x).toInt = x) := by decide +kernel
theorem gc_d : ∀ x, x < 1000 → (-(Int32.ofNat x) / (100 : Int32) = -(Int32.ofNat (x / 100)) ∧ -(Int32.ofNat (x / 100)) * (100 : Int32) - -(Int32.ofNat x) = Int32.ofNat (x % 100)) := by decide +kernel
theorem gc_z : ∀ x, x < 128 → (Int32.ofNat x).toInt8.toInt32 = Int32.ofNat x := by decide +kernel
theorem gc_l : (am_bT.getD 1 ("", "", [])).2.2.length = 100 ∧ (am_bT.getD 0 ("", "", [])).2.2.length = 100 := by decide +kernel
section AMTD
variable {sh : List am_Sh} {I : am_I} {G : am_G} {P : am_P} {q w b v m n x : Nat} {T S : List Nat}
set_option maxHeartbeats 1000000 in
theorem ss_1 (hx : x < 1000) (h1 : x < 10) : am_Ct mJ6_stringSize_0f7a4 1 sh [.int (Int32.ofNat x)] I G P (pI (Int32.ofNat 1) I G P) := by
  have hs := ss_c x hx
  refine am_ofF (by decide +kernel) rfl (by decide) (by decide) (Nat.le_of_ble_eq_true rfl) (fun X ad hX hi => ?_)
  have hi : am_info X 22 cJ6_stringSize_0f7a4 4 false (some FieldType.int) 1 := hi
  show am_V X _ _ _ sh ad (0, [(0, .int (Int32.ofNat x))], [], I, G, P)
  refine am_blk 0 [(.iconst (1), 1, 0, 0, .int (1 : Int32)), (.istore_n 1, 1, 1, 0, .null), (.iload_n 0, 1, 0, 0, .null)] (3, [(0, .int (Int32.ofNat x)), (1, .int (1 : Int32))], [.int (Int32.ofNat x)], I, G, P) True hX hi (by decide +kernel) rfl trivial ?_
  refine am_if_lt hX hi (off := 8) (tgt := 11) (by decide +kernel) (by decide) (fun c => absurd c (by rw [i_lt, i_0, i_of _ (by omega)]; omega)) (fun _ => ?_)
  refine am_blk 6 [(.iconst (0), 1, 0, 0, .int (0 : Int32)), (.istore_n 1, 1, 1, 0, .null), (.iload_n 0, 1, 0, 0, .null), (.ineg, 1, 0, 0, .null), (.istore_n 0, 1, 0, 0, .null), (.bipush (-10), 2, 0, 0, .int (-10 : Int32)), (.istore_n 2, 1, 2, 0, .null), (.iconst (1), 1, 0, 0, .int (1 : Int32)), (.istore_n 3, 1, 3, 0, .null), (.iload_n 3, 1, 3, 0, .null), (.bipush (10), 2, 0, 0, .int (10 : Int32))] (19, [(0, .int (-(Int32.ofNat x))), (1, .int (0 : Int32)), (2, .int (-10 : Int32)), (3, .int (1 : Int32))], [.int (10 : Int32), .int (1 : Int32)], I, G, P) True hX hi (by decide +kernel) rfl trivial ?_
  refine am_icmp_ge hX hi (off := 23) (tgt := 42) (by decide +kernel) (by decide) (fun c => absurd c (by decide)) (fun _ => ?_)
  refine am_blk 22 [(.iload_n 0, 1, 0, 0, .null), (.iload_n 2, 1, 2, 0, .null)] (24, [(0, .int (-(Int32.ofNat x))), (1, .int (0 : Int32)), (2, .int (-10 : Int32)), (3, .int (1 : Int32))], [.int (-10 : Int32), .int (-(Int32.ofNat x))], I, G, P) True hX hi (by decide +kernel) rfl trivial ?_
  refine am_icmp_le hX hi (off := 7) (tgt := 31) (by decide +kernel) (by decide) (fun c => absurd c (fun c => absurd (hs.1.mp c) (by omega))) (fun _ => ?_)
  refine am_blk 27 [(.iload_n 3, 1, 3, 0, .null), (.iload_n 1, 1, 1, 0, .null), (.iadd, 1, 0, 0, .null)] (30, [(0, .int (-(Int32.ofNat x))), (1, .int (0 : Int32)), (2, .int (-10 : Int32)), (3, .int (1 : Int32))], [.int ((1 : Int32) + (0 : Int32))], I, G, P) True hX hi (by decide +kernel) rfl trivial ?_
  exact am_iret hX hi rfl rfl (by decide +kernel) (pI_eq (by decide))
set_option maxHeartbeats 1000000 in
theorem ss_2 (hx : x < 1000) (h0 : 10 ≤ x) (h1 : x < 100) : am_Ct mJ6_stringSize_0f7a4 1 sh [.int (Int32.ofNat x)] I G P (pI (Int32.ofNat 2) I G P) := by
  have hs := ss_c x hx
  refine am_ofF (by decide +kernel) rfl (by decide) (by decide) (Nat.le_of_ble_eq_true rfl) (fun X ad hX hi => ?_)
  have hi : am_info X 22 cJ6_stringSize_0f7a4 4 false (some FieldType.int) 1 := hi
  show am_V X _ _ _ sh ad (0, [(0, .int (Int32.ofNat x))], [], I, G, P)
  refine am_blk 0 [(.iconst (1), 1, 0, 0, .int (1 : Int32)), (.istore_n 1, 1, 1, 0, .null), (.iload_n 0, 1, 0, 0, .null)] (3, [(0, .int (Int32.ofNat x)), (1, .int (1 : Int32))], [.int (Int32.ofNat x)], I, G, P) True hX hi (by decide +kernel) rfl trivial ?_
  refine am_if_lt hX hi (off := 8) (tgt := 11) (by decide +kernel) (by decide) (fun c => absurd c (by rw [i_lt, i_0, i_of _ (by omega)]; omega)) (fun _ => ?_)
  refine am_blk 6 [(.iconst (0), 1, 0, 0, .int (0 : Int32)), (.istore_n 1, 1, 1, 0, .null), (.iload_n 0, 1, 0, 0, .null), (.ineg, 1, 0, 0, .null), (.istore_n 0, 1, 0, 0, .null), (.bipush (-10), 2, 0, 0, .int (-10 : Int32)), (.istore_n 2, 1, 2, 0, .null), (.iconst (1), 1, 0, 0, .int (1 : Int32)), (.istore_n 3, 1, 3, 0, .null), (.iload_n 3, 1, 3, 0, .null), (.bipush (10), 2, 0, 0, .int (10 : Int32))] (19, [(0, .int (-(Int32.ofNat x))), (1, .int (0 : Int32)), (2, .int (-10 : Int32)), (3, .int (1 : Int32))], [.int (10 : Int32), .int (1 : Int32)], I, G, P) True hX hi (by decide +kernel) rfl trivial ?_
  refine am_icmp_ge hX hi (off := 23) (tgt := 42) (by decide +kernel) (by decide) (fun c => absurd c (by decide)) (fun _ => ?_)
  refine am_blk 22 [(.iload_n 0, 1, 0, 0, .null), (.iload_n 2, 1, 2, 0, .null)] (24, [(0, .int (-(Int32.ofNat x))), (1, .int (0 : Int32)), (2, .int (-10 : Int32)), (3, .int (1 : Int32))], [.int (-10 : Int32), .int (-(Int32.ofNat x))], I, G, P) True hX hi (by decide +kernel) rfl trivial ?_
  refine am_icmp_le hX hi (off := 7) (tgt := 31) (by decide +kernel) (by decide) (fun _ => ?_) (fun c => absurd (hs.1.mpr (by omega)) c)
  refine am_blk 31 [(.bipush (10), 2, 0, 0, .int (10 : Int32)), (.iload_n 2, 1, 2, 0, .null), (.imul, 1, 0, 0, .null), (.istore_n 2, 1, 2, 0, .null), (.iinc 3 (1), 3, 3, 0, .int (1 : Int32)), (.goto (-23), 3, 0, 16, .null), (.iload_n 3, 1, 3, 0, .null), (.bipush (10), 2, 0, 0, .int (10 : Int32))] (19, [(0, .int (-(Int32.ofNat x))), (1, .int (0 : Int32)), (2, .int ((10 : Int32) * (-10 : Int32))), (3, .int ((1 : Int32) + (1 : Int32)))], [.int (10 : Int32), .int ((1 : Int32) + (1 : Int32))], I, G, P) True hX hi (by decide +kernel) rfl trivial ?_
  refine am_icmp_ge hX hi (off := 23) (tgt := 42) (by decide +kernel) (by decide) (fun c => absurd c (by decide)) (fun _ => ?_)
  refine am_blk 22 [(.iload_n 0, 1, 0, 0, .null), (.iload_n 2, 1, 2, 0, .null)] (24, [(0, .int (-(Int32.ofNat x))), (1, .int (0 : Int32)), (2, .int ((10 : Int32) * (-10 : Int32))), (3, .int ((1 : Int32) + (1 : Int32)))], [.int ((10 : Int32) * (-10 : Int32)), .int (-(Int32.ofNat x))], I, G, P) True hX hi (by decide +kernel) rfl trivial ?_
  refine am_icmp_le hX hi (off := 7) (tgt := 31) (by decide +kernel) (by decide) (fun c => absurd c (fun c => absurd (hs.2.1.mp c) (by omega))) (fun _ => ?_)
  refine am_blk 27 [(.iload_n 3, 1, 3, 0, .null), (.iload_n 1, 1, 1, 0, .null), (.iadd, 1, 0, 0, .null)] (30, [(0, .int (-(Int32.ofNat x))), (1, .int (0 : Int32)), (2, .int ((10 : Int32) * (-10 : Int32))), (3, .int ((1 : Int32) + (1 : Int32)))], [.int (((1 : Int32) + (1 : Int32)) + (0 : Int32))], I, G, P) True hX hi (by decide +kernel) rfl trivial ?_
  exact am_iret hX hi rfl rfl (by decide +kernel) (pI_eq (by decide))
set_option maxHeartbeats 1000000 in
theorem ss_3 (hx : x < 1000) (h0 : 100 ≤ x) : am_Ct mJ6_stringSize_0f7a4 1 sh [.int (Int32.ofNat x)] I G P (pI (Int32.ofNat 3) I G P) := by
  have hs := ss_c x hx
  refine am_ofF (by decide +kernel) rfl (by decide) (by decide) (Nat.le_of_ble_eq_true rfl) (fun X ad hX hi => ?_)
  have hi : am_info X 22 cJ6_stringSize_0f7a4 4 false (some FieldType.int) 1 := hi
  show am_V X _ _ _ sh ad (0, [(0, .int (Int32.ofNat x))], [], I, G, P)
  refine am_blk 0 [(.iconst (1), 1, 0, 0, .int (1 : Int32)), (.istore_n 1, 1, 1, 0, .null), (.iload_n 0, 1, 0, 0, .null)] (3, [(0, .int (Int32.ofNat x)), (1, .int (1 : Int32))], [.int (Int32.ofNat x)], I, G, P) True hX hi (by decide +kernel) rfl trivial ?_
  refine am_if_lt hX hi (off := 8) (tgt := 11) (by decide +kernel) (by decide) (fun c => absurd c (by rw [i_lt, i_0, i_of _ (by omega)]; omega)) (fun _ => ?_)
  refine am_blk 6 [(.iconst (0), 1, 0, 0, .int (0 : Int32)), (.istore_n 1, 1, 1, 0, .null), (.iload_n 0, 1, 0, 0, .null), (.ineg, 1, 0, 0, .null), (.istore_n 0, 1, 0, 0, .null), (.bipush (-10), 2, 0, 0, .int (-10 : Int32)), (.istore_n 2, 1, 2, 0, .null), (.iconst (1), 1, 0, 0, .int (1 : Int32)), (.istore_n 3, 1, 3, 0, .null), (.iload_n 3, 1, 3, 0, .null), (.bipush (10), 2, 0, 0, .int (10 : Int32))] (19, [(0, .int (-(Int32.ofNat x))), (1, .int (0 : Int32)), (2, .int (-10 : Int32)), (3, .int (1 : Int32))], [.int (10 : Int32), .int (1 : Int32)], I, G, P) True hX hi (by decide +kernel) rfl trivial ?_
  refine am_icmp_ge hX hi (off := 23) (tgt := 42) (by decide +kernel) (by decide) (fun c => absurd c (by decide)) (fun _ => ?_)
  refine am_blk 22 [(.iload_n 0, 1, 0, 0, .null), (.iload_n 2, 1, 2, 0, .null)] (24, [(0, .int (-(Int32.ofNat x))), (1, .int (0 : Int32)), (2, .int (-10 : Int32)), (3, .int (1 : Int32))], [.int (-10 : Int32), .int (-(Int32.ofNat x))], I, G, P) True hX hi (by decide +kernel) rfl trivial ?_
  refine am_icmp_le hX hi (off := 7) (tgt := 31) (by decide +kernel) (by decide) (fun _ => ?_) (fun c => absurd (hs.1.mpr (by omega)) c)
  refine am_blk 31 [(.bipush (10), 2, 0, 0, .int (10 : Int32)), (.iload_n 2, 1, 2, 0, .null), (.imul, 1, 0, 0, .null), (.istore_n 2, 1, 2, 0, .null), (.iinc 3 (1), 3, 3, 0, .int (1 : Int32)), (.goto (-23), 3, 0, 16, .null), (.iload_n 3, 1, 3, 0, .null), (.bipush (10), 2, 0, 0, .int (10 : Int32))] (19, [(0, .int (-(Int32.ofNat x))), (1, .int (0 : Int32)), (2, .int ((10 : Int32) * (-10 : Int32))), (3, .int ((1 : Int32) + (1 : Int32)))], [.int (10 : Int32), .int ((1 : Int32) + (1 : Int32))], I, G, P) True hX hi (by decide +kernel) rfl trivial ?_
  refine am_icmp_ge hX hi (off := 23) (tgt := 42) (by decide +kernel) (by decide) (fun c => absurd c (by decide)) (fun _ => ?_)
  refine am_blk 22 [(.iload_n 0, 1, 0, 0, .null), (.iload_n 2, 1, 2, 0, .null)] (24, [(0, .int (-(Int32.ofNat x))), (1, .int (0 : Int32)), (2, .int ((10 : Int32) * (-10 : Int32))), (3, .int ((1 : Int32) + (1 : Int32)))], [.int ((10 : Int32) * (-10 : Int32)), .int (-(Int32.ofNat x))], I, G, P) True hX hi (by decide +kernel) rfl trivial ?_
  refine am_icmp_le hX hi (off := 7) (tgt := 31) (by decide +kernel) (by decide) (fun _ => ?_) (fun c => absurd (hs.2.1.mpr (by omega)) c)
  refine am_blk 31 [(.bipush (10), 2, 0, 0, .int (10 : Int32)), (.iload_n 2, 1, 2, 0, .null), (.imul, 1, 0, 0, .null), (.istore_n 2, 1, 2, 0, .null), (.iinc 3 (1), 3, 3, 0, .int (1 : Int32)), (.goto (-23), 3, 0, 16, .null), (.iload_n 3, 1, 3, 0, .null), (.bipush (10), 2, 0, 0, .int (10 : Int32))] (19, [(0, .int (-(Int32.ofNat x))), (1, .int (0 : Int32)), (2, .int ((10 : Int32) * ((10 : Int32) * (-10 : Int32)))), (3, .int (((1 : Int32) + (1 : Int32)) + (1 : Int32)))], [.int (10 : Int32), .int (((1 : Int32) + (1 : Int32)) + (1 : Int32))], I, G, P) True hX hi (by decide +kernel) rfl trivial ?_
  refine am_icmp_ge hX hi (off := 23) (tgt := 42) (by decide +kernel) (by decide) (fun c => absurd c (by decide)) (fun _ => ?_)
  refine am_blk 22 [(.iload_n 0, 1, 0, 0, .null), (.iload_n 2, 1, 2, 0, .null)] (24, [(0, .int (-(Int32.ofNat x))), (1, .int (0 : Int32)), (2, .int ((10 : Int32) * ((10 : Int32) * (-10 : Int32)))), (3, .int (((1 : Int32) + (1 : Int32)) + (1 : Int32)))], [.int ((10 : Int32) * ((10 : Int32) * (-10 : Int32))), .int (-(Int32.ofNat x))], I, G, P) True hX hi (by decide +kernel) rfl trivial ?_
  refine am_icmp_le hX hi (off := 7) (tgt := 31) (by decide +kernel) (by decide) (fun c => absurd c (fun c => absurd (hs.2.2.1.mp c) (by omega))) (fun _ => ?_)
  refine am_blk 27 [(.iload_n 3, 1, 3, 0, .null), (.iload_n 1, 1, 1, 0, .null), (.iadd, 1, 0, 0, .null)] (30, [(0, .int (-(Int32.ofNat x))), (1, .int (0 : Int32)), (2, .int ((10 : Int32) * ((10 : Int32) * (-10 : Int32)))), (3, .int (((1 : Int32) + (1 : Int32)) + (1 : Int32)))], [.int ((((1 : Int32) + (1 : Int32)) + (1 : Int32)) + (0 : Int32))], I, G, P) True hX hi (by decide +kernel) rfl trivial ?_
  exact am_iret hX hi rfl rfl (by decide +kernel) (pI_eq (by decide))
theorem k_stringSize (hx : x < 1000) : am_Ct mJ6_stringSize_0f7a4 1 sh [.int (Int32.ofNat x)] I G P (pI (Int32.ofNat (dT x).length) I G P) := by
  unfold dT
  by_cases h1 : x < 10
  · rw [if_pos h1]; exact ss_1 hx h1
  · rw [if_neg h1]
    by_cases h2 : x < 100
    · rw [if_pos h2]; exact ss_2 hx (by omega) h2
    · rw [if_neg h2]; exact ss_3 hx (by omega)
set_option maxHeartbeats 1000000 in
theorem gc_1 {f : Nat → Int32} (hv : sh[v]? = some (.inr (4, m))) (hm : m ≤ 4096) (hn : n + 1 ≤ m) (hx : x < 1000) (h1 : x < 10) : am_Ct mJ6_getChars_ba4f3 1 sh [.int (Int32.ofNat x), .int (Int32.ofNat (n + 1)), .ref v] (am_row I v f) G P (pI (Int32.ofNat n) (am_row I v (r_up f (n + 0) (Int32.ofNat (48 + x % 10)))) G P) := by
  have hs := ss_c x hx
  refine am_ofF (by decide +kernel) rfl (by decide) (by decide) (Nat.le_of_ble_eq_true rfl) (fun X ad hX hi => ?_)
  have hi : am_info X 22 cJ6_getChars_ba4f3 7 false (some FieldType.int) 1 := hi
  show am_V X _ _ _ sh ad (0, [(0, .int (Int32.ofNat x)), (1, .int (Int32.ofNat (n + 1))), (2, .ref v)], [], (am_row I v f), G, P)
  refine am_blk 0 [(.iload_n 1, 1, 1, 0, .null), (.istore 5, 2, 5, 0, .null), (.iload_n 0, 1, 0, 0, .null)] (4, [(0, .int (Int32.ofNat x)), (1, .int (Int32.ofNat (n + 1))), (2, .ref v), (5, .int (Int32.ofNat (n + 1)))], [.int (Int32.ofNat x)], (am_row I v f), G, P) True hX hi (by decide +kernel) rfl trivial ?_
  refine am_if_ge hX hi (off := 7) (tgt := 11) (by decide +kernel) (by decide) (fun _ => ?_) (fun c => absurd (by rw [i_le, i_0, i_of _ (by omega)]; omega) c)
  refine am_blk 11 [(.iconst (0), 1, 0, 0, .int (0 : Int32)), (.istore 6, 2, 6, 0, .null), (.iload 6, 2, 6, 0, .null)] (16, [(0, .int (Int32.ofNat x)), (1, .int (Int32.ofNat (n + 1))), (2, .ref v), (5, .int (Int32.ofNat (n + 1))), (6, .int (0 : Int32))], [.int (0 : Int32)], (am_row I v f), G, P) True hX hi (by decide +kernel) rfl trivial ?_
  refine am_if_ne hX hi (off := 6) (tgt := 22) (by decide +kernel) (by decide) (fun c => absurd (rfl) c) (fun _ => ?_)
  refine am_blk 19 [(.iload_n 0, 1, 0, 0, .null), (.ineg, 1, 0, 0, .null), (.istore_n 0, 1, 0, 0, .null), (.iload_n 0, 1, 0, 0, .null), (.bipush (-100), 2, 0, 0, .int (-100 : Int32))] (25, [(0, .int (-(Int32.ofNat x))), (1, .int (Int32.ofNat (n + 1))), (2, .ref v), (5, .int (Int32.ofNat (n + 1))), (6, .int (0 : Int32))], [.int (-100 : Int32), .int (-(Int32.ofNat x))], (am_row I v f), G, P) True hX hi (by decide +kernel) rfl trivial ?_
  refine am_icmp_gt hX hi (off := 47) (tgt := 72) (by decide +kernel) (by decide) (fun _ => ?_) (fun c => absurd (hs.2.2.2.1.mpr (by omega)) c)
  refine am_blk 72 [(.aload_n 2, 1, 2, 0, .null), (.iinc 5 (-1), 3, 5, 0, .int (-1 : Int32)), (.iload 5, 2, 5, 0, .null)] (78, [(0, .int (-(Int32.ofNat x))), (1, .int (Int32.ofNat (n + 1))), (2, .ref v), (5, .int ((Int32.ofNat (n + 1)) + (-1 : Int32))), (6, .int (0 : Int32))], [.int ((Int32.ofNat (n + 1)) + (-1 : Int32)), .ref v], (am_row I v f), G, P) True hX hi (by decide +kernel) rfl trivial ?_
  rw [show Int32.ofNat (n + 1) + (-1 : Int32) = Int32.ofNat (n + 0) from sb_m1 (by omega)]
  show am_V X _ _ _ sh ad (78, [(0, .int (-(Int32.ofNat x))), (1, .int (Int32.ofNat (n + 1))), (2, .ref v), (5, .int (Int32.ofNat (n + 0))), (6, .int (0 : Int32))], [.int (Int32.ofNat (n + 0)), .ref v], (am_row I v f), G, P)
  refine am_dgs hX hi (i := 1) (q := am_bT.getD 1 ("", "", [])) rfl am_w_dgO (by decide +kernel) ?_
  refine am_blk 81 [(.iload_n 0, 1, 0, 0, .null), (.ineg, 1, 0, 0, .null)] (83, [(0, .int (-(Int32.ofNat x))), (1, .int (Int32.ofNat (n + 1))), (2, .ref v), (5, .int (Int32.ofNat (n + 0))), (6, .int (0 : Int32))], [.int (-(-(Int32.ofNat x))), .ref (1020 + 1), .int (Int32.ofNat (n + 0)), .ref v], (am_row I v f), G, P) True hX hi (by decide +kernel) rfl trivial ?_
  refine am_dgb hX hi (i := 1) (q := am_bT.getD 1 ("", "", [])) (v := Int32.ofNat (48 + x % 10)) rfl ((i_in _ _).mpr ⟨by rw [(gc_t x (by omega)).2.2]; omega, by rw [(gc_t x (by omega)).2.2, gc_l.1]; omega⟩) (gc_t x (by omega)).1 (by decide +kernel) ?_
  refine am_basS hX hi (I' := am_row I v (r_up f (n + 0) (Int32.ofNat (48 + x % 10)))) hv ((i_in _ _).mpr ⟨by rw [i_of _ (by omega)]; omega, by rw [i_of _ (by omega)]; omega⟩) (gc_z _ (by omega)) (by rw [am_row_up, i_cl, i_of _ (by omega)]; rfl) (by decide +kernel) ?_
  show am_V X _ _ _ sh ad (85, [(0, .int (-(Int32.ofNat x))), (1, .int (Int32.ofNat (n + 1))), (2, .ref v), (5, .int (Int32.ofNat (n + 0))), (6, .int (0 : Int32))], [], (am_row I v (r_up f (n + 0) (Int32.ofNat (48 + x % 10)))), G, P)
  refine am_blk 85 [(.iload_n 0, 1, 0, 0, .null), (.bipush (-9), 2, 0, 0, .int (-9 : Int32))] (88, [(0, .int (-(Int32.ofNat x))), (1, .int (Int32.ofNat (n + 1))), (2, .ref v), (5, .int (Int32.ofNat (n + 0))), (6, .int (0 : Int32))], [.int (-9 : Int32), .int (-(Int32.ofNat x))], (am_row I v (r_up f (n + 0) (Int32.ofNat (48 + x % 10)))), G, P) True hX hi (by decide +kernel) rfl trivial ?_
  refine am_icmp_ge hX hi (off := 16) (tgt := 104) (by decide +kernel) (by decide) (fun _ => ?_) (fun c => absurd ((ss_c x (by omega)).2.2.2.2.mpr (by omega)) c)
  refine am_blk 104 [(.iload 6, 2, 6, 0, .null)] (106, [(0, .int (-(Int32.ofNat x))), (1, .int (Int32.ofNat (n + 1))), (2, .ref v), (5, .int (Int32.ofNat (n + 0))), (6, .int (0 : Int32))], [.int (0 : Int32)], (am_row I v (r_up f (n + 0) (Int32.ofNat (48 + x % 10)))), G, P) True hX hi (by decide +kernel) rfl trivial ?_
  refine am_if_eq hX hi (off := 12) (tgt := 118) (by decide +kernel) (by decide) (fun _ => ?_) (fun c => absurd (rfl) c)
  refine am_blk 118 [(.iload 5, 2, 5, 0, .null)] (120, [(0, .int (-(Int32.ofNat x))), (1, .int (Int32.ofNat (n + 1))), (2, .ref v), (5, .int (Int32.ofNat (n + 0))), (6, .int (0 : Int32))], [.int (Int32.ofNat (n + 0))], (am_row I v (r_up f (n + 0) (Int32.ofNat (48 + x % 10)))), G, P) True hX hi (by decide +kernel) rfl trivial ?_
  exact am_iret hX hi rfl rfl (by decide +kernel) ⟨rfl, rfl, rfl, rfl⟩
set_option maxHeartbeats 1000000 in
theorem gc_2 {f : Nat → Int32} (hv : sh[v]? = some (.inr (4, m))) (hm : m ≤ 4096) (hn : n + 2 ≤ m) (hx : x < 1000) (h0 : 10 ≤ x) (h1 : x < 100) : am_Ct mJ6_getChars_ba4f3 1 sh [.int (Int32.ofNat x), .int (Int32.ofNat (n + 2)), .ref v] (am_row I v f) G P (pI (Int32.ofNat n) (am_row I v (r_up (r_up f (n + 1) (Int32.ofNat (48 + x % 10))) (n + 0) (Int32.ofNat (48 + x / 10)))) G P) := by
  have hs := ss_c x hx
  refine am_ofF (by decide +kernel) rfl (by decide) (by decide) (Nat.le_of_ble_eq_true rfl) (fun X ad hX hi => ?_)
  have hi : am_info X 22 cJ6_getChars_ba4f3 7 false (some FieldType.int) 1 := hi
  show am_V X _ _ _ sh ad (0, [(0, .int (Int32.ofNat x)), (1, .int (Int32.ofNat (n + 2))), (2, .ref v)], [], (am_row I v f), G, P)
  refine am_blk 0 [(.iload_n 1, 1, 1, 0, .null), (.istore 5, 2, 5, 0, .null), (.iload_n 0, 1, 0, 0, .null)] (4, [(0, .int (Int32.ofNat x)), (1, .int (Int32.ofNat (n + 2))), (2, .ref v), (5, .int (Int32.ofNat (n + 2)))], [.int (Int32.ofNat x)], (am_row I v f), G, P) True hX hi (by decide +kernel) rfl trivial ?_
  refine am_if_ge hX hi (off := 7) (tgt := 11) (by decide +kernel) (by decide) (fun _ => ?_) (fun c => absurd (by rw [i_le, i_0, i_of _ (by omega)]; omega) c)
  refine am_blk 11 [(.iconst (0), 1, 0, 0, .int (0 : Int32)), (.istore 6, 2, 6, 0, .null), (.iload 6, 2, 6, 0, .null)] (16, [(0, .int (Int32.ofNat x)), (1, .int (Int32.ofNat (n + 2))), (2, .ref v), (5, .int (Int32.ofNat (n + 2))), (6, .int (0 : Int32))], [.int (0 : Int32)], (am_row I v f), G, P) True hX hi (by decide +kernel) rfl trivial ?_
  refine am_if_ne hX hi (off := 6) (tgt := 22) (by decide +kernel) (by decide) (fun c => absurd (rfl) c) (fun _ => ?_)
  refine am_blk 19 [(.iload_n 0, 1, 0, 0, .null), (.ineg, 1, 0, 0, .null), (.istore_n 0, 1, 0, 0, .null), (.iload_n 0, 1, 0, 0, .null), (.bipush (-100), 2, 0, 0, .int (-100 : Int32))] (25, [(0, .int (-(Int32.ofNat x))), (1, .int (Int32.ofNat (n + 2))), (2, .ref v), (5, .int (Int32.ofNat (n + 2))), (6, .int (0 : Int32))], [.int (-100 : Int32), .int (-(Int32.ofNat x))], (am_row I v f), G, P) True hX hi (by decide +kernel) rfl trivial ?_
  refine am_icmp_gt hX hi (off := 47) (tgt := 72) (by decide +kernel) (by decide) (fun _ => ?_) (fun c => absurd (hs.2.2.2.1.mpr (by omega)) c)
  refine am_blk 72 [(.aload_n 2, 1, 2, 0, .null), (.iinc 5 (-1), 3, 5, 0, .int (-1 : Int32)), (.iload 5, 2, 5, 0, .null)] (78, [(0, .int (-(Int32.ofNat x))), (1, .int (Int32.ofNat (n + 2))), (2, .ref v), (5, .int ((Int32.ofNat (n + 2)) + (-1 : Int32))), (6, .int (0 : Int32))], [.int ((Int32.ofNat (n + 2)) + (-1 : Int32)), .ref v], (am_row I v f), G, P) True hX hi (by decide +kernel) rfl trivial ?_
  rw [show Int32.ofNat (n + 2) + (-1 : Int32) = Int32.ofNat (n + 1) from sb_m1 (by omega)]
  show am_V X _ _ _ sh ad (78, [(0, .int (-(Int32.ofNat x))), (1, .int (Int32.ofNat (n + 2))), (2, .ref v), (5, .int (Int32.ofNat (n + 1))), (6, .int (0 : Int32))], [.int (Int32.ofNat (n + 1)), .ref v], (am_row I v f), G, P)
  refine am_dgs hX hi (i := 1) (q := am_bT.getD 1 ("", "", [])) rfl am_w_dgO (by decide +kernel) ?_
  refine am_blk 81 [(.iload_n 0, 1, 0, 0, .null), (.ineg, 1, 0, 0, .null)] (83, [(0, .int (-(Int32.ofNat x))), (1, .int (Int32.ofNat (n + 2))), (2, .ref v), (5, .int (Int32.ofNat (n + 1))), (6, .int (0 : Int32))], [.int (-(-(Int32.ofNat x))), .ref (1020 + 1), .int (Int32.ofNat (n + 1)), .ref v], (am_row I v f), G, P) True hX hi (by decide +kernel) rfl trivial ?_
  refine am_dgb hX hi (i := 1) (q := am_bT.getD 1 ("", "", [])) (v := Int32.ofNat (48 + x % 10)) rfl ((i_in _ _).mpr ⟨by rw [(gc_t x (by omega)).2.2]; omega, by rw [(gc_t x (by omega)).2.2, gc_l.1]; omega⟩) (gc_t x (by omega)).1 (by decide +kernel) ?_
  refine am_basS hX hi (I' := am_row I v (r_up f (n + 1) (Int32.ofNat (48 + x % 10)))) hv ((i_in _ _).mpr ⟨by rw [i_of _ (by omega)]; omega, by rw [i_of _ (by omega)]; omega⟩) (gc_z _ (by omega)) (by rw [am_row_up, i_cl, i_of _ (by omega)]; rfl) (by decide +kernel) ?_
  show am_V X _ _ _ sh ad (85, [(0, .int (-(Int32.ofNat x))), (1, .int (Int32.ofNat (n + 2))), (2, .ref v), (5, .int (Int32.ofNat (n + 1))), (6, .int (0 : Int32))], [], (am_row I v (r_up f (n + 1) (Int32.ofNat (48 + x % 10)))), G, P)
  refine am_blk 85 [(.iload_n 0, 1, 0, 0, .null), (.bipush (-9), 2, 0, 0, .int (-9 : Int32))] (88, [(0, .int (-(Int32.ofNat x))), (1, .int (Int32.ofNat (n + 2))), (2, .ref v), (5, .int (Int32.ofNat (n + 1))), (6, .int (0 : Int32))], [.int (-9 : Int32), .int (-(Int32.ofNat x))], (am_row I v (r_up f (n + 1) (Int32.ofNat (48 + x % 10)))), G, P) True hX hi (by decide +kernel) rfl trivial ?_
  refine am_icmp_ge hX hi (off := 16) (tgt := 104) (by decide +kernel) (by decide) (fun c => absurd c (fun c => absurd (hs.2.2.2.2.mp c) (by omega))) (fun _ => ?_)
  refine am_blk 91 [(.aload_n 2, 1, 2, 0, .null), (.iinc 5 (-1), 3, 5, 0, .int (-1 : Int32)), (.iload 5, 2, 5, 0, .null)] (97, [(0, .int (-(Int32.ofNat x))), (1, .int (Int32.ofNat (n + 2))), (2, .ref v), (5, .int ((Int32.ofNat (n + 1)) + (-1 : Int32))), (6, .int (0 : Int32))], [.int ((Int32.ofNat (n + 1)) + (-1 : Int32)), .ref v], (am_row I v (r_up f (n + 1) (Int32.ofNat (48 + x % 10)))), G, P) True hX hi (by decide +kernel) rfl trivial ?_
  rw [show Int32.ofNat (n + 1) + (-1 : Int32) = Int32.ofNat (n + 0) from sb_m1 (by omega)]
  show am_V X _ _ _ sh ad (97, [(0, .int (-(Int32.ofNat x))), (1, .int (Int32.ofNat (n + 2))), (2, .ref v), (5, .int (Int32.ofNat (n + 0))), (6, .int (0 : Int32))], [.int (Int32.ofNat (n + 0)), .ref v], (am_row I v (r_up f (n + 1) (Int32.ofNat (48 + x % 10)))), G, P)
  refine am_dgs hX hi (i := 0) (q := am_bT.getD 0 ("", "", [])) rfl am_w_dgT (by decide +kernel) ?_
  refine am_blk 100 [(.iload_n 0, 1, 0, 0, .null), (.ineg, 1, 0, 0, .null)] (102, [(0, .int (-(Int32.ofNat x))), (1, .int (Int32.ofNat (n + 2))), (2, .ref v), (5, .int (Int32.ofNat (n + 0))), (6, .int (0 : Int32))], [.int (-(-(Int32.ofNat x))), .ref (1020 + 0), .int (Int32.ofNat (n + 0)), .ref v], (am_row I v (r_up f (n + 1) (Int32.ofNat (48 + x % 10)))), G, P) True hX hi (by decide +kernel) rfl trivial ?_
  refine am_dgb hX hi (i := 0) (q := am_bT.getD 0 ("", "", [])) (v := Int32.ofNat (48 + x / 10)) rfl ((i_in _ _).mpr ⟨by rw [(gc_t x (by omega)).2.2]; omega, by rw [(gc_t x (by omega)).2.2, gc_l.2]; omega⟩) (gc_t x (by omega)).2.1 (by decide +kernel) ?_
  refine am_basS hX hi (I' := am_row I v (r_up (r_up f (n + 1) (Int32.ofNat (48 + x % 10))) (n + 0) (Int32.ofNat (48 + x / 10)))) hv ((i_in _ _).mpr ⟨by rw [i_of _ (by omega)]; omega, by rw [i_of _ (by omega)]; omega⟩) (gc_z _ (by omega)) (by rw [am_row_up, i_cl, i_of _ (by omega)]; rfl) (by decide +kernel) ?_
  show am_V X _ _ _ sh ad (104, [(0, .int (-(Int32.ofNat x))), (1, .int (Int32.ofNat (n + 2))), (2, .ref v), (5, .int (Int32.ofNat (n + 0))), (6, .int (0 : Int32))], [], (am_row I v (r_up (r_up f (n + 1) (Int32.ofNat (48 + x % 10))) (n + 0) (Int32.ofNat (48 + x / 10)))), G, P)
  refine am_blk 104 [(.iload 6, 2, 6, 0, .null)] (106, [(0, .int (-(Int32.ofNat x))), (1, .int (Int32.ofNat (n + 2))), (2, .ref v), (5, .int (Int32.ofNat (n + 0))), (6, .int (0 : Int32))], [.int (0 : Int32)], (am_row I v (r_up (r_up f (n + 1) (Int32.ofNat (48 + x % 10))) (n + 0) (Int32.ofNat (48 + x / 10)))), G, P) True hX hi (by decide +kernel) rfl trivial ?_
  refine am_if_eq hX hi (off := 12) (tgt := 118) (by decide +kernel) (by decide) (fun _ => ?_) (fun c => absurd (rfl) c)
  refine am_blk 118 [(.iload 5, 2, 5, 0, .null)] (120, [(0, .int (-(Int32.ofNat x))), (1, .int (Int32.ofNat (n + 2))), (2, .ref v), (5, .int (Int32.ofNat (n + 0))), (6, .int (0 : Int32))], [.int (Int32.ofNat (n + 0))], (am_row I v (r_up (r_up f (n + 1) (Int32.ofNat (48 + x % 10))) (n + 0) (Int32.ofNat (48 + x / 10)))), G, P) True hX hi (by decide +kernel) rfl trivial ?_
  exact am_iret hX hi rfl rfl (by decide +kernel) ⟨rfl, rfl, rfl, rfl⟩
set_option maxHeartbeats 1000000 in
theorem gc_3 {f : Nat → Int32} (hv : sh[v]? = some (.inr (4, m))) (hm : m ≤ 4096) (hn : n + 3 ≤ m) (hx : x < 1000) (h0 : 100 ≤ x) : am_Ct mJ6_getChars_ba4f3 1 sh [.int (Int32.ofNat x), .int (Int32.ofNat (n + 3)), .ref v] (am_row I v f) G P (pI (Int32.ofNat n) (am_row I v (r_up (r_up (r_up f (n + 2) (Int32.ofNat (48 + x % 100 % 10))) (n + 1) (Int32.ofNat (48 + x % 100 / 10))) (n + 0) (Int32.ofNat (48 + (x / 100) % 10)))) G P) := by
  have hs := ss_c x hx
  refine am_ofF (by decide +kernel) rfl (by decide) (by decide) (Nat.le_of_ble_eq_true rfl) (fun X ad hX hi => ?_)
  have hi : am_info X 22 cJ6_getChars_ba4f3 7 false (some FieldType.int) 1 := hi
  show am_V X _ _ _ sh ad (0, [(0, .int (Int32.ofNat x)), (1, .int (Int32.ofNat (n + 3))), (2, .ref v)], [], (am_row I v f), G, P)
  refine am_blk 0 [(.iload_n 1, 1, 1, 0, .null), (.istore 5, 2, 5, 0, .null), (.iload_n 0, 1, 0, 0, .null)] (4, [(0, .int (Int32.ofNat x)), (1, .int (Int32.ofNat (n + 3))), (2, .ref v), (5, .int (Int32.ofNat (n + 3)))], [.int (Int32.ofNat x)], (am_row I v f), G, P) True hX hi (by decide +kernel) rfl trivial ?_
  refine am_if_ge hX hi (off := 7) (tgt := 11) (by decide +kernel) (by decide) (fun _ => ?_) (fun c => absurd (by rw [i_le, i_0, i_of _ (by omega)]; omega) c)
  refine am_blk 11 [(.iconst (0), 1, 0, 0, .int (0 : Int32)), (.istore 6, 2, 6, 0, .null), (.iload 6, 2, 6, 0, .null)] (16, [(0, .int (Int32.ofNat x)), (1, .int (Int32.ofNat (n + 3))), (2, .ref v), (5, .int (Int32.ofNat (n + 3))), (6, .int (0 : Int32))], [.int (0 : Int32)], (am_row I v f), G, P) True hX hi (by decide +kernel) rfl trivial ?_
  refine am_if_ne hX hi (off := 6) (tgt := 22) (by decide +kernel) (by decide) (fun c => absurd (rfl) c) (fun _ => ?_)
  refine am_blk 19 [(.iload_n 0, 1, 0, 0, .null), (.ineg, 1, 0, 0, .null), (.istore_n 0, 1, 0, 0, .null), (.iload_n 0, 1, 0, 0, .null), (.bipush (-100), 2, 0, 0, .int (-100 : Int32))] (25, [(0, .int (-(Int32.ofNat x))), (1, .int (Int32.ofNat (n + 3))), (2, .ref v), (5, .int (Int32.ofNat (n + 3))), (6, .int (0 : Int32))], [.int (-100 : Int32), .int (-(Int32.ofNat x))], (am_row I v f), G, P) True hX hi (by decide +kernel) rfl trivial ?_
  refine am_icmp_gt hX hi (off := 47) (tgt := 72) (by decide +kernel) (by decide) (fun c => absurd c (fun c => absurd (hs.2.2.2.1.mp c) (by omega))) (fun _ => ?_)
  refine am_blk 28 [(.iload_n 0, 1, 0, 0, .null), (.bipush (100), 2, 0, 0, .int (100 : Int32)), (.idiv, 1, 0, 0, .null), (.istore_n 3, 1, 3, 0, .null)] (33, [(0, .int (-(Int32.ofNat x))), (1, .int (Int32.ofNat (n + 3))), (2, .ref v), (3, .int ((-(Int32.ofNat x)) / (100 : Int32))), (5, .int (Int32.ofNat (n + 3))), (6, .int (0 : Int32))], [], (am_row I v f), G, P) (¬ (100 : Int32) = 0 ∧ True) hX hi (by decide +kernel) rfl ⟨(by decide), trivial⟩ ?_
  rw [show -Int32.ofNat x / (100 : Int32) = -Int32.ofNat (x / 100) from (gc_d x hx).1]
  show am_V X _ _ _ sh ad (33, [(0, .int (-(Int32.ofNat x))), (1, .int (Int32.ofNat (n + 3))), (2, .ref v), (3, .int (-(Int32.ofNat (x / 100)))), (5, .int (Int32.ofNat (n + 3))), (6, .int (0 : Int32))], [], (am_row I v f), G, P)
  refine am_blk 33 [(.iload_n 3, 1, 3, 0, .null), (.bipush (100), 2, 0, 0, .int (100 : Int32)), (.imul, 1, 0, 0, .null), (.iload_n 0, 1, 0, 0, .null), (.isub, 1, 0, 0, .null), (.istore 4, 2, 4, 0, .null)] (41, [(0, .int (-(Int32.ofNat x))), (1, .int (Int32.ofNat (n + 3))), (2, .ref v), (3, .int (-(Int32.ofNat (x / 100)))), (4, .int (((-(Int32.ofNat (x / 100))) * (100 : Int32)) - (-(Int32.ofNat x)))), (5, .int (Int32.ofNat (n + 3))), (6, .int (0 : Int32))], [], (am_row I v f), G, P) True hX hi (by decide +kernel) rfl trivial ?_
  rw [show -Int32.ofNat (x / 100) * (100 : Int32) - -Int32.ofNat x = Int32.ofNat (x % 100) from (gc_d x hx).2]
  show am_V X _ _ _ sh ad (41, [(0, .int (-(Int32.ofNat x))), (1, .int (Int32.ofNat (n + 3))), (2, .ref v), (3, .int (-(Int32.ofNat (x / 100)))), (4, .int (Int32.ofNat (x % 100))), (5, .int (Int32.ofNat (n + 3))), (6, .int (0 : Int32))], [], (am_row I v f), G, P)
  refine am_blk 41 [(.iload_n 3, 1, 3, 0, .null), (.istore_n 0, 1, 0, 0, .null), (.aload_n 2, 1, 2, 0, .null), (.iinc 5 (-1), 3, 5, 0, .int (-1 : Int32)), (.iload 5, 2, 5, 0, .null)] (49, [(0, .int (-(Int32.ofNat (x / 100)))), (1, .int (Int32.ofNat (n + 3))), (2, .ref v), (3, .int (-(Int32.ofNat (x / 100)))), (4, .int (Int32.ofNat (x % 100))), (5, .int ((Int32.ofNat (n + 3)) + (-1 : Int32))), (6, .int (0 : Int32))], [.int ((Int32.ofNat (n + 3)) + (-1 : Int32)), .ref v], (am_row I v f), G, P) True hX hi (by decide +kernel) rfl trivial ?_
  rw [show Int32.ofNat (n + 3) + (-1 : Int32) = Int32.ofNat (n + 2) from sb_m1 (by omega)]
  show am_V X _ _ _ sh ad (49, [(0, .int (-(Int32.ofNat (x / 100)))), (1, .int (Int32.ofNat (n + 3))), (2, .ref v), (3, .int (-(Int32.ofNat (x / 100)))), (4, .int (Int32.ofNat (x % 100))), (5, .int (Int32.ofNat (n + 2))), (6, .int (0 : Int32))], [.int (Int32.ofNat (n + 2)), .ref v], (am_row I v f), G, P)
  refine am_dgs hX hi (i := 1) (q := am_bT.getD 1 ("", "", [])) rfl am_w_dgO (by decide +kernel) ?_
  refine am_blk 52 [(.iload 4, 2, 4, 0, .null)] (54, [(0, .int (-(Int32.ofNat (x / 100)))), (1, .int (Int32.ofNat (n + 3))), (2, .ref v), (3, .int (-(Int32.ofNat (x / 100)))), (4, .int (Int32.ofNat (x % 100))), (5, .int (Int32.ofNat (n + 2))), (6, .int (0 : Int32))], [.int (Int32.ofNat (x % 100)), .ref (1020 + 1), .int (Int32.ofNat (n + 2)), .ref v], (am_row I v f), G, P) True hX hi (by decide +kernel) rfl trivial ?_
  refine am_dgb hX hi (i := 1) (q := am_bT.getD 1 ("", "", [])) (v := Int32.ofNat (48 + x % 100 % 10)) rfl ((i_in _ _).mpr ⟨by rw [(gc_u (x % 100) (by omega)).2.2]; omega, by rw [(gc_u (x % 100) (by omega)).2.2, gc_l.1]; omega⟩) (gc_u (x % 100) (by omega)).1 (by decide +kernel) ?_
  refine am_basS hX hi (I' := am_row I v (r_up f (n + 2) (Int32.ofNat (48 + x % 100 % 10)))) hv ((i_in _ _).mpr ⟨by rw [i_of _ (by omega)]; omega, by rw [i_of _ (by omega)]; omega⟩) (gc_z _ (by omega)) (by rw [am_row_up, i_cl, i_of _ (by omega)]; rfl) (by decide +kernel) ?_
  show am_V X _ _ _ sh ad (56, [(0, .int (-(Int32.ofNat (x / 100)))), (1, .int (Int32.ofNat (n + 3))), (2, .ref v), (3, .int (-(Int32.ofNat (x / 100)))), (4, .int (Int32.ofNat (x % 100))), (5, .int (Int32.ofNat (n + 2))), (6, .int (0 : Int32))], [], (am_row I v (r_up f (n + 2) (Int32.ofNat (48 + x % 100 % 10)))), G, P)
  refine am_blk 56 [(.aload_n 2, 1, 2, 0, .null), (.iinc 5 (-1), 3, 5, 0, .int (-1 : Int32)), (.iload 5, 2, 5, 0, .null)] (62, [(0, .int (-(Int32.ofNat (x / 100)))), (1, .int (Int32.ofNat (n + 3))), (2, .ref v), (3, .int (-(Int32.ofNat (x / 100)))), (4, .int (Int32.ofNat (x % 100))), (5, .int ((Int32.ofNat (n + 2)) + (-1 : Int32))), (6, .int (0 : Int32))], [.int ((Int32.ofNat (n + 2)) + (-1 : Int32)), .ref v], (am_row I v (r_up f (n + 2) (Int32.ofNat (48 + x % 100 % 10)))), G, P) True hX hi (by decide +kernel) rfl trivial ?_
  rw [show Int32.ofNat (n + 2) + (-1 : Int32) = Int32.ofNat (n + 1) from sb_m1 (by omega)]
  show am_V X _ _ _ sh ad (62, [(0, .int (-(Int32.ofNat (x / 100)))), (1, .int (Int32.ofNat (n + 3))), (2, .ref v), (3, .int (-(Int32.ofNat (x / 100)))), (4, .int (Int32.ofNat (x % 100))), (5, .int (Int32.ofNat (n + 1))), (6, .int (0 : Int32))], [.int (Int32.ofNat (n + 1)), .ref v], (am_row I v (r_up f (n + 2) (Int32.ofNat (48 + x % 100 % 10)))), G, P)
  refine am_dgs hX hi (i := 0) (q := am_bT.getD 0 ("", "", [])) rfl am_w_dgT (by decide +kernel) ?_
  refine am_blk 65 [(.iload 4, 2, 4, 0, .null)] (67, [(0, .int (-(Int32.ofNat (x / 100)))), (1, .int (Int32.ofNat (n + 3))), (2, .ref v), (3, .int (-(Int32.ofNat (x / 100)))), (4, .int (Int32.ofNat (x % 100))), (5, .int (Int32.ofNat (n + 1))), (6, .int (0 : Int32))], [.int (Int32.ofNat (x % 100)), .ref (1020 + 0), .int (Int32.ofNat (n + 1)), .ref v], (am_row I v (r_up f (n + 2) (Int32.ofNat (48 + x % 100 % 10)))), G, P) True hX hi (by decide +kernel) rfl trivial ?_
  refine am_dgb hX hi (i := 0) (q := am_bT.getD 0 ("", "", [])) (v := Int32.ofNat (48 + x % 100 / 10)) rfl ((i_in _ _).mpr ⟨by rw [(gc_u (x % 100) (by omega)).2.2]; omega, by rw [(gc_u (x % 100) (by omega)).2.2, gc_l.2]; omega⟩) (gc_u (x % 100) (by omega)).2.1 (by decide +kernel) ?_
  refine am_basS hX hi (I' := am_row I v (r_up (r_up f (n + 2) (Int32.ofNat (48 + x % 100 % 10))) (n + 1) (Int32.ofNat (48 + x % 100 / 10)))) hv ((i_in _ _).mpr ⟨by rw [i_of _ (by omega)]; omega, by rw [i_of _ (by omega)]; omega⟩) (gc_z _ (by omega)) (by rw [am_row_up, i_cl, i_of _ (by omega)]; rfl) (by decide +kernel) ?_
  show am_V X _ _ _ sh ad (69, [(0, .int (-(Int32.ofNat (x / 100)))), (1, .int (Int32.ofNat (n + 3))), (2, .ref v), (3, .int (-(Int32.ofNat (x / 100)))), (4, .int (Int32.ofNat (x % 100))), (5, .int (Int32.ofNat (n + 1))), (6, .int (0 : Int32))], [], (am_row I v (r_up (r_up f (n + 2) (Int32.ofNat (48 + x % 100 % 10))) (n + 1) (Int32.ofNat (48 + x % 100 / 10)))), G, P)
  refine am_blk 69 [(.goto (-47), 3, 0, 22, .null), (.iload_n 0, 1, 0, 0, .null), (.bipush (-100), 2, 0, 0, .int (-100 : Int32))] (25, [(0, .int (-(Int32.ofNat (x / 100)))), (1, .int (Int32.ofNat (n + 3))), (2, .ref v), (3, .int (-(Int32.ofNat (x / 100)))), (4, .int (Int32.ofNat (x % 100))), (5, .int (Int32.ofNat (n + 1))), (6, .int (0 : Int32))], [.int (-100 : Int32), .int (-(Int32.ofNat (x / 100)))], (am_row I v (r_up (r_up f (n + 2) (Int32.ofNat (48 + x % 100 % 10))) (n + 1) (Int32.ofNat (48 + x % 100 / 10)))), G, P) True hX hi (by decide +kernel) rfl trivial ?_
  refine am_icmp_gt hX hi (off := 47) (tgt := 72) (by decide +kernel) (by decide) (fun _ => ?_) (fun c => absurd ((ss_c (x / 100) (by omega)).2.2.2.1.mpr (by omega)) c)
  refine am_blk 72 [(.aload_n 2, 1, 2, 0, .null), (.iinc 5 (-1), 3, 5, 0, .int (-1 : Int32)), (.iload 5, 2, 5, 0, .null)] (78, [(0, .int (-(Int32.ofNat (x / 100)))), (1, .int (Int32.ofNat (n + 3))), (2, .ref v), (3, .int (-(Int32.ofNat (x / 100)))), (4, .int (Int32.ofNat (x % 100))), (5, .int ((Int32.ofNat (n + 1)) + (-1 : Int32))), (6, .int (0 : Int32))], [.int ((Int32.ofNat (n + 1)) + (-1 : Int32)), .ref v], (am_row I v (r_up (r_up f (n + 2) (Int32.ofNat (48 + x % 100 % 10))) (n + 1) (Int32.ofNat (48 + x % 100 / 10)))), G, P) True hX hi (by decide +kernel) rfl trivial ?_
  rw [show Int32.ofNat (n + 1) + (-1 : Int32) = Int32.ofNat (n + 0) from sb_m1 (by omega)]
  show am_V X _ _ _ sh ad (78, [(0, .int (-(Int32.ofNat (x / 100)))), (1, .int (Int32.ofNat (n + 3))), (2, .ref v), (3, .int (-(Int32.ofNat (x / 100)))), (4, .int (Int32.ofNat (x % 100))), (5, .int (Int32.ofNat (n + 0))), (6, .int (0 : Int32))], [.int (Int32.ofNat (n + 0)), .ref v], (am_row I v (r_up (r_up f (n + 2) (Int32.ofNat (48 + x % 100 % 10))) (n + 1) (Int32.ofNat (48 + x % 100 / 10)))), G, P)
  refine am_dgs hX hi (i := 1) (q := am_bT.getD 1 ("", "", [])) rfl am_w_dgO (by decide +kernel) ?_
  refine am_blk 81 [(.iload_n 0, 1, 0, 0, .null), (.ineg, 1, 0, 0, .null)] (83, [(0, .int (-(Int32.ofNat (x / 100)))), (1, .int (Int32.ofNat (n + 3))), (2, .ref v), (3, .int (-(Int32.ofNat (x / 100)))), (4, .int (Int32.ofNat (x % 100))), (5, .int (Int32.ofNat (n + 0))), (6, .int (0 : Int32))], [.int (-(-(Int32.ofNat (x / 100)))), .ref (1020 + 1), .int (Int32.ofNat (n + 0)), .ref v], (am_row I v (r_up (r_up f (n + 2) (Int32.ofNat (48 + x % 100 % 10))) (n + 1) (Int32.ofNat (48 + x % 100 / 10)))), G, P) True hX hi (by decide +kernel) rfl trivial ?_
  refine am_dgb hX hi (i := 1) (q := am_bT.getD 1 ("", "", [])) (v := Int32.ofNat (48 + (x / 100) % 10)) rfl ((i_in _ _).mpr ⟨by rw [(gc_t (x / 100) (by omega)).2.2]; omega, by rw [(gc_t (x / 100) (by omega)).2.2, gc_l.1]; omega⟩) (gc_t (x / 100) (by omega)).1 (by decide +kernel) ?_
  refine am_basS hX hi (I' := am_row I v (r_up (r_up (r_up f (n + 2) (Int32.ofNat (48 + x % 100 % 10))) (n + 1) (Int32.ofNat (48 + x % 100 / 10))) (n + 0) (Int32.ofNat (48 + (x / 100) % 10)))) hv ((i_in _ _).mpr ⟨by rw [i_of _ (by omega)]; omega, by rw [i_of _ (by omega)]; omega⟩) (gc_z _ (by omega)) (by rw [am_row_up, i_cl, i_of _ (by omega)]; rfl) (by decide +kernel) ?_
  show am_V X _ _ _ sh ad (85, [(0, .int (-(Int32.ofNat (x / 100)))), (1, .int (Int32.ofNat (n + 3))), (2, .ref v), (3, .int (-(Int32.ofNat (x / 100)))), (4, .int (Int32.ofNat (x % 100))), (5, .int (Int32.ofNat (n + 0))), (6, .int (0 : Int32))], [], (am_row I v (r_up (r_up (r_up f (n + 2) (Int32.ofNat (48 + x % 100 % 10))) (n + 1) (Int32.ofNat (48 + x % 100 / 10))) (n + 0) (Int32.ofNat (48 + (x / 100) % 10)))), G, P)
  refine am_blk 85 [(.iload_n 0, 1, 0, 0, .null), (.bipush (-9), 2, 0, 0, .int (-9 : Int32))] (88, [(0, .int (-(Int32.ofNat (x / 100)))), (1, .int (Int32.ofNat (n + 3))), (2, .ref v), (3, .int (-(Int32.ofNat (x / 100)))), (4, .int (Int32.ofNat (x % 100))), (5, .int (Int32.ofNat (n + 0))), (6, .int (0 : Int32))], [.int (-9 : Int32), .int (-(Int32.ofNat (x / 100)))], (am_row I v (r_up (r_up (r_up f (n + 2) (Int32.ofNat (48 + x % 100 % 10))) (n + 1) (Int32.ofNat (48 + x % 100 / 10))) (n + 0) (Int32.ofNat (48 + (x / 100) % 10)))), G, P) True hX hi (by decide +kernel) rfl trivial ?_
  refine am_icmp_ge hX hi (off := 16) (tgt := 104) (by decide +kernel) (by decide) (fun _ => ?_) (fun c => absurd ((ss_c (x / 100) (by omega)).2.2.2.2.mpr (by omega)) c)
  refine am_blk 104 [(.iload 6, 2, 6, 0, .null)] (106, [(0, .int (-(Int32.ofNat (x / 100)))), (1, .int (Int32.ofNat (n + 3))), (2, .ref v), (3, .int (-(Int32.ofNat (x / 100)))), (4, .int (Int32.ofNat (x % 100))), (5, .int (Int32.ofNat (n + 0))), (6, .int (0 : Int32))], [.int (0 : Int32)], (am_row I v (r_up (r_up (r_up f (n + 2) (Int32.ofNat (48 + x % 100 % 10))) (n + 1) (Int32.ofNat (48 + x % 100 / 10))) (n + 0) (Int32.ofNat (48 + (x / 100) % 10)))), G, P) True hX hi (by decide +kernel) rfl trivial ?_
  refine am_if_eq hX hi (off := 12) (tgt := 118) (by decide +kernel) (by decide) (fun _ => ?_) (fun c => absurd (rfl) c)
  refine am_blk 118 [(.iload 5, 2, 5, 0, .null)] (120, [(0, .int (-(Int32.ofNat (x / 100)))), (1, .int (Int32.ofNat (n + 3))), (2, .ref v), (3, .int (-(Int32.ofNat (x / 100)))), (4, .int (Int32.ofNat (x % 100))), (5, .int (Int32.ofNat (n + 0))), (6, .int (0 : Int32))], [.int (Int32.ofNat (n + 0))], (am_row I v (r_up (r_up (r_up f (n + 2) (Int32.ofNat (48 + x % 100 % 10))) (n + 1) (Int32.ofNat (48 + x % 100 / 10))) (n + 0) (Int32.ofNat (48 + (x / 100) % 10)))), G, P) True hX hi (by decide +kernel) rfl trivial ?_
  exact am_iret hX hi rfl rfl (by decide +kernel) ⟨rfl, rfl, rfl, rfl⟩
theorem r_up_fit {f : Nat → Int32} {k y : Nat} (h : sb_Fit f) (hy : y < 128) : sb_Fit (r_up f k (Int32.ofNat y)) := fun j => by
  unfold r_up
  by_cases e : j = k
  · rw [if_pos e]
    have : ∀ x, x < 128 → fits .byte (.int (Int32.ofNat x)) = true := by decide +kernel
    exact this y hy
  · rw [if_neg e]; exact h j
theorem r_up_at {f : Nat → Int32} {k : Nat} {y : Int32} : r_up f k y k = y := if_pos rfl
theorem r_up_ne {f : Nat → Int32} {k j : Nat} {y : Int32} (h : j ≠ k) : r_up f k y j = f j := if_neg h
def pPutI (v n : Nat) (T : List Nat) (I : am_I) (G : am_G) (P : am_P) : am_Po := fun r I' G' P' => r = some (.int (Int32.ofNat n)) ∧ G' = G ∧ P' = P ∧ ∃ f : Nat → Int32, I' = am_row I v f ∧ (∀ j, j < n → f j = I v j) ∧ (∀ j, j < T.length → f (n + j) = Int32.ofNat (T.getD j 0)) ∧ sb_Fit f
theorem k_getChars (hv : sh[v]? = some (.inr (4, m))) (hm : m ≤ 4096) (hn : n + (dT x).length ≤ m) (hx : x < 1000) (hf : sb_Fit (I v)) : am_Ct mJ6_getChars_ba4f3 1 sh [.int (Int32.ofNat x), .int (Int32.ofNat (n + (dT x).length)), .ref v] I G P (pPutI v n (dT x) I G P) := by
  have key : ∀ y, y < 10 → 48 + y < 128 := fun y h => by omega
  by_cases h1 : x < 10
  · have e : dT x = [48 + x] := by unfold dT; rw [if_pos h1]
    rw [e] at hn ⊢
    have h9 := gc_1 (f := I v) (I := I) (G := G) (P := P) hv hm hn hx h1
    rw [am_row_id] at h9
    refine h9.mono ?_
    rintro r I' G' P' ⟨rfl, rfl, rfl, rfl⟩
    refine ⟨rfl, rfl, rfl, _, rfl, fun j hj => r_up_ne (by omega), fun j hj => ?_, r_up_fit hf (by omega)⟩
    simp only [List.length_cons, List.length_nil] at hj
    obtain rfl : j = 0 := by omega
    show r_up _ _ _ (n + 0) = Int32.ofNat (48 + x)
    rw [r_up_at, show x % 10 = x by omega]
  · by_cases h2 : x < 100
    · have e : dT x = [48 + x / 10, 48 + x % 10] := by unfold dT; rw [if_neg h1, if_pos h2]
      rw [e] at hn ⊢
      have h9 := gc_2 (f := I v) (I := I) (G := G) (P := P) hv hm hn hx (by omega) h2
      rw [am_row_id] at h9
      refine h9.mono ?_
      rintro r I' G' P' ⟨rfl, rfl, rfl, rfl⟩
      refine ⟨rfl, rfl, rfl, _, rfl, fun j hj => by rw [r_up_ne (by omega), r_up_ne (by omega)], fun j hj => ?_, r_up_fit (r_up_fit hf (by omega)) (by omega)⟩
      simp only [List.length_cons, List.length_nil] at hj
      obtain rfl | rfl : j = 0 ∨ j = 1 := by omega
      · exact r_up_at
      · rw [r_up_ne (by omega)]; exact r_up_at
    · have e : dT x = [48 + x / 100, 48 + x / 10 % 10, 48 + x % 10] := by unfold dT; rw [if_neg h1, if_neg h2]
      rw [e] at hn ⊢
      have h9 := gc_3 (f := I v) (I := I) (G := G) (P := P) hv hm hn hx (by omega)
      rw [am_row_id] at h9
      refine h9.mono ?_
      rintro r I' G' P' ⟨rfl, rfl, rfl, rfl⟩
      refine ⟨rfl, rfl, rfl, _, rfl, fun j hj => by rw [r_up_ne (by omega), r_up_ne (by omega), r_up_ne (by omega)], fun j hj => ?_, r_up_fit (r_up_fit (r_up_fit hf (by omega)) (by omega)) (by omega)⟩
      simp only [List.length_cons, List.length_nil] at hj
      obtain rfl | rfl | rfl : j = 0 ∨ j = 1 ∨ j = 2 := by omega
      · rw [r_up_at]; show Int32.ofNat (48 + x / 100 % 10) = Int32.ofNat (48 + x / 100); rw [show x / 100 % 10 = x / 100 by omega]
      · rw [r_up_ne (by omega), r_up_at]; show Int32.ofNat (48 + x % 100 / 10) = Int32.ofNat (48 + x / 10 % 10); rw [show x % 100 / 10 = x / 10 % 10 by omega]
      · rw [r_up_ne (by omega), r_up_ne (by omega), r_up_at]; show Int32.ofNat (48 + x % 100 % 10) = Int32.ofNat (48 + x % 10); rw [show x % 100 % 10 = x % 10 by omega]
set_option maxHeartbeats 1000000 in
theorem ai_rest {X : am_X} {ad : Nat → Nat} {cells slots : Nat} {Q : State → Prop} (hX : am_okz X ad) (hi : am_info X 21 cJ5_append_c97b9 4 false (some (.object "java/lang/AbstractStringBuilder")) 4) (hb : sh[b]? = some (.inl 1)) (hv : sh[v]? = some (.inr (4, m))) (hm9 : m ≤ 4096) (hP : P b 0 = .ref v) (h0 : I b 1 = 0) (hx : x < 1000) (hn : n + (dT x).length ≤ m) (hf : sb_Fit (I v))
    (kk : ∀ f : Nat → Int32, (∀ j, j < n → f j = I v j) → (∀ j, j < (dT x).length → f (n + j) = Int32.ofNat ((dT x).getD j 0)) → sb_Fit f → am_V X cells slots Q sh ad (54, [(0, .ref b), (1, .int (Int32.ofNat x)), (2, .int (Int32.ofNat n)), (3, .int (Int32.ofNat (n + (dT x).length)))], [.ref b], am_up (am_row I v f) b 3 (Int32.ofNat (n + (dT x).length)), G, P)) : am_V X cells slots Q sh ad (17, [(0, .ref b), (1, .int (Int32.ofNat x)), (2, .int (Int32.ofNat n)), (3, .int (Int32.ofNat (n + (dT x).length)))], [], I, G, P) := by
  refine am_blk 17 [(.aload_n 0, 1, 0, 0, .null)] (18, [(0, .ref b), (1, .int (Int32.ofNat x)), (2, .int (Int32.ofNat n)), (3, .int (Int32.ofNat (n + (dT x).length)))], [.ref b], I, G, P) True hX hi (by decide +kernel) rfl trivial ?_
  refine am_callU hX hi (C := "java/lang/StringBuilder") (M := mJ5_isLatin1_aae02) (idx := 83) (d' := 1) (As := []) (rest := []) mkJ5_isLatin1_aae02 miJ5_isLatin1_aae02 sl_latin sm_isLatin1_aae02 (by decide +kernel) (by decide +kernel) hb rfl rfl ⟨by decide, by decide, Nat.le_of_ble_eq_true rfl⟩ rfl (k_bLatin hb h0) ?_
  rintro r9 I9 G9 P9 ⟨e0, e1, e2, e3⟩
  rw [e0, e1, e2, e3]
  show am_V X _ _ _ sh ad (21, [(0, .ref b), (1, .int (Int32.ofNat x)), (2, .int (Int32.ofNat n)), (3, .int (Int32.ofNat (n + (dT x).length)))], [.int (1 : Int32)], I, G, P)
  refine am_if_eq hX hi (off := 16) (tgt := 37) (by decide +kernel) (by decide) (fun c => absurd c (by decide)) (fun _ => ?_)
  refine am_blk 24 [(.iload_n 1, 1, 1, 0, .null), (.iload_n 3, 1, 3, 0, .null), (.aload_n 0, 1, 0, 0, .null)] (27, [(0, .ref b), (1, .int (Int32.ofNat x)), (2, .int (Int32.ofNat n)), (3, .int (Int32.ofNat (n + (dT x).length)))], [.ref b, .int (Int32.ofNat (n + (dT x).length)), .int (Int32.ofNat x)], I, G, P) True hX hi (by decide +kernel) rfl trivial ?_
  refine am_gfP hX hi (c := 1) (b := 0) (idx := 15) hb rfl (by decide +kernel) hP (by decide +kernel) ?_
  refine am_callS2 hX hi (M := mJ6_getChars_ba4f3) (idx := 248) (d' := 1) (As := [.int (Int32.ofNat x), .int (Int32.ofNat (n + (dT x).length)), .ref v]) (rest := []) mkJ6_getChars_ba4f3 msJ6_getChars_ba4f3 (by decide +kernel) (by decide +kernel) rfl ⟨by decide, by decide, Nat.le_of_ble_eq_true rfl⟩ rfl (k_getChars hv hm9 hn hx hf) ?_
  rintro r9 I9 G P ⟨rfl, rfl, rfl, f, rfl, f1, f2, f3⟩
  show am_V X _ _ _ sh ad (33, [(0, .ref b), (1, .int (Int32.ofNat x)), (2, .int (Int32.ofNat n)), (3, .int (Int32.ofNat (n + (dT x).length)))], [.int (Int32.ofNat n)], (am_row I v f), G, P)
  refine am_blk 33 [(.pop, 1, 0, 0, .null), (.goto (14), 3, 0, 48, .null), (.aload_n 0, 1, 0, 0, .null), (.iload_n 3, 1, 3, 0, .null)] (50, [(0, .ref b), (1, .int (Int32.ofNat x)), (2, .int (Int32.ofNat n)), (3, .int (Int32.ofNat (n + (dT x).length)))], [.int (Int32.ofNat (n + (dT x).length)), .ref b], (am_row I v f), G, P) True hX hi (by decide +kernel) rfl trivial ?_
  refine am_pfI hX hi (c := 1) (b := 3) (idx := 79) hb rfl (by decide +kernel) rfl (by decide +kernel) ?_
  show am_V X _ _ _ sh ad (53, [(0, .ref b), (1, .int (Int32.ofNat x)), (2, .int (Int32.ofNat n)), (3, .int (Int32.ofNat (n + (dT x).length)))], [], (am_up (am_row I v f) b 3 (Int32.ofNat (n + (dT x).length))), G, P)
  refine am_blk 53 [(.aload_n 0, 1, 0, 0, .null)] (54, [(0, .ref b), (1, .int (Int32.ofNat x)), (2, .int (Int32.ofNat n)), (3, .int (Int32.ofNat (n + (dT x).length)))], [.ref b], (am_up (am_row I v f) b 3 (Int32.ofNat (n + (dT x).length))), G, P) True hX hi (by decide +kernel) rfl trivial ?_
  exact kk f f1 f2 f3
set_option maxHeartbeats 1000000 in
theorem k_appendI (hB : sB sh I P b v m T) (hx : x < 1000) (hn : T.length + (dT x).length ≤ 2000) (hl : sh.length < 1000) (hR : lR sh.length sh P) : am_CtA mJ5_append_c97b9 4 1 4096 sh.length sh [.ref b, .int (Int32.ofNat x)] I G P (pAp sh b v m T (dT x) I G P) := by
  obtain ⟨hb, hv, hP, h0, h3, hTm, hm9, haT, hbT, hf⟩ := hB
  have lb := am_at_lt hb
  refine am_ofA (by decide +kernel) rfl (by decide) (by decide) (Nat.le_of_ble_eq_true rfl) (fun X ad hX hi hm => ?_)
  have hi : am_info X 21 cJ5_append_c97b9 4 false (some (FieldType.object "java/lang/AbstractStringBuilder")) 4 := hi
  have hm : am_mem X 1 4096 := hm
  show am_V X _ _ _ sh ad (0, [(0, .ref b), (1, .int (Int32.ofNat x))], [], I, G, P)
  refine am_blk 0 [(.aload_n 0, 1, 0, 0, .null)] (1, [(0, .ref b), (1, .int (Int32.ofNat x))], [.ref b], I, G, P) True hX hi (by decide +kernel) rfl trivial ?_
  refine am_gfI hX hi (c := 1) (b := 3) (idx := 79) (v := (Int32.ofNat T.length)) hb rfl (by decide +kernel) h3 (by decide +kernel) ?_
  refine am_blk 4 [(.istore_n 2, 1, 2, 0, .null), (.iload_n 2, 1, 2, 0, .null), (.iload_n 1, 1, 1, 0, .null)] (7, [(0, .ref b), (1, .int (Int32.ofNat x)), (2, .int (Int32.ofNat T.length))], [.int (Int32.ofNat x), .int (Int32.ofNat T.length)], I, G, P) True hX hi (by decide +kernel) rfl trivial ?_
  refine am_callS2 hX hi (M := mJ6_stringSize_0f7a4) (idx := 245) (d' := 1) (As := [.int (Int32.ofNat x)]) (rest := [.int (Int32.ofNat T.length)]) mkJ6_stringSize_0f7a4 msJ6_stringSize_0f7a4 (by decide +kernel) (by decide +kernel) rfl ⟨by decide, by decide, Nat.le_of_ble_eq_true rfl⟩ rfl (k_stringSize hx) ?_
  rintro r9 I9 G9 P9 ⟨e0, e1, e2, e3⟩
  rw [e0, e1, e2, e3]
  show am_V X _ _ _ sh ad (10, [(0, .ref b), (1, .int (Int32.ofNat x)), (2, .int (Int32.ofNat T.length))], [.int (Int32.ofNat (dT x).length), .int (Int32.ofNat T.length)], I, G, P)
  refine am_blk 10 [(.iadd, 1, 0, 0, .null)] (11, [(0, .ref b), (1, .int (Int32.ofNat x)), (2, .int (Int32.ofNat T.length))], [.int ((Int32.ofNat T.length) + (Int32.ofNat (dT x).length))], I, G, P) True hX hi (by decide +kernel) rfl trivial ?_
  rw [show Int32.ofNat T.length + Int32.ofNat (dT x).length = Int32.ofNat (T.length + (dT x).length) from nI_add T.length (dT x).length]
  show am_V X _ _ _ sh ad (11, [(0, .ref b), (1, .int (Int32.ofNat x)), (2, .int (Int32.ofNat T.length))], [.int (Int32.ofNat (T.length + (dT x).length))], I, G, P)
  refine am_blk 11 [(.istore_n 3, 1, 3, 0, .null), (.aload_n 0, 1, 0, 0, .null), (.iload_n 3, 1, 3, 0, .null)] (14, [(0, .ref b), (1, .int (Int32.ofNat x)), (2, .int (Int32.ofNat T.length)), (3, .int (Int32.ofNat (T.length + (dT x).length)))], [.int (Int32.ofNat (T.length + (dT x).length)), .ref b], I, G, P) True hX hi (by decide +kernel) rfl trivial ?_
  refine am_callUA hX hi hm (C := "java/lang/StringBuilder") (M := mJ5_ensureCapacityInternal_d00df) (idx := 100) (d' := 3) (As := [.int (Int32.ofNat (T.length + (dT x).length))]) (rest := []) mkJ5_ensureCapacityInternal_d00df miJ5_ensureCapacityInternal_d00df sl_ensureCapacityInternal sm_ensureCapacityInternal_d00df (by decide +kernel) (by decide +kernel) hb rfl rfl ⟨by decide, by decide, Nat.le_of_ble_eq_true rfl⟩ rfl ⟨by omega, by omega⟩ (am_kqL_r (Or.inl lb) (am_kqL_i (am_kqL_i (am_kqL_i am_kqL_n)))) am_kqS_n (k_ensure hb hv hm9 hP h0 hn hf hl hR) ?_
  rintro r9 sh9 ad1 I9 G P9 ⟨rfl, rfl, hc⟩ ha1 hX1
  show am_V X _ _ _ sh9 ad1 (17, [(0, .ref b), (1, .int (Int32.ofNat x)), (2, .int (Int32.ofNat T.length)), (3, .int (Int32.ofNat (T.length + (dT x).length)))], [], I9, G, P9)
  have eTS : (T ++ dT x).length = T.length + (dT x).length := List.length_append
  rcases hc with ⟨c1, rfl, rfl, rfl⟩ | ⟨c1, rfl, rfl, f, rfl, f1, f2⟩
  · refine ai_rest hX1 hi hb hv hm9 hP h0 hx c1 hf (fun g g1 g2 g3 => ?_)
    refine am_aretA hX1 hi rfl (by decide +kernel) ha1 ⟨rfl, rfl, g, bT_app hbT g1 g2, g3, Or.inl ⟨by rw [eTS]; exact c1, rfl, rfl, by rw [eTS]⟩⟩ ⟨by omega, by omega⟩
  · obtain ⟨g1, g2⟩ := sb_capL c1 hn
    have hbl : b ≠ sh.length := by omega
    refine ai_rest (v := sh.length) (m := sb_cap (T.length + (dT x).length) m) (n := T.length) hX1 hi (am_at_app hb) am_at_end g1 (am_up_self _ _ _ _) (by rw [am_row_ne _ _ hbl]; exact h0) hx (sb_capB c1 (by omega)).2.2 (by rw [am_row_self]; exact f2) (fun g h1 h2 h4 => ?_)
    rw [am_row_self] at h1
    refine am_aretA hX1 hi rfl (by decide +kernel) ha1 ⟨rfl, rfl, g, bT_app hbT (fun j hj => (h1 j hj).trans (f1 j (by omega))) h2, h4, Or.inr ⟨by rw [eTS]; exact c1, by rw [eTS], rfl, by rw [eTS, am_row_row]⟩⟩ ⟨by omega, by omega⟩
set_option maxHeartbeats 1000000 in
theorem k_bAppendI (hB : sB sh I P b v m T) (hx : x < 1000) (hn : T.length + (dT x).length ≤ 2000) (hl : sh.length < 1000) (hR : lR sh.length sh P) : am_CtA mJ4_append_bf812 5 1 4096 sh.length sh [.ref b, .int (Int32.ofNat x)] I G P (pAp sh b v m T (dT x) I G P) := by
  have hb := hB.1
  have lb := am_at_lt hb
  refine am_ofA (by decide +kernel) rfl (by decide) (by decide) (Nat.le_of_ble_eq_true rfl) (fun X ad hX hi hm => ?_)
  have hi : am_info X 1 cJ4_append_bf812 2 false (some (FieldType.object "java/lang/StringBuilder")) 5 := hi
  have hm : am_mem X 1 4096 := hm
  show am_V X _ _ _ sh ad (0, [(0, .ref b), (1, .int (Int32.ofNat x))], [], I, G, P)
  refine am_blk 0 [(.aload_n 0, 1, 0, 0, .null), (.iload_n 1, 1, 1, 0, .null)] (2, [(0, .ref b), (1, .int (Int32.ofNat x))], [.int (Int32.ofNat x), .ref b], I, G, P) True hX hi (by decide +kernel) rfl trivial ?_
  refine am_callSUA hX hi hm (C := "java/lang/StringBuilder") (M := mJ5_append_c97b9) (idx := 53) (d' := 4) (As := [.int (Int32.ofNat x)]) (rest := []) mkJ5_append_c97b9 miJ5_append_c97b9 sm_append_c97b9 sp_SB (by decide +kernel) (by decide +kernel) (by decide +kernel) hb rfl rfl ⟨by decide, by decide, Nat.le_of_ble_eq_true rfl⟩ rfl ⟨by omega, by omega⟩ (am_kqL_r (Or.inl lb) (am_kqL_i am_kqL_n)) am_kqS_n (k_appendI hB hx hn hl hR) ?_
  rintro r9 sh9 ad1 I9 G9 P9 ⟨rfl, hp⟩ ha1 hX1
  show am_V X _ _ _ sh9 ad1 (5, [(0, .ref b), (1, .int (Int32.ofNat x))], [.ref b], I9, G9, P9)
  refine am_blk 5 [(.pop, 1, 0, 0, .null), (.aload_n 0, 1, 0, 0, .null)] (7, [(0, .ref b), (1, .int (Int32.ofNat x))], [.ref b], I9, G9, P9) True hX1 hi (by decide +kernel) rfl trivial ?_
  exact am_aretA hX1 hi rfl (by decide +kernel) ha1 ⟨rfl, hp⟩ ⟨by omega, by omega⟩
end AMTD
