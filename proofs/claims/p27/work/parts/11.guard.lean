theorem l_0 : (0 : Int64).toInt = 0 := rfl
theorem am_cmp (x y : Int64) : (lg_cmp x y).toInt = if y.toInt < x.toInt then 1 else if x.toInt = y.toInt then 0 else -1 := by
  unfold lg_cmp
  simp only [l_lt, l_eq]
  split
  · rfl
  · split <;> rfl
theorem am_cmp_ge (x y : Int64) : (0 : Int32) ≤ lg_cmp x y ↔ y.toInt ≤ x.toInt := by
  rw [i_le, am_cmp, i_0]
  split
  · omega
  · split <;> omega
theorem am_cmp_eq (x y : Int64) : lg_cmp x y = 0 ↔ x.toInt = y.toInt := by
  rw [i_eq, am_cmp, i_0]
  split
  · omega
  · split <;> omega
theorem l_le (a b : Int64) : a ≤ b ↔ a.toInt ≤ b.toInt := Int64.le_iff_toInt_le
theorem wrap_fin (n : Int64) (size : Int32) (h : 0 < size.toInt) : (Int64.ofInt (n.toInt % size.toInt)).toInt32 = Int32.ofInt (n.toInt % size.toInt) := by
  have b0 := i_b size
  have b1 := Int.emod_nonneg n.toInt (show size.toInt ≠ 0 by omega)
  have b2 := Int.emod_lt_of_pos n.toInt h
  rw [i_eq, i_ofi _ (by omega), Int64.toInt_toInt32, Int64.toInt_ofInt_of_le (by omega) (by omega)]
  exact Int.bmod_eq_of_le_mul_two (by omega) (by omega)
set_option maxRecDepth 20000 in
set_option maxHeartbeats 2000000 in
theorem c_fmodJ {sh : List am_Sh} {I : am_I} {G : am_G} {P : am_P} (x m : Int64) (hm : 0 < m.toInt) : am_Ct mJ9_floorMod_f86c9 1 sh [.long x, .long m] I G P (pL (Int64.ofInt (x.toInt % m.toInt)) I G P) := by
  refine am_ofF (by decide +kernel) rfl (by decide) (by decide) (Nat.le_of_ble_eq_true rfl) (fun X ad hX hi => ?_)
  have hi : am_info X 25 cJ9_floorMod_f86c9 6 false (Option.some Jvm.ClassFile.FieldType.long) 1 := hi
  show am_V X 0 0 _ _ ad (0, [(0, .long x), (2, .long m)], [], I, G, P)
  refine am_blk 0 [(.lload_n 0, 1, 0, 0, .null), (.lload_n 2, 1, 2, 0, .null), (.lrem, 1, 0, 0, .null), (.lstore 4, 2, 4, 0, .null), (.lload_n 0, 1, 0, 0, .null), (.lload_n 2, 1, 2, 0, .null), (.lxor, 1, 0, 0, .null), (.lconst 0, 1, 0, 0, .long (0)), (.lcmp, 1, 0, 0, .null)] (10, [(0, .long x), (2, .long m), (4, .long (x - x / m * m))], [.int (lg_cmp (x ^^^ m) (0))], I, G, P) (¬ m = 0 ∧ True) hX hi (by decide +kernel) rfl ?_ ?_
  · exact ⟨fun h => by rw [h] at hm; exact absurd hm (by decide), trivial⟩
  refine am_if_ge (tgt := 25) hX hi (off := (15)) (by decide +kernel) (by decide) (fun c10 => ?_) (fun c10 => ?_)
  · refine am_blk 25 [(.lload 4, 2, 4, 0, .null)] (27, [(0, .long x), (2, .long m), (4, .long (x - x / m * m))], [.long (x - x / m * m)], I, G, P) (True) hX hi (by decide +kernel) rfl trivial ?_
    refine am_lret hX hi rfl (by decide +kernel) ?_
    refine pL_eq ((l_eq _ _).mpr ?_)
    have e1 := emod_tmod (a := x.toInt) hm
    have b0 := l_b m
    have tb := tmod_bounds (a := x.toInt) hm
    have b1 := Int.emod_nonneg x.toInt (show m.toInt ≠ 0 by omega)
    have b2 := Int.emod_lt_of_pos x.toInt hm
    have hr : (x - x / m * m).toInt = x.toInt.tmod m.toInt := by rw [lrem_eq]; exact Int64.toInt_mod x m
    rw [Int64.toInt_ofInt_of_le (by omega) (by omega)]
    have hx := xor_neg64 x m
    try simp only [am_cmp_ge, l_0] at c10
    try simp only [am_cmp_eq, l_0] at c17
    first | (split at e1 <;> omega) | (rw [Int64.toInt_add, Int.bmod_eq_of_le_mul_two (by split at e1 <;> omega) (by split at e1 <;> omega)]; split at e1 <;> omega)
  · refine am_blk 13 [(.lload 4, 2, 4, 0, .null), (.lconst 0, 1, 0, 0, .long (0)), (.lcmp, 1, 0, 0, .null)] (17, [(0, .long x), (2, .long m), (4, .long (x - x / m * m))], [.int (lg_cmp (x - x / m * m) (0))], I, G, P) (True) hX hi (by decide +kernel) rfl trivial ?_
    refine am_if_eq (tgt := 25) hX hi (off := (8)) (by decide +kernel) (by decide) (fun c17 => ?_) (fun c17 => ?_)
    · refine am_blk 25 [(.lload 4, 2, 4, 0, .null)] (27, [(0, .long x), (2, .long m), (4, .long (x - x / m * m))], [.long (x - x / m * m)], I, G, P) (True) hX hi (by decide +kernel) rfl trivial ?_
      refine am_lret hX hi rfl (by decide +kernel) ?_
      refine pL_eq ((l_eq _ _).mpr ?_)
      have e1 := emod_tmod (a := x.toInt) hm
      have b0 := l_b m
      have tb := tmod_bounds (a := x.toInt) hm
      have b1 := Int.emod_nonneg x.toInt (show m.toInt ≠ 0 by omega)
      have b2 := Int.emod_lt_of_pos x.toInt hm
      have hr : (x - x / m * m).toInt = x.toInt.tmod m.toInt := by rw [lrem_eq]; exact Int64.toInt_mod x m
      rw [Int64.toInt_ofInt_of_le (by omega) (by omega)]
      have hx := xor_neg64 x m
      try simp only [am_cmp_ge, l_0] at c10
      try simp only [am_cmp_eq, l_0] at c17
      first | (split at e1 <;> omega) | (rw [Int64.toInt_add, Int.bmod_eq_of_le_mul_two (by split at e1 <;> omega) (by split at e1 <;> omega)]; split at e1 <;> omega)
    · refine am_blk 20 [(.lload 4, 2, 4, 0, .null), (.lload_n 2, 1, 2, 0, .null), (.ladd, 1, 0, 0, .null)] (24, [(0, .long x), (2, .long m), (4, .long (x - x / m * m))], [.long ((x - x / m * m) + m)], I, G, P) (True) hX hi (by decide +kernel) rfl trivial ?_
      refine am_lret hX hi rfl (by decide +kernel) ?_
      refine pL_eq ((l_eq _ _).mpr ?_)
      have e1 := emod_tmod (a := x.toInt) hm
      have b0 := l_b m
      have tb := tmod_bounds (a := x.toInt) hm
      have b1 := Int.emod_nonneg x.toInt (show m.toInt ≠ 0 by omega)
      have b2 := Int.emod_lt_of_pos x.toInt hm
      have hr : (x - x / m * m).toInt = x.toInt.tmod m.toInt := by rw [lrem_eq]; exact Int64.toInt_mod x m
      rw [Int64.toInt_ofInt_of_le (by omega) (by omega)]
      have hx := xor_neg64 x m
      try simp only [am_cmp_ge, l_0] at c10
      try simp only [am_cmp_eq, l_0] at c17
      first | (split at e1 <;> omega) | (rw [Int64.toInt_add, Int.bmod_eq_of_le_mul_two (by split at e1 <;> omega) (by split at e1 <;> omega)]; split at e1 <;> omega)
set_option maxRecDepth 20000 in
set_option maxHeartbeats 2000000 in
theorem c_hold {sh : List am_Sh} {I : am_I} {G : am_G} {P : am_P} (n least most : Int32) : am_Ct mX0_hold 1 sh [.int n, .int least, .int most] I G P (pI (gHo n least most) I G P) := by
  refine am_ofF (by decide +kernel) rfl (by decide) (by decide) (Nat.le_of_ble_eq_true rfl) (fun X ad hX hi => ?_)
  have hi : am_info X 13 cX0_hold 3 false (Option.some Jvm.ClassFile.FieldType.int) 1 := hi
  show am_V X 0 0 _ _ ad (0, [(0, .int n), (1, .int least), (2, .int most)], [], I, G, P)
  refine am_blk 0 [(.iload_n 1, 1, 1, 0, .null), (.iload_n 0, 1, 0, 0, .null), (.iload_n 2, 1, 2, 0, .null), (.invokestatic 7, 3, 1, 0, .null), (.invokestatic 23, 3, 2, 0, .null)] (9, [(0, .int n), (1, .int least), (2, .int most)], [.int (if least < (if most < n then most else n) then (if most < n then most else n) else least)], I, G, P) (True) hX hi (by decide +kernel) rfl trivial ?_
  refine am_iret hX hi rfl rfl (by decide +kernel) ?_
  exact pI_rf _ _ _ _
set_option maxRecDepth 20000 in
set_option maxHeartbeats 2000000 in
theorem c_quot {sh : List am_Sh} {I : am_I} {G : am_G} {P : am_P} (n by0 : Int32) : am_Ct mX0_quotient 1 sh [.int n, .int by0] I G P (pI (gQu n by0) I G P) := by
  refine am_ofF (by decide +kernel) rfl (by decide) (by decide) (Nat.le_of_ble_eq_true rfl) (fun X ad hX hi => ?_)
  have hi : am_info X 13 cX0_quotient 2 false (Option.some Jvm.ClassFile.FieldType.int) 1 := hi
  show am_V X 0 0 _ _ ad (0, [(0, .int n), (1, .int by0)], [], I, G, P)
  refine am_blk 0 [(.iload_n 1, 1, 1, 0, .null)] (1, [(0, .int n), (1, .int by0)], [.int by0], I, G, P) (True) hX hi (by decide +kernel) rfl trivial ?_
  refine am_if_ne (tgt := 8) hX hi (off := (7)) (by decide +kernel) (by decide) (fun c1 => ?_) (fun c1 => ?_)
  · refine am_blk 8 [(.iload_n 0, 1, 0, 0, .null), (.iload_n 1, 1, 1, 0, .null), (.idiv, 1, 0, 0, .null)] (11, [(0, .int n), (1, .int by0)], [.int (n / by0)], I, G, P) (¬ by0 = 0 ∧ True) hX hi (by decide +kernel) rfl ?_ ?_
    · exact ⟨by assumption, trivial⟩
    refine am_iret hX hi rfl rfl (by decide +kernel) ?_
    refine pI_eq ?_
    unfold gQu
    first | rw [if_pos (by assumption)] | rw [if_neg (by assumption)] | (simp only [Classical.not_not] at *; rw [if_pos (by assumption)])
  · refine am_blk 4 [(.iconst (0), 1, 0, 0, .int (0 : Int32)), (.goto (6), 3, 0, 11, .null)] (11, [(0, .int n), (1, .int by0)], [.int (0 : Int32)], I, G, P) (True) hX hi (by decide +kernel) rfl trivial ?_
    refine am_iret hX hi rfl rfl (by decide +kernel) ?_
    refine pI_eq ?_
    unfold gQu
    first | rw [if_pos (by assumption)] | rw [if_neg (by assumption)] | (simp only [Classical.not_not] at *; rw [if_pos (by assumption)])
set_option maxRecDepth 20000 in
set_option maxHeartbeats 2000000 in
theorem c_wrap {sh : List am_Sh} {I : am_I} {G : am_G} {P : am_P} (n : Int64) (size : Int32) : am_Ct mX0_wrap 2 sh [.long n, .int size] I G P (pI (gWr n.toInt size) I G P) := by
  refine am_ofF (by decide +kernel) rfl (by decide) (by decide) (Nat.le_of_ble_eq_true rfl) (fun X ad hX hi => ?_)
  have hi : am_info X 13 cX0_wrap 3 false (Option.some Jvm.ClassFile.FieldType.int) 2 := hi
  show am_V X 0 0 _ _ ad (0, [(0, .long n), (2, .int size)], [], I, G, P)
  refine am_blk 0 [(.iload_n 2, 1, 2, 0, .null)] (1, [(0, .long n), (2, .int size)], [.int size], I, G, P) (True) hX hi (by decide +kernel) rfl trivial ?_
  refine am_if_le (tgt := 14) hX hi (off := (13)) (by decide +kernel) (by decide) (fun c1 => ?_) (fun c1 => ?_)
  · refine am_blk 14 [(.iconst (0), 1, 0, 0, .int (0 : Int32))] (15, [(0, .long n), (2, .int size)], [.int (0 : Int32)], I, G, P) (True) hX hi (by decide +kernel) rfl trivial ?_
    refine am_iret hX hi rfl rfl (by decide +kernel) ?_
    refine pI_eq ?_
    simp only [i_le, i_0] at c1
    unfold gWr
    first
      | (rw [if_neg (by omega)]; done)
      | (rw [if_pos (by omega), Int32.toInt_toInt64]; exact wrap_fin n size (by omega))
  · refine am_blk 4 [(.lload_n 0, 1, 0, 0, .null), (.iload_n 2, 1, 2, 0, .null), (.i2l, 1, 0, 0, .null)] (7, [(0, .long n), (2, .int size)], [.long size.toInt64, .long n], I, G, P) (True) hX hi (by decide +kernel) rfl trivial ?_
    refine am_callS hX hi (M := mJ9_floorMod_f86c9) (idx := 19) (d' := 1) (As := [.long n, .long size.toInt64]) (rest := []) mkJ9_floorMod_f86c9 msJ9_floorMod_f86c9 (by decide +kernel) (by decide +kernel) rfl ⟨by decide, by decide, by decide⟩ rfl (c_fmodJ _ _ ?_) ?_
    · show 0 < size.toInt64.toInt
      rw [i_le, i_0] at c1; rw [Int32.toInt_toInt64]; omega
    rintro r9 I9 G9 P9 ⟨e0, e1, e2, e3⟩
    rw [e0, e1, e2, e3]
    show am_V X 0 0 _ _ ad _
    refine am_blk 10 [(.l2i, 1, 0, 0, .null), (.goto (4), 3, 0, 15, .null)] (15, [(0, .long n), (2, .int size)], [.int (Int64.ofInt (n.toInt % size.toInt64.toInt)).toInt32], I, G, P) (True) hX hi (by decide +kernel) rfl trivial ?_
    refine am_iret hX hi rfl rfl (by decide +kernel) ?_
    refine pI_eq ?_
    simp only [i_le, i_0] at c1
    unfold gWr
    first
      | (rw [if_neg (by omega)]; done)
      | (rw [if_pos (by omega), Int32.toInt_toInt64]; exact wrap_fin n size (by omega))
set_option maxHeartbeats 2000000 in
theorem c_at {sh : List am_Sh} {I : am_I} {G : am_G} {P : am_P} {a n : Nat} (hs : sh[a]? = some (.inr (0, n))) (hn : n < 2147483648) (k : Int32) : am_Ct mX0_at 1 sh [.ref a, .int k] I G P (pI (gAt (I a) n k) I G P) := by
  refine am_ofF (by decide +kernel) rfl (by decide) (by decide) (Nat.le_of_ble_eq_true rfl) (fun X ad hX hi => ?_)
  have hi : am_info X 13 cX0_at 2 false (some .int) 1 := hi
  show am_V X 0 0 _ _ ad (0, [(0, .ref a), (1, .int k)], [], I, G, P)
  refine am_blk 0 [(.aload_n 0, 1, 0, 0, .null)] (1, [(0, .ref a), (1, .int k)], [.ref a], I, G, P) True hX hi (by decide +kernel) rfl trivial ?_
  refine am_nul hX hi (off := 19) (by decide +kernel) ?_
  refine am_blk 4 [(.iload_n 1, 1, 1, 0, .null)] (5, [(0, .ref a), (1, .int k)], [.int k], I, G, P) True hX hi (by decide +kernel) rfl trivial ?_
  refine am_if_lt hX hi (off := 15) (tgt := 20) (by decide +kernel) (by decide) (fun c => ?_) (fun c => ?_)
  · refine am_blk 20 [(.iconst 0, 1, 0, 0, .int 0)] (21, [(0, .ref a), (1, .int k)], [.int 0], I, G, P) True hX hi (by decide +kernel) rfl trivial ?_
    refine am_iret hX hi rfl rfl (by decide +kernel) (pI_eq ?_)
    rw [i_lt, i_0] at c
    rw [gAt_out (Or.inl c)]
  · refine am_blk 8 [(.iload_n 1, 1, 1, 0, .null), (.aload_n 0, 1, 0, 0, .null), (.arraylength, 1, 0, 0, .null)] (11, [(0, .ref a), (1, .int k)], [.int (Int32.ofNat n), .int k], I, G, P) True hX hi (by decide +kernel) (by simp [am_run, am_st, am_lk, hs, am_beq]) trivial ?_
    rw [i_lt, i_0] at c
    refine am_icmp_ge hX hi (off := 9) (tgt := 20) (by decide +kernel) (by decide) (fun c2 => ?_) (fun c2 => ?_)
    · refine am_blk 20 [(.iconst 0, 1, 0, 0, .int 0)] (21, [(0, .ref a), (1, .int k)], [.int 0], I, G, P) True hX hi (by decide +kernel) rfl trivial ?_
      refine am_iret hX hi rfl rfl (by decide +kernel) (pI_eq ?_)
      rw [i_le, i_of _ hn] at c2
      rw [gAt_out (Or.inr c2)]
    · rw [i_le, i_of _ hn] at c2
      refine am_blk 14 [(.aload_n 0, 1, 0, 0, .null), (.iload_n 1, 1, 1, 0, .null), (.iaload, 1, 0, 0, .null), (.goto 4, 3, 0, 21, .null)] (21, [(0, .ref a), (1, .int k)], [.int (I a k.toNatClampNeg)], I, G, P) (vp_in k n ∧ True) hX hi (by decide +kernel) (by simp [am_run, am_st, am_lk, hs, am_beq]) ⟨(i_in k n).mpr (by omega), trivial⟩ ?_
      refine am_iret hX hi rfl rfl (by decide +kernel) (pI_eq ?_)
      rw [gAt_in (by omega) (by omega)]; rfl
set_option maxHeartbeats 2000000 in
theorem c_put {sh : List am_Sh} {I : am_I} {G : am_G} {P : am_P} {a n : Nat} (hs : sh[a]? = some (.inr (0, n))) (hn : n < 2147483648) (k x : Int32) : am_Ct mX0_put 1 sh [.ref a, .int k, .int x] I G P (pV (gPut I a n k x) G P) := by
  refine am_ofF (by decide +kernel) rfl (by decide) (by decide) (Nat.le_of_ble_eq_true rfl) (fun X ad hX hi => ?_)
  have hi : am_info X 13 cX0_put 3 false none 1 := hi
  show am_V X 0 0 _ _ ad (0, [(0, .ref a), (1, .int k), (2, .int x)], [], I, G, P)
  refine am_blk 0 [(.aload_n 0, 1, 0, 0, .null)] (1, [(0, .ref a), (1, .int k), (2, .int x)], [.ref a], I, G, P) True hX hi (by decide +kernel) rfl trivial ?_
  refine am_nul hX hi (off := 17) (by decide +kernel) ?_
  refine am_blk 4 [(.iload_n 1, 1, 1, 0, .null)] (5, [(0, .ref a), (1, .int k), (2, .int x)], [.int k], I, G, P) True hX hi (by decide +kernel) rfl trivial ?_
  refine am_if_lt hX hi (off := 13) (tgt := 18) (by decide +kernel) (by decide) (fun c => ?_) (fun c => ?_)
  · refine am_vret hX hi rfl (by decide +kernel) (pV_eq ?_)
    rw [i_lt, i_0] at c
    unfold gPut; rw [if_pos (Or.inl c)]
  · refine am_blk 8 [(.iload_n 1, 1, 1, 0, .null), (.aload_n 0, 1, 0, 0, .null), (.arraylength, 1, 0, 0, .null)] (11, [(0, .ref a), (1, .int k), (2, .int x)], [.int (Int32.ofNat n), .int k], I, G, P) True hX hi (by decide +kernel) (by simp [am_run, am_st, am_lk, hs, am_beq]) trivial ?_
    rw [i_lt, i_0] at c
    refine am_icmp_ge hX hi (off := 7) (tgt := 18) (by decide +kernel) (by decide) (fun c2 => ?_) (fun c2 => ?_)
    · refine am_vret hX hi rfl (by decide +kernel) (pV_eq ?_)
      rw [i_le, i_of _ hn] at c2
      unfold gPut; rw [if_pos (Or.inr c2)]
    · rw [i_le, i_of _ hn] at c2
      refine am_blk 14 [(.aload_n 0, 1, 0, 0, .null), (.iload_n 1, 1, 1, 0, .null), (.iload_n 2, 1, 2, 0, .null), (.iastore, 1, 0, 0, .null)] (18, [(0, .ref a), (1, .int k), (2, .int x)], [], am_up I a k.toNatClampNeg x, G, P) (vp_in k n ∧ True) hX hi (by decide +kernel) (by simp [am_run, am_st, am_lk, hs, am_beq]) ⟨(i_in k n).mpr (by omega), trivial⟩ ?_
      refine am_vret hX hi rfl (by decide +kernel) (pV_eq ?_)
      unfold gPut; rw [if_neg (by omega)]; rfl
set_option maxHeartbeats 2000000 in
theorem c_atS {sh : List am_Sh} {I : am_I} {G : am_G} {P : am_P} {i : Nat} {q : String × String × List Int32} (hq : am_sT[i]? = some q) (hn : q.2.2.length < 2147483648) (k : Int32) : am_Ct mX0_at 1 sh [.ref (1000 + i), .int k] I G P (pI (gAt (fun j => q.2.2.getD j 0) q.2.2.length k) I G P) := by
  refine am_ofF (by decide +kernel) rfl (by decide) (by decide) (Nat.le_of_ble_eq_true rfl) (fun X ad hX hi => ?_)
  have hi : am_info X 13 cX0_at 2 false (some .int) 1 := hi
  show am_V X 0 0 _ _ ad (0, [(0, .ref (1000 + i)), (1, .int k)], [], I, G, P)
  refine am_blk 0 [(.aload_n 0, 1, 0, 0, .null)] (1, [(0, .ref (1000 + i)), (1, .int k)], [.ref (1000 + i)], I, G, P) True hX hi (by decide +kernel) rfl trivial ?_
  refine am_nul hX hi (off := 19) (by decide +kernel) ?_
  refine am_blk 4 [(.iload_n 1, 1, 1, 0, .null)] (5, [(0, .ref (1000 + i)), (1, .int k)], [.int k], I, G, P) True hX hi (by decide +kernel) rfl trivial ?_
  refine am_if_lt hX hi (off := 15) (tgt := 20) (by decide +kernel) (by decide) (fun c => ?_) (fun c => ?_)
  · refine am_blk 20 [(.iconst 0, 1, 0, 0, .int 0)] (21, [(0, .ref (1000 + i)), (1, .int k)], [.int 0], I, G, P) True hX hi (by decide +kernel) rfl trivial ?_
    refine am_iret hX hi rfl rfl (by decide +kernel) (pI_eq ?_)
    rw [i_lt, i_0] at c
    rw [gAt_out (Or.inl c)]
  · refine am_blk 8 [(.iload_n 1, 1, 1, 0, .null), (.aload_n 0, 1, 0, 0, .null)] (10, [(0, .ref (1000 + i)), (1, .int k)], [.ref (1000 + i), .int k], I, G, P) True hX hi (by decide +kernel) rfl trivial ?_
    refine am_glen hX hi hq (by decide +kernel) ?_
    rw [i_lt, i_0] at c
    refine am_icmp_ge hX hi (off := 9) (tgt := 20) (by decide +kernel) (by decide) (fun c2 => ?_) (fun c2 => ?_)
    · refine am_blk 20 [(.iconst 0, 1, 0, 0, .int 0)] (21, [(0, .ref (1000 + i)), (1, .int k)], [.int 0], I, G, P) True hX hi (by decide +kernel) rfl trivial ?_
      refine am_iret hX hi rfl rfl (by decide +kernel) (pI_eq ?_)
      rw [i_le, i_of _ hn] at c2
      rw [gAt_out (Or.inr c2)]
    · rw [i_le, i_of _ hn] at c2
      refine am_blk 14 [(.aload_n 0, 1, 0, 0, .null), (.iload_n 1, 1, 1, 0, .null)] (16, [(0, .ref (1000 + i)), (1, .int k)], [.int k, .ref (1000 + i)], I, G, P) True hX hi (by decide +kernel) rfl trivial ?_
      refine am_gel hX hi hq ((i_in k _).mpr (by omega)) (by decide +kernel) ?_
      refine am_blk 17 [(.goto 4, 3, 0, 21, .null)] (21, [(0, .ref (1000 + i)), (1, .int k)], [.int (q.2.2.getD k.toNatClampNeg 0)], I, G, P) True hX hi (by decide +kernel) rfl trivial ?_
      refine am_iret hX hi rfl rfl (by decide +kernel) (pI_eq ?_)
      rw [gAt_in (by omega) (by omega)]; rfl
