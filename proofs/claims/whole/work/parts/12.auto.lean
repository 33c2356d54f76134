theorem am_n (n : Nat) : ((n : Nat) : Int) = (n : Int) := rfl
def g_X2_forget_47 (I : am_I) (G : am_G)  : am_I := (am_up I 47 1 (0))
set_option maxRecDepth 20000 in
set_option maxHeartbeats 1000000 in
theorem c_X2_forget_47 (rd : Nat) (I : am_I) (G : am_G)  : am_Ct mX2_forget 1 gS [.ref 47] I G (gP rd) (pV (g_X2_forget_47 I G ) G (gP rd)) := by
  refine am_ofF (by decide +kernel) rfl (by decide) (by decide) (Nat.le_of_ble_eq_true rfl) (fun X ad hX hi => ?_)
  have hi : am_info X 0 cX2_forget 1 false none 1 := hi
  show am_V X 0 0 _ _ ad (0, [(0, .ref 47)], [], I, G, (gP rd))
  refine am_blk 0 [(.aload_n 0, 1, 0, 0, .null), (.iconst (0), 1, 0, 0, .int (0)), (.putfield 19, 3, 0, 1, .null)] (5, [(0, .ref 47)], [], (am_up I 47 1 (0)), G, (gP rd)) (True) hX hi (by decide +kernel) rfl trivial ?_
  refine am_vret hX hi rfl (by decide +kernel) ?_
  exact ⟨rfl, by unfold g_X2_forget_47; rfl, rfl, rfl⟩
def g_X2_forget_49 (I : am_I) (G : am_G)  : am_I := (am_up I 49 1 (0))
set_option maxRecDepth 20000 in
set_option maxHeartbeats 1000000 in
theorem c_X2_forget_49 (rd : Nat) (I : am_I) (G : am_G)  : am_Ct mX2_forget 1 gS [.ref 49] I G (gP rd) (pV (g_X2_forget_49 I G ) G (gP rd)) := by
  refine am_ofF (by decide +kernel) rfl (by decide) (by decide) (Nat.le_of_ble_eq_true rfl) (fun X ad hX hi => ?_)
  have hi : am_info X 0 cX2_forget 1 false none 1 := hi
  show am_V X 0 0 _ _ ad (0, [(0, .ref 49)], [], I, G, (gP rd))
  refine am_blk 0 [(.aload_n 0, 1, 0, 0, .null), (.iconst (0), 1, 0, 0, .int (0)), (.putfield 19, 3, 0, 1, .null)] (5, [(0, .ref 49)], [], (am_up I 49 1 (0)), G, (gP rd)) (True) hX hi (by decide +kernel) rfl trivial ?_
  refine am_vret hX hi rfl (by decide +kernel) ?_
  exact ⟨rfl, by unfold g_X2_forget_49; rfl, rfl, rfl⟩
def g_X2_forget_51 (I : am_I) (G : am_G)  : am_I := (am_up I 51 1 (0))
set_option maxRecDepth 20000 in
set_option maxHeartbeats 1000000 in
theorem c_X2_forget_51 (rd : Nat) (I : am_I) (G : am_G)  : am_Ct mX2_forget 1 gS [.ref 51] I G (gP rd) (pV (g_X2_forget_51 I G ) G (gP rd)) := by
  refine am_ofF (by decide +kernel) rfl (by decide) (by decide) (Nat.le_of_ble_eq_true rfl) (fun X ad hX hi => ?_)
  have hi : am_info X 0 cX2_forget 1 false none 1 := hi
  show am_V X 0 0 _ _ ad (0, [(0, .ref 51)], [], I, G, (gP rd))
  refine am_blk 0 [(.aload_n 0, 1, 0, 0, .null), (.iconst (0), 1, 0, 0, .int (0)), (.putfield 19, 3, 0, 1, .null)] (5, [(0, .ref 51)], [], (am_up I 51 1 (0)), G, (gP rd)) (True) hX hi (by decide +kernel) rfl trivial ?_
  refine am_vret hX hi rfl (by decide +kernel) ?_
  exact ⟨rfl, by unfold g_X2_forget_51; rfl, rfl, rfl⟩
def f_X2_isFull_47 (I : am_I) (G : am_G)  : Int32 := (if (I 47 1) < (Int32.ofNat 4) then (0) else (1))
set_option maxRecDepth 20000 in
set_option maxHeartbeats 1000000 in
theorem c_X2_isFull_47 (rd : Nat) (I : am_I) (G : am_G)  : am_Ct mX2_isFull 1 gS [.ref 47] I G (gP rd) (pI (f_X2_isFull_47 I G ) I G (gP rd)) := by
  refine am_ofF (by decide +kernel) rfl (by decide) (by decide) (Nat.le_of_ble_eq_true rfl) (fun X ad hX hi => ?_)
  have hi : am_info X 0 cX2_isFull 1 false (Option.some Jvm.ClassFile.FieldType.boolean) 1 := hi
  show am_V X 0 0 _ _ ad (0, [(0, .ref 47)], [], I, G, (gP rd))
  refine am_blk 0 [(.aload_n 0, 1, 0, 0, .null), (.getfield 19, 3, 0, 1, .null), (.aload_n 0, 1, 0, 0, .null), (.getfield 13, 3, 0, 0, .null), (.arraylength, 1, 0, 0, .null)] (9, [(0, .ref 47)], [.int (Int32.ofNat 4), .int (I 47 1)], I, G, (gP rd)) (True) hX hi (by decide +kernel) rfl trivial ?_
  refine am_icmp_lt (tgt := 16) hX hi (off := (7)) (by decide +kernel) (by decide) (fun c9 => ?_) (fun c9 => ?_)
  · refine am_blk 16 [(.iconst (0), 1, 0, 0, .int (0))] (17, [(0, .ref 47)], [.int (0)], I, G, (gP rd)) (True) hX hi (by decide +kernel) rfl trivial ?_
    refine am_iret hX hi rfl (by first | rfl | decide | (simp [narrow]; done)) (by decide +kernel) ?_
    exact ⟨by unfold f_X2_isFull_47; rw [if_pos c9], rfl, rfl, rfl⟩
  · refine am_blk 12 [(.iconst (1), 1, 0, 0, .int (1)), (.goto (4), 3, 0, 17, .null)] (17, [(0, .ref 47)], [.int (1)], I, G, (gP rd)) (True) hX hi (by decide +kernel) rfl trivial ?_
    refine am_iret hX hi rfl (by first | rfl | decide | (simp [narrow]; done)) (by decide +kernel) ?_
    exact ⟨by unfold f_X2_isFull_47; rw [if_neg c9], rfl, rfl, rfl⟩
def f_X2_isFull_49 (I : am_I) (G : am_G)  : Int32 := (if (I 49 1) < (Int32.ofNat 4) then (0) else (1))
set_option maxRecDepth 20000 in
set_option maxHeartbeats 1000000 in
theorem c_X2_isFull_49 (rd : Nat) (I : am_I) (G : am_G)  : am_Ct mX2_isFull 1 gS [.ref 49] I G (gP rd) (pI (f_X2_isFull_49 I G ) I G (gP rd)) := by
  refine am_ofF (by decide +kernel) rfl (by decide) (by decide) (Nat.le_of_ble_eq_true rfl) (fun X ad hX hi => ?_)
  have hi : am_info X 0 cX2_isFull 1 false (Option.some Jvm.ClassFile.FieldType.boolean) 1 := hi
  show am_V X 0 0 _ _ ad (0, [(0, .ref 49)], [], I, G, (gP rd))
  refine am_blk 0 [(.aload_n 0, 1, 0, 0, .null), (.getfield 19, 3, 0, 1, .null), (.aload_n 0, 1, 0, 0, .null), (.getfield 13, 3, 0, 0, .null), (.arraylength, 1, 0, 0, .null)] (9, [(0, .ref 49)], [.int (Int32.ofNat 4), .int (I 49 1)], I, G, (gP rd)) (True) hX hi (by decide +kernel) rfl trivial ?_
  refine am_icmp_lt (tgt := 16) hX hi (off := (7)) (by decide +kernel) (by decide) (fun c9 => ?_) (fun c9 => ?_)
  · refine am_blk 16 [(.iconst (0), 1, 0, 0, .int (0))] (17, [(0, .ref 49)], [.int (0)], I, G, (gP rd)) (True) hX hi (by decide +kernel) rfl trivial ?_
    refine am_iret hX hi rfl (by first | rfl | decide | (simp [narrow]; done)) (by decide +kernel) ?_
    exact ⟨by unfold f_X2_isFull_49; rw [if_pos c9], rfl, rfl, rfl⟩
  · refine am_blk 12 [(.iconst (1), 1, 0, 0, .int (1)), (.goto (4), 3, 0, 17, .null)] (17, [(0, .ref 49)], [.int (1)], I, G, (gP rd)) (True) hX hi (by decide +kernel) rfl trivial ?_
    refine am_iret hX hi rfl (by first | rfl | decide | (simp [narrow]; done)) (by decide +kernel) ?_
    exact ⟨by unfold f_X2_isFull_49; rw [if_neg c9], rfl, rfl, rfl⟩
def f_X2_isFull_51 (I : am_I) (G : am_G)  : Int32 := (if (I 51 1) < (Int32.ofNat 5) then (0) else (1))
set_option maxRecDepth 20000 in
set_option maxHeartbeats 1000000 in
theorem c_X2_isFull_51 (rd : Nat) (I : am_I) (G : am_G)  : am_Ct mX2_isFull 1 gS [.ref 51] I G (gP rd) (pI (f_X2_isFull_51 I G ) I G (gP rd)) := by
  refine am_ofF (by decide +kernel) rfl (by decide) (by decide) (Nat.le_of_ble_eq_true rfl) (fun X ad hX hi => ?_)
  have hi : am_info X 0 cX2_isFull 1 false (Option.some Jvm.ClassFile.FieldType.boolean) 1 := hi
  show am_V X 0 0 _ _ ad (0, [(0, .ref 51)], [], I, G, (gP rd))
  refine am_blk 0 [(.aload_n 0, 1, 0, 0, .null), (.getfield 19, 3, 0, 1, .null), (.aload_n 0, 1, 0, 0, .null), (.getfield 13, 3, 0, 0, .null), (.arraylength, 1, 0, 0, .null)] (9, [(0, .ref 51)], [.int (Int32.ofNat 5), .int (I 51 1)], I, G, (gP rd)) (True) hX hi (by decide +kernel) rfl trivial ?_
  refine am_icmp_lt (tgt := 16) hX hi (off := (7)) (by decide +kernel) (by decide) (fun c9 => ?_) (fun c9 => ?_)
  · refine am_blk 16 [(.iconst (0), 1, 0, 0, .int (0))] (17, [(0, .ref 51)], [.int (0)], I, G, (gP rd)) (True) hX hi (by decide +kernel) rfl trivial ?_
    refine am_iret hX hi rfl (by first | rfl | decide | (simp [narrow]; done)) (by decide +kernel) ?_
    exact ⟨by unfold f_X2_isFull_51; rw [if_pos c9], rfl, rfl, rfl⟩
  · refine am_blk 12 [(.iconst (1), 1, 0, 0, .int (1)), (.goto (4), 3, 0, 17, .null)] (17, [(0, .ref 51)], [.int (1)], I, G, (gP rd)) (True) hX hi (by decide +kernel) rfl trivial ?_
    refine am_iret hX hi rfl (by first | rfl | decide | (simp [narrow]; done)) (by decide +kernel) ?_
    exact ⟨by unfold f_X2_isFull_51; rw [if_neg c9], rfl, rfl, rfl⟩
def g_X2_add_47 (I : am_I) (G : am_G) (x1 : Int64) : am_I := (if (I 47 1) < 0 then I else (if (Int32.ofNat 4) ≤ (I 47 1) then I else (am_up I 47 1 ((I 47 1) + (1)))))
def h_X2_add_47 (I : am_I) (G : am_G) (x1 : Int64) : am_G := (if (I 47 1) < 0 then G else (if (Int32.ofNat 4) ≤ (I 47 1) then G else (am_up G 48 (I 47 1).toNatClampNeg x1)))
set_option maxRecDepth 20000 in
set_option maxHeartbeats 1000000 in
theorem c_X2_add_47 (rd : Nat) (I : am_I) (G : am_G) (x1 : Int64) : am_Ct mX2_add 1 gS [.ref 47, .long x1] I G (gP rd) (pV (g_X2_add_47 I G x1) (h_X2_add_47 I G x1) (gP rd)) := by
  refine am_ofF (by decide +kernel) rfl (by decide) (by decide) (Nat.le_of_ble_eq_true rfl) (fun X ad hX hi => ?_)
  have hi : am_info X 0 cX2_add 3 false none 1 := hi
  show am_V X 0 0 _ _ ad (0, [(0, .ref 47), (1, .long x1)], [], I, G, (gP rd))
  refine am_blk 0 [(.aload_n 0, 1, 0, 0, .null), (.getfield 19, 3, 0, 1, .null)] (4, [(0, .ref 47), (1, .long x1)], [.int (I 47 1)], I, G, (gP rd)) (True) hX hi (by decide +kernel) rfl trivial ?_
  refine am_if_lt (tgt := 39) hX hi (off := (35)) (by decide +kernel) (by decide) (fun c4 => ?_) (fun c4 => ?_)
  · refine am_vret hX hi rfl (by decide +kernel) ?_
    exact ⟨rfl, by unfold g_X2_add_47; rw [if_pos c4], by unfold h_X2_add_47; rw [if_pos c4], rfl⟩
  · refine am_blk 7 [(.aload_n 0, 1, 0, 0, .null), (.getfield 19, 3, 0, 1, .null), (.aload_n 0, 1, 0, 0, .null), (.getfield 13, 3, 0, 0, .null), (.arraylength, 1, 0, 0, .null)] (16, [(0, .ref 47), (1, .long x1)], [.int (Int32.ofNat 4), .int (I 47 1)], I, G, (gP rd)) (True) hX hi (by decide +kernel) rfl trivial ?_
    refine am_icmp_ge (tgt := 39) hX hi (off := (23)) (by decide +kernel) (by decide) (fun c16 => ?_) (fun c16 => ?_)
    · refine am_vret hX hi rfl (by decide +kernel) ?_
      exact ⟨rfl, by unfold g_X2_add_47; rw [if_neg c4, if_pos c16], by unfold h_X2_add_47; rw [if_neg c4, if_pos c16], rfl⟩
    · refine am_blk 19 [(.aload_n 0, 1, 0, 0, .null), (.getfield 13, 3, 0, 0, .null), (.aload_n 0, 1, 0, 0, .null), (.getfield 19, 3, 0, 1, .null), (.lload_n 1, 1, 1, 0, .null), (.lastore, 1, 0, 0, .null), (.aload_n 0, 1, 0, 0, .null), (.dup, 1, 0, 0, .null), (.getfield 19, 3, 0, 1, .null), (.iconst (1), 1, 0, 0, .int (1)), (.iadd, 1, 0, 0, .null), (.putfield 19, 3, 0, 1, .null)] (39, [(0, .ref 47), (1, .long x1)], [], (am_up I 47 1 ((I 47 1) + (1))), (am_up G 48 (I 47 1).toNatClampNeg x1), (gP rd)) (vp_in (I 47 1) 4 ∧ True) hX hi (by decide +kernel) rfl ?_ ?_
      · exact ⟨(by first | assumption | (refine (i_in _ _).mpr ?_; simp only [i_lt, i_le, i_eq, i_0, i_of, am_n] at *; omega)), trivial⟩
      refine am_vret hX hi rfl (by decide +kernel) ?_
      exact ⟨rfl, by unfold g_X2_add_47; rw [if_neg c4, if_neg c16], by unfold h_X2_add_47; rw [if_neg c4, if_neg c16], rfl⟩
def g_X2_add_49 (I : am_I) (G : am_G) (x1 : Int64) : am_I := (if (I 49 1) < 0 then I else (if (Int32.ofNat 4) ≤ (I 49 1) then I else (am_up I 49 1 ((I 49 1) + (1)))))
def h_X2_add_49 (I : am_I) (G : am_G) (x1 : Int64) : am_G := (if (I 49 1) < 0 then G else (if (Int32.ofNat 4) ≤ (I 49 1) then G else (am_up G 50 (I 49 1).toNatClampNeg x1)))
set_option maxRecDepth 20000 in
set_option maxHeartbeats 1000000 in
theorem c_X2_add_49 (rd : Nat) (I : am_I) (G : am_G) (x1 : Int64) : am_Ct mX2_add 1 gS [.ref 49, .long x1] I G (gP rd) (pV (g_X2_add_49 I G x1) (h_X2_add_49 I G x1) (gP rd)) := by
  refine am_ofF (by decide +kernel) rfl (by decide) (by decide) (Nat.le_of_ble_eq_true rfl) (fun X ad hX hi => ?_)
  have hi : am_info X 0 cX2_add 3 false none 1 := hi
  show am_V X 0 0 _ _ ad (0, [(0, .ref 49), (1, .long x1)], [], I, G, (gP rd))
  refine am_blk 0 [(.aload_n 0, 1, 0, 0, .null), (.getfield 19, 3, 0, 1, .null)] (4, [(0, .ref 49), (1, .long x1)], [.int (I 49 1)], I, G, (gP rd)) (True) hX hi (by decide +kernel) rfl trivial ?_
  refine am_if_lt (tgt := 39) hX hi (off := (35)) (by decide +kernel) (by decide) (fun c4 => ?_) (fun c4 => ?_)
  · refine am_vret hX hi rfl (by decide +kernel) ?_
    exact ⟨rfl, by unfold g_X2_add_49; rw [if_pos c4], by unfold h_X2_add_49; rw [if_pos c4], rfl⟩
  · refine am_blk 7 [(.aload_n 0, 1, 0, 0, .null), (.getfield 19, 3, 0, 1, .null), (.aload_n 0, 1, 0, 0, .null), (.getfield 13, 3, 0, 0, .null), (.arraylength, 1, 0, 0, .null)] (16, [(0, .ref 49), (1, .long x1)], [.int (Int32.ofNat 4), .int (I 49 1)], I, G, (gP rd)) (True) hX hi (by decide +kernel) rfl trivial ?_
    refine am_icmp_ge (tgt := 39) hX hi (off := (23)) (by decide +kernel) (by decide) (fun c16 => ?_) (fun c16 => ?_)
    · refine am_vret hX hi rfl (by decide +kernel) ?_
      exact ⟨rfl, by unfold g_X2_add_49; rw [if_neg c4, if_pos c16], by unfold h_X2_add_49; rw [if_neg c4, if_pos c16], rfl⟩
    · refine am_blk 19 [(.aload_n 0, 1, 0, 0, .null), (.getfield 13, 3, 0, 0, .null), (.aload_n 0, 1, 0, 0, .null), (.getfield 19, 3, 0, 1, .null), (.lload_n 1, 1, 1, 0, .null), (.lastore, 1, 0, 0, .null), (.aload_n 0, 1, 0, 0, .null), (.dup, 1, 0, 0, .null), (.getfield 19, 3, 0, 1, .null), (.iconst (1), 1, 0, 0, .int (1)), (.iadd, 1, 0, 0, .null), (.putfield 19, 3, 0, 1, .null)] (39, [(0, .ref 49), (1, .long x1)], [], (am_up I 49 1 ((I 49 1) + (1))), (am_up G 50 (I 49 1).toNatClampNeg x1), (gP rd)) (vp_in (I 49 1) 4 ∧ True) hX hi (by decide +kernel) rfl ?_ ?_
      · exact ⟨(by first | assumption | (refine (i_in _ _).mpr ?_; simp only [i_lt, i_le, i_eq, i_0, i_of, am_n] at *; omega)), trivial⟩
      refine am_vret hX hi rfl (by decide +kernel) ?_
      exact ⟨rfl, by unfold g_X2_add_49; rw [if_neg c4, if_neg c16], by unfold h_X2_add_49; rw [if_neg c4, if_neg c16], rfl⟩
def g_X2_add_51 (I : am_I) (G : am_G) (x1 : Int64) : am_I := (if (I 51 1) < 0 then I else (if (Int32.ofNat 5) ≤ (I 51 1) then I else (am_up I 51 1 ((I 51 1) + (1)))))
def h_X2_add_51 (I : am_I) (G : am_G) (x1 : Int64) : am_G := (if (I 51 1) < 0 then G else (if (Int32.ofNat 5) ≤ (I 51 1) then G else (am_up G 52 (I 51 1).toNatClampNeg x1)))
set_option maxRecDepth 20000 in
set_option maxHeartbeats 1000000 in
theorem c_X2_add_51 (rd : Nat) (I : am_I) (G : am_G) (x1 : Int64) : am_Ct mX2_add 1 gS [.ref 51, .long x1] I G (gP rd) (pV (g_X2_add_51 I G x1) (h_X2_add_51 I G x1) (gP rd)) := by
  refine am_ofF (by decide +kernel) rfl (by decide) (by decide) (Nat.le_of_ble_eq_true rfl) (fun X ad hX hi => ?_)
  have hi : am_info X 0 cX2_add 3 false none 1 := hi
  show am_V X 0 0 _ _ ad (0, [(0, .ref 51), (1, .long x1)], [], I, G, (gP rd))
  refine am_blk 0 [(.aload_n 0, 1, 0, 0, .null), (.getfield 19, 3, 0, 1, .null)] (4, [(0, .ref 51), (1, .long x1)], [.int (I 51 1)], I, G, (gP rd)) (True) hX hi (by decide +kernel) rfl trivial ?_
  refine am_if_lt (tgt := 39) hX hi (off := (35)) (by decide +kernel) (by decide) (fun c4 => ?_) (fun c4 => ?_)
  · refine am_vret hX hi rfl (by decide +kernel) ?_
    exact ⟨rfl, by unfold g_X2_add_51; rw [if_pos c4], by unfold h_X2_add_51; rw [if_pos c4], rfl⟩
  · refine am_blk 7 [(.aload_n 0, 1, 0, 0, .null), (.getfield 19, 3, 0, 1, .null), (.aload_n 0, 1, 0, 0, .null), (.getfield 13, 3, 0, 0, .null), (.arraylength, 1, 0, 0, .null)] (16, [(0, .ref 51), (1, .long x1)], [.int (Int32.ofNat 5), .int (I 51 1)], I, G, (gP rd)) (True) hX hi (by decide +kernel) rfl trivial ?_
    refine am_icmp_ge (tgt := 39) hX hi (off := (23)) (by decide +kernel) (by decide) (fun c16 => ?_) (fun c16 => ?_)
    · refine am_vret hX hi rfl (by decide +kernel) ?_
      exact ⟨rfl, by unfold g_X2_add_51; rw [if_neg c4, if_pos c16], by unfold h_X2_add_51; rw [if_neg c4, if_pos c16], rfl⟩
    · refine am_blk 19 [(.aload_n 0, 1, 0, 0, .null), (.getfield 13, 3, 0, 0, .null), (.aload_n 0, 1, 0, 0, .null), (.getfield 19, 3, 0, 1, .null), (.lload_n 1, 1, 1, 0, .null), (.lastore, 1, 0, 0, .null), (.aload_n 0, 1, 0, 0, .null), (.dup, 1, 0, 0, .null), (.getfield 19, 3, 0, 1, .null), (.iconst (1), 1, 0, 0, .int (1)), (.iadd, 1, 0, 0, .null), (.putfield 19, 3, 0, 1, .null)] (39, [(0, .ref 51), (1, .long x1)], [], (am_up I 51 1 ((I 51 1) + (1))), (am_up G 52 (I 51 1).toNatClampNeg x1), (gP rd)) (vp_in (I 51 1) 5 ∧ True) hX hi (by decide +kernel) rfl ?_ ?_
      · exact ⟨(by first | assumption | (refine (i_in _ _).mpr ?_; simp only [i_lt, i_le, i_eq, i_0, i_of, am_n] at *; omega)), trivial⟩
      refine am_vret hX hi rfl (by decide +kernel) ?_
      exact ⟨rfl, by unfold g_X2_add_51; rw [if_neg c4, if_neg c16], by unfold h_X2_add_51; rw [if_neg c4, if_neg c16], rfl⟩
def g_X3_clear_16 (I : am_I) (G : am_G)  : am_I := (am_up (am_up I 16 8 (0)) 16 9 (0))
set_option maxRecDepth 20000 in
set_option maxHeartbeats 1000000 in
theorem c_X3_clear_16 (rd : Nat) (I : am_I) (G : am_G)  : am_Ct mX3_clear 1 gS [.ref 16] I G (gP rd) (pV (g_X3_clear_16 I G ) G (gP rd)) := by
  refine am_ofF (by decide +kernel) rfl (by decide) (by decide) (Nat.le_of_ble_eq_true rfl) (fun X ad hX hi => ?_)
  have hi : am_info X 1 cX3_clear 1 false none 1 := hi
  show am_V X 0 0 _ _ ad (0, [(0, .ref 16)], [], I, G, (gP rd))
  refine am_blk 0 [(.aload_n 0, 1, 0, 0, .null), (.iconst (0), 1, 0, 0, .int (0)), (.putfield 36, 3, 1, 8, .null), (.aload_n 0, 1, 0, 0, .null), (.iconst (0), 1, 0, 0, .int (0)), (.putfield 40, 3, 1, 9, .null)] (10, [(0, .ref 16)], [], (am_up (am_up I 16 8 (0)) 16 9 (0)), G, (gP rd)) (True) hX hi (by decide +kernel) rfl trivial ?_
  refine am_vret hX hi rfl (by decide +kernel) ?_
  exact ⟨rfl, by unfold g_X3_clear_16; rfl, rfl, rfl⟩
def g_X3_clear_38 (I : am_I) (G : am_G)  : am_I := (am_up (am_up I 38 8 (0)) 38 9 (0))
set_option maxRecDepth 20000 in
set_option maxHeartbeats 1000000 in
theorem c_X3_clear_38 (rd : Nat) (I : am_I) (G : am_G)  : am_Ct mX3_clear 1 gS [.ref 38] I G (gP rd) (pV (g_X3_clear_38 I G ) G (gP rd)) := by
  refine am_ofF (by decide +kernel) rfl (by decide) (by decide) (Nat.le_of_ble_eq_true rfl) (fun X ad hX hi => ?_)
  have hi : am_info X 1 cX3_clear 1 false none 1 := hi
  show am_V X 0 0 _ _ ad (0, [(0, .ref 38)], [], I, G, (gP rd))
  refine am_blk 0 [(.aload_n 0, 1, 0, 0, .null), (.iconst (0), 1, 0, 0, .int (0)), (.putfield 36, 3, 1, 8, .null), (.aload_n 0, 1, 0, 0, .null), (.iconst (0), 1, 0, 0, .int (0)), (.putfield 40, 3, 1, 9, .null)] (10, [(0, .ref 38)], [], (am_up (am_up I 38 8 (0)) 38 9 (0)), G, (gP rd)) (True) hX hi (by decide +kernel) rfl trivial ?_
  refine am_vret hX hi rfl (by decide +kernel) ?_
  exact ⟨rfl, by unfold g_X3_clear_38; rfl, rfl, rfl⟩
def g_X3_begin_16 (I : am_I) (G : am_G) (x1 : Int32) (x2 : Int32) : am_I := (gPut (gPut (gPut (gPut (am_up I 16 8 (if (20) < ((I 16 8) + (1)) then (20) else ((I 16 8) + (1)))) 17 20 ((if (20) < ((I 16 8) + (1)) then (20) else ((I 16 8) + (1))) - (1)) x1) 18 20 (((gPut (am_up I 16 8 (if (20) < ((I 16 8) + (1)) then (20) else ((I 16 8) + (1)))) 17 20 ((if (20) < ((I 16 8) + (1)) then (20) else ((I 16 8) + (1))) - (1)) x1) 16 8) - (1)) x2) 19 20 (((gPut (gPut (am_up I 16 8 (if (20) < ((I 16 8) + (1)) then (20) else ((I 16 8) + (1)))) 17 20 ((if (20) < ((I 16 8) + (1)) then (20) else ((I 16 8) + (1))) - (1)) x1) 18 20 (((gPut (am_up I 16 8 (if (20) < ((I 16 8) + (1)) then (20) else ((I 16 8) + (1)))) 17 20 ((if (20) < ((I 16 8) + (1)) then (20) else ((I 16 8) + (1))) - (1)) x1) 16 8) - (1)) x2) 16 8) - (1)) ((gPut (gPut (am_up I 16 8 (if (20) < ((I 16 8) + (1)) then (20) else ((I 16 8) + (1)))) 17 20 ((if (20) < ((I 16 8) + (1)) then (20) else ((I 16 8) + (1))) - (1)) x1) 18 20 (((gPut (am_up I 16 8 (if (20) < ((I 16 8) + (1)) then (20) else ((I 16 8) + (1)))) 17 20 ((if (20) < ((I 16 8) + (1)) then (20) else ((I 16 8) + (1))) - (1)) x1) 16 8) - (1)) x2) 16 9)) 22 20 (((gPut (gPut (gPut (am_up I 16 8 (if (20) < ((I 16 8) + (1)) then (20) else ((I 16 8) + (1)))) 17 20 ((if (20) < ((I 16 8) + (1)) then (20) else ((I 16 8) + (1))) - (1)) x1) 18 20 (((gPut (am_up I 16 8 (if (20) < ((I 16 8) + (1)) then (20) else ((I 16 8) + (1)))) 17 20 ((if (20) < ((I 16 8) + (1)) then (20) else ((I 16 8) + (1))) - (1)) x1) 16 8) - (1)) x2) 19 20 (((gPut (gPut (am_up I 16 8 (if (20) < ((I 16 8) + (1)) then (20) else ((I 16 8) + (1)))) 17 20 ((if (20) < ((I 16 8) + (1)) then (20) else ((I 16 8) + (1))) - (1)) x1) 18 20 (((gPut (am_up I 16 8 (if (20) < ((I 16 8) + (1)) then (20) else ((I 16 8) + (1)))) 17 20 ((if (20) < ((I 16 8) + (1)) then (20) else ((I 16 8) + (1))) - (1)) x1) 16 8) - (1)) x2) 16 8) - (1)) ((gPut (gPut (am_up I 16 8 (if (20) < ((I 16 8) + (1)) then (20) else ((I 16 8) + (1)))) 17 20 ((if (20) < ((I 16 8) + (1)) then (20) else ((I 16 8) + (1))) - (1)) x1) 18 20 (((gPut (am_up I 16 8 (if (20) < ((I 16 8) + (1)) then (20) else ((I 16 8) + (1)))) 17 20 ((if (20) < ((I 16 8) + (1)) then (20) else ((I 16 8) + (1))) - (1)) x1) 16 8) - (1)) x2) 16 9)) 16 8) - (1)) (0))
set_option maxRecDepth 20000 in
set_option maxHeartbeats 1000000 in
theorem c_X3_begin_16 (rd : Nat) (I : am_I) (G : am_G) (x1 : Int32) (x2 : Int32) : am_Ct mX3_begin 2 gS [.ref 16, .int x1, .int x2] I G (gP rd) (pV (g_X3_begin_16 I G x1 x2) G (gP rd)) := by
  refine am_ofF (by decide +kernel) rfl (by decide) (by decide) (Nat.le_of_ble_eq_true rfl) (fun X ad hX hi => ?_)
  have hi : am_info X 1 cX3_begin 3 false none 2 := hi
  show am_V X 0 0 _ _ ad (0, [(0, .ref 16), (1, .int x1), (2, .int x2)], [], I, G, (gP rd))
  refine am_blk 0 [(.aload_n 0, 1, 0, 0, .null), (.aload_n 0, 1, 0, 0, .null), (.getfield 36, 3, 1, 8, .null), (.iconst (1), 1, 0, 0, .int (1)), (.iadd, 1, 0, 0, .null), (.bipush (20), 2, 0, 0, .int (20)), (.invokestatic 43, 3, 1, 0, .null), (.putfield 36, 3, 1, 8, .null), (.aload_n 0, 1, 0, 0, .null), (.getfield 9, 3, 1, 0, .null), (.aload_n 0, 1, 0, 0, .null), (.getfield 36, 3, 1, 8, .null), (.iconst (1), 1, 0, 0, .int (1)), (.isub, 1, 0, 0, .null), (.iload_n 1, 1, 1, 0, .null)] (26, [(0, .ref 16), (1, .int x1), (2, .int x2)], [.int x1, .int ((if (20) < ((I 16 8) + (1)) then (20) else ((I 16 8) + (1))) - (1)), .ref 17], (am_up I 16 8 (if (20) < ((I 16 8) + (1)) then (20) else ((I 16 8) + (1)))), G, (gP rd)) (True) hX hi (by decide +kernel) rfl trivial ?_
  refine am_callS hX hi (M := mX0_put) (idx := 49) (d' := 1) (As := [.ref 17, .int ((if (20) < ((I 16 8) + (1)) then (20) else ((I 16 8) + (1))) - (1)), .int x1]) (rest := []) mkX0_put msX0_put (by decide +kernel) (by decide +kernel) rfl ⟨by decide, by decide, Nat.le_of_ble_eq_true rfl⟩ rfl (c_put rfl (by decide) ((if (20) < ((I 16 8) + (1)) then (20) else ((I 16 8) + (1))) - (1)) x1) ?_
  rintro r9 I9 G9 P9 ⟨e0, e1, e2, e3⟩
  rw [e0, e1, e2, e3]
  show am_V X 0 0 _ _ ad (29, [(0, .ref 16), (1, .int x1), (2, .int x2)], [], (gPut (am_up I 16 8 (if (20) < ((I 16 8) + (1)) then (20) else ((I 16 8) + (1)))) 17 20 ((if (20) < ((I 16 8) + (1)) then (20) else ((I 16 8) + (1))) - (1)) x1), G, (gP rd))
  refine am_blk 29 [(.aload_n 0, 1, 0, 0, .null), (.getfield 15, 3, 1, 1, .null), (.aload_n 0, 1, 0, 0, .null), (.getfield 36, 3, 1, 8, .null), (.iconst (1), 1, 0, 0, .int (1)), (.isub, 1, 0, 0, .null), (.iload_n 2, 1, 2, 0, .null)] (40, [(0, .ref 16), (1, .int x1), (2, .int x2)], [.int x2, .int (((gPut (am_up I 16 8 (if (20) < ((I 16 8) + (1)) then (20) else ((I 16 8) + (1)))) 17 20 ((if (20) < ((I 16 8) + (1)) then (20) else ((I 16 8) + (1))) - (1)) x1) 16 8) - (1)), .ref 18], (gPut (am_up I 16 8 (if (20) < ((I 16 8) + (1)) then (20) else ((I 16 8) + (1)))) 17 20 ((if (20) < ((I 16 8) + (1)) then (20) else ((I 16 8) + (1))) - (1)) x1), G, (gP rd)) (True) hX hi (by decide +kernel) rfl trivial ?_
  refine am_callS hX hi (M := mX0_put) (idx := 49) (d' := 1) (As := [.ref 18, .int (((gPut (am_up I 16 8 (if (20) < ((I 16 8) + (1)) then (20) else ((I 16 8) + (1)))) 17 20 ((if (20) < ((I 16 8) + (1)) then (20) else ((I 16 8) + (1))) - (1)) x1) 16 8) - (1)), .int x2]) (rest := []) mkX0_put msX0_put (by decide +kernel) (by decide +kernel) rfl ⟨by decide, by decide, Nat.le_of_ble_eq_true rfl⟩ rfl (c_put rfl (by decide) (((gPut (am_up I 16 8 (if (20) < ((I 16 8) + (1)) then (20) else ((I 16 8) + (1)))) 17 20 ((if (20) < ((I 16 8) + (1)) then (20) else ((I 16 8) + (1))) - (1)) x1) 16 8) - (1)) x2) ?_
  rintro r9 I9 G9 P9 ⟨e0, e1, e2, e3⟩
  rw [e0, e1, e2, e3]
  show am_V X 0 0 _ _ ad (43, [(0, .ref 16), (1, .int x1), (2, .int x2)], [], (gPut (gPut (am_up I 16 8 (if (20) < ((I 16 8) + (1)) then (20) else ((I 16 8) + (1)))) 17 20 ((if (20) < ((I 16 8) + (1)) then (20) else ((I 16 8) + (1))) - (1)) x1) 18 20 (((gPut (am_up I 16 8 (if (20) < ((I 16 8) + (1)) then (20) else ((I 16 8) + (1)))) 17 20 ((if (20) < ((I 16 8) + (1)) then (20) else ((I 16 8) + (1))) - (1)) x1) 16 8) - (1)) x2), G, (gP rd))
  refine am_blk 43 [(.aload_n 0, 1, 0, 0, .null), (.getfield 18, 3, 1, 2, .null), (.aload_n 0, 1, 0, 0, .null), (.getfield 36, 3, 1, 8, .null), (.iconst (1), 1, 0, 0, .int (1)), (.isub, 1, 0, 0, .null), (.aload_n 0, 1, 0, 0, .null), (.getfield 40, 3, 1, 9, .null)] (57, [(0, .ref 16), (1, .int x1), (2, .int x2)], [.int ((gPut (gPut (am_up I 16 8 (if (20) < ((I 16 8) + (1)) then (20) else ((I 16 8) + (1)))) 17 20 ((if (20) < ((I 16 8) + (1)) then (20) else ((I 16 8) + (1))) - (1)) x1) 18 20 (((gPut (am_up I 16 8 (if (20) < ((I 16 8) + (1)) then (20) else ((I 16 8) + (1)))) 17 20 ((if (20) < ((I 16 8) + (1)) then (20) else ((I 16 8) + (1))) - (1)) x1) 16 8) - (1)) x2) 16 9), .int (((gPut (gPut (am_up I 16 8 (if (20) < ((I 16 8) + (1)) then (20) else ((I 16 8) + (1)))) 17 20 ((if (20) < ((I 16 8) + (1)) then (20) else ((I 16 8) + (1))) - (1)) x1) 18 20 (((gPut (am_up I 16 8 (if (20) < ((I 16 8) + (1)) then (20) else ((I 16 8) + (1)))) 17 20 ((if (20) < ((I 16 8) + (1)) then (20) else ((I 16 8) + (1))) - (1)) x1) 16 8) - (1)) x2) 16 8) - (1)), .ref 19], (gPut (gPut (am_up I 16 8 (if (20) < ((I 16 8) + (1)) then (20) else ((I 16 8) + (1)))) 17 20 ((if (20) < ((I 16 8) + (1)) then (20) else ((I 16 8) + (1))) - (1)) x1) 18 20 (((gPut (am_up I 16 8 (if (20) < ((I 16 8) + (1)) then (20) else ((I 16 8) + (1)))) 17 20 ((if (20) < ((I 16 8) + (1)) then (20) else ((I 16 8) + (1))) - (1)) x1) 16 8) - (1)) x2), G, (gP rd)) (True) hX hi (by decide +kernel) rfl trivial ?_
  refine am_callS hX hi (M := mX0_put) (idx := 49) (d' := 1) (As := [.ref 19, .int (((gPut (gPut (am_up I 16 8 (if (20) < ((I 16 8) + (1)) then (20) else ((I 16 8) + (1)))) 17 20 ((if (20) < ((I 16 8) + (1)) then (20) else ((I 16 8) + (1))) - (1)) x1) 18 20 (((gPut (am_up I 16 8 (if (20) < ((I 16 8) + (1)) then (20) else ((I 16 8) + (1)))) 17 20 ((if (20) < ((I 16 8) + (1)) then (20) else ((I 16 8) + (1))) - (1)) x1) 16 8) - (1)) x2) 16 8) - (1)), .int ((gPut (gPut (am_up I 16 8 (if (20) < ((I 16 8) + (1)) then (20) else ((I 16 8) + (1)))) 17 20 ((if (20) < ((I 16 8) + (1)) then (20) else ((I 16 8) + (1))) - (1)) x1) 18 20 (((gPut (am_up I 16 8 (if (20) < ((I 16 8) + (1)) then (20) else ((I 16 8) + (1)))) 17 20 ((if (20) < ((I 16 8) + (1)) then (20) else ((I 16 8) + (1))) - (1)) x1) 16 8) - (1)) x2) 16 9)]) (rest := []) mkX0_put msX0_put (by decide +kernel) (by decide +kernel) rfl ⟨by decide, by decide, Nat.le_of_ble_eq_true rfl⟩ rfl (c_put rfl (by decide) (((gPut (gPut (am_up I 16 8 (if (20) < ((I 16 8) + (1)) then (20) else ((I 16 8) + (1)))) 17 20 ((if (20) < ((I 16 8) + (1)) then (20) else ((I 16 8) + (1))) - (1)) x1) 18 20 (((gPut (am_up I 16 8 (if (20) < ((I 16 8) + (1)) then (20) else ((I 16 8) + (1)))) 17 20 ((if (20) < ((I 16 8) + (1)) then (20) else ((I 16 8) + (1))) - (1)) x1) 16 8) - (1)) x2) 16 8) - (1)) ((gPut (gPut (am_up I 16 8 (if (20) < ((I 16 8) + (1)) then (20) else ((I 16 8) + (1)))) 17 20 ((if (20) < ((I 16 8) + (1)) then (20) else ((I 16 8) + (1))) - (1)) x1) 18 20 (((gPut (am_up I 16 8 (if (20) < ((I 16 8) + (1)) then (20) else ((I 16 8) + (1)))) 17 20 ((if (20) < ((I 16 8) + (1)) then (20) else ((I 16 8) + (1))) - (1)) x1) 16 8) - (1)) x2) 16 9)) ?_
  rintro r9 I9 G9 P9 ⟨e0, e1, e2, e3⟩
  rw [e0, e1, e2, e3]
  show am_V X 0 0 _ _ ad (60, [(0, .ref 16), (1, .int x1), (2, .int x2)], [], (gPut (gPut (gPut (am_up I 16 8 (if (20) < ((I 16 8) + (1)) then (20) else ((I 16 8) + (1)))) 17 20 ((if (20) < ((I 16 8) + (1)) then (20) else ((I 16 8) + (1))) - (1)) x1) 18 20 (((gPut (am_up I 16 8 (if (20) < ((I 16 8) + (1)) then (20) else ((I 16 8) + (1)))) 17 20 ((if (20) < ((I 16 8) + (1)) then (20) else ((I 16 8) + (1))) - (1)) x1) 16 8) - (1)) x2) 19 20 (((gPut (gPut (am_up I 16 8 (if (20) < ((I 16 8) + (1)) then (20) else ((I 16 8) + (1)))) 17 20 ((if (20) < ((I 16 8) + (1)) then (20) else ((I 16 8) + (1))) - (1)) x1) 18 20 (((gPut (am_up I 16 8 (if (20) < ((I 16 8) + (1)) then (20) else ((I 16 8) + (1)))) 17 20 ((if (20) < ((I 16 8) + (1)) then (20) else ((I 16 8) + (1))) - (1)) x1) 16 8) - (1)) x2) 16 8) - (1)) ((gPut (gPut (am_up I 16 8 (if (20) < ((I 16 8) + (1)) then (20) else ((I 16 8) + (1)))) 17 20 ((if (20) < ((I 16 8) + (1)) then (20) else ((I 16 8) + (1))) - (1)) x1) 18 20 (((gPut (am_up I 16 8 (if (20) < ((I 16 8) + (1)) then (20) else ((I 16 8) + (1)))) 17 20 ((if (20) < ((I 16 8) + (1)) then (20) else ((I 16 8) + (1))) - (1)) x1) 16 8) - (1)) x2) 16 9)), G, (gP rd))
  refine am_blk 60 [(.aload_n 0, 1, 0, 0, .null), (.getfield 27, 3, 1, 5, .null), (.aload_n 0, 1, 0, 0, .null), (.getfield 36, 3, 1, 8, .null), (.iconst (1), 1, 0, 0, .int (1)), (.isub, 1, 0, 0, .null), (.iconst (0), 1, 0, 0, .int (0))] (71, [(0, .ref 16), (1, .int x1), (2, .int x2)], [.int (0), .int (((gPut (gPut (gPut (am_up I 16 8 (if (20) < ((I 16 8) + (1)) then (20) else ((I 16 8) + (1)))) 17 20 ((if (20) < ((I 16 8) + (1)) then (20) else ((I 16 8) + (1))) - (1)) x1) 18 20 (((gPut (am_up I 16 8 (if (20) < ((I 16 8) + (1)) then (20) else ((I 16 8) + (1)))) 17 20 ((if (20) < ((I 16 8) + (1)) then (20) else ((I 16 8) + (1))) - (1)) x1) 16 8) - (1)) x2) 19 20 (((gPut (gPut (am_up I 16 8 (if (20) < ((I 16 8) + (1)) then (20) else ((I 16 8) + (1)))) 17 20 ((if (20) < ((I 16 8) + (1)) then (20) else ((I 16 8) + (1))) - (1)) x1) 18 20 (((gPut (am_up I 16 8 (if (20) < ((I 16 8) + (1)) then (20) else ((I 16 8) + (1)))) 17 20 ((if (20) < ((I 16 8) + (1)) then (20) else ((I 16 8) + (1))) - (1)) x1) 16 8) - (1)) x2) 16 8) - (1)) ((gPut (gPut (am_up I 16 8 (if (20) < ((I 16 8) + (1)) then (20) else ((I 16 8) + (1)))) 17 20 ((if (20) < ((I 16 8) + (1)) then (20) else ((I 16 8) + (1))) - (1)) x1) 18 20 (((gPut (am_up I 16 8 (if (20) < ((I 16 8) + (1)) then (20) else ((I 16 8) + (1)))) 17 20 ((if (20) < ((I 16 8) + (1)) then (20) else ((I 16 8) + (1))) - (1)) x1) 16 8) - (1)) x2) 16 9)) 16 8) - (1)), .ref 22], (gPut (gPut (gPut (am_up I 16 8 (if (20) < ((I 16 8) + (1)) then (20) else ((I 16 8) + (1)))) 17 20 ((if (20) < ((I 16 8) + (1)) then (20) else ((I 16 8) + (1))) - (1)) x1) 18 20 (((gPut (am_up I 16 8 (if (20) < ((I 16 8) + (1)) then (20) else ((I 16 8) + (1)))) 17 20 ((if (20) < ((I 16 8) + (1)) then (20) else ((I 16 8) + (1))) - (1)) x1) 16 8) - (1)) x2) 19 20 (((gPut (gPut (am_up I 16 8 (if (20) < ((I 16 8) + (1)) then (20) else ((I 16 8) + (1)))) 17 20 ((if (20) < ((I 16 8) + (1)) then (20) else ((I 16 8) + (1))) - (1)) x1) 18 20 (((gPut (am_up I 16 8 (if (20) < ((I 16 8) + (1)) then (20) else ((I 16 8) + (1)))) 17 20 ((if (20) < ((I 16 8) + (1)) then (20) else ((I 16 8) + (1))) - (1)) x1) 16 8) - (1)) x2) 16 8) - (1)) ((gPut (gPut (am_up I 16 8 (if (20) < ((I 16 8) + (1)) then (20) else ((I 16 8) + (1)))) 17 20 ((if (20) < ((I 16 8) + (1)) then (20) else ((I 16 8) + (1))) - (1)) x1) 18 20 (((gPut (am_up I 16 8 (if (20) < ((I 16 8) + (1)) then (20) else ((I 16 8) + (1)))) 17 20 ((if (20) < ((I 16 8) + (1)) then (20) else ((I 16 8) + (1))) - (1)) x1) 16 8) - (1)) x2) 16 9)), G, (gP rd)) (True) hX hi (by decide +kernel) rfl trivial ?_
  refine am_callS hX hi (M := mX0_put) (idx := 49) (d' := 1) (As := [.ref 22, .int (((gPut (gPut (gPut (am_up I 16 8 (if (20) < ((I 16 8) + (1)) then (20) else ((I 16 8) + (1)))) 17 20 ((if (20) < ((I 16 8) + (1)) then (20) else ((I 16 8) + (1))) - (1)) x1) 18 20 (((gPut (am_up I 16 8 (if (20) < ((I 16 8) + (1)) then (20) else ((I 16 8) + (1)))) 17 20 ((if (20) < ((I 16 8) + (1)) then (20) else ((I 16 8) + (1))) - (1)) x1) 16 8) - (1)) x2) 19 20 (((gPut (gPut (am_up I 16 8 (if (20) < ((I 16 8) + (1)) then (20) else ((I 16 8) + (1)))) 17 20 ((if (20) < ((I 16 8) + (1)) then (20) else ((I 16 8) + (1))) - (1)) x1) 18 20 (((gPut (am_up I 16 8 (if (20) < ((I 16 8) + (1)) then (20) else ((I 16 8) + (1)))) 17 20 ((if (20) < ((I 16 8) + (1)) then (20) else ((I 16 8) + (1))) - (1)) x1) 16 8) - (1)) x2) 16 8) - (1)) ((gPut (gPut (am_up I 16 8 (if (20) < ((I 16 8) + (1)) then (20) else ((I 16 8) + (1)))) 17 20 ((if (20) < ((I 16 8) + (1)) then (20) else ((I 16 8) + (1))) - (1)) x1) 18 20 (((gPut (am_up I 16 8 (if (20) < ((I 16 8) + (1)) then (20) else ((I 16 8) + (1)))) 17 20 ((if (20) < ((I 16 8) + (1)) then (20) else ((I 16 8) + (1))) - (1)) x1) 16 8) - (1)) x2) 16 9)) 16 8) - (1)), .int (0)]) (rest := []) mkX0_put msX0_put (by decide +kernel) (by decide +kernel) rfl ⟨by decide, by decide, Nat.le_of_ble_eq_true rfl⟩ rfl (c_put rfl (by decide) (((gPut (gPut (gPut (am_up I 16 8 (if (20) < ((I 16 8) + (1)) then (20) else ((I 16 8) + (1)))) 17 20 ((if (20) < ((I 16 8) + (1)) then (20) else ((I 16 8) + (1))) - (1)) x1) 18 20 (((gPut (am_up I 16 8 (if (20) < ((I 16 8) + (1)) then (20) else ((I 16 8) + (1)))) 17 20 ((if (20) < ((I 16 8) + (1)) then (20) else ((I 16 8) + (1))) - (1)) x1) 16 8) - (1)) x2) 19 20 (((gPut (gPut (am_up I 16 8 (if (20) < ((I 16 8) + (1)) then (20) else ((I 16 8) + (1)))) 17 20 ((if (20) < ((I 16 8) + (1)) then (20) else ((I 16 8) + (1))) - (1)) x1) 18 20 (((gPut (am_up I 16 8 (if (20) < ((I 16 8) + (1)) then (20) else ((I 16 8) + (1)))) 17 20 ((if (20) < ((I 16 8) + (1)) then (20) else ((I 16 8) + (1))) - (1)) x1) 16 8) - (1)) x2) 16 8) - (1)) ((gPut (gPut (am_up I 16 8 (if (20) < ((I 16 8) + (1)) then (20) else ((I 16 8) + (1)))) 17 20 ((if (20) < ((I 16 8) + (1)) then (20) else ((I 16 8) + (1))) - (1)) x1) 18 20 (((gPut (am_up I 16 8 (if (20) < ((I 16 8) + (1)) then (20) else ((I 16 8) + (1)))) 17 20 ((if (20) < ((I 16 8) + (1)) then (20) else ((I 16 8) + (1))) - (1)) x1) 16 8) - (1)) x2) 16 9)) 16 8) - (1)) (0)) ?_
  rintro r9 I9 G9 P9 ⟨e0, e1, e2, e3⟩
  rw [e0, e1, e2, e3]
  show am_V X 0 0 _ _ ad (74, [(0, .ref 16), (1, .int x1), (2, .int x2)], [], (gPut (gPut (gPut (gPut (am_up I 16 8 (if (20) < ((I 16 8) + (1)) then (20) else ((I 16 8) + (1)))) 17 20 ((if (20) < ((I 16 8) + (1)) then (20) else ((I 16 8) + (1))) - (1)) x1) 18 20 (((gPut (am_up I 16 8 (if (20) < ((I 16 8) + (1)) then (20) else ((I 16 8) + (1)))) 17 20 ((if (20) < ((I 16 8) + (1)) then (20) else ((I 16 8) + (1))) - (1)) x1) 16 8) - (1)) x2) 19 20 (((gPut (gPut (am_up I 16 8 (if (20) < ((I 16 8) + (1)) then (20) else ((I 16 8) + (1)))) 17 20 ((if (20) < ((I 16 8) + (1)) then (20) else ((I 16 8) + (1))) - (1)) x1) 18 20 (((gPut (am_up I 16 8 (if (20) < ((I 16 8) + (1)) then (20) else ((I 16 8) + (1)))) 17 20 ((if (20) < ((I 16 8) + (1)) then (20) else ((I 16 8) + (1))) - (1)) x1) 16 8) - (1)) x2) 16 8) - (1)) ((gPut (gPut (am_up I 16 8 (if (20) < ((I 16 8) + (1)) then (20) else ((I 16 8) + (1)))) 17 20 ((if (20) < ((I 16 8) + (1)) then (20) else ((I 16 8) + (1))) - (1)) x1) 18 20 (((gPut (am_up I 16 8 (if (20) < ((I 16 8) + (1)) then (20) else ((I 16 8) + (1)))) 17 20 ((if (20) < ((I 16 8) + (1)) then (20) else ((I 16 8) + (1))) - (1)) x1) 16 8) - (1)) x2) 16 9)) 22 20 (((gPut (gPut (gPut (am_up I 16 8 (if (20) < ((I 16 8) + (1)) then (20) else ((I 16 8) + (1)))) 17 20 ((if (20) < ((I 16 8) + (1)) then (20) else ((I 16 8) + (1))) - (1)) x1) 18 20 (((gPut (am_up I 16 8 (if (20) < ((I 16 8) + (1)) then (20) else ((I 16 8) + (1)))) 17 20 ((if (20) < ((I 16 8) + (1)) then (20) else ((I 16 8) + (1))) - (1)) x1) 16 8) - (1)) x2) 19 20 (((gPut (gPut (am_up I 16 8 (if (20) < ((I 16 8) + (1)) then (20) else ((I 16 8) + (1)))) 17 20 ((if (20) < ((I 16 8) + (1)) then (20) else ((I 16 8) + (1))) - (1)) x1) 18 20 (((gPut (am_up I 16 8 (if (20) < ((I 16 8) + (1)) then (20) else ((I 16 8) + (1)))) 17 20 ((if (20) < ((I 16 8) + (1)) then (20) else ((I 16 8) + (1))) - (1)) x1) 16 8) - (1)) x2) 16 8) - (1)) ((gPut (gPut (am_up I 16 8 (if (20) < ((I 16 8) + (1)) then (20) else ((I 16 8) + (1)))) 17 20 ((if (20) < ((I 16 8) + (1)) then (20) else ((I 16 8) + (1))) - (1)) x1) 18 20 (((gPut (am_up I 16 8 (if (20) < ((I 16 8) + (1)) then (20) else ((I 16 8) + (1)))) 17 20 ((if (20) < ((I 16 8) + (1)) then (20) else ((I 16 8) + (1))) - (1)) x1) 16 8) - (1)) x2) 16 9)) 16 8) - (1)) (0)), G, (gP rd))
  refine am_vret hX hi rfl (by decide +kernel) ?_
  exact ⟨rfl, by unfold g_X3_begin_16; rfl, rfl, rfl⟩
def g_X3_begin_38 (I : am_I) (G : am_G) (x1 : Int32) (x2 : Int32) : am_I := (gPut (gPut (gPut (gPut (am_up I 38 8 (if (20) < ((I 38 8) + (1)) then (20) else ((I 38 8) + (1)))) 39 20 ((if (20) < ((I 38 8) + (1)) then (20) else ((I 38 8) + (1))) - (1)) x1) 40 20 (((gPut (am_up I 38 8 (if (20) < ((I 38 8) + (1)) then (20) else ((I 38 8) + (1)))) 39 20 ((if (20) < ((I 38 8) + (1)) then (20) else ((I 38 8) + (1))) - (1)) x1) 38 8) - (1)) x2) 41 20 (((gPut (gPut (am_up I 38 8 (if (20) < ((I 38 8) + (1)) then (20) else ((I 38 8) + (1)))) 39 20 ((if (20) < ((I 38 8) + (1)) then (20) else ((I 38 8) + (1))) - (1)) x1) 40 20 (((gPut (am_up I 38 8 (if (20) < ((I 38 8) + (1)) then (20) else ((I 38 8) + (1)))) 39 20 ((if (20) < ((I 38 8) + (1)) then (20) else ((I 38 8) + (1))) - (1)) x1) 38 8) - (1)) x2) 38 8) - (1)) ((gPut (gPut (am_up I 38 8 (if (20) < ((I 38 8) + (1)) then (20) else ((I 38 8) + (1)))) 39 20 ((if (20) < ((I 38 8) + (1)) then (20) else ((I 38 8) + (1))) - (1)) x1) 40 20 (((gPut (am_up I 38 8 (if (20) < ((I 38 8) + (1)) then (20) else ((I 38 8) + (1)))) 39 20 ((if (20) < ((I 38 8) + (1)) then (20) else ((I 38 8) + (1))) - (1)) x1) 38 8) - (1)) x2) 38 9)) 44 20 (((gPut (gPut (gPut (am_up I 38 8 (if (20) < ((I 38 8) + (1)) then (20) else ((I 38 8) + (1)))) 39 20 ((if (20) < ((I 38 8) + (1)) then (20) else ((I 38 8) + (1))) - (1)) x1) 40 20 (((gPut (am_up I 38 8 (if (20) < ((I 38 8) + (1)) then (20) else ((I 38 8) + (1)))) 39 20 ((if (20) < ((I 38 8) + (1)) then (20) else ((I 38 8) + (1))) - (1)) x1) 38 8) - (1)) x2) 41 20 (((gPut (gPut (am_up I 38 8 (if (20) < ((I 38 8) + (1)) then (20) else ((I 38 8) + (1)))) 39 20 ((if (20) < ((I 38 8) + (1)) then (20) else ((I 38 8) + (1))) - (1)) x1) 40 20 (((gPut (am_up I 38 8 (if (20) < ((I 38 8) + (1)) then (20) else ((I 38 8) + (1)))) 39 20 ((if (20) < ((I 38 8) + (1)) then (20) else ((I 38 8) + (1))) - (1)) x1) 38 8) - (1)) x2) 38 8) - (1)) ((gPut (gPut (am_up I 38 8 (if (20) < ((I 38 8) + (1)) then (20) else ((I 38 8) + (1)))) 39 20 ((if (20) < ((I 38 8) + (1)) then (20) else ((I 38 8) + (1))) - (1)) x1) 40 20 (((gPut (am_up I 38 8 (if (20) < ((I 38 8) + (1)) then (20) else ((I 38 8) + (1)))) 39 20 ((if (20) < ((I 38 8) + (1)) then (20) else ((I 38 8) + (1))) - (1)) x1) 38 8) - (1)) x2) 38 9)) 38 8) - (1)) (0))
set_option maxRecDepth 20000 in
set_option maxHeartbeats 1000000 in
theorem c_X3_begin_38 (rd : Nat) (I : am_I) (G : am_G) (x1 : Int32) (x2 : Int32) : am_Ct mX3_begin 2 gS [.ref 38, .int x1, .int x2] I G (gP rd) (pV (g_X3_begin_38 I G x1 x2) G (gP rd)) := by
  refine am_ofF (by decide +kernel) rfl (by decide) (by decide) (Nat.le_of_ble_eq_true rfl) (fun X ad hX hi => ?_)
  have hi : am_info X 1 cX3_begin 3 false none 2 := hi
  show am_V X 0 0 _ _ ad (0, [(0, .ref 38), (1, .int x1), (2, .int x2)], [], I, G, (gP rd))
  refine am_blk 0 [(.aload_n 0, 1, 0, 0, .null), (.aload_n 0, 1, 0, 0, .null), (.getfield 36, 3, 1, 8, .null), (.iconst (1), 1, 0, 0, .int (1)), (.iadd, 1, 0, 0, .null), (.bipush (20), 2, 0, 0, .int (20)), (.invokestatic 43, 3, 1, 0, .null), (.putfield 36, 3, 1, 8, .null), (.aload_n 0, 1, 0, 0, .null), (.getfield 9, 3, 1, 0, .null), (.aload_n 0, 1, 0, 0, .null), (.getfield 36, 3, 1, 8, .null), (.iconst (1), 1, 0, 0, .int (1)), (.isub, 1, 0, 0, .null), (.iload_n 1, 1, 1, 0, .null)] (26, [(0, .ref 38), (1, .int x1), (2, .int x2)], [.int x1, .int ((if (20) < ((I 38 8) + (1)) then (20) else ((I 38 8) + (1))) - (1)), .ref 39], (am_up I 38 8 (if (20) < ((I 38 8) + (1)) then (20) else ((I 38 8) + (1)))), G, (gP rd)) (True) hX hi (by decide +kernel) rfl trivial ?_
  refine am_callS hX hi (M := mX0_put) (idx := 49) (d' := 1) (As := [.ref 39, .int ((if (20) < ((I 38 8) + (1)) then (20) else ((I 38 8) + (1))) - (1)), .int x1]) (rest := []) mkX0_put msX0_put (by decide +kernel) (by decide +kernel) rfl ⟨by decide, by decide, Nat.le_of_ble_eq_true rfl⟩ rfl (c_put rfl (by decide) ((if (20) < ((I 38 8) + (1)) then (20) else ((I 38 8) + (1))) - (1)) x1) ?_
  rintro r9 I9 G9 P9 ⟨e0, e1, e2, e3⟩
  rw [e0, e1, e2, e3]
  show am_V X 0 0 _ _ ad (29, [(0, .ref 38), (1, .int x1), (2, .int x2)], [], (gPut (am_up I 38 8 (if (20) < ((I 38 8) + (1)) then (20) else ((I 38 8) + (1)))) 39 20 ((if (20) < ((I 38 8) + (1)) then (20) else ((I 38 8) + (1))) - (1)) x1), G, (gP rd))
  refine am_blk 29 [(.aload_n 0, 1, 0, 0, .null), (.getfield 15, 3, 1, 1, .null), (.aload_n 0, 1, 0, 0, .null), (.getfield 36, 3, 1, 8, .null), (.iconst (1), 1, 0, 0, .int (1)), (.isub, 1, 0, 0, .null), (.iload_n 2, 1, 2, 0, .null)] (40, [(0, .ref 38), (1, .int x1), (2, .int x2)], [.int x2, .int (((gPut (am_up I 38 8 (if (20) < ((I 38 8) + (1)) then (20) else ((I 38 8) + (1)))) 39 20 ((if (20) < ((I 38 8) + (1)) then (20) else ((I 38 8) + (1))) - (1)) x1) 38 8) - (1)), .ref 40], (gPut (am_up I 38 8 (if (20) < ((I 38 8) + (1)) then (20) else ((I 38 8) + (1)))) 39 20 ((if (20) < ((I 38 8) + (1)) then (20) else ((I 38 8) + (1))) - (1)) x1), G, (gP rd)) (True) hX hi (by decide +kernel) rfl trivial ?_
  refine am_callS hX hi (M := mX0_put) (idx := 49) (d' := 1) (As := [.ref 40, .int (((gPut (am_up I 38 8 (if (20) < ((I 38 8) + (1)) then (20) else ((I 38 8) + (1)))) 39 20 ((if (20) < ((I 38 8) + (1)) then (20) else ((I 38 8) + (1))) - (1)) x1) 38 8) - (1)), .int x2]) (rest := []) mkX0_put msX0_put (by decide +kernel) (by decide +kernel) rfl ⟨by decide, by decide, Nat.le_of_ble_eq_true rfl⟩ rfl (c_put rfl (by decide) (((gPut (am_up I 38 8 (if (20) < ((I 38 8) + (1)) then (20) else ((I 38 8) + (1)))) 39 20 ((if (20) < ((I 38 8) + (1)) then (20) else ((I 38 8) + (1))) - (1)) x1) 38 8) - (1)) x2) ?_
  rintro r9 I9 G9 P9 ⟨e0, e1, e2, e3⟩
  rw [e0, e1, e2, e3]
  show am_V X 0 0 _ _ ad (43, [(0, .ref 38), (1, .int x1), (2, .int x2)], [], (gPut (gPut (am_up I 38 8 (if (20) < ((I 38 8) + (1)) then (20) else ((I 38 8) + (1)))) 39 20 ((if (20) < ((I 38 8) + (1)) then (20) else ((I 38 8) + (1))) - (1)) x1) 40 20 (((gPut (am_up I 38 8 (if (20) < ((I 38 8) + (1)) then (20) else ((I 38 8) + (1)))) 39 20 ((if (20) < ((I 38 8) + (1)) then (20) else ((I 38 8) + (1))) - (1)) x1) 38 8) - (1)) x2), G, (gP rd))
  refine am_blk 43 [(.aload_n 0, 1, 0, 0, .null), (.getfield 18, 3, 1, 2, .null), (.aload_n 0, 1, 0, 0, .null), (.getfield 36, 3, 1, 8, .null), (.iconst (1), 1, 0, 0, .int (1)), (.isub, 1, 0, 0, .null), (.aload_n 0, 1, 0, 0, .null), (.getfield 40, 3, 1, 9, .null)] (57, [(0, .ref 38), (1, .int x1), (2, .int x2)], [.int ((gPut (gPut (am_up I 38 8 (if (20) < ((I 38 8) + (1)) then (20) else ((I 38 8) + (1)))) 39 20 ((if (20) < ((I 38 8) + (1)) then (20) else ((I 38 8) + (1))) - (1)) x1) 40 20 (((gPut (am_up I 38 8 (if (20) < ((I 38 8) + (1)) then (20) else ((I 38 8) + (1)))) 39 20 ((if (20) < ((I 38 8) + (1)) then (20) else ((I 38 8) + (1))) - (1)) x1) 38 8) - (1)) x2) 38 9), .int (((gPut (gPut (am_up I 38 8 (if (20) < ((I 38 8) + (1)) then (20) else ((I 38 8) + (1)))) 39 20 ((if (20) < ((I 38 8) + (1)) then (20) else ((I 38 8) + (1))) - (1)) x1) 40 20 (((gPut (am_up I 38 8 (if (20) < ((I 38 8) + (1)) then (20) else ((I 38 8) + (1)))) 39 20 ((if (20) < ((I 38 8) + (1)) then (20) else ((I 38 8) + (1))) - (1)) x1) 38 8) - (1)) x2) 38 8) - (1)), .ref 41], (gPut (gPut (am_up I 38 8 (if (20) < ((I 38 8) + (1)) then (20) else ((I 38 8) + (1)))) 39 20 ((if (20) < ((I 38 8) + (1)) then (20) else ((I 38 8) + (1))) - (1)) x1) 40 20 (((gPut (am_up I 38 8 (if (20) < ((I 38 8) + (1)) then (20) else ((I 38 8) + (1)))) 39 20 ((if (20) < ((I 38 8) + (1)) then (20) else ((I 38 8) + (1))) - (1)) x1) 38 8) - (1)) x2), G, (gP rd)) (True) hX hi (by decide +kernel) rfl trivial ?_
  refine am_callS hX hi (M := mX0_put) (idx := 49) (d' := 1) (As := [.ref 41, .int (((gPut (gPut (am_up I 38 8 (if (20) < ((I 38 8) + (1)) then (20) else ((I 38 8) + (1)))) 39 20 ((if (20) < ((I 38 8) + (1)) then (20) else ((I 38 8) + (1))) - (1)) x1) 40 20 (((gPut (am_up I 38 8 (if (20) < ((I 38 8) + (1)) then (20) else ((I 38 8) + (1)))) 39 20 ((if (20) < ((I 38 8) + (1)) then (20) else ((I 38 8) + (1))) - (1)) x1) 38 8) - (1)) x2) 38 8) - (1)), .int ((gPut (gPut (am_up I 38 8 (if (20) < ((I 38 8) + (1)) then (20) else ((I 38 8) + (1)))) 39 20 ((if (20) < ((I 38 8) + (1)) then (20) else ((I 38 8) + (1))) - (1)) x1) 40 20 (((gPut (am_up I 38 8 (if (20) < ((I 38 8) + (1)) then (20) else ((I 38 8) + (1)))) 39 20 ((if (20) < ((I 38 8) + (1)) then (20) else ((I 38 8) + (1))) - (1)) x1) 38 8) - (1)) x2) 38 9)]) (rest := []) mkX0_put msX0_put (by decide +kernel) (by decide +kernel) rfl ⟨by decide, by decide, Nat.le_of_ble_eq_true rfl⟩ rfl (c_put rfl (by decide) (((gPut (gPut (am_up I 38 8 (if (20) < ((I 38 8) + (1)) then (20) else ((I 38 8) + (1)))) 39 20 ((if (20) < ((I 38 8) + (1)) then (20) else ((I 38 8) + (1))) - (1)) x1) 40 20 (((gPut (am_up I 38 8 (if (20) < ((I 38 8) + (1)) then (20) else ((I 38 8) + (1)))) 39 20 ((if (20) < ((I 38 8) + (1)) then (20) else ((I 38 8) + (1))) - (1)) x1) 38 8) - (1)) x2) 38 8) - (1)) ((gPut (gPut (am_up I 38 8 (if (20) < ((I 38 8) + (1)) then (20) else ((I 38 8) + (1)))) 39 20 ((if (20) < ((I 38 8) + (1)) then (20) else ((I 38 8) + (1))) - (1)) x1) 40 20 (((gPut (am_up I 38 8 (if (20) < ((I 38 8) + (1)) then (20) else ((I 38 8) + (1)))) 39 20 ((if (20) < ((I 38 8) + (1)) then (20) else ((I 38 8) + (1))) - (1)) x1) 38 8) - (1)) x2) 38 9)) ?_
  rintro r9 I9 G9 P9 ⟨e0, e1, e2, e3⟩
  rw [e0, e1, e2, e3]
  show am_V X 0 0 _ _ ad (60, [(0, .ref 38), (1, .int x1), (2, .int x2)], [], (gPut (gPut (gPut (am_up I 38 8 (if (20) < ((I 38 8) + (1)) then (20) else ((I 38 8) + (1)))) 39 20 ((if (20) < ((I 38 8) + (1)) then (20) else ((I 38 8) + (1))) - (1)) x1) 40 20 (((gPut (am_up I 38 8 (if (20) < ((I 38 8) + (1)) then (20) else ((I 38 8) + (1)))) 39 20 ((if (20) < ((I 38 8) + (1)) then (20) else ((I 38 8) + (1))) - (1)) x1) 38 8) - (1)) x2) 41 20 (((gPut (gPut (am_up I 38 8 (if (20) < ((I 38 8) + (1)) then (20) else ((I 38 8) + (1)))) 39 20 ((if (20) < ((I 38 8) + (1)) then (20) else ((I 38 8) + (1))) - (1)) x1) 40 20 (((gPut (am_up I 38 8 (if (20) < ((I 38 8) + (1)) then (20) else ((I 38 8) + (1)))) 39 20 ((if (20) < ((I 38 8) + (1)) then (20) else ((I 38 8) + (1))) - (1)) x1) 38 8) - (1)) x2) 38 8) - (1)) ((gPut (gPut (am_up I 38 8 (if (20) < ((I 38 8) + (1)) then (20) else ((I 38 8) + (1)))) 39 20 ((if (20) < ((I 38 8) + (1)) then (20) else ((I 38 8) + (1))) - (1)) x1) 40 20 (((gPut (am_up I 38 8 (if (20) < ((I 38 8) + (1)) then (20) else ((I 38 8) + (1)))) 39 20 ((if (20) < ((I 38 8) + (1)) then (20) else ((I 38 8) + (1))) - (1)) x1) 38 8) - (1)) x2) 38 9)), G, (gP rd))
  refine am_blk 60 [(.aload_n 0, 1, 0, 0, .null), (.getfield 27, 3, 1, 5, .null), (.aload_n 0, 1, 0, 0, .null), (.getfield 36, 3, 1, 8, .null), (.iconst (1), 1, 0, 0, .int (1)), (.isub, 1, 0, 0, .null), (.iconst (0), 1, 0, 0, .int (0))] (71, [(0, .ref 38), (1, .int x1), (2, .int x2)], [.int (0), .int (((gPut (gPut (gPut (am_up I 38 8 (if (20) < ((I 38 8) + (1)) then (20) else ((I 38 8) + (1)))) 39 20 ((if (20) < ((I 38 8) + (1)) then (20) else ((I 38 8) + (1))) - (1)) x1) 40 20 (((gPut (am_up I 38 8 (if (20) < ((I 38 8) + (1)) then (20) else ((I 38 8) + (1)))) 39 20 ((if (20) < ((I 38 8) + (1)) then (20) else ((I 38 8) + (1))) - (1)) x1) 38 8) - (1)) x2) 41 20 (((gPut (gPut (am_up I 38 8 (if (20) < ((I 38 8) + (1)) then (20) else ((I 38 8) + (1)))) 39 20 ((if (20) < ((I 38 8) + (1)) then (20) else ((I 38 8) + (1))) - (1)) x1) 40 20 (((gPut (am_up I 38 8 (if (20) < ((I 38 8) + (1)) then (20) else ((I 38 8) + (1)))) 39 20 ((if (20) < ((I 38 8) + (1)) then (20) else ((I 38 8) + (1))) - (1)) x1) 38 8) - (1)) x2) 38 8) - (1)) ((gPut (gPut (am_up I 38 8 (if (20) < ((I 38 8) + (1)) then (20) else ((I 38 8) + (1)))) 39 20 ((if (20) < ((I 38 8) + (1)) then (20) else ((I 38 8) + (1))) - (1)) x1) 40 20 (((gPut (am_up I 38 8 (if (20) < ((I 38 8) + (1)) then (20) else ((I 38 8) + (1)))) 39 20 ((if (20) < ((I 38 8) + (1)) then (20) else ((I 38 8) + (1))) - (1)) x1) 38 8) - (1)) x2) 38 9)) 38 8) - (1)), .ref 44], (gPut (gPut (gPut (am_up I 38 8 (if (20) < ((I 38 8) + (1)) then (20) else ((I 38 8) + (1)))) 39 20 ((if (20) < ((I 38 8) + (1)) then (20) else ((I 38 8) + (1))) - (1)) x1) 40 20 (((gPut (am_up I 38 8 (if (20) < ((I 38 8) + (1)) then (20) else ((I 38 8) + (1)))) 39 20 ((if (20) < ((I 38 8) + (1)) then (20) else ((I 38 8) + (1))) - (1)) x1) 38 8) - (1)) x2) 41 20 (((gPut (gPut (am_up I 38 8 (if (20) < ((I 38 8) + (1)) then (20) else ((I 38 8) + (1)))) 39 20 ((if (20) < ((I 38 8) + (1)) then (20) else ((I 38 8) + (1))) - (1)) x1) 40 20 (((gPut (am_up I 38 8 (if (20) < ((I 38 8) + (1)) then (20) else ((I 38 8) + (1)))) 39 20 ((if (20) < ((I 38 8) + (1)) then (20) else ((I 38 8) + (1))) - (1)) x1) 38 8) - (1)) x2) 38 8) - (1)) ((gPut (gPut (am_up I 38 8 (if (20) < ((I 38 8) + (1)) then (20) else ((I 38 8) + (1)))) 39 20 ((if (20) < ((I 38 8) + (1)) then (20) else ((I 38 8) + (1))) - (1)) x1) 40 20 (((gPut (am_up I 38 8 (if (20) < ((I 38 8) + (1)) then (20) else ((I 38 8) + (1)))) 39 20 ((if (20) < ((I 38 8) + (1)) then (20) else ((I 38 8) + (1))) - (1)) x1) 38 8) - (1)) x2) 38 9)), G, (gP rd)) (True) hX hi (by decide +kernel) rfl trivial ?_
  refine am_callS hX hi (M := mX0_put) (idx := 49) (d' := 1) (As := [.ref 44, .int (((gPut (gPut (gPut (am_up I 38 8 (if (20) < ((I 38 8) + (1)) then (20) else ((I 38 8) + (1)))) 39 20 ((if (20) < ((I 38 8) + (1)) then (20) else ((I 38 8) + (1))) - (1)) x1) 40 20 (((gPut (am_up I 38 8 (if (20) < ((I 38 8) + (1)) then (20) else ((I 38 8) + (1)))) 39 20 ((if (20) < ((I 38 8) + (1)) then (20) else ((I 38 8) + (1))) - (1)) x1) 38 8) - (1)) x2) 41 20 (((gPut (gPut (am_up I 38 8 (if (20) < ((I 38 8) + (1)) then (20) else ((I 38 8) + (1)))) 39 20 ((if (20) < ((I 38 8) + (1)) then (20) else ((I 38 8) + (1))) - (1)) x1) 40 20 (((gPut (am_up I 38 8 (if (20) < ((I 38 8) + (1)) then (20) else ((I 38 8) + (1)))) 39 20 ((if (20) < ((I 38 8) + (1)) then (20) else ((I 38 8) + (1))) - (1)) x1) 38 8) - (1)) x2) 38 8) - (1)) ((gPut (gPut (am_up I 38 8 (if (20) < ((I 38 8) + (1)) then (20) else ((I 38 8) + (1)))) 39 20 ((if (20) < ((I 38 8) + (1)) then (20) else ((I 38 8) + (1))) - (1)) x1) 40 20 (((gPut (am_up I 38 8 (if (20) < ((I 38 8) + (1)) then (20) else ((I 38 8) + (1)))) 39 20 ((if (20) < ((I 38 8) + (1)) then (20) else ((I 38 8) + (1))) - (1)) x1) 38 8) - (1)) x2) 38 9)) 38 8) - (1)), .int (0)]) (rest := []) mkX0_put msX0_put (by decide +kernel) (by decide +kernel) rfl ⟨by decide, by decide, Nat.le_of_ble_eq_true rfl⟩ rfl (c_put rfl (by decide) (((gPut (gPut (gPut (am_up I 38 8 (if (20) < ((I 38 8) + (1)) then (20) else ((I 38 8) + (1)))) 39 20 ((if (20) < ((I 38 8) + (1)) then (20) else ((I 38 8) + (1))) - (1)) x1) 40 20 (((gPut (am_up I 38 8 (if (20) < ((I 38 8) + (1)) then (20) else ((I 38 8) + (1)))) 39 20 ((if (20) < ((I 38 8) + (1)) then (20) else ((I 38 8) + (1))) - (1)) x1) 38 8) - (1)) x2) 41 20 (((gPut (gPut (am_up I 38 8 (if (20) < ((I 38 8) + (1)) then (20) else ((I 38 8) + (1)))) 39 20 ((if (20) < ((I 38 8) + (1)) then (20) else ((I 38 8) + (1))) - (1)) x1) 40 20 (((gPut (am_up I 38 8 (if (20) < ((I 38 8) + (1)) then (20) else ((I 38 8) + (1)))) 39 20 ((if (20) < ((I 38 8) + (1)) then (20) else ((I 38 8) + (1))) - (1)) x1) 38 8) - (1)) x2) 38 8) - (1)) ((gPut (gPut (am_up I 38 8 (if (20) < ((I 38 8) + (1)) then (20) else ((I 38 8) + (1)))) 39 20 ((if (20) < ((I 38 8) + (1)) then (20) else ((I 38 8) + (1))) - (1)) x1) 40 20 (((gPut (am_up I 38 8 (if (20) < ((I 38 8) + (1)) then (20) else ((I 38 8) + (1)))) 39 20 ((if (20) < ((I 38 8) + (1)) then (20) else ((I 38 8) + (1))) - (1)) x1) 38 8) - (1)) x2) 38 9)) 38 8) - (1)) (0)) ?_
  rintro r9 I9 G9 P9 ⟨e0, e1, e2, e3⟩
  rw [e0, e1, e2, e3]
  show am_V X 0 0 _ _ ad (74, [(0, .ref 38), (1, .int x1), (2, .int x2)], [], (gPut (gPut (gPut (gPut (am_up I 38 8 (if (20) < ((I 38 8) + (1)) then (20) else ((I 38 8) + (1)))) 39 20 ((if (20) < ((I 38 8) + (1)) then (20) else ((I 38 8) + (1))) - (1)) x1) 40 20 (((gPut (am_up I 38 8 (if (20) < ((I 38 8) + (1)) then (20) else ((I 38 8) + (1)))) 39 20 ((if (20) < ((I 38 8) + (1)) then (20) else ((I 38 8) + (1))) - (1)) x1) 38 8) - (1)) x2) 41 20 (((gPut (gPut (am_up I 38 8 (if (20) < ((I 38 8) + (1)) then (20) else ((I 38 8) + (1)))) 39 20 ((if (20) < ((I 38 8) + (1)) then (20) else ((I 38 8) + (1))) - (1)) x1) 40 20 (((gPut (am_up I 38 8 (if (20) < ((I 38 8) + (1)) then (20) else ((I 38 8) + (1)))) 39 20 ((if (20) < ((I 38 8) + (1)) then (20) else ((I 38 8) + (1))) - (1)) x1) 38 8) - (1)) x2) 38 8) - (1)) ((gPut (gPut (am_up I 38 8 (if (20) < ((I 38 8) + (1)) then (20) else ((I 38 8) + (1)))) 39 20 ((if (20) < ((I 38 8) + (1)) then (20) else ((I 38 8) + (1))) - (1)) x1) 40 20 (((gPut (am_up I 38 8 (if (20) < ((I 38 8) + (1)) then (20) else ((I 38 8) + (1)))) 39 20 ((if (20) < ((I 38 8) + (1)) then (20) else ((I 38 8) + (1))) - (1)) x1) 38 8) - (1)) x2) 38 9)) 44 20 (((gPut (gPut (gPut (am_up I 38 8 (if (20) < ((I 38 8) + (1)) then (20) else ((I 38 8) + (1)))) 39 20 ((if (20) < ((I 38 8) + (1)) then (20) else ((I 38 8) + (1))) - (1)) x1) 40 20 (((gPut (am_up I 38 8 (if (20) < ((I 38 8) + (1)) then (20) else ((I 38 8) + (1)))) 39 20 ((if (20) < ((I 38 8) + (1)) then (20) else ((I 38 8) + (1))) - (1)) x1) 38 8) - (1)) x2) 41 20 (((gPut (gPut (am_up I 38 8 (if (20) < ((I 38 8) + (1)) then (20) else ((I 38 8) + (1)))) 39 20 ((if (20) < ((I 38 8) + (1)) then (20) else ((I 38 8) + (1))) - (1)) x1) 40 20 (((gPut (am_up I 38 8 (if (20) < ((I 38 8) + (1)) then (20) else ((I 38 8) + (1)))) 39 20 ((if (20) < ((I 38 8) + (1)) then (20) else ((I 38 8) + (1))) - (1)) x1) 38 8) - (1)) x2) 38 8) - (1)) ((gPut (gPut (am_up I 38 8 (if (20) < ((I 38 8) + (1)) then (20) else ((I 38 8) + (1)))) 39 20 ((if (20) < ((I 38 8) + (1)) then (20) else ((I 38 8) + (1))) - (1)) x1) 40 20 (((gPut (am_up I 38 8 (if (20) < ((I 38 8) + (1)) then (20) else ((I 38 8) + (1)))) 39 20 ((if (20) < ((I 38 8) + (1)) then (20) else ((I 38 8) + (1))) - (1)) x1) 38 8) - (1)) x2) 38 9)) 38 8) - (1)) (0)), G, (gP rd))
  refine am_vret hX hi rfl (by decide +kernel) ?_
  exact ⟨rfl, by unfold g_X3_begin_38; rfl, rfl, rfl⟩
def g_X3_endSum_16 (I : am_I) (G : am_G)  : am_I := (gPut I 20 20 ((I 16 8) - (1)) (I 16 9))
set_option maxRecDepth 20000 in
set_option maxHeartbeats 1000000 in
theorem c_X3_endSum_16 (rd : Nat) (I : am_I) (G : am_G)  : am_Ct mX3_endSum 2 gS [.ref 16] I G (gP rd) (pV (g_X3_endSum_16 I G ) G (gP rd)) := by
  refine am_ofF (by decide +kernel) rfl (by decide) (by decide) (Nat.le_of_ble_eq_true rfl) (fun X ad hX hi => ?_)
  have hi : am_info X 1 cX3_endSum 1 false none 2 := hi
  show am_V X 0 0 _ _ ad (0, [(0, .ref 16)], [], I, G, (gP rd))
  refine am_blk 0 [(.aload_n 0, 1, 0, 0, .null), (.getfield 21, 3, 1, 3, .null), (.aload_n 0, 1, 0, 0, .null), (.getfield 36, 3, 1, 8, .null), (.iconst (1), 1, 0, 0, .int (1)), (.isub, 1, 0, 0, .null), (.aload_n 0, 1, 0, 0, .null), (.getfield 40, 3, 1, 9, .null)] (14, [(0, .ref 16)], [.int (I 16 9), .int ((I 16 8) - (1)), .ref 20], I, G, (gP rd)) (True) hX hi (by decide +kernel) rfl trivial ?_
  refine am_callS hX hi (M := mX0_put) (idx := 49) (d' := 1) (As := [.ref 20, .int ((I 16 8) - (1)), .int (I 16 9)]) (rest := []) mkX0_put msX0_put (by decide +kernel) (by decide +kernel) rfl ⟨by decide, by decide, Nat.le_of_ble_eq_true rfl⟩ rfl (c_put rfl (by decide) ((I 16 8) - (1)) (I 16 9)) ?_
  rintro r9 I9 G9 P9 ⟨e0, e1, e2, e3⟩
  rw [e0, e1, e2, e3]
  show am_V X 0 0 _ _ ad (17, [(0, .ref 16)], [], (gPut I 20 20 ((I 16 8) - (1)) (I 16 9)), G, (gP rd))
  refine am_vret hX hi rfl (by decide +kernel) ?_
  exact ⟨rfl, by unfold g_X3_endSum_16; rfl, rfl, rfl⟩
def g_X3_endSum_38 (I : am_I) (G : am_G)  : am_I := (gPut I 42 20 ((I 38 8) - (1)) (I 38 9))
set_option maxRecDepth 20000 in
set_option maxHeartbeats 1000000 in
theorem c_X3_endSum_38 (rd : Nat) (I : am_I) (G : am_G)  : am_Ct mX3_endSum 2 gS [.ref 38] I G (gP rd) (pV (g_X3_endSum_38 I G ) G (gP rd)) := by
  refine am_ofF (by decide +kernel) rfl (by decide) (by decide) (Nat.le_of_ble_eq_true rfl) (fun X ad hX hi => ?_)
  have hi : am_info X 1 cX3_endSum 1 false none 2 := hi
  show am_V X 0 0 _ _ ad (0, [(0, .ref 38)], [], I, G, (gP rd))
  refine am_blk 0 [(.aload_n 0, 1, 0, 0, .null), (.getfield 21, 3, 1, 3, .null), (.aload_n 0, 1, 0, 0, .null), (.getfield 36, 3, 1, 8, .null), (.iconst (1), 1, 0, 0, .int (1)), (.isub, 1, 0, 0, .null), (.aload_n 0, 1, 0, 0, .null), (.getfield 40, 3, 1, 9, .null)] (14, [(0, .ref 38)], [.int (I 38 9), .int ((I 38 8) - (1)), .ref 42], I, G, (gP rd)) (True) hX hi (by decide +kernel) rfl trivial ?_
  refine am_callS hX hi (M := mX0_put) (idx := 49) (d' := 1) (As := [.ref 42, .int ((I 38 8) - (1)), .int (I 38 9)]) (rest := []) mkX0_put msX0_put (by decide +kernel) (by decide +kernel) rfl ⟨by decide, by decide, Nat.le_of_ble_eq_true rfl⟩ rfl (c_put rfl (by decide) ((I 38 8) - (1)) (I 38 9)) ?_
  rintro r9 I9 G9 P9 ⟨e0, e1, e2, e3⟩
  rw [e0, e1, e2, e3]
  show am_V X 0 0 _ _ ad (17, [(0, .ref 38)], [], (gPut I 42 20 ((I 38 8) - (1)) (I 38 9)), G, (gP rd))
  refine am_vret hX hi rfl (by decide +kernel) ?_
  exact ⟨rfl, by unfold g_X3_endSum_38; rfl, rfl, rfl⟩
def g_X3_endTest_16 (I : am_I) (G : am_G)  : am_I := (gPut I 21 20 ((I 16 8) - (1)) (I 16 9))
set_option maxRecDepth 20000 in
set_option maxHeartbeats 1000000 in
theorem c_X3_endTest_16 (rd : Nat) (I : am_I) (G : am_G)  : am_Ct mX3_endTest 2 gS [.ref 16] I G (gP rd) (pV (g_X3_endTest_16 I G ) G (gP rd)) := by
  refine am_ofF (by decide +kernel) rfl (by decide) (by decide) (Nat.le_of_ble_eq_true rfl) (fun X ad hX hi => ?_)
  have hi : am_info X 1 cX3_endTest 1 false none 2 := hi
  show am_V X 0 0 _ _ ad (0, [(0, .ref 16)], [], I, G, (gP rd))
  refine am_blk 0 [(.aload_n 0, 1, 0, 0, .null), (.getfield 24, 3, 1, 4, .null), (.aload_n 0, 1, 0, 0, .null), (.getfield 36, 3, 1, 8, .null), (.iconst (1), 1, 0, 0, .int (1)), (.isub, 1, 0, 0, .null), (.aload_n 0, 1, 0, 0, .null), (.getfield 40, 3, 1, 9, .null)] (14, [(0, .ref 16)], [.int (I 16 9), .int ((I 16 8) - (1)), .ref 21], I, G, (gP rd)) (True) hX hi (by decide +kernel) rfl trivial ?_
  refine am_callS hX hi (M := mX0_put) (idx := 49) (d' := 1) (As := [.ref 21, .int ((I 16 8) - (1)), .int (I 16 9)]) (rest := []) mkX0_put msX0_put (by decide +kernel) (by decide +kernel) rfl ⟨by decide, by decide, Nat.le_of_ble_eq_true rfl⟩ rfl (c_put rfl (by decide) ((I 16 8) - (1)) (I 16 9)) ?_
  rintro r9 I9 G9 P9 ⟨e0, e1, e2, e3⟩
  rw [e0, e1, e2, e3]
  show am_V X 0 0 _ _ ad (17, [(0, .ref 16)], [], (gPut I 21 20 ((I 16 8) - (1)) (I 16 9)), G, (gP rd))
  refine am_vret hX hi rfl (by decide +kernel) ?_
  exact ⟨rfl, by unfold g_X3_endTest_16; rfl, rfl, rfl⟩
def g_X3_endTest_38 (I : am_I) (G : am_G)  : am_I := (gPut I 43 20 ((I 38 8) - (1)) (I 38 9))
set_option maxRecDepth 20000 in
set_option maxHeartbeats 1000000 in
theorem c_X3_endTest_38 (rd : Nat) (I : am_I) (G : am_G)  : am_Ct mX3_endTest 2 gS [.ref 38] I G (gP rd) (pV (g_X3_endTest_38 I G ) G (gP rd)) := by
  refine am_ofF (by decide +kernel) rfl (by decide) (by decide) (Nat.le_of_ble_eq_true rfl) (fun X ad hX hi => ?_)
  have hi : am_info X 1 cX3_endTest 1 false none 2 := hi
  show am_V X 0 0 _ _ ad (0, [(0, .ref 38)], [], I, G, (gP rd))
  refine am_blk 0 [(.aload_n 0, 1, 0, 0, .null), (.getfield 24, 3, 1, 4, .null), (.aload_n 0, 1, 0, 0, .null), (.getfield 36, 3, 1, 8, .null), (.iconst (1), 1, 0, 0, .int (1)), (.isub, 1, 0, 0, .null), (.aload_n 0, 1, 0, 0, .null), (.getfield 40, 3, 1, 9, .null)] (14, [(0, .ref 38)], [.int (I 38 9), .int ((I 38 8) - (1)), .ref 43], I, G, (gP rd)) (True) hX hi (by decide +kernel) rfl trivial ?_
  refine am_callS hX hi (M := mX0_put) (idx := 49) (d' := 1) (As := [.ref 43, .int ((I 38 8) - (1)), .int (I 38 9)]) (rest := []) mkX0_put msX0_put (by decide +kernel) (by decide +kernel) rfl ⟨by decide, by decide, Nat.le_of_ble_eq_true rfl⟩ rfl (c_put rfl (by decide) ((I 38 8) - (1)) (I 38 9)) ?_
  rintro r9 I9 G9 P9 ⟨e0, e1, e2, e3⟩
  rw [e0, e1, e2, e3]
  show am_V X 0 0 _ _ ad (17, [(0, .ref 38)], [], (gPut I 43 20 ((I 38 8) - (1)) (I 38 9)), G, (gP rd))
  refine am_vret hX hi rfl (by decide +kernel) ?_
  exact ⟨rfl, by unfold g_X3_endTest_38; rfl, rfl, rfl⟩
def g_X3_add_16 (I : am_I) (G : am_G) (x1 : Int32) (x2 : Int32) : am_I := (if x1 = (16) then (gPut (am_up (gPut (gPut I 23 400 (I 16 9) x1) 24 400 ((gPut I 23 400 (I 16 9) x1) 16 9) x2) 16 9 (if (400) < (((gPut (gPut I 23 400 (I 16 9) x1) 24 400 ((gPut I 23 400 (I 16 9) x1) 16 9) x2) 16 9) + (1)) then (400) else (((gPut (gPut I 23 400 (I 16 9) x1) 24 400 ((gPut I 23 400 (I 16 9) x1) 16 9) x2) 16 9) + (1)))) 22 20 (((gPut (gPut I 23 400 (I 16 9) x1) 24 400 ((gPut I 23 400 (I 16 9) x1) 16 9) x2) 16 8) - (1)) (1)) else (if x1 = (17) then (gPut (am_up (gPut (gPut I 23 400 (I 16 9) x1) 24 400 ((gPut I 23 400 (I 16 9) x1) 16 9) x2) 16 9 (if (400) < (((gPut (gPut I 23 400 (I 16 9) x1) 24 400 ((gPut I 23 400 (I 16 9) x1) 16 9) x2) 16 9) + (1)) then (400) else (((gPut (gPut I 23 400 (I 16 9) x1) 24 400 ((gPut I 23 400 (I 16 9) x1) 16 9) x2) 16 9) + (1)))) 22 20 (((gPut (gPut I 23 400 (I 16 9) x1) 24 400 ((gPut I 23 400 (I 16 9) x1) 16 9) x2) 16 8) - (1)) (1)) else (if x1 = (18) then (gPut (am_up (gPut (gPut I 23 400 (I 16 9) x1) 24 400 ((gPut I 23 400 (I 16 9) x1) 16 9) x2) 16 9 (if (400) < (((gPut (gPut I 23 400 (I 16 9) x1) 24 400 ((gPut I 23 400 (I 16 9) x1) 16 9) x2) 16 9) + (1)) then (400) else (((gPut (gPut I 23 400 (I 16 9) x1) 24 400 ((gPut I 23 400 (I 16 9) x1) 16 9) x2) 16 9) + (1)))) 22 20 (((gPut (gPut I 23 400 (I 16 9) x1) 24 400 ((gPut I 23 400 (I 16 9) x1) 16 9) x2) 16 8) - (1)) (1)) else (am_up (gPut (gPut I 23 400 (I 16 9) x1) 24 400 ((gPut I 23 400 (I 16 9) x1) 16 9) x2) 16 9 (if (400) < (((gPut (gPut I 23 400 (I 16 9) x1) 24 400 ((gPut I 23 400 (I 16 9) x1) 16 9) x2) 16 9) + (1)) then (400) else (((gPut (gPut I 23 400 (I 16 9) x1) 24 400 ((gPut I 23 400 (I 16 9) x1) 16 9) x2) 16 9) + (1)))))))
set_option maxRecDepth 20000 in
set_option maxHeartbeats 1000000 in
theorem c_X3_add_16 (rd : Nat) (I : am_I) (G : am_G) (x1 : Int32) (x2 : Int32) : am_Ct mX3_add 2 gS [.ref 16, .int x1, .int x2] I G (gP rd) (pV (g_X3_add_16 I G x1 x2) G (gP rd)) := by
  refine am_ofF (by decide +kernel) rfl (by decide) (by decide) (Nat.le_of_ble_eq_true rfl) (fun X ad hX hi => ?_)
  have hi : am_info X 1 cX3_add 3 false none 2 := hi
  show am_V X 0 0 _ _ ad (0, [(0, .ref 16), (1, .int x1), (2, .int x2)], [], I, G, (gP rd))
  refine am_blk 0 [(.aload_n 0, 1, 0, 0, .null), (.getfield 30, 3, 1, 6, .null), (.aload_n 0, 1, 0, 0, .null), (.getfield 40, 3, 1, 9, .null), (.iload_n 1, 1, 1, 0, .null)] (9, [(0, .ref 16), (1, .int x1), (2, .int x2)], [.int x1, .int (I 16 9), .ref 23], I, G, (gP rd)) (True) hX hi (by decide +kernel) rfl trivial ?_
  refine am_callS hX hi (M := mX0_put) (idx := 49) (d' := 1) (As := [.ref 23, .int (I 16 9), .int x1]) (rest := []) mkX0_put msX0_put (by decide +kernel) (by decide +kernel) rfl ⟨by decide, by decide, Nat.le_of_ble_eq_true rfl⟩ rfl (c_put rfl (by decide) (I 16 9) x1) ?_
  rintro r9 I9 G9 P9 ⟨e0, e1, e2, e3⟩
  rw [e0, e1, e2, e3]
  show am_V X 0 0 _ _ ad (12, [(0, .ref 16), (1, .int x1), (2, .int x2)], [], (gPut I 23 400 (I 16 9) x1), G, (gP rd))
  refine am_blk 12 [(.aload_n 0, 1, 0, 0, .null), (.getfield 33, 3, 1, 7, .null), (.aload_n 0, 1, 0, 0, .null), (.getfield 40, 3, 1, 9, .null), (.iload_n 2, 1, 2, 0, .null)] (21, [(0, .ref 16), (1, .int x1), (2, .int x2)], [.int x2, .int ((gPut I 23 400 (I 16 9) x1) 16 9), .ref 24], (gPut I 23 400 (I 16 9) x1), G, (gP rd)) (True) hX hi (by decide +kernel) rfl trivial ?_
  refine am_callS hX hi (M := mX0_put) (idx := 49) (d' := 1) (As := [.ref 24, .int ((gPut I 23 400 (I 16 9) x1) 16 9), .int x2]) (rest := []) mkX0_put msX0_put (by decide +kernel) (by decide +kernel) rfl ⟨by decide, by decide, Nat.le_of_ble_eq_true rfl⟩ rfl (c_put rfl (by decide) ((gPut I 23 400 (I 16 9) x1) 16 9) x2) ?_
  rintro r9 I9 G9 P9 ⟨e0, e1, e2, e3⟩
  rw [e0, e1, e2, e3]
  show am_V X 0 0 _ _ ad (24, [(0, .ref 16), (1, .int x1), (2, .int x2)], [], (gPut (gPut I 23 400 (I 16 9) x1) 24 400 ((gPut I 23 400 (I 16 9) x1) 16 9) x2), G, (gP rd))
  refine am_blk 24 [(.aload_n 0, 1, 0, 0, .null), (.aload_n 0, 1, 0, 0, .null), (.getfield 40, 3, 1, 9, .null), (.iconst (1), 1, 0, 0, .int (1)), (.iadd, 1, 0, 0, .null), (.sipush (400), 3, 0, 0, .int (400)), (.invokestatic 43, 3, 1, 0, .null), (.putfield 40, 3, 1, 9, .null), (.iload_n 1, 1, 1, 0, .null), (.bipush (16), 2, 0, 0, .int (16))] (43, [(0, .ref 16), (1, .int x1), (2, .int x2)], [.int (16), .int x1], (am_up (gPut (gPut I 23 400 (I 16 9) x1) 24 400 ((gPut I 23 400 (I 16 9) x1) 16 9) x2) 16 9 (if (400) < (((gPut (gPut I 23 400 (I 16 9) x1) 24 400 ((gPut I 23 400 (I 16 9) x1) 16 9) x2) 16 9) + (1)) then (400) else (((gPut (gPut I 23 400 (I 16 9) x1) 24 400 ((gPut I 23 400 (I 16 9) x1) 16 9) x2) 16 9) + (1)))), G, (gP rd)) (True) hX hi (by decide +kernel) rfl trivial ?_
  refine am_icmp_eq (tgt := 58) hX hi (off := (15)) (by decide +kernel) (by decide) (fun c43 => ?_) (fun c43 => ?_)
  · refine am_blk 58 [(.aload_n 0, 1, 0, 0, .null), (.getfield 27, 3, 1, 5, .null), (.aload_n 0, 1, 0, 0, .null), (.getfield 36, 3, 1, 8, .null), (.iconst (1), 1, 0, 0, .int (1)), (.isub, 1, 0, 0, .null), (.iconst (1), 1, 0, 0, .int (1))] (69, [(0, .ref 16), (1, .int x1), (2, .int x2)], [.int (1), .int (((gPut (gPut I 23 400 (I 16 9) x1) 24 400 ((gPut I 23 400 (I 16 9) x1) 16 9) x2) 16 8) - (1)), .ref 22], (am_up (gPut (gPut I 23 400 (I 16 9) x1) 24 400 ((gPut I 23 400 (I 16 9) x1) 16 9) x2) 16 9 (if (400) < (((gPut (gPut I 23 400 (I 16 9) x1) 24 400 ((gPut I 23 400 (I 16 9) x1) 16 9) x2) 16 9) + (1)) then (400) else (((gPut (gPut I 23 400 (I 16 9) x1) 24 400 ((gPut I 23 400 (I 16 9) x1) 16 9) x2) 16 9) + (1)))), G, (gP rd)) (True) hX hi (by decide +kernel) rfl trivial ?_
    refine am_callS hX hi (M := mX0_put) (idx := 49) (d' := 1) (As := [.ref 22, .int (((gPut (gPut I 23 400 (I 16 9) x1) 24 400 ((gPut I 23 400 (I 16 9) x1) 16 9) x2) 16 8) - (1)), .int (1)]) (rest := []) mkX0_put msX0_put (by decide +kernel) (by decide +kernel) rfl ⟨by decide, by decide, Nat.le_of_ble_eq_true rfl⟩ rfl (c_put rfl (by decide) (((gPut (gPut I 23 400 (I 16 9) x1) 24 400 ((gPut I 23 400 (I 16 9) x1) 16 9) x2) 16 8) - (1)) (1)) ?_
    rintro r9 I9 G9 P9 ⟨e0, e1, e2, e3⟩
    rw [e0, e1, e2, e3]
    show am_V X 0 0 _ _ ad (72, [(0, .ref 16), (1, .int x1), (2, .int x2)], [], (gPut (am_up (gPut (gPut I 23 400 (I 16 9) x1) 24 400 ((gPut I 23 400 (I 16 9) x1) 16 9) x2) 16 9 (if (400) < (((gPut (gPut I 23 400 (I 16 9) x1) 24 400 ((gPut I 23 400 (I 16 9) x1) 16 9) x2) 16 9) + (1)) then (400) else (((gPut (gPut I 23 400 (I 16 9) x1) 24 400 ((gPut I 23 400 (I 16 9) x1) 16 9) x2) 16 9) + (1)))) 22 20 (((gPut (gPut I 23 400 (I 16 9) x1) 24 400 ((gPut I 23 400 (I 16 9) x1) 16 9) x2) 16 8) - (1)) (1)), G, (gP rd))
    refine am_vret hX hi rfl (by decide +kernel) ?_
    exact ⟨rfl, by unfold g_X3_add_16; rw [if_pos c43], rfl, rfl⟩
  · refine am_blk 46 [(.iload_n 1, 1, 1, 0, .null), (.bipush (17), 2, 0, 0, .int (17))] (49, [(0, .ref 16), (1, .int x1), (2, .int x2)], [.int (17), .int x1], (am_up (gPut (gPut I 23 400 (I 16 9) x1) 24 400 ((gPut I 23 400 (I 16 9) x1) 16 9) x2) 16 9 (if (400) < (((gPut (gPut I 23 400 (I 16 9) x1) 24 400 ((gPut I 23 400 (I 16 9) x1) 16 9) x2) 16 9) + (1)) then (400) else (((gPut (gPut I 23 400 (I 16 9) x1) 24 400 ((gPut I 23 400 (I 16 9) x1) 16 9) x2) 16 9) + (1)))), G, (gP rd)) (True) hX hi (by decide +kernel) rfl trivial ?_
    refine am_icmp_eq (tgt := 58) hX hi (off := (9)) (by decide +kernel) (by decide) (fun c49 => ?_) (fun c49 => ?_)
    · refine am_blk 58 [(.aload_n 0, 1, 0, 0, .null), (.getfield 27, 3, 1, 5, .null), (.aload_n 0, 1, 0, 0, .null), (.getfield 36, 3, 1, 8, .null), (.iconst (1), 1, 0, 0, .int (1)), (.isub, 1, 0, 0, .null), (.iconst (1), 1, 0, 0, .int (1))] (69, [(0, .ref 16), (1, .int x1), (2, .int x2)], [.int (1), .int (((gPut (gPut I 23 400 (I 16 9) x1) 24 400 ((gPut I 23 400 (I 16 9) x1) 16 9) x2) 16 8) - (1)), .ref 22], (am_up (gPut (gPut I 23 400 (I 16 9) x1) 24 400 ((gPut I 23 400 (I 16 9) x1) 16 9) x2) 16 9 (if (400) < (((gPut (gPut I 23 400 (I 16 9) x1) 24 400 ((gPut I 23 400 (I 16 9) x1) 16 9) x2) 16 9) + (1)) then (400) else (((gPut (gPut I 23 400 (I 16 9) x1) 24 400 ((gPut I 23 400 (I 16 9) x1) 16 9) x2) 16 9) + (1)))), G, (gP rd)) (True) hX hi (by decide +kernel) rfl trivial ?_
      refine am_callS hX hi (M := mX0_put) (idx := 49) (d' := 1) (As := [.ref 22, .int (((gPut (gPut I 23 400 (I 16 9) x1) 24 400 ((gPut I 23 400 (I 16 9) x1) 16 9) x2) 16 8) - (1)), .int (1)]) (rest := []) mkX0_put msX0_put (by decide +kernel) (by decide +kernel) rfl ⟨by decide, by decide, Nat.le_of_ble_eq_true rfl⟩ rfl (c_put rfl (by decide) (((gPut (gPut I 23 400 (I 16 9) x1) 24 400 ((gPut I 23 400 (I 16 9) x1) 16 9) x2) 16 8) - (1)) (1)) ?_
      rintro r9 I9 G9 P9 ⟨e0, e1, e2, e3⟩
      rw [e0, e1, e2, e3]
      show am_V X 0 0 _ _ ad (72, [(0, .ref 16), (1, .int x1), (2, .int x2)], [], (gPut (am_up (gPut (gPut I 23 400 (I 16 9) x1) 24 400 ((gPut I 23 400 (I 16 9) x1) 16 9) x2) 16 9 (if (400) < (((gPut (gPut I 23 400 (I 16 9) x1) 24 400 ((gPut I 23 400 (I 16 9) x1) 16 9) x2) 16 9) + (1)) then (400) else (((gPut (gPut I 23 400 (I 16 9) x1) 24 400 ((gPut I 23 400 (I 16 9) x1) 16 9) x2) 16 9) + (1)))) 22 20 (((gPut (gPut I 23 400 (I 16 9) x1) 24 400 ((gPut I 23 400 (I 16 9) x1) 16 9) x2) 16 8) - (1)) (1)), G, (gP rd))
      refine am_vret hX hi rfl (by decide +kernel) ?_
      exact ⟨rfl, by unfold g_X3_add_16; rw [if_neg c43, if_pos c49], rfl, rfl⟩
    · refine am_blk 52 [(.iload_n 1, 1, 1, 0, .null), (.bipush (18), 2, 0, 0, .int (18))] (55, [(0, .ref 16), (1, .int x1), (2, .int x2)], [.int (18), .int x1], (am_up (gPut (gPut I 23 400 (I 16 9) x1) 24 400 ((gPut I 23 400 (I 16 9) x1) 16 9) x2) 16 9 (if (400) < (((gPut (gPut I 23 400 (I 16 9) x1) 24 400 ((gPut I 23 400 (I 16 9) x1) 16 9) x2) 16 9) + (1)) then (400) else (((gPut (gPut I 23 400 (I 16 9) x1) 24 400 ((gPut I 23 400 (I 16 9) x1) 16 9) x2) 16 9) + (1)))), G, (gP rd)) (True) hX hi (by decide +kernel) rfl trivial ?_
      refine am_icmp_ne (tgt := 72) hX hi (off := (17)) (by decide +kernel) (by decide) (fun c55 => ?_) (fun c55 => ?_)
      · refine am_vret hX hi rfl (by decide +kernel) ?_
        exact ⟨rfl, by unfold g_X3_add_16; rw [if_neg c43, if_neg c49, if_neg c55], rfl, rfl⟩
      · refine am_blk 58 [(.aload_n 0, 1, 0, 0, .null), (.getfield 27, 3, 1, 5, .null), (.aload_n 0, 1, 0, 0, .null), (.getfield 36, 3, 1, 8, .null), (.iconst (1), 1, 0, 0, .int (1)), (.isub, 1, 0, 0, .null), (.iconst (1), 1, 0, 0, .int (1))] (69, [(0, .ref 16), (1, .int x1), (2, .int x2)], [.int (1), .int (((gPut (gPut I 23 400 (I 16 9) x1) 24 400 ((gPut I 23 400 (I 16 9) x1) 16 9) x2) 16 8) - (1)), .ref 22], (am_up (gPut (gPut I 23 400 (I 16 9) x1) 24 400 ((gPut I 23 400 (I 16 9) x1) 16 9) x2) 16 9 (if (400) < (((gPut (gPut I 23 400 (I 16 9) x1) 24 400 ((gPut I 23 400 (I 16 9) x1) 16 9) x2) 16 9) + (1)) then (400) else (((gPut (gPut I 23 400 (I 16 9) x1) 24 400 ((gPut I 23 400 (I 16 9) x1) 16 9) x2) 16 9) + (1)))), G, (gP rd)) (True) hX hi (by decide +kernel) rfl trivial ?_
        refine am_callS hX hi (M := mX0_put) (idx := 49) (d' := 1) (As := [.ref 22, .int (((gPut (gPut I 23 400 (I 16 9) x1) 24 400 ((gPut I 23 400 (I 16 9) x1) 16 9) x2) 16 8) - (1)), .int (1)]) (rest := []) mkX0_put msX0_put (by decide +kernel) (by decide +kernel) rfl ⟨by decide, by decide, Nat.le_of_ble_eq_true rfl⟩ rfl (c_put rfl (by decide) (((gPut (gPut I 23 400 (I 16 9) x1) 24 400 ((gPut I 23 400 (I 16 9) x1) 16 9) x2) 16 8) - (1)) (1)) ?_
        rintro r9 I9 G9 P9 ⟨e0, e1, e2, e3⟩
        rw [e0, e1, e2, e3]
        show am_V X 0 0 _ _ ad (72, [(0, .ref 16), (1, .int x1), (2, .int x2)], [], (gPut (am_up (gPut (gPut I 23 400 (I 16 9) x1) 24 400 ((gPut I 23 400 (I 16 9) x1) 16 9) x2) 16 9 (if (400) < (((gPut (gPut I 23 400 (I 16 9) x1) 24 400 ((gPut I 23 400 (I 16 9) x1) 16 9) x2) 16 9) + (1)) then (400) else (((gPut (gPut I 23 400 (I 16 9) x1) 24 400 ((gPut I 23 400 (I 16 9) x1) 16 9) x2) 16 9) + (1)))) 22 20 (((gPut (gPut I 23 400 (I 16 9) x1) 24 400 ((gPut I 23 400 (I 16 9) x1) 16 9) x2) 16 8) - (1)) (1)), G, (gP rd))
        refine am_vret hX hi rfl (by decide +kernel) ?_
        exact ⟨rfl, by unfold g_X3_add_16; rw [if_neg c43, if_neg c49, if_pos c55], rfl, rfl⟩
def g_X3_add_38 (I : am_I) (G : am_G) (x1 : Int32) (x2 : Int32) : am_I := (if x1 = (16) then (gPut (am_up (gPut (gPut I 45 400 (I 38 9) x1) 46 400 ((gPut I 45 400 (I 38 9) x1) 38 9) x2) 38 9 (if (400) < (((gPut (gPut I 45 400 (I 38 9) x1) 46 400 ((gPut I 45 400 (I 38 9) x1) 38 9) x2) 38 9) + (1)) then (400) else (((gPut (gPut I 45 400 (I 38 9) x1) 46 400 ((gPut I 45 400 (I 38 9) x1) 38 9) x2) 38 9) + (1)))) 44 20 (((gPut (gPut I 45 400 (I 38 9) x1) 46 400 ((gPut I 45 400 (I 38 9) x1) 38 9) x2) 38 8) - (1)) (1)) else (if x1 = (17) then (gPut (am_up (gPut (gPut I 45 400 (I 38 9) x1) 46 400 ((gPut I 45 400 (I 38 9) x1) 38 9) x2) 38 9 (if (400) < (((gPut (gPut I 45 400 (I 38 9) x1) 46 400 ((gPut I 45 400 (I 38 9) x1) 38 9) x2) 38 9) + (1)) then (400) else (((gPut (gPut I 45 400 (I 38 9) x1) 46 400 ((gPut I 45 400 (I 38 9) x1) 38 9) x2) 38 9) + (1)))) 44 20 (((gPut (gPut I 45 400 (I 38 9) x1) 46 400 ((gPut I 45 400 (I 38 9) x1) 38 9) x2) 38 8) - (1)) (1)) else (if x1 = (18) then (gPut (am_up (gPut (gPut I 45 400 (I 38 9) x1) 46 400 ((gPut I 45 400 (I 38 9) x1) 38 9) x2) 38 9 (if (400) < (((gPut (gPut I 45 400 (I 38 9) x1) 46 400 ((gPut I 45 400 (I 38 9) x1) 38 9) x2) 38 9) + (1)) then (400) else (((gPut (gPut I 45 400 (I 38 9) x1) 46 400 ((gPut I 45 400 (I 38 9) x1) 38 9) x2) 38 9) + (1)))) 44 20 (((gPut (gPut I 45 400 (I 38 9) x1) 46 400 ((gPut I 45 400 (I 38 9) x1) 38 9) x2) 38 8) - (1)) (1)) else (am_up (gPut (gPut I 45 400 (I 38 9) x1) 46 400 ((gPut I 45 400 (I 38 9) x1) 38 9) x2) 38 9 (if (400) < (((gPut (gPut I 45 400 (I 38 9) x1) 46 400 ((gPut I 45 400 (I 38 9) x1) 38 9) x2) 38 9) + (1)) then (400) else (((gPut (gPut I 45 400 (I 38 9) x1) 46 400 ((gPut I 45 400 (I 38 9) x1) 38 9) x2) 38 9) + (1)))))))
set_option maxRecDepth 20000 in
set_option maxHeartbeats 1000000 in
theorem c_X3_add_38 (rd : Nat) (I : am_I) (G : am_G) (x1 : Int32) (x2 : Int32) : am_Ct mX3_add 2 gS [.ref 38, .int x1, .int x2] I G (gP rd) (pV (g_X3_add_38 I G x1 x2) G (gP rd)) := by
  refine am_ofF (by decide +kernel) rfl (by decide) (by decide) (Nat.le_of_ble_eq_true rfl) (fun X ad hX hi => ?_)
  have hi : am_info X 1 cX3_add 3 false none 2 := hi
  show am_V X 0 0 _ _ ad (0, [(0, .ref 38), (1, .int x1), (2, .int x2)], [], I, G, (gP rd))
  refine am_blk 0 [(.aload_n 0, 1, 0, 0, .null), (.getfield 30, 3, 1, 6, .null), (.aload_n 0, 1, 0, 0, .null), (.getfield 40, 3, 1, 9, .null), (.iload_n 1, 1, 1, 0, .null)] (9, [(0, .ref 38), (1, .int x1), (2, .int x2)], [.int x1, .int (I 38 9), .ref 45], I, G, (gP rd)) (True) hX hi (by decide +kernel) rfl trivial ?_
  refine am_callS hX hi (M := mX0_put) (idx := 49) (d' := 1) (As := [.ref 45, .int (I 38 9), .int x1]) (rest := []) mkX0_put msX0_put (by decide +kernel) (by decide +kernel) rfl ⟨by decide, by decide, Nat.le_of_ble_eq_true rfl⟩ rfl (c_put rfl (by decide) (I 38 9) x1) ?_
  rintro r9 I9 G9 P9 ⟨e0, e1, e2, e3⟩
  rw [e0, e1, e2, e3]
  show am_V X 0 0 _ _ ad (12, [(0, .ref 38), (1, .int x1), (2, .int x2)], [], (gPut I 45 400 (I 38 9) x1), G, (gP rd))
  refine am_blk 12 [(.aload_n 0, 1, 0, 0, .null), (.getfield 33, 3, 1, 7, .null), (.aload_n 0, 1, 0, 0, .null), (.getfield 40, 3, 1, 9, .null), (.iload_n 2, 1, 2, 0, .null)] (21, [(0, .ref 38), (1, .int x1), (2, .int x2)], [.int x2, .int ((gPut I 45 400 (I 38 9) x1) 38 9), .ref 46], (gPut I 45 400 (I 38 9) x1), G, (gP rd)) (True) hX hi (by decide +kernel) rfl trivial ?_
  refine am_callS hX hi (M := mX0_put) (idx := 49) (d' := 1) (As := [.ref 46, .int ((gPut I 45 400 (I 38 9) x1) 38 9), .int x2]) (rest := []) mkX0_put msX0_put (by decide +kernel) (by decide +kernel) rfl ⟨by decide, by decide, Nat.le_of_ble_eq_true rfl⟩ rfl (c_put rfl (by decide) ((gPut I 45 400 (I 38 9) x1) 38 9) x2) ?_
  rintro r9 I9 G9 P9 ⟨e0, e1, e2, e3⟩
  rw [e0, e1, e2, e3]
  show am_V X 0 0 _ _ ad (24, [(0, .ref 38), (1, .int x1), (2, .int x2)], [], (gPut (gPut I 45 400 (I 38 9) x1) 46 400 ((gPut I 45 400 (I 38 9) x1) 38 9) x2), G, (gP rd))
  refine am_blk 24 [(.aload_n 0, 1, 0, 0, .null), (.aload_n 0, 1, 0, 0, .null), (.getfield 40, 3, 1, 9, .null), (.iconst (1), 1, 0, 0, .int (1)), (.iadd, 1, 0, 0, .null), (.sipush (400), 3, 0, 0, .int (400)), (.invokestatic 43, 3, 1, 0, .null), (.putfield 40, 3, 1, 9, .null), (.iload_n 1, 1, 1, 0, .null), (.bipush (16), 2, 0, 0, .int (16))] (43, [(0, .ref 38), (1, .int x1), (2, .int x2)], [.int (16), .int x1], (am_up (gPut (gPut I 45 400 (I 38 9) x1) 46 400 ((gPut I 45 400 (I 38 9) x1) 38 9) x2) 38 9 (if (400) < (((gPut (gPut I 45 400 (I 38 9) x1) 46 400 ((gPut I 45 400 (I 38 9) x1) 38 9) x2) 38 9) + (1)) then (400) else (((gPut (gPut I 45 400 (I 38 9) x1) 46 400 ((gPut I 45 400 (I 38 9) x1) 38 9) x2) 38 9) + (1)))), G, (gP rd)) (True) hX hi (by decide +kernel) rfl trivial ?_
  refine am_icmp_eq (tgt := 58) hX hi (off := (15)) (by decide +kernel) (by decide) (fun c43 => ?_) (fun c43 => ?_)
  · refine am_blk 58 [(.aload_n 0, 1, 0, 0, .null), (.getfield 27, 3, 1, 5, .null), (.aload_n 0, 1, 0, 0, .null), (.getfield 36, 3, 1, 8, .null), (.iconst (1), 1, 0, 0, .int (1)), (.isub, 1, 0, 0, .null), (.iconst (1), 1, 0, 0, .int (1))] (69, [(0, .ref 38), (1, .int x1), (2, .int x2)], [.int (1), .int (((gPut (gPut I 45 400 (I 38 9) x1) 46 400 ((gPut I 45 400 (I 38 9) x1) 38 9) x2) 38 8) - (1)), .ref 44], (am_up (gPut (gPut I 45 400 (I 38 9) x1) 46 400 ((gPut I 45 400 (I 38 9) x1) 38 9) x2) 38 9 (if (400) < (((gPut (gPut I 45 400 (I 38 9) x1) 46 400 ((gPut I 45 400 (I 38 9) x1) 38 9) x2) 38 9) + (1)) then (400) else (((gPut (gPut I 45 400 (I 38 9) x1) 46 400 ((gPut I 45 400 (I 38 9) x1) 38 9) x2) 38 9) + (1)))), G, (gP rd)) (True) hX hi (by decide +kernel) rfl trivial ?_
    refine am_callS hX hi (M := mX0_put) (idx := 49) (d' := 1) (As := [.ref 44, .int (((gPut (gPut I 45 400 (I 38 9) x1) 46 400 ((gPut I 45 400 (I 38 9) x1) 38 9) x2) 38 8) - (1)), .int (1)]) (rest := []) mkX0_put msX0_put (by decide +kernel) (by decide +kernel) rfl ⟨by decide, by decide, Nat.le_of_ble_eq_true rfl⟩ rfl (c_put rfl (by decide) (((gPut (gPut I 45 400 (I 38 9) x1) 46 400 ((gPut I 45 400 (I 38 9) x1) 38 9) x2) 38 8) - (1)) (1)) ?_
    rintro r9 I9 G9 P9 ⟨e0, e1, e2, e3⟩
    rw [e0, e1, e2, e3]
    show am_V X 0 0 _ _ ad (72, [(0, .ref 38), (1, .int x1), (2, .int x2)], [], (gPut (am_up (gPut (gPut I 45 400 (I 38 9) x1) 46 400 ((gPut I 45 400 (I 38 9) x1) 38 9) x2) 38 9 (if (400) < (((gPut (gPut I 45 400 (I 38 9) x1) 46 400 ((gPut I 45 400 (I 38 9) x1) 38 9) x2) 38 9) + (1)) then (400) else (((gPut (gPut I 45 400 (I 38 9) x1) 46 400 ((gPut I 45 400 (I 38 9) x1) 38 9) x2) 38 9) + (1)))) 44 20 (((gPut (gPut I 45 400 (I 38 9) x1) 46 400 ((gPut I 45 400 (I 38 9) x1) 38 9) x2) 38 8) - (1)) (1)), G, (gP rd))
    refine am_vret hX hi rfl (by decide +kernel) ?_
    exact ⟨rfl, by unfold g_X3_add_38; rw [if_pos c43], rfl, rfl⟩
  · refine am_blk 46 [(.iload_n 1, 1, 1, 0, .null), (.bipush (17), 2, 0, 0, .int (17))] (49, [(0, .ref 38), (1, .int x1), (2, .int x2)], [.int (17), .int x1], (am_up (gPut (gPut I 45 400 (I 38 9) x1) 46 400 ((gPut I 45 400 (I 38 9) x1) 38 9) x2) 38 9 (if (400) < (((gPut (gPut I 45 400 (I 38 9) x1) 46 400 ((gPut I 45 400 (I 38 9) x1) 38 9) x2) 38 9) + (1)) then (400) else (((gPut (gPut I 45 400 (I 38 9) x1) 46 400 ((gPut I 45 400 (I 38 9) x1) 38 9) x2) 38 9) + (1)))), G, (gP rd)) (True) hX hi (by decide +kernel) rfl trivial ?_
    refine am_icmp_eq (tgt := 58) hX hi (off := (9)) (by decide +kernel) (by decide) (fun c49 => ?_) (fun c49 => ?_)
    · refine am_blk 58 [(.aload_n 0, 1, 0, 0, .null), (.getfield 27, 3, 1, 5, .null), (.aload_n 0, 1, 0, 0, .null), (.getfield 36, 3, 1, 8, .null), (.iconst (1), 1, 0, 0, .int (1)), (.isub, 1, 0, 0, .null), (.iconst (1), 1, 0, 0, .int (1))] (69, [(0, .ref 38), (1, .int x1), (2, .int x2)], [.int (1), .int (((gPut (gPut I 45 400 (I 38 9) x1) 46 400 ((gPut I 45 400 (I 38 9) x1) 38 9) x2) 38 8) - (1)), .ref 44], (am_up (gPut (gPut I 45 400 (I 38 9) x1) 46 400 ((gPut I 45 400 (I 38 9) x1) 38 9) x2) 38 9 (if (400) < (((gPut (gPut I 45 400 (I 38 9) x1) 46 400 ((gPut I 45 400 (I 38 9) x1) 38 9) x2) 38 9) + (1)) then (400) else (((gPut (gPut I 45 400 (I 38 9) x1) 46 400 ((gPut I 45 400 (I 38 9) x1) 38 9) x2) 38 9) + (1)))), G, (gP rd)) (True) hX hi (by decide +kernel) rfl trivial ?_
      refine am_callS hX hi (M := mX0_put) (idx := 49) (d' := 1) (As := [.ref 44, .int (((gPut (gPut I 45 400 (I 38 9) x1) 46 400 ((gPut I 45 400 (I 38 9) x1) 38 9) x2) 38 8) - (1)), .int (1)]) (rest := []) mkX0_put msX0_put (by decide +kernel) (by decide +kernel) rfl ⟨by decide, by decide, Nat.le_of_ble_eq_true rfl⟩ rfl (c_put rfl (by decide) (((gPut (gPut I 45 400 (I 38 9) x1) 46 400 ((gPut I 45 400 (I 38 9) x1) 38 9) x2) 38 8) - (1)) (1)) ?_
      rintro r9 I9 G9 P9 ⟨e0, e1, e2, e3⟩
      rw [e0, e1, e2, e3]
      show am_V X 0 0 _ _ ad (72, [(0, .ref 38), (1, .int x1), (2, .int x2)], [], (gPut (am_up (gPut (gPut I 45 400 (I 38 9) x1) 46 400 ((gPut I 45 400 (I 38 9) x1) 38 9) x2) 38 9 (if (400) < (((gPut (gPut I 45 400 (I 38 9) x1) 46 400 ((gPut I 45 400 (I 38 9) x1) 38 9) x2) 38 9) + (1)) then (400) else (((gPut (gPut I 45 400 (I 38 9) x1) 46 400 ((gPut I 45 400 (I 38 9) x1) 38 9) x2) 38 9) + (1)))) 44 20 (((gPut (gPut I 45 400 (I 38 9) x1) 46 400 ((gPut I 45 400 (I 38 9) x1) 38 9) x2) 38 8) - (1)) (1)), G, (gP rd))
      refine am_vret hX hi rfl (by decide +kernel) ?_
      exact ⟨rfl, by unfold g_X3_add_38; rw [if_neg c43, if_pos c49], rfl, rfl⟩
    · refine am_blk 52 [(.iload_n 1, 1, 1, 0, .null), (.bipush (18), 2, 0, 0, .int (18))] (55, [(0, .ref 38), (1, .int x1), (2, .int x2)], [.int (18), .int x1], (am_up (gPut (gPut I 45 400 (I 38 9) x1) 46 400 ((gPut I 45 400 (I 38 9) x1) 38 9) x2) 38 9 (if (400) < (((gPut (gPut I 45 400 (I 38 9) x1) 46 400 ((gPut I 45 400 (I 38 9) x1) 38 9) x2) 38 9) + (1)) then (400) else (((gPut (gPut I 45 400 (I 38 9) x1) 46 400 ((gPut I 45 400 (I 38 9) x1) 38 9) x2) 38 9) + (1)))), G, (gP rd)) (True) hX hi (by decide +kernel) rfl trivial ?_
      refine am_icmp_ne (tgt := 72) hX hi (off := (17)) (by decide +kernel) (by decide) (fun c55 => ?_) (fun c55 => ?_)
      · refine am_vret hX hi rfl (by decide +kernel) ?_
        exact ⟨rfl, by unfold g_X3_add_38; rw [if_neg c43, if_neg c49, if_neg c55], rfl, rfl⟩
      · refine am_blk 58 [(.aload_n 0, 1, 0, 0, .null), (.getfield 27, 3, 1, 5, .null), (.aload_n 0, 1, 0, 0, .null), (.getfield 36, 3, 1, 8, .null), (.iconst (1), 1, 0, 0, .int (1)), (.isub, 1, 0, 0, .null), (.iconst (1), 1, 0, 0, .int (1))] (69, [(0, .ref 38), (1, .int x1), (2, .int x2)], [.int (1), .int (((gPut (gPut I 45 400 (I 38 9) x1) 46 400 ((gPut I 45 400 (I 38 9) x1) 38 9) x2) 38 8) - (1)), .ref 44], (am_up (gPut (gPut I 45 400 (I 38 9) x1) 46 400 ((gPut I 45 400 (I 38 9) x1) 38 9) x2) 38 9 (if (400) < (((gPut (gPut I 45 400 (I 38 9) x1) 46 400 ((gPut I 45 400 (I 38 9) x1) 38 9) x2) 38 9) + (1)) then (400) else (((gPut (gPut I 45 400 (I 38 9) x1) 46 400 ((gPut I 45 400 (I 38 9) x1) 38 9) x2) 38 9) + (1)))), G, (gP rd)) (True) hX hi (by decide +kernel) rfl trivial ?_
        refine am_callS hX hi (M := mX0_put) (idx := 49) (d' := 1) (As := [.ref 44, .int (((gPut (gPut I 45 400 (I 38 9) x1) 46 400 ((gPut I 45 400 (I 38 9) x1) 38 9) x2) 38 8) - (1)), .int (1)]) (rest := []) mkX0_put msX0_put (by decide +kernel) (by decide +kernel) rfl ⟨by decide, by decide, Nat.le_of_ble_eq_true rfl⟩ rfl (c_put rfl (by decide) (((gPut (gPut I 45 400 (I 38 9) x1) 46 400 ((gPut I 45 400 (I 38 9) x1) 38 9) x2) 38 8) - (1)) (1)) ?_
        rintro r9 I9 G9 P9 ⟨e0, e1, e2, e3⟩
        rw [e0, e1, e2, e3]
        show am_V X 0 0 _ _ ad (72, [(0, .ref 38), (1, .int x1), (2, .int x2)], [], (gPut (am_up (gPut (gPut I 45 400 (I 38 9) x1) 46 400 ((gPut I 45 400 (I 38 9) x1) 38 9) x2) 38 9 (if (400) < (((gPut (gPut I 45 400 (I 38 9) x1) 46 400 ((gPut I 45 400 (I 38 9) x1) 38 9) x2) 38 9) + (1)) then (400) else (((gPut (gPut I 45 400 (I 38 9) x1) 46 400 ((gPut I 45 400 (I 38 9) x1) 38 9) x2) 38 9) + (1)))) 44 20 (((gPut (gPut I 45 400 (I 38 9) x1) 46 400 ((gPut I 45 400 (I 38 9) x1) 38 9) x2) 38 8) - (1)) (1)), G, (gP rd))
        refine am_vret hX hi rfl (by decide +kernel) ?_
        exact ⟨rfl, by unfold g_X3_add_38; rw [if_neg c43, if_neg c49, if_pos c55], rfl, rfl⟩
def f_X3_looksAtSpots_16 (I : am_I) (G : am_G) (x1 : Int32) : Int32 := (if (gAt (I 22) 20 x1) = 0 then (0) else (1))
set_option maxRecDepth 20000 in
set_option maxHeartbeats 1000000 in
theorem c_X3_looksAtSpots_16 (rd : Nat) (I : am_I) (G : am_G) (x1 : Int32) : am_Ct mX3_looksAtSpots 2 gS [.ref 16, .int x1] I G (gP rd) (pI (f_X3_looksAtSpots_16 I G x1) I G (gP rd)) := by
  refine am_ofF (by decide +kernel) rfl (by decide) (by decide) (Nat.le_of_ble_eq_true rfl) (fun X ad hX hi => ?_)
  have hi : am_info X 1 cX3_looksAtSpots 2 false (Option.some Jvm.ClassFile.FieldType.boolean) 2 := hi
  show am_V X 0 0 _ _ ad (0, [(0, .ref 16), (1, .int x1)], [], I, G, (gP rd))
  refine am_blk 0 [(.aload_n 0, 1, 0, 0, .null), (.getfield 27, 3, 1, 5, .null), (.iload_n 1, 1, 1, 0, .null)] (5, [(0, .ref 16), (1, .int x1)], [.int x1, .ref 22], I, G, (gP rd)) (True) hX hi (by decide +kernel) rfl trivial ?_
  refine am_callS hX hi (M := mX0_at) (idx := 57) (d' := 1) (As := [.ref 22, .int x1]) (rest := []) mkX0_at msX0_at (by decide +kernel) (by decide +kernel) rfl ⟨by decide, by decide, Nat.le_of_ble_eq_true rfl⟩ rfl (c_at rfl (by decide) x1) ?_
  rintro r9 I9 G9 P9 ⟨e0, e1, e2, e3⟩
  rw [e0, e1, e2, e3]
  show am_V X 0 0 _ _ ad (8, [(0, .ref 16), (1, .int x1)], [.int (gAt (I 22) 20 x1)], I, G, (gP rd))
  refine am_if_eq (tgt := 15) hX hi (off := (7)) (by decide +kernel) (by decide) (fun c8 => ?_) (fun c8 => ?_)
  · refine am_blk 15 [(.iconst (0), 1, 0, 0, .int (0))] (16, [(0, .ref 16), (1, .int x1)], [.int (0)], I, G, (gP rd)) (True) hX hi (by decide +kernel) rfl trivial ?_
    refine am_iret hX hi rfl (by first | rfl | decide | (simp [narrow]; done)) (by decide +kernel) ?_
    exact ⟨by unfold f_X3_looksAtSpots_16; rw [if_pos c8], rfl, rfl, rfl⟩
  · refine am_blk 11 [(.iconst (1), 1, 0, 0, .int (1)), (.goto (4), 3, 0, 16, .null)] (16, [(0, .ref 16), (1, .int x1)], [.int (1)], I, G, (gP rd)) (True) hX hi (by decide +kernel) rfl trivial ?_
    refine am_iret hX hi rfl (by first | rfl | decide | (simp [narrow]; done)) (by decide +kernel) ?_
    exact ⟨by unfold f_X3_looksAtSpots_16; rw [if_neg c8], rfl, rfl, rfl⟩
def f_X3_looksAtSpots_38 (I : am_I) (G : am_G) (x1 : Int32) : Int32 := (if (gAt (I 44) 20 x1) = 0 then (0) else (1))
set_option maxRecDepth 20000 in
set_option maxHeartbeats 1000000 in
theorem c_X3_looksAtSpots_38 (rd : Nat) (I : am_I) (G : am_G) (x1 : Int32) : am_Ct mX3_looksAtSpots 2 gS [.ref 38, .int x1] I G (gP rd) (pI (f_X3_looksAtSpots_38 I G x1) I G (gP rd)) := by
  refine am_ofF (by decide +kernel) rfl (by decide) (by decide) (Nat.le_of_ble_eq_true rfl) (fun X ad hX hi => ?_)
  have hi : am_info X 1 cX3_looksAtSpots 2 false (Option.some Jvm.ClassFile.FieldType.boolean) 2 := hi
  show am_V X 0 0 _ _ ad (0, [(0, .ref 38), (1, .int x1)], [], I, G, (gP rd))
  refine am_blk 0 [(.aload_n 0, 1, 0, 0, .null), (.getfield 27, 3, 1, 5, .null), (.iload_n 1, 1, 1, 0, .null)] (5, [(0, .ref 38), (1, .int x1)], [.int x1, .ref 44], I, G, (gP rd)) (True) hX hi (by decide +kernel) rfl trivial ?_
  refine am_callS hX hi (M := mX0_at) (idx := 57) (d' := 1) (As := [.ref 44, .int x1]) (rest := []) mkX0_at msX0_at (by decide +kernel) (by decide +kernel) rfl ⟨by decide, by decide, Nat.le_of_ble_eq_true rfl⟩ rfl (c_at rfl (by decide) x1) ?_
  rintro r9 I9 G9 P9 ⟨e0, e1, e2, e3⟩
  rw [e0, e1, e2, e3]
  show am_V X 0 0 _ _ ad (8, [(0, .ref 38), (1, .int x1)], [.int (gAt (I 44) 20 x1)], I, G, (gP rd))
  refine am_if_eq (tgt := 15) hX hi (off := (7)) (by decide +kernel) (by decide) (fun c8 => ?_) (fun c8 => ?_)
  · refine am_blk 15 [(.iconst (0), 1, 0, 0, .int (0))] (16, [(0, .ref 38), (1, .int x1)], [.int (0)], I, G, (gP rd)) (True) hX hi (by decide +kernel) rfl trivial ?_
    refine am_iret hX hi rfl (by first | rfl | decide | (simp [narrow]; done)) (by decide +kernel) ?_
    exact ⟨by unfold f_X3_looksAtSpots_38; rw [if_pos c8], rfl, rfl, rfl⟩
  · refine am_blk 11 [(.iconst (1), 1, 0, 0, .int (1)), (.goto (4), 3, 0, 16, .null)] (16, [(0, .ref 38), (1, .int x1)], [.int (1)], I, G, (gP rd)) (True) hX hi (by decide +kernel) rfl trivial ?_
    refine am_iret hX hi rfl (by first | rfl | decide | (simp [narrow]; done)) (by decide +kernel) ?_
    exact ⟨by unfold f_X3_looksAtSpots_38; rw [if_neg c8], rfl, rfl, rfl⟩
def g_X4_join_60 (I : am_I) (G : am_G) (x1 : Int32) (x2 : Int32) : am_I := (if x2 = 0 then I else (if 0 ≤ (gAt (I 61) 576 x1) then I else (if (Int32.ofNat 576) ≤ (I 60 3) then I else (am_up (gPut (gPut I 61 576 x1 (I 60 4)) 63 576 ((gPut I 61 576 x1 (I 60 4)) 60 3) x1) 60 3 (((gPut (gPut I 61 576 x1 (I 60 4)) 63 576 ((gPut I 61 576 x1 (I 60 4)) 60 3) x1) 60 3) + (1))))))
set_option maxRecDepth 20000 in
set_option maxHeartbeats 1000000 in
theorem c_X4_join_60 (rd : Nat) (I : am_I) (G : am_G) (x1 : Int32) (x2 : Int32) : am_Ct mX4_join 2 gS [.ref 60, .int x1, .int x2] I G (gP rd) (pV (g_X4_join_60 I G x1 x2) G (gP rd)) := by
  refine am_ofF (by decide +kernel) rfl (by decide) (by decide) (Nat.le_of_ble_eq_true rfl) (fun X ad hX hi => ?_)
  have hi : am_info X 2 cX4_join 3 false none 2 := hi
  show am_V X 0 0 _ _ ad (0, [(0, .ref 60), (1, .int x1), (2, .int x2)], [], I, G, (gP rd))
  refine am_blk 0 [(.iload_n 2, 1, 2, 0, .null)] (1, [(0, .ref 60), (1, .int x1), (2, .int x2)], [.int x2], I, G, (gP rd)) (True) hX hi (by decide +kernel) rfl trivial ?_
  refine am_if_eq (tgt := 61) hX hi (off := (60)) (by decide +kernel) (by decide) (fun c1 => ?_) (fun c1 => ?_)
  · refine am_vret hX hi rfl (by decide +kernel) ?_
    exact ⟨rfl, by unfold g_X4_join_60; rw [if_pos c1], rfl, rfl⟩
  · refine am_blk 4 [(.aload_n 0, 1, 0, 0, .null), (.getfield 9, 3, 2, 0, .null), (.iload_n 1, 1, 1, 0, .null)] (9, [(0, .ref 60), (1, .int x1), (2, .int x2)], [.int x1, .ref 61], I, G, (gP rd)) (True) hX hi (by decide +kernel) rfl trivial ?_
    refine am_callS hX hi (M := mX0_at) (idx := 34) (d' := 1) (As := [.ref 61, .int x1]) (rest := []) mkX0_at msX0_at (by decide +kernel) (by decide +kernel) rfl ⟨by decide, by decide, Nat.le_of_ble_eq_true rfl⟩ rfl (c_at rfl (by decide) x1) ?_
    rintro r9 I9 G9 P9 ⟨e0, e1, e2, e3⟩
    rw [e0, e1, e2, e3]
    show am_V X 0 0 _ _ ad (12, [(0, .ref 60), (1, .int x1), (2, .int x2)], [.int (gAt (I 61) 576 x1)], I, G, (gP rd))
    refine am_if_ge (tgt := 61) hX hi (off := (49)) (by decide +kernel) (by decide) (fun c12 => ?_) (fun c12 => ?_)
    · refine am_vret hX hi rfl (by decide +kernel) ?_
      exact ⟨rfl, by unfold g_X4_join_60; rw [if_neg c1, if_pos c12], rfl, rfl⟩
    · refine am_blk 15 [(.aload_n 0, 1, 0, 0, .null), (.getfield 50, 3, 2, 3, .null), (.aload_n 0, 1, 0, 0, .null), (.getfield 18, 3, 2, 2, .null), (.arraylength, 1, 0, 0, .null)] (24, [(0, .ref 60), (1, .int x1), (2, .int x2)], [.int (Int32.ofNat 576), .int (I 60 3)], I, G, (gP rd)) (True) hX hi (by decide +kernel) rfl trivial ?_
      refine am_icmp_ge (tgt := 61) hX hi (off := (37)) (by decide +kernel) (by decide) (fun c24 => ?_) (fun c24 => ?_)
      · refine am_vret hX hi rfl (by decide +kernel) ?_
        exact ⟨rfl, by unfold g_X4_join_60; rw [if_neg c1, if_neg c12, if_pos c24], rfl, rfl⟩
      · refine am_blk 27 [(.aload_n 0, 1, 0, 0, .null), (.getfield 9, 3, 2, 0, .null), (.iload_n 1, 1, 1, 0, .null), (.aload_n 0, 1, 0, 0, .null), (.getfield 21, 3, 2, 4, .null)] (36, [(0, .ref 60), (1, .int x1), (2, .int x2)], [.int (I 60 4), .int x1, .ref 61], I, G, (gP rd)) (True) hX hi (by decide +kernel) rfl trivial ?_
        refine am_callS hX hi (M := mX0_put) (idx := 28) (d' := 1) (As := [.ref 61, .int x1, .int (I 60 4)]) (rest := []) mkX0_put msX0_put (by decide +kernel) (by decide +kernel) rfl ⟨by decide, by decide, Nat.le_of_ble_eq_true rfl⟩ rfl (c_put rfl (by decide) x1 (I 60 4)) ?_
        rintro r9 I9 G9 P9 ⟨e0, e1, e2, e3⟩
        rw [e0, e1, e2, e3]
        show am_V X 0 0 _ _ ad (39, [(0, .ref 60), (1, .int x1), (2, .int x2)], [], (gPut I 61 576 x1 (I 60 4)), G, (gP rd))
        refine am_blk 39 [(.aload_n 0, 1, 0, 0, .null), (.getfield 18, 3, 2, 2, .null), (.aload_n 0, 1, 0, 0, .null), (.getfield 50, 3, 2, 3, .null), (.iload_n 1, 1, 1, 0, .null)] (48, [(0, .ref 60), (1, .int x1), (2, .int x2)], [.int x1, .int ((gPut I 61 576 x1 (I 60 4)) 60 3), .ref 63], (gPut I 61 576 x1 (I 60 4)), G, (gP rd)) (True) hX hi (by decide +kernel) rfl trivial ?_
        refine am_callS hX hi (M := mX0_put) (idx := 28) (d' := 1) (As := [.ref 63, .int ((gPut I 61 576 x1 (I 60 4)) 60 3), .int x1]) (rest := []) mkX0_put msX0_put (by decide +kernel) (by decide +kernel) rfl ⟨by decide, by decide, Nat.le_of_ble_eq_true rfl⟩ rfl (c_put rfl (by decide) ((gPut I 61 576 x1 (I 60 4)) 60 3) x1) ?_
        rintro r9 I9 G9 P9 ⟨e0, e1, e2, e3⟩
        rw [e0, e1, e2, e3]
        show am_V X 0 0 _ _ ad (51, [(0, .ref 60), (1, .int x1), (2, .int x2)], [], (gPut (gPut I 61 576 x1 (I 60 4)) 63 576 ((gPut I 61 576 x1 (I 60 4)) 60 3) x1), G, (gP rd))
        refine am_blk 51 [(.aload_n 0, 1, 0, 0, .null), (.dup, 1, 0, 0, .null), (.getfield 50, 3, 2, 3, .null), (.iconst (1), 1, 0, 0, .int (1)), (.iadd, 1, 0, 0, .null), (.putfield 50, 3, 2, 3, .null)] (61, [(0, .ref 60), (1, .int x1), (2, .int x2)], [], (am_up (gPut (gPut I 61 576 x1 (I 60 4)) 63 576 ((gPut I 61 576 x1 (I 60 4)) 60 3) x1) 60 3 (((gPut (gPut I 61 576 x1 (I 60 4)) 63 576 ((gPut I 61 576 x1 (I 60 4)) 60 3) x1) 60 3) + (1))), G, (gP rd)) (True) hX hi (by decide +kernel) rfl trivial ?_
        refine am_vret hX hi rfl (by decide +kernel) ?_
        exact ⟨rfl, by unfold g_X4_join_60; rw [if_neg c1, if_neg c12, if_neg c24], rfl, rfl⟩
def g_X4_join_73 (I : am_I) (G : am_G) (x1 : Int32) (x2 : Int32) : am_I := (if x2 = 0 then I else (if 0 ≤ (gAt (I 74) 576 x1) then I else (if (Int32.ofNat 576) ≤ (I 73 3) then I else (am_up (gPut (gPut I 74 576 x1 (I 73 4)) 76 576 ((gPut I 74 576 x1 (I 73 4)) 73 3) x1) 73 3 (((gPut (gPut I 74 576 x1 (I 73 4)) 76 576 ((gPut I 74 576 x1 (I 73 4)) 73 3) x1) 73 3) + (1))))))
set_option maxRecDepth 20000 in
set_option maxHeartbeats 1000000 in
theorem c_X4_join_73 (rd : Nat) (I : am_I) (G : am_G) (x1 : Int32) (x2 : Int32) : am_Ct mX4_join 2 gS [.ref 73, .int x1, .int x2] I G (gP rd) (pV (g_X4_join_73 I G x1 x2) G (gP rd)) := by
  refine am_ofF (by decide +kernel) rfl (by decide) (by decide) (Nat.le_of_ble_eq_true rfl) (fun X ad hX hi => ?_)
  have hi : am_info X 2 cX4_join 3 false none 2 := hi
  show am_V X 0 0 _ _ ad (0, [(0, .ref 73), (1, .int x1), (2, .int x2)], [], I, G, (gP rd))
  refine am_blk 0 [(.iload_n 2, 1, 2, 0, .null)] (1, [(0, .ref 73), (1, .int x1), (2, .int x2)], [.int x2], I, G, (gP rd)) (True) hX hi (by decide +kernel) rfl trivial ?_
  refine am_if_eq (tgt := 61) hX hi (off := (60)) (by decide +kernel) (by decide) (fun c1 => ?_) (fun c1 => ?_)
  · refine am_vret hX hi rfl (by decide +kernel) ?_
    exact ⟨rfl, by unfold g_X4_join_73; rw [if_pos c1], rfl, rfl⟩
  · refine am_blk 4 [(.aload_n 0, 1, 0, 0, .null), (.getfield 9, 3, 2, 0, .null), (.iload_n 1, 1, 1, 0, .null)] (9, [(0, .ref 73), (1, .int x1), (2, .int x2)], [.int x1, .ref 74], I, G, (gP rd)) (True) hX hi (by decide +kernel) rfl trivial ?_
    refine am_callS hX hi (M := mX0_at) (idx := 34) (d' := 1) (As := [.ref 74, .int x1]) (rest := []) mkX0_at msX0_at (by decide +kernel) (by decide +kernel) rfl ⟨by decide, by decide, Nat.le_of_ble_eq_true rfl⟩ rfl (c_at rfl (by decide) x1) ?_
    rintro r9 I9 G9 P9 ⟨e0, e1, e2, e3⟩
    rw [e0, e1, e2, e3]
    show am_V X 0 0 _ _ ad (12, [(0, .ref 73), (1, .int x1), (2, .int x2)], [.int (gAt (I 74) 576 x1)], I, G, (gP rd))
    refine am_if_ge (tgt := 61) hX hi (off := (49)) (by decide +kernel) (by decide) (fun c12 => ?_) (fun c12 => ?_)
    · refine am_vret hX hi rfl (by decide +kernel) ?_
      exact ⟨rfl, by unfold g_X4_join_73; rw [if_neg c1, if_pos c12], rfl, rfl⟩
    · refine am_blk 15 [(.aload_n 0, 1, 0, 0, .null), (.getfield 50, 3, 2, 3, .null), (.aload_n 0, 1, 0, 0, .null), (.getfield 18, 3, 2, 2, .null), (.arraylength, 1, 0, 0, .null)] (24, [(0, .ref 73), (1, .int x1), (2, .int x2)], [.int (Int32.ofNat 576), .int (I 73 3)], I, G, (gP rd)) (True) hX hi (by decide +kernel) rfl trivial ?_
      refine am_icmp_ge (tgt := 61) hX hi (off := (37)) (by decide +kernel) (by decide) (fun c24 => ?_) (fun c24 => ?_)
      · refine am_vret hX hi rfl (by decide +kernel) ?_
        exact ⟨rfl, by unfold g_X4_join_73; rw [if_neg c1, if_neg c12, if_pos c24], rfl, rfl⟩
      · refine am_blk 27 [(.aload_n 0, 1, 0, 0, .null), (.getfield 9, 3, 2, 0, .null), (.iload_n 1, 1, 1, 0, .null), (.aload_n 0, 1, 0, 0, .null), (.getfield 21, 3, 2, 4, .null)] (36, [(0, .ref 73), (1, .int x1), (2, .int x2)], [.int (I 73 4), .int x1, .ref 74], I, G, (gP rd)) (True) hX hi (by decide +kernel) rfl trivial ?_
        refine am_callS hX hi (M := mX0_put) (idx := 28) (d' := 1) (As := [.ref 74, .int x1, .int (I 73 4)]) (rest := []) mkX0_put msX0_put (by decide +kernel) (by decide +kernel) rfl ⟨by decide, by decide, Nat.le_of_ble_eq_true rfl⟩ rfl (c_put rfl (by decide) x1 (I 73 4)) ?_
        rintro r9 I9 G9 P9 ⟨e0, e1, e2, e3⟩
        rw [e0, e1, e2, e3]
        show am_V X 0 0 _ _ ad (39, [(0, .ref 73), (1, .int x1), (2, .int x2)], [], (gPut I 74 576 x1 (I 73 4)), G, (gP rd))
        refine am_blk 39 [(.aload_n 0, 1, 0, 0, .null), (.getfield 18, 3, 2, 2, .null), (.aload_n 0, 1, 0, 0, .null), (.getfield 50, 3, 2, 3, .null), (.iload_n 1, 1, 1, 0, .null)] (48, [(0, .ref 73), (1, .int x1), (2, .int x2)], [.int x1, .int ((gPut I 74 576 x1 (I 73 4)) 73 3), .ref 76], (gPut I 74 576 x1 (I 73 4)), G, (gP rd)) (True) hX hi (by decide +kernel) rfl trivial ?_
        refine am_callS hX hi (M := mX0_put) (idx := 28) (d' := 1) (As := [.ref 76, .int ((gPut I 74 576 x1 (I 73 4)) 73 3), .int x1]) (rest := []) mkX0_put msX0_put (by decide +kernel) (by decide +kernel) rfl ⟨by decide, by decide, Nat.le_of_ble_eq_true rfl⟩ rfl (c_put rfl (by decide) ((gPut I 74 576 x1 (I 73 4)) 73 3) x1) ?_
        rintro r9 I9 G9 P9 ⟨e0, e1, e2, e3⟩
        rw [e0, e1, e2, e3]
        show am_V X 0 0 _ _ ad (51, [(0, .ref 73), (1, .int x1), (2, .int x2)], [], (gPut (gPut I 74 576 x1 (I 73 4)) 76 576 ((gPut I 74 576 x1 (I 73 4)) 73 3) x1), G, (gP rd))
        refine am_blk 51 [(.aload_n 0, 1, 0, 0, .null), (.dup, 1, 0, 0, .null), (.getfield 50, 3, 2, 3, .null), (.iconst (1), 1, 0, 0, .int (1)), (.iadd, 1, 0, 0, .null), (.putfield 50, 3, 2, 3, .null)] (61, [(0, .ref 73), (1, .int x1), (2, .int x2)], [], (am_up (gPut (gPut I 74 576 x1 (I 73 4)) 76 576 ((gPut I 74 576 x1 (I 73 4)) 73 3) x1) 73 3 (((gPut (gPut I 74 576 x1 (I 73 4)) 76 576 ((gPut I 74 576 x1 (I 73 4)) 73 3) x1) 73 3) + (1))), G, (gP rd)) (True) hX hi (by decide +kernel) rfl trivial ?_
        refine am_vret hX hi rfl (by decide +kernel) ?_
        exact ⟨rfl, by unfold g_X4_join_73; rw [if_neg c1, if_neg c12, if_neg c24], rfl, rfl⟩
def f_X4_leftOf (I : am_I) (G : am_G) (x1 : Int32) (x2 : Int32) : Int32 := (if x2 ≤ 0 then (x1 - (1)) else (if (x1 - x1 / x2 * x2) = 0 then ((x1 - (1)) + x2) else (x1 - (1))))
set_option maxRecDepth 20000 in
set_option maxHeartbeats 1000000 in
theorem c_X4_leftOf {sh : List am_Sh} {P : am_P} (I : am_I) (G : am_G) (x1 : Int32) (x2 : Int32) : am_Ct mX4_leftOf 1 sh [.int x1, .int x2] I G P (pI (f_X4_leftOf I G x1 x2) I G P) := by
  refine am_ofF (by decide +kernel) rfl (by decide) (by decide) (Nat.le_of_ble_eq_true rfl) (fun X ad hX hi => ?_)
  have hi : am_info X 2 cX4_leftOf 2 false (Option.some Jvm.ClassFile.FieldType.int) 1 := hi
  show am_V X 0 0 _ _ ad (0, [(0, .int x1), (1, .int x2)], [], I, G, P)
  refine am_blk 0 [(.iload_n 1, 1, 1, 0, .null)] (1, [(0, .int x1), (1, .int x2)], [.int x2], I, G, P) (True) hX hi (by decide +kernel) rfl trivial ?_
  refine am_if_le (tgt := 18) hX hi (off := (17)) (by decide +kernel) (by decide) (fun c1 => ?_) (fun c1 => ?_)
  · refine am_blk 18 [(.iload_n 0, 1, 0, 0, .null), (.iconst (1), 1, 0, 0, .int (1)), (.isub, 1, 0, 0, .null)] (21, [(0, .int x1), (1, .int x2)], [.int (x1 - (1))], I, G, P) (True) hX hi (by decide +kernel) rfl trivial ?_
    refine am_iret hX hi rfl rfl (by decide +kernel) ?_
    exact ⟨by unfold f_X4_leftOf; rw [if_pos c1], rfl, rfl, rfl⟩
  · refine am_blk 4 [(.iload_n 0, 1, 0, 0, .null), (.iload_n 1, 1, 1, 0, .null), (.irem, 1, 0, 0, .null)] (7, [(0, .int x1), (1, .int x2)], [.int (x1 - x1 / x2 * x2)], I, G, P) (¬ x2 = 0 ∧ True) hX hi (by decide +kernel) rfl ?_ ?_
    · exact ⟨(by first | assumption | (refine (i_in _ _).mpr ?_; simp only [i_lt, i_le, i_eq, i_0, i_of, am_n] at *; omega)), trivial⟩
    refine am_if_ne (tgt := 18) hX hi (off := (11)) (by decide +kernel) (by decide) (fun c7 => ?_) (fun c7 => ?_)
    · refine am_blk 18 [(.iload_n 0, 1, 0, 0, .null), (.iconst (1), 1, 0, 0, .int (1)), (.isub, 1, 0, 0, .null)] (21, [(0, .int x1), (1, .int x2)], [.int (x1 - (1))], I, G, P) (True) hX hi (by decide +kernel) rfl trivial ?_
      refine am_iret hX hi rfl rfl (by decide +kernel) ?_
      exact ⟨by unfold f_X4_leftOf; rw [if_neg c1, if_neg c7], rfl, rfl, rfl⟩
    · refine am_blk 10 [(.iload_n 0, 1, 0, 0, .null), (.iconst (1), 1, 0, 0, .int (1)), (.isub, 1, 0, 0, .null), (.iload_n 1, 1, 1, 0, .null), (.iadd, 1, 0, 0, .null), (.goto (6), 3, 0, 21, .null)] (21, [(0, .int x1), (1, .int x2)], [.int ((x1 - (1)) + x2)], I, G, P) (True) hX hi (by decide +kernel) rfl trivial ?_
      refine am_iret hX hi rfl rfl (by decide +kernel) ?_
      exact ⟨by unfold f_X4_leftOf; rw [if_neg c1, if_pos c7], rfl, rfl, rfl⟩
def f_X4_rightOf (I : am_I) (G : am_G) (x1 : Int32) (x2 : Int32) : Int32 := (if x2 ≤ 0 then (x1 + (1)) else (if (x1 - x1 / x2 * x2) = (x2 - (1)) then ((x1 + (1)) - x2) else (x1 + (1))))
set_option maxRecDepth 20000 in
set_option maxHeartbeats 1000000 in
theorem c_X4_rightOf {sh : List am_Sh} {P : am_P} (I : am_I) (G : am_G) (x1 : Int32) (x2 : Int32) : am_Ct mX4_rightOf 1 sh [.int x1, .int x2] I G P (pI (f_X4_rightOf I G x1 x2) I G P) := by
  refine am_ofF (by decide +kernel) rfl (by decide) (by decide) (Nat.le_of_ble_eq_true rfl) (fun X ad hX hi => ?_)
  have hi : am_info X 2 cX4_rightOf 2 false (Option.some Jvm.ClassFile.FieldType.int) 1 := hi
  show am_V X 0 0 _ _ ad (0, [(0, .int x1), (1, .int x2)], [], I, G, P)
  refine am_blk 0 [(.iload_n 1, 1, 1, 0, .null)] (1, [(0, .int x1), (1, .int x2)], [.int x2], I, G, P) (True) hX hi (by decide +kernel) rfl trivial ?_
  refine am_if_le (tgt := 21) hX hi (off := (20)) (by decide +kernel) (by decide) (fun c1 => ?_) (fun c1 => ?_)
  · refine am_blk 21 [(.iload_n 0, 1, 0, 0, .null), (.iconst (1), 1, 0, 0, .int (1)), (.iadd, 1, 0, 0, .null)] (24, [(0, .int x1), (1, .int x2)], [.int (x1 + (1))], I, G, P) (True) hX hi (by decide +kernel) rfl trivial ?_
    refine am_iret hX hi rfl rfl (by decide +kernel) ?_
    exact ⟨by unfold f_X4_rightOf; rw [if_pos c1], rfl, rfl, rfl⟩
  · refine am_blk 4 [(.iload_n 0, 1, 0, 0, .null), (.iload_n 1, 1, 1, 0, .null), (.irem, 1, 0, 0, .null), (.iload_n 1, 1, 1, 0, .null), (.iconst (1), 1, 0, 0, .int (1)), (.isub, 1, 0, 0, .null)] (10, [(0, .int x1), (1, .int x2)], [.int (x2 - (1)), .int (x1 - x1 / x2 * x2)], I, G, P) (¬ x2 = 0 ∧ True) hX hi (by decide +kernel) rfl ?_ ?_
    · exact ⟨(by first | assumption | (refine (i_in _ _).mpr ?_; simp only [i_lt, i_le, i_eq, i_0, i_of, am_n] at *; omega)), trivial⟩
    refine am_icmp_ne (tgt := 21) hX hi (off := (11)) (by decide +kernel) (by decide) (fun c10 => ?_) (fun c10 => ?_)
    · refine am_blk 21 [(.iload_n 0, 1, 0, 0, .null), (.iconst (1), 1, 0, 0, .int (1)), (.iadd, 1, 0, 0, .null)] (24, [(0, .int x1), (1, .int x2)], [.int (x1 + (1))], I, G, P) (True) hX hi (by decide +kernel) rfl trivial ?_
      refine am_iret hX hi rfl rfl (by decide +kernel) ?_
      exact ⟨by unfold f_X4_rightOf; rw [if_neg c1, if_neg c10], rfl, rfl, rfl⟩
    · refine am_blk 13 [(.iload_n 0, 1, 0, 0, .null), (.iconst (1), 1, 0, 0, .int (1)), (.iadd, 1, 0, 0, .null), (.iload_n 1, 1, 1, 0, .null), (.isub, 1, 0, 0, .null), (.goto (6), 3, 0, 24, .null)] (24, [(0, .int x1), (1, .int x2)], [.int ((x1 + (1)) - x2)], I, G, P) (True) hX hi (by decide +kernel) rfl trivial ?_
      refine am_iret hX hi rfl rfl (by decide +kernel) ?_
      exact ⟨by unfold f_X4_rightOf; rw [if_neg c1, if_pos c10], rfl, rfl, rfl⟩
def f_X4_above (I : am_I) (G : am_G) (x1 : Int32) (x2 : Int32) (x3 : Int32) : Int32 := (if x1 < x2 then ((x1 - x2) + x3) else (x1 - x2))
set_option maxRecDepth 20000 in
set_option maxHeartbeats 1000000 in
theorem c_X4_above {sh : List am_Sh} {P : am_P} (I : am_I) (G : am_G) (x1 : Int32) (x2 : Int32) (x3 : Int32) : am_Ct mX4_above 1 sh [.int x1, .int x2, .int x3] I G P (pI (f_X4_above I G x1 x2 x3) I G P) := by
  refine am_ofF (by decide +kernel) rfl (by decide) (by decide) (Nat.le_of_ble_eq_true rfl) (fun X ad hX hi => ?_)
  have hi : am_info X 2 cX4_above 3 false (Option.some Jvm.ClassFile.FieldType.int) 1 := hi
  show am_V X 0 0 _ _ ad (0, [(0, .int x1), (1, .int x2), (2, .int x3)], [], I, G, P)
  refine am_blk 0 [(.iload_n 0, 1, 0, 0, .null), (.iload_n 1, 1, 1, 0, .null)] (2, [(0, .int x1), (1, .int x2), (2, .int x3)], [.int x2, .int x1], I, G, P) (True) hX hi (by decide +kernel) rfl trivial ?_
  refine am_icmp_lt (tgt := 11) hX hi (off := (9)) (by decide +kernel) (by decide) (fun c2 => ?_) (fun c2 => ?_)
  · refine am_blk 11 [(.iload_n 0, 1, 0, 0, .null), (.iload_n 1, 1, 1, 0, .null), (.isub, 1, 0, 0, .null), (.iload_n 2, 1, 2, 0, .null), (.iadd, 1, 0, 0, .null)] (16, [(0, .int x1), (1, .int x2), (2, .int x3)], [.int ((x1 - x2) + x3)], I, G, P) (True) hX hi (by decide +kernel) rfl trivial ?_
    refine am_iret hX hi rfl rfl (by decide +kernel) ?_
    exact ⟨by unfold f_X4_above; rw [if_pos c2], rfl, rfl, rfl⟩
  · refine am_blk 5 [(.iload_n 0, 1, 0, 0, .null), (.iload_n 1, 1, 1, 0, .null), (.isub, 1, 0, 0, .null), (.goto (8), 3, 0, 16, .null)] (16, [(0, .int x1), (1, .int x2), (2, .int x3)], [.int (x1 - x2)], I, G, P) (True) hX hi (by decide +kernel) rfl trivial ?_
    refine am_iret hX hi rfl rfl (by decide +kernel) ?_
    exact ⟨by unfold f_X4_above; rw [if_neg c2], rfl, rfl, rfl⟩
def f_X4_below (I : am_I) (G : am_G) (x1 : Int32) (x2 : Int32) (x3 : Int32) : Int32 := (if x3 ≤ (x1 + x2) then ((x1 + x2) - x3) else (x1 + x2))
set_option maxRecDepth 20000 in
set_option maxHeartbeats 1000000 in
theorem c_X4_below {sh : List am_Sh} {P : am_P} (I : am_I) (G : am_G) (x1 : Int32) (x2 : Int32) (x3 : Int32) : am_Ct mX4_below 1 sh [.int x1, .int x2, .int x3] I G P (pI (f_X4_below I G x1 x2 x3) I G P) := by
  refine am_ofF (by decide +kernel) rfl (by decide) (by decide) (Nat.le_of_ble_eq_true rfl) (fun X ad hX hi => ?_)
  have hi : am_info X 2 cX4_below 3 false (Option.some Jvm.ClassFile.FieldType.int) 1 := hi
  show am_V X 0 0 _ _ ad (0, [(0, .int x1), (1, .int x2), (2, .int x3)], [], I, G, P)
  refine am_blk 0 [(.iload_n 0, 1, 0, 0, .null), (.iload_n 1, 1, 1, 0, .null), (.iadd, 1, 0, 0, .null), (.iload_n 2, 1, 2, 0, .null)] (4, [(0, .int x1), (1, .int x2), (2, .int x3)], [.int x3, .int (x1 + x2)], I, G, P) (True) hX hi (by decide +kernel) rfl trivial ?_
  refine am_icmp_ge (tgt := 13) hX hi (off := (9)) (by decide +kernel) (by decide) (fun c4 => ?_) (fun c4 => ?_)
  · refine am_blk 13 [(.iload_n 0, 1, 0, 0, .null), (.iload_n 1, 1, 1, 0, .null), (.iadd, 1, 0, 0, .null), (.iload_n 2, 1, 2, 0, .null), (.isub, 1, 0, 0, .null)] (18, [(0, .int x1), (1, .int x2), (2, .int x3)], [.int ((x1 + x2) - x3)], I, G, P) (True) hX hi (by decide +kernel) rfl trivial ?_
    refine am_iret hX hi rfl rfl (by decide +kernel) ?_
    exact ⟨by unfold f_X4_below; rw [if_pos c4], rfl, rfl, rfl⟩
  · refine am_blk 7 [(.iload_n 0, 1, 0, 0, .null), (.iload_n 1, 1, 1, 0, .null), (.iadd, 1, 0, 0, .null), (.goto (8), 3, 0, 18, .null)] (18, [(0, .int x1), (1, .int x2), (2, .int x3)], [.int (x1 + x2)], I, G, P) (True) hX hi (by decide +kernel) rfl trivial ?_
    refine am_iret hX hi rfl rfl (by decide +kernel) ?_
    exact ⟨by unfold f_X4_below; rw [if_neg c4], rfl, rfl, rfl⟩
def f_X4_sizeAt_60 (I : am_I) (G : am_G) (x1 : Int32) : Int32 := (gAt (I 62) 576 (gAt (I 61) 576 x1))
set_option maxRecDepth 20000 in
set_option maxHeartbeats 1000000 in
theorem c_X4_sizeAt_60 (rd : Nat) (I : am_I) (G : am_G) (x1 : Int32) : am_Ct mX4_sizeAt 2 gS [.ref 60, .int x1] I G (gP rd) (pI (f_X4_sizeAt_60 I G x1) I G (gP rd)) := by
  refine am_ofF (by decide +kernel) rfl (by decide) (by decide) (Nat.le_of_ble_eq_true rfl) (fun X ad hX hi => ?_)
  have hi : am_info X 2 cX4_sizeAt 2 false (Option.some Jvm.ClassFile.FieldType.int) 2 := hi
  show am_V X 0 0 _ _ ad (0, [(0, .ref 60), (1, .int x1)], [], I, G, (gP rd))
  refine am_blk 0 [(.aload_n 0, 1, 0, 0, .null), (.getfield 15, 3, 2, 1, .null), (.aload_n 0, 1, 0, 0, .null), (.getfield 9, 3, 2, 0, .null), (.iload_n 1, 1, 1, 0, .null)] (9, [(0, .ref 60), (1, .int x1)], [.int x1, .ref 61, .ref 62], I, G, (gP rd)) (True) hX hi (by decide +kernel) rfl trivial ?_
  refine am_callS hX hi (M := mX0_at) (idx := 34) (d' := 1) (As := [.ref 61, .int x1]) (rest := [.ref 62]) mkX0_at msX0_at (by decide +kernel) (by decide +kernel) rfl ⟨by decide, by decide, Nat.le_of_ble_eq_true rfl⟩ rfl (c_at rfl (by decide) x1) ?_
  rintro r9 I9 G9 P9 ⟨e0, e1, e2, e3⟩
  rw [e0, e1, e2, e3]
  show am_V X 0 0 _ _ ad (12, [(0, .ref 60), (1, .int x1)], [.int (gAt (I 61) 576 x1), .ref 62], I, G, (gP rd))
  refine am_callS hX hi (M := mX0_at) (idx := 34) (d' := 1) (As := [.ref 62, .int (gAt (I 61) 576 x1)]) (rest := []) mkX0_at msX0_at (by decide +kernel) (by decide +kernel) rfl ⟨by decide, by decide, Nat.le_of_ble_eq_true rfl⟩ rfl (c_at rfl (by decide) (gAt (I 61) 576 x1)) ?_
  rintro r9 I9 G9 P9 ⟨e0, e1, e2, e3⟩
  rw [e0, e1, e2, e3]
  show am_V X 0 0 _ _ ad (15, [(0, .ref 60), (1, .int x1)], [.int (gAt (I 62) 576 (gAt (I 61) 576 x1))], I, G, (gP rd))
  refine am_iret hX hi rfl rfl (by decide +kernel) ?_
  exact ⟨by unfold f_X4_sizeAt_60; rfl, rfl, rfl, rfl⟩
def f_X4_sizeAt_73 (I : am_I) (G : am_G) (x1 : Int32) : Int32 := (gAt (I 75) 576 (gAt (I 74) 576 x1))
set_option maxRecDepth 20000 in
set_option maxHeartbeats 1000000 in
theorem c_X4_sizeAt_73 (rd : Nat) (I : am_I) (G : am_G) (x1 : Int32) : am_Ct mX4_sizeAt 2 gS [.ref 73, .int x1] I G (gP rd) (pI (f_X4_sizeAt_73 I G x1) I G (gP rd)) := by
  refine am_ofF (by decide +kernel) rfl (by decide) (by decide) (Nat.le_of_ble_eq_true rfl) (fun X ad hX hi => ?_)
  have hi : am_info X 2 cX4_sizeAt 2 false (Option.some Jvm.ClassFile.FieldType.int) 2 := hi
  show am_V X 0 0 _ _ ad (0, [(0, .ref 73), (1, .int x1)], [], I, G, (gP rd))
  refine am_blk 0 [(.aload_n 0, 1, 0, 0, .null), (.getfield 15, 3, 2, 1, .null), (.aload_n 0, 1, 0, 0, .null), (.getfield 9, 3, 2, 0, .null), (.iload_n 1, 1, 1, 0, .null)] (9, [(0, .ref 73), (1, .int x1)], [.int x1, .ref 74, .ref 75], I, G, (gP rd)) (True) hX hi (by decide +kernel) rfl trivial ?_
  refine am_callS hX hi (M := mX0_at) (idx := 34) (d' := 1) (As := [.ref 74, .int x1]) (rest := [.ref 75]) mkX0_at msX0_at (by decide +kernel) (by decide +kernel) rfl ⟨by decide, by decide, Nat.le_of_ble_eq_true rfl⟩ rfl (c_at rfl (by decide) x1) ?_
  rintro r9 I9 G9 P9 ⟨e0, e1, e2, e3⟩
  rw [e0, e1, e2, e3]
  show am_V X 0 0 _ _ ad (12, [(0, .ref 73), (1, .int x1)], [.int (gAt (I 74) 576 x1), .ref 75], I, G, (gP rd))
  refine am_callS hX hi (M := mX0_at) (idx := 34) (d' := 1) (As := [.ref 75, .int (gAt (I 74) 576 x1)]) (rest := []) mkX0_at msX0_at (by decide +kernel) (by decide +kernel) rfl ⟨by decide, by decide, Nat.le_of_ble_eq_true rfl⟩ rfl (c_at rfl (by decide) (gAt (I 74) 576 x1)) ?_
  rintro r9 I9 G9 P9 ⟨e0, e1, e2, e3⟩
  rw [e0, e1, e2, e3]
  show am_V X 0 0 _ _ ad (15, [(0, .ref 73), (1, .int x1)], [.int (gAt (I 75) 576 (gAt (I 74) 576 x1))], I, G, (gP rd))
  refine am_iret hX hi rfl rfl (by decide +kernel) ?_
  exact ⟨by unfold f_X4_sizeAt_73; rfl, rfl, rfl, rfl⟩
def g_X5_clear_7 (I : am_I) (G : am_G)  : am_I := (g_X3_clear_16 (am_up (am_up (am_up (am_up (am_up I 7 9 (16)) 7 10 (12)) 7 11 (0)) 7 12 (0)) 7 13 (0)) G )
set_option maxRecDepth 20000 in
set_option maxHeartbeats 1000000 in
theorem c_X5_clear_7 (rd : Nat) (I : am_I) (G : am_G)  : am_Ct mX5_clear 2 gS [.ref 7] I G (gP rd) (pV (g_X5_clear_7 I G ) G (gP rd)) := by
  refine am_ofF (by decide +kernel) rfl (by decide) (by decide) (Nat.le_of_ble_eq_true rfl) (fun X ad hX hi => ?_)
  have hi : am_info X 3 cX5_clear 1 false none 2 := hi
  show am_V X 0 0 _ _ ad (0, [(0, .ref 7)], [], I, G, (gP rd))
  refine am_blk 0 [(.aload_n 0, 1, 0, 0, .null), (.bipush (16), 2, 0, 0, .int (16)), (.putfield 43, 3, 3, 9, .null), (.aload_n 0, 1, 0, 0, .null), (.bipush (12), 2, 0, 0, .int (12)), (.putfield 47, 3, 3, 10, .null), (.aload_n 0, 1, 0, 0, .null), (.iconst (0), 1, 0, 0, .int (0)), (.putfield 50, 3, 3, 11, .null), (.aload_n 0, 1, 0, 0, .null), (.iconst (0), 1, 0, 0, .int (0)), (.putfield 53, 3, 3, 12, .null), (.aload_n 0, 1, 0, 0, .null), (.iconst (0), 1, 0, 0, .int (0)), (.putfield 56, 3, 3, 13, .null), (.aload_n 0, 1, 0, 0, .null), (.getfield 39, 3, 3, 8, .null)] (31, [(0, .ref 7)], [.ref 16], (am_up (am_up (am_up (am_up (am_up I 7 9 (16)) 7 10 (12)) 7 11 (0)) 7 12 (0)) 7 13 (0)), G, (gP rd)) (True) hX hi (by decide +kernel) rfl trivial ?_
  refine am_callV hX hi (M := mX3_clear) (idx := 59) (d' := 1) (b := 16) (ci := 1) (As := []) (rest := []) mkX3_clear miX3_clear mvX3_clear (by decide +kernel) (by decide +kernel) rfl (by decide +kernel) rfl ⟨by decide, by decide, Nat.le_of_ble_eq_true rfl⟩ rfl (c_X3_clear_16 rd (am_up (am_up (am_up (am_up (am_up I 7 9 (16)) 7 10 (12)) 7 11 (0)) 7 12 (0)) 7 13 (0)) G ) ?_
  rintro r9 I9 G9 P9 ⟨e0, e1, e2, e3⟩
  rw [e0, e1, e2, e3]
  show am_V X 0 0 _ _ ad (34, [(0, .ref 7)], [], (g_X3_clear_16 (am_up (am_up (am_up (am_up (am_up I 7 9 (16)) 7 10 (12)) 7 11 (0)) 7 12 (0)) 7 13 (0)) G ), G, (gP rd))
  refine am_vret hX hi rfl (by decide +kernel) ?_
  exact ⟨rfl, by unfold g_X5_clear_7; rfl, rfl, rfl⟩
def g_X5_clear_29 (I : am_I) (G : am_G)  : am_I := (g_X3_clear_38 (am_up (am_up (am_up (am_up (am_up I 29 9 (16)) 29 10 (12)) 29 11 (0)) 29 12 (0)) 29 13 (0)) G )
set_option maxRecDepth 20000 in
set_option maxHeartbeats 1000000 in
theorem c_X5_clear_29 (rd : Nat) (I : am_I) (G : am_G)  : am_Ct mX5_clear 2 gS [.ref 29] I G (gP rd) (pV (g_X5_clear_29 I G ) G (gP rd)) := by
  refine am_ofF (by decide +kernel) rfl (by decide) (by decide) (Nat.le_of_ble_eq_true rfl) (fun X ad hX hi => ?_)
  have hi : am_info X 3 cX5_clear 1 false none 2 := hi
  show am_V X 0 0 _ _ ad (0, [(0, .ref 29)], [], I, G, (gP rd))
  refine am_blk 0 [(.aload_n 0, 1, 0, 0, .null), (.bipush (16), 2, 0, 0, .int (16)), (.putfield 43, 3, 3, 9, .null), (.aload_n 0, 1, 0, 0, .null), (.bipush (12), 2, 0, 0, .int (12)), (.putfield 47, 3, 3, 10, .null), (.aload_n 0, 1, 0, 0, .null), (.iconst (0), 1, 0, 0, .int (0)), (.putfield 50, 3, 3, 11, .null), (.aload_n 0, 1, 0, 0, .null), (.iconst (0), 1, 0, 0, .int (0)), (.putfield 53, 3, 3, 12, .null), (.aload_n 0, 1, 0, 0, .null), (.iconst (0), 1, 0, 0, .int (0)), (.putfield 56, 3, 3, 13, .null), (.aload_n 0, 1, 0, 0, .null), (.getfield 39, 3, 3, 8, .null)] (31, [(0, .ref 29)], [.ref 38], (am_up (am_up (am_up (am_up (am_up I 29 9 (16)) 29 10 (12)) 29 11 (0)) 29 12 (0)) 29 13 (0)), G, (gP rd)) (True) hX hi (by decide +kernel) rfl trivial ?_
  refine am_callV hX hi (M := mX3_clear) (idx := 59) (d' := 1) (b := 38) (ci := 1) (As := []) (rest := []) mkX3_clear miX3_clear mvX3_clear (by decide +kernel) (by decide +kernel) rfl (by decide +kernel) rfl ⟨by decide, by decide, Nat.le_of_ble_eq_true rfl⟩ rfl (c_X3_clear_38 rd (am_up (am_up (am_up (am_up (am_up I 29 9 (16)) 29 10 (12)) 29 11 (0)) 29 12 (0)) 29 13 (0)) G ) ?_
  rintro r9 I9 G9 P9 ⟨e0, e1, e2, e3⟩
  rw [e0, e1, e2, e3]
  show am_V X 0 0 _ _ ad (34, [(0, .ref 29)], [], (g_X3_clear_38 (am_up (am_up (am_up (am_up (am_up I 29 9 (16)) 29 10 (12)) 29 11 (0)) 29 12 (0)) 29 13 (0)) G ), G, (gP rd))
  refine am_vret hX hi rfl (by decide +kernel) ?_
  exact ⟨rfl, by unfold g_X5_clear_29; rfl, rfl, rfl⟩
def g_X5_addOctave_7 (I : am_I) (G : am_G) (x1 : Int32) (x2 : Int32) (x3 : Int32) (x4 : Int32) : am_I := (am_up (gPut (gPut (gPut (gPut I 8 4 (I 7 11) x1) 9 4 ((gPut I 8 4 (I 7 11) x1) 7 11) x2) 10 4 ((gPut (gPut I 8 4 (I 7 11) x1) 9 4 ((gPut I 8 4 (I 7 11) x1) 7 11) x2) 7 11) x3) 11 4 ((gPut (gPut (gPut I 8 4 (I 7 11) x1) 9 4 ((gPut I 8 4 (I 7 11) x1) 7 11) x2) 10 4 ((gPut (gPut I 8 4 (I 7 11) x1) 9 4 ((gPut I 8 4 (I 7 11) x1) 7 11) x2) 7 11) x3) 7 11) x4) 7 11 (if (4) < (((gPut (gPut (gPut (gPut I 8 4 (I 7 11) x1) 9 4 ((gPut I 8 4 (I 7 11) x1) 7 11) x2) 10 4 ((gPut (gPut I 8 4 (I 7 11) x1) 9 4 ((gPut I 8 4 (I 7 11) x1) 7 11) x2) 7 11) x3) 11 4 ((gPut (gPut (gPut I 8 4 (I 7 11) x1) 9 4 ((gPut I 8 4 (I 7 11) x1) 7 11) x2) 10 4 ((gPut (gPut I 8 4 (I 7 11) x1) 9 4 ((gPut I 8 4 (I 7 11) x1) 7 11) x2) 7 11) x3) 7 11) x4) 7 11) + (1)) then (4) else (((gPut (gPut (gPut (gPut I 8 4 (I 7 11) x1) 9 4 ((gPut I 8 4 (I 7 11) x1) 7 11) x2) 10 4 ((gPut (gPut I 8 4 (I 7 11) x1) 9 4 ((gPut I 8 4 (I 7 11) x1) 7 11) x2) 7 11) x3) 11 4 ((gPut (gPut (gPut I 8 4 (I 7 11) x1) 9 4 ((gPut I 8 4 (I 7 11) x1) 7 11) x2) 10 4 ((gPut (gPut I 8 4 (I 7 11) x1) 9 4 ((gPut I 8 4 (I 7 11) x1) 7 11) x2) 7 11) x3) 7 11) x4) 7 11) + (1))))
set_option maxRecDepth 20000 in
set_option maxHeartbeats 1000000 in
theorem c_X5_addOctave_7 (rd : Nat) (I : am_I) (G : am_G) (x1 : Int32) (x2 : Int32) (x3 : Int32) (x4 : Int32) : am_Ct mX5_addOctave 2 gS [.ref 7, .int x1, .int x2, .int x3, .int x4] I G (gP rd) (pV (g_X5_addOctave_7 I G x1 x2 x3 x4) G (gP rd)) := by
  refine am_ofF (by decide +kernel) rfl (by decide) (by decide) (Nat.le_of_ble_eq_true rfl) (fun X ad hX hi => ?_)
  have hi : am_info X 3 cX5_addOctave 5 false none 2 := hi
  show am_V X 0 0 _ _ ad (0, [(0, .ref 7), (1, .int x1), (2, .int x2), (3, .int x3), (4, .int x4)], [], I, G, (gP rd))
  refine am_blk 0 [(.aload_n 0, 1, 0, 0, .null), (.getfield 9, 3, 3, 0, .null), (.aload_n 0, 1, 0, 0, .null), (.getfield 50, 3, 3, 11, .null), (.iload_n 1, 1, 1, 0, .null)] (9, [(0, .ref 7), (1, .int x1), (2, .int x2), (3, .int x3), (4, .int x4)], [.int x1, .int (I 7 11), .ref 8], I, G, (gP rd)) (True) hX hi (by decide +kernel) rfl trivial ?_
  refine am_callS hX hi (M := mX0_put) (idx := 62) (d' := 1) (As := [.ref 8, .int (I 7 11), .int x1]) (rest := []) mkX0_put msX0_put (by decide +kernel) (by decide +kernel) rfl ⟨by decide, by decide, Nat.le_of_ble_eq_true rfl⟩ rfl (c_put rfl (by decide) (I 7 11) x1) ?_
  rintro r9 I9 G9 P9 ⟨e0, e1, e2, e3⟩
  rw [e0, e1, e2, e3]
  show am_V X 0 0 _ _ ad (12, [(0, .ref 7), (1, .int x1), (2, .int x2), (3, .int x3), (4, .int x4)], [], (gPut I 8 4 (I 7 11) x1), G, (gP rd))
  refine am_blk 12 [(.aload_n 0, 1, 0, 0, .null), (.getfield 15, 3, 3, 1, .null), (.aload_n 0, 1, 0, 0, .null), (.getfield 50, 3, 3, 11, .null), (.iload_n 2, 1, 2, 0, .null)] (21, [(0, .ref 7), (1, .int x1), (2, .int x2), (3, .int x3), (4, .int x4)], [.int x2, .int ((gPut I 8 4 (I 7 11) x1) 7 11), .ref 9], (gPut I 8 4 (I 7 11) x1), G, (gP rd)) (True) hX hi (by decide +kernel) rfl trivial ?_
  refine am_callS hX hi (M := mX0_put) (idx := 62) (d' := 1) (As := [.ref 9, .int ((gPut I 8 4 (I 7 11) x1) 7 11), .int x2]) (rest := []) mkX0_put msX0_put (by decide +kernel) (by decide +kernel) rfl ⟨by decide, by decide, Nat.le_of_ble_eq_true rfl⟩ rfl (c_put rfl (by decide) ((gPut I 8 4 (I 7 11) x1) 7 11) x2) ?_
  rintro r9 I9 G9 P9 ⟨e0, e1, e2, e3⟩
  rw [e0, e1, e2, e3]
  show am_V X 0 0 _ _ ad (24, [(0, .ref 7), (1, .int x1), (2, .int x2), (3, .int x3), (4, .int x4)], [], (gPut (gPut I 8 4 (I 7 11) x1) 9 4 ((gPut I 8 4 (I 7 11) x1) 7 11) x2), G, (gP rd))
  refine am_blk 24 [(.aload_n 0, 1, 0, 0, .null), (.getfield 18, 3, 3, 2, .null), (.aload_n 0, 1, 0, 0, .null), (.getfield 50, 3, 3, 11, .null), (.iload_n 3, 1, 3, 0, .null)] (33, [(0, .ref 7), (1, .int x1), (2, .int x2), (3, .int x3), (4, .int x4)], [.int x3, .int ((gPut (gPut I 8 4 (I 7 11) x1) 9 4 ((gPut I 8 4 (I 7 11) x1) 7 11) x2) 7 11), .ref 10], (gPut (gPut I 8 4 (I 7 11) x1) 9 4 ((gPut I 8 4 (I 7 11) x1) 7 11) x2), G, (gP rd)) (True) hX hi (by decide +kernel) rfl trivial ?_
  refine am_callS hX hi (M := mX0_put) (idx := 62) (d' := 1) (As := [.ref 10, .int ((gPut (gPut I 8 4 (I 7 11) x1) 9 4 ((gPut I 8 4 (I 7 11) x1) 7 11) x2) 7 11), .int x3]) (rest := []) mkX0_put msX0_put (by decide +kernel) (by decide +kernel) rfl ⟨by decide, by decide, Nat.le_of_ble_eq_true rfl⟩ rfl (c_put rfl (by decide) ((gPut (gPut I 8 4 (I 7 11) x1) 9 4 ((gPut I 8 4 (I 7 11) x1) 7 11) x2) 7 11) x3) ?_
  rintro r9 I9 G9 P9 ⟨e0, e1, e2, e3⟩
  rw [e0, e1, e2, e3]
  show am_V X 0 0 _ _ ad (36, [(0, .ref 7), (1, .int x1), (2, .int x2), (3, .int x3), (4, .int x4)], [], (gPut (gPut (gPut I 8 4 (I 7 11) x1) 9 4 ((gPut I 8 4 (I 7 11) x1) 7 11) x2) 10 4 ((gPut (gPut I 8 4 (I 7 11) x1) 9 4 ((gPut I 8 4 (I 7 11) x1) 7 11) x2) 7 11) x3), G, (gP rd))
  refine am_blk 36 [(.aload_n 0, 1, 0, 0, .null), (.getfield 21, 3, 3, 3, .null), (.aload_n 0, 1, 0, 0, .null), (.getfield 50, 3, 3, 11, .null), (.iload 4, 2, 4, 0, .null)] (46, [(0, .ref 7), (1, .int x1), (2, .int x2), (3, .int x3), (4, .int x4)], [.int x4, .int ((gPut (gPut (gPut I 8 4 (I 7 11) x1) 9 4 ((gPut I 8 4 (I 7 11) x1) 7 11) x2) 10 4 ((gPut (gPut I 8 4 (I 7 11) x1) 9 4 ((gPut I 8 4 (I 7 11) x1) 7 11) x2) 7 11) x3) 7 11), .ref 11], (gPut (gPut (gPut I 8 4 (I 7 11) x1) 9 4 ((gPut I 8 4 (I 7 11) x1) 7 11) x2) 10 4 ((gPut (gPut I 8 4 (I 7 11) x1) 9 4 ((gPut I 8 4 (I 7 11) x1) 7 11) x2) 7 11) x3), G, (gP rd)) (True) hX hi (by decide +kernel) rfl trivial ?_
  refine am_callS hX hi (M := mX0_put) (idx := 62) (d' := 1) (As := [.ref 11, .int ((gPut (gPut (gPut I 8 4 (I 7 11) x1) 9 4 ((gPut I 8 4 (I 7 11) x1) 7 11) x2) 10 4 ((gPut (gPut I 8 4 (I 7 11) x1) 9 4 ((gPut I 8 4 (I 7 11) x1) 7 11) x2) 7 11) x3) 7 11), .int x4]) (rest := []) mkX0_put msX0_put (by decide +kernel) (by decide +kernel) rfl ⟨by decide, by decide, Nat.le_of_ble_eq_true rfl⟩ rfl (c_put rfl (by decide) ((gPut (gPut (gPut I 8 4 (I 7 11) x1) 9 4 ((gPut I 8 4 (I 7 11) x1) 7 11) x2) 10 4 ((gPut (gPut I 8 4 (I 7 11) x1) 9 4 ((gPut I 8 4 (I 7 11) x1) 7 11) x2) 7 11) x3) 7 11) x4) ?_
  rintro r9 I9 G9 P9 ⟨e0, e1, e2, e3⟩
  rw [e0, e1, e2, e3]
  show am_V X 0 0 _ _ ad (49, [(0, .ref 7), (1, .int x1), (2, .int x2), (3, .int x3), (4, .int x4)], [], (gPut (gPut (gPut (gPut I 8 4 (I 7 11) x1) 9 4 ((gPut I 8 4 (I 7 11) x1) 7 11) x2) 10 4 ((gPut (gPut I 8 4 (I 7 11) x1) 9 4 ((gPut I 8 4 (I 7 11) x1) 7 11) x2) 7 11) x3) 11 4 ((gPut (gPut (gPut I 8 4 (I 7 11) x1) 9 4 ((gPut I 8 4 (I 7 11) x1) 7 11) x2) 10 4 ((gPut (gPut I 8 4 (I 7 11) x1) 9 4 ((gPut I 8 4 (I 7 11) x1) 7 11) x2) 7 11) x3) 7 11) x4), G, (gP rd))
  refine am_blk 49 [(.aload_n 0, 1, 0, 0, .null), (.aload_n 0, 1, 0, 0, .null), (.getfield 50, 3, 3, 11, .null), (.iconst (1), 1, 0, 0, .int (1)), (.iadd, 1, 0, 0, .null), (.iconst (4), 1, 0, 0, .int (4)), (.invokestatic 68, 3, 1, 0, .null), (.putfield 50, 3, 3, 11, .null)] (63, [(0, .ref 7), (1, .int x1), (2, .int x2), (3, .int x3), (4, .int x4)], [], (am_up (gPut (gPut (gPut (gPut I 8 4 (I 7 11) x1) 9 4 ((gPut I 8 4 (I 7 11) x1) 7 11) x2) 10 4 ((gPut (gPut I 8 4 (I 7 11) x1) 9 4 ((gPut I 8 4 (I 7 11) x1) 7 11) x2) 7 11) x3) 11 4 ((gPut (gPut (gPut I 8 4 (I 7 11) x1) 9 4 ((gPut I 8 4 (I 7 11) x1) 7 11) x2) 10 4 ((gPut (gPut I 8 4 (I 7 11) x1) 9 4 ((gPut I 8 4 (I 7 11) x1) 7 11) x2) 7 11) x3) 7 11) x4) 7 11 (if (4) < (((gPut (gPut (gPut (gPut I 8 4 (I 7 11) x1) 9 4 ((gPut I 8 4 (I 7 11) x1) 7 11) x2) 10 4 ((gPut (gPut I 8 4 (I 7 11) x1) 9 4 ((gPut I 8 4 (I 7 11) x1) 7 11) x2) 7 11) x3) 11 4 ((gPut (gPut (gPut I 8 4 (I 7 11) x1) 9 4 ((gPut I 8 4 (I 7 11) x1) 7 11) x2) 10 4 ((gPut (gPut I 8 4 (I 7 11) x1) 9 4 ((gPut I 8 4 (I 7 11) x1) 7 11) x2) 7 11) x3) 7 11) x4) 7 11) + (1)) then (4) else (((gPut (gPut (gPut (gPut I 8 4 (I 7 11) x1) 9 4 ((gPut I 8 4 (I 7 11) x1) 7 11) x2) 10 4 ((gPut (gPut I 8 4 (I 7 11) x1) 9 4 ((gPut I 8 4 (I 7 11) x1) 7 11) x2) 7 11) x3) 11 4 ((gPut (gPut (gPut I 8 4 (I 7 11) x1) 9 4 ((gPut I 8 4 (I 7 11) x1) 7 11) x2) 10 4 ((gPut (gPut I 8 4 (I 7 11) x1) 9 4 ((gPut I 8 4 (I 7 11) x1) 7 11) x2) 7 11) x3) 7 11) x4) 7 11) + (1)))), G, (gP rd)) (True) hX hi (by decide +kernel) rfl trivial ?_
  refine am_vret hX hi rfl (by decide +kernel) ?_
  exact ⟨rfl, by unfold g_X5_addOctave_7; rfl, rfl, rfl⟩
def g_X5_addOctave_29 (I : am_I) (G : am_G) (x1 : Int32) (x2 : Int32) (x3 : Int32) (x4 : Int32) : am_I := (am_up (gPut (gPut (gPut (gPut I 30 4 (I 29 11) x1) 31 4 ((gPut I 30 4 (I 29 11) x1) 29 11) x2) 32 4 ((gPut (gPut I 30 4 (I 29 11) x1) 31 4 ((gPut I 30 4 (I 29 11) x1) 29 11) x2) 29 11) x3) 33 4 ((gPut (gPut (gPut I 30 4 (I 29 11) x1) 31 4 ((gPut I 30 4 (I 29 11) x1) 29 11) x2) 32 4 ((gPut (gPut I 30 4 (I 29 11) x1) 31 4 ((gPut I 30 4 (I 29 11) x1) 29 11) x2) 29 11) x3) 29 11) x4) 29 11 (if (4) < (((gPut (gPut (gPut (gPut I 30 4 (I 29 11) x1) 31 4 ((gPut I 30 4 (I 29 11) x1) 29 11) x2) 32 4 ((gPut (gPut I 30 4 (I 29 11) x1) 31 4 ((gPut I 30 4 (I 29 11) x1) 29 11) x2) 29 11) x3) 33 4 ((gPut (gPut (gPut I 30 4 (I 29 11) x1) 31 4 ((gPut I 30 4 (I 29 11) x1) 29 11) x2) 32 4 ((gPut (gPut I 30 4 (I 29 11) x1) 31 4 ((gPut I 30 4 (I 29 11) x1) 29 11) x2) 29 11) x3) 29 11) x4) 29 11) + (1)) then (4) else (((gPut (gPut (gPut (gPut I 30 4 (I 29 11) x1) 31 4 ((gPut I 30 4 (I 29 11) x1) 29 11) x2) 32 4 ((gPut (gPut I 30 4 (I 29 11) x1) 31 4 ((gPut I 30 4 (I 29 11) x1) 29 11) x2) 29 11) x3) 33 4 ((gPut (gPut (gPut I 30 4 (I 29 11) x1) 31 4 ((gPut I 30 4 (I 29 11) x1) 29 11) x2) 32 4 ((gPut (gPut I 30 4 (I 29 11) x1) 31 4 ((gPut I 30 4 (I 29 11) x1) 29 11) x2) 29 11) x3) 29 11) x4) 29 11) + (1))))
set_option maxRecDepth 20000 in
set_option maxHeartbeats 1000000 in
theorem c_X5_addOctave_29 (rd : Nat) (I : am_I) (G : am_G) (x1 : Int32) (x2 : Int32) (x3 : Int32) (x4 : Int32) : am_Ct mX5_addOctave 2 gS [.ref 29, .int x1, .int x2, .int x3, .int x4] I G (gP rd) (pV (g_X5_addOctave_29 I G x1 x2 x3 x4) G (gP rd)) := by
  refine am_ofF (by decide +kernel) rfl (by decide) (by decide) (Nat.le_of_ble_eq_true rfl) (fun X ad hX hi => ?_)
  have hi : am_info X 3 cX5_addOctave 5 false none 2 := hi
  show am_V X 0 0 _ _ ad (0, [(0, .ref 29), (1, .int x1), (2, .int x2), (3, .int x3), (4, .int x4)], [], I, G, (gP rd))
  refine am_blk 0 [(.aload_n 0, 1, 0, 0, .null), (.getfield 9, 3, 3, 0, .null), (.aload_n 0, 1, 0, 0, .null), (.getfield 50, 3, 3, 11, .null), (.iload_n 1, 1, 1, 0, .null)] (9, [(0, .ref 29), (1, .int x1), (2, .int x2), (3, .int x3), (4, .int x4)], [.int x1, .int (I 29 11), .ref 30], I, G, (gP rd)) (True) hX hi (by decide +kernel) rfl trivial ?_
  refine am_callS hX hi (M := mX0_put) (idx := 62) (d' := 1) (As := [.ref 30, .int (I 29 11), .int x1]) (rest := []) mkX0_put msX0_put (by decide +kernel) (by decide +kernel) rfl ⟨by decide, by decide, Nat.le_of_ble_eq_true rfl⟩ rfl (c_put rfl (by decide) (I 29 11) x1) ?_
  rintro r9 I9 G9 P9 ⟨e0, e1, e2, e3⟩
  rw [e0, e1, e2, e3]
  show am_V X 0 0 _ _ ad (12, [(0, .ref 29), (1, .int x1), (2, .int x2), (3, .int x3), (4, .int x4)], [], (gPut I 30 4 (I 29 11) x1), G, (gP rd))
  refine am_blk 12 [(.aload_n 0, 1, 0, 0, .null), (.getfield 15, 3, 3, 1, .null), (.aload_n 0, 1, 0, 0, .null), (.getfield 50, 3, 3, 11, .null), (.iload_n 2, 1, 2, 0, .null)] (21, [(0, .ref 29), (1, .int x1), (2, .int x2), (3, .int x3), (4, .int x4)], [.int x2, .int ((gPut I 30 4 (I 29 11) x1) 29 11), .ref 31], (gPut I 30 4 (I 29 11) x1), G, (gP rd)) (True) hX hi (by decide +kernel) rfl trivial ?_
  refine am_callS hX hi (M := mX0_put) (idx := 62) (d' := 1) (As := [.ref 31, .int ((gPut I 30 4 (I 29 11) x1) 29 11), .int x2]) (rest := []) mkX0_put msX0_put (by decide +kernel) (by decide +kernel) rfl ⟨by decide, by decide, Nat.le_of_ble_eq_true rfl⟩ rfl (c_put rfl (by decide) ((gPut I 30 4 (I 29 11) x1) 29 11) x2) ?_
  rintro r9 I9 G9 P9 ⟨e0, e1, e2, e3⟩
  rw [e0, e1, e2, e3]
  show am_V X 0 0 _ _ ad (24, [(0, .ref 29), (1, .int x1), (2, .int x2), (3, .int x3), (4, .int x4)], [], (gPut (gPut I 30 4 (I 29 11) x1) 31 4 ((gPut I 30 4 (I 29 11) x1) 29 11) x2), G, (gP rd))
  refine am_blk 24 [(.aload_n 0, 1, 0, 0, .null), (.getfield 18, 3, 3, 2, .null), (.aload_n 0, 1, 0, 0, .null), (.getfield 50, 3, 3, 11, .null), (.iload_n 3, 1, 3, 0, .null)] (33, [(0, .ref 29), (1, .int x1), (2, .int x2), (3, .int x3), (4, .int x4)], [.int x3, .int ((gPut (gPut I 30 4 (I 29 11) x1) 31 4 ((gPut I 30 4 (I 29 11) x1) 29 11) x2) 29 11), .ref 32], (gPut (gPut I 30 4 (I 29 11) x1) 31 4 ((gPut I 30 4 (I 29 11) x1) 29 11) x2), G, (gP rd)) (True) hX hi (by decide +kernel) rfl trivial ?_
  refine am_callS hX hi (M := mX0_put) (idx := 62) (d' := 1) (As := [.ref 32, .int ((gPut (gPut I 30 4 (I 29 11) x1) 31 4 ((gPut I 30 4 (I 29 11) x1) 29 11) x2) 29 11), .int x3]) (rest := []) mkX0_put msX0_put (by decide +kernel) (by decide +kernel) rfl ⟨by decide, by decide, Nat.le_of_ble_eq_true rfl⟩ rfl (c_put rfl (by decide) ((gPut (gPut I 30 4 (I 29 11) x1) 31 4 ((gPut I 30 4 (I 29 11) x1) 29 11) x2) 29 11) x3) ?_
  rintro r9 I9 G9 P9 ⟨e0, e1, e2, e3⟩
  rw [e0, e1, e2, e3]
  show am_V X 0 0 _ _ ad (36, [(0, .ref 29), (1, .int x1), (2, .int x2), (3, .int x3), (4, .int x4)], [], (gPut (gPut (gPut I 30 4 (I 29 11) x1) 31 4 ((gPut I 30 4 (I 29 11) x1) 29 11) x2) 32 4 ((gPut (gPut I 30 4 (I 29 11) x1) 31 4 ((gPut I 30 4 (I 29 11) x1) 29 11) x2) 29 11) x3), G, (gP rd))
  refine am_blk 36 [(.aload_n 0, 1, 0, 0, .null), (.getfield 21, 3, 3, 3, .null), (.aload_n 0, 1, 0, 0, .null), (.getfield 50, 3, 3, 11, .null), (.iload 4, 2, 4, 0, .null)] (46, [(0, .ref 29), (1, .int x1), (2, .int x2), (3, .int x3), (4, .int x4)], [.int x4, .int ((gPut (gPut (gPut I 30 4 (I 29 11) x1) 31 4 ((gPut I 30 4 (I 29 11) x1) 29 11) x2) 32 4 ((gPut (gPut I 30 4 (I 29 11) x1) 31 4 ((gPut I 30 4 (I 29 11) x1) 29 11) x2) 29 11) x3) 29 11), .ref 33], (gPut (gPut (gPut I 30 4 (I 29 11) x1) 31 4 ((gPut I 30 4 (I 29 11) x1) 29 11) x2) 32 4 ((gPut (gPut I 30 4 (I 29 11) x1) 31 4 ((gPut I 30 4 (I 29 11) x1) 29 11) x2) 29 11) x3), G, (gP rd)) (True) hX hi (by decide +kernel) rfl trivial ?_
  refine am_callS hX hi (M := mX0_put) (idx := 62) (d' := 1) (As := [.ref 33, .int ((gPut (gPut (gPut I 30 4 (I 29 11) x1) 31 4 ((gPut I 30 4 (I 29 11) x1) 29 11) x2) 32 4 ((gPut (gPut I 30 4 (I 29 11) x1) 31 4 ((gPut I 30 4 (I 29 11) x1) 29 11) x2) 29 11) x3) 29 11), .int x4]) (rest := []) mkX0_put msX0_put (by decide +kernel) (by decide +kernel) rfl ⟨by decide, by decide, Nat.le_of_ble_eq_true rfl⟩ rfl (c_put rfl (by decide) ((gPut (gPut (gPut I 30 4 (I 29 11) x1) 31 4 ((gPut I 30 4 (I 29 11) x1) 29 11) x2) 32 4 ((gPut (gPut I 30 4 (I 29 11) x1) 31 4 ((gPut I 30 4 (I 29 11) x1) 29 11) x2) 29 11) x3) 29 11) x4) ?_
  rintro r9 I9 G9 P9 ⟨e0, e1, e2, e3⟩
  rw [e0, e1, e2, e3]
  show am_V X 0 0 _ _ ad (49, [(0, .ref 29), (1, .int x1), (2, .int x2), (3, .int x3), (4, .int x4)], [], (gPut (gPut (gPut (gPut I 30 4 (I 29 11) x1) 31 4 ((gPut I 30 4 (I 29 11) x1) 29 11) x2) 32 4 ((gPut (gPut I 30 4 (I 29 11) x1) 31 4 ((gPut I 30 4 (I 29 11) x1) 29 11) x2) 29 11) x3) 33 4 ((gPut (gPut (gPut I 30 4 (I 29 11) x1) 31 4 ((gPut I 30 4 (I 29 11) x1) 29 11) x2) 32 4 ((gPut (gPut I 30 4 (I 29 11) x1) 31 4 ((gPut I 30 4 (I 29 11) x1) 29 11) x2) 29 11) x3) 29 11) x4), G, (gP rd))
  refine am_blk 49 [(.aload_n 0, 1, 0, 0, .null), (.aload_n 0, 1, 0, 0, .null), (.getfield 50, 3, 3, 11, .null), (.iconst (1), 1, 0, 0, .int (1)), (.iadd, 1, 0, 0, .null), (.iconst (4), 1, 0, 0, .int (4)), (.invokestatic 68, 3, 1, 0, .null), (.putfield 50, 3, 3, 11, .null)] (63, [(0, .ref 29), (1, .int x1), (2, .int x2), (3, .int x3), (4, .int x4)], [], (am_up (gPut (gPut (gPut (gPut I 30 4 (I 29 11) x1) 31 4 ((gPut I 30 4 (I 29 11) x1) 29 11) x2) 32 4 ((gPut (gPut I 30 4 (I 29 11) x1) 31 4 ((gPut I 30 4 (I 29 11) x1) 29 11) x2) 29 11) x3) 33 4 ((gPut (gPut (gPut I 30 4 (I 29 11) x1) 31 4 ((gPut I 30 4 (I 29 11) x1) 29 11) x2) 32 4 ((gPut (gPut I 30 4 (I 29 11) x1) 31 4 ((gPut I 30 4 (I 29 11) x1) 29 11) x2) 29 11) x3) 29 11) x4) 29 11 (if (4) < (((gPut (gPut (gPut (gPut I 30 4 (I 29 11) x1) 31 4 ((gPut I 30 4 (I 29 11) x1) 29 11) x2) 32 4 ((gPut (gPut I 30 4 (I 29 11) x1) 31 4 ((gPut I 30 4 (I 29 11) x1) 29 11) x2) 29 11) x3) 33 4 ((gPut (gPut (gPut I 30 4 (I 29 11) x1) 31 4 ((gPut I 30 4 (I 29 11) x1) 29 11) x2) 32 4 ((gPut (gPut I 30 4 (I 29 11) x1) 31 4 ((gPut I 30 4 (I 29 11) x1) 29 11) x2) 29 11) x3) 29 11) x4) 29 11) + (1)) then (4) else (((gPut (gPut (gPut (gPut I 30 4 (I 29 11) x1) 31 4 ((gPut I 30 4 (I 29 11) x1) 29 11) x2) 32 4 ((gPut (gPut I 30 4 (I 29 11) x1) 31 4 ((gPut I 30 4 (I 29 11) x1) 29 11) x2) 29 11) x3) 33 4 ((gPut (gPut (gPut I 30 4 (I 29 11) x1) 31 4 ((gPut I 30 4 (I 29 11) x1) 29 11) x2) 32 4 ((gPut (gPut I 30 4 (I 29 11) x1) 31 4 ((gPut I 30 4 (I 29 11) x1) 29 11) x2) 29 11) x3) 29 11) x4) 29 11) + (1)))), G, (gP rd)) (True) hX hi (by decide +kernel) rfl trivial ?_
  refine am_vret hX hi rfl (by decide +kernel) ?_
  exact ⟨rfl, by unfold g_X5_addOctave_29; rfl, rfl, rfl⟩
def g_X5_addComb_7 (I : am_I) (G : am_G) (x1 : Int32) (x2 : Int32) (x3 : Int32) : am_I := (am_up (gPut (gPut (gPut I 12 4 (I 7 12) x1) 13 4 ((gPut I 12 4 (I 7 12) x1) 7 12) x2) 14 4 ((gPut (gPut I 12 4 (I 7 12) x1) 13 4 ((gPut I 12 4 (I 7 12) x1) 7 12) x2) 7 12) x3) 7 12 (if (4) < (((gPut (gPut (gPut I 12 4 (I 7 12) x1) 13 4 ((gPut I 12 4 (I 7 12) x1) 7 12) x2) 14 4 ((gPut (gPut I 12 4 (I 7 12) x1) 13 4 ((gPut I 12 4 (I 7 12) x1) 7 12) x2) 7 12) x3) 7 12) + (1)) then (4) else (((gPut (gPut (gPut I 12 4 (I 7 12) x1) 13 4 ((gPut I 12 4 (I 7 12) x1) 7 12) x2) 14 4 ((gPut (gPut I 12 4 (I 7 12) x1) 13 4 ((gPut I 12 4 (I 7 12) x1) 7 12) x2) 7 12) x3) 7 12) + (1))))
set_option maxRecDepth 20000 in
set_option maxHeartbeats 1000000 in
theorem c_X5_addComb_7 (rd : Nat) (I : am_I) (G : am_G) (x1 : Int32) (x2 : Int32) (x3 : Int32) : am_Ct mX5_addComb 2 gS [.ref 7, .int x1, .int x2, .int x3] I G (gP rd) (pV (g_X5_addComb_7 I G x1 x2 x3) G (gP rd)) := by
  refine am_ofF (by decide +kernel) rfl (by decide) (by decide) (Nat.le_of_ble_eq_true rfl) (fun X ad hX hi => ?_)
  have hi : am_info X 3 cX5_addComb 4 false none 2 := hi
  show am_V X 0 0 _ _ ad (0, [(0, .ref 7), (1, .int x1), (2, .int x2), (3, .int x3)], [], I, G, (gP rd))
  refine am_blk 0 [(.aload_n 0, 1, 0, 0, .null), (.getfield 24, 3, 3, 4, .null), (.aload_n 0, 1, 0, 0, .null), (.getfield 53, 3, 3, 12, .null), (.iload_n 1, 1, 1, 0, .null)] (9, [(0, .ref 7), (1, .int x1), (2, .int x2), (3, .int x3)], [.int x1, .int (I 7 12), .ref 12], I, G, (gP rd)) (True) hX hi (by decide +kernel) rfl trivial ?_
  refine am_callS hX hi (M := mX0_put) (idx := 62) (d' := 1) (As := [.ref 12, .int (I 7 12), .int x1]) (rest := []) mkX0_put msX0_put (by decide +kernel) (by decide +kernel) rfl ⟨by decide, by decide, Nat.le_of_ble_eq_true rfl⟩ rfl (c_put rfl (by decide) (I 7 12) x1) ?_
  rintro r9 I9 G9 P9 ⟨e0, e1, e2, e3⟩
  rw [e0, e1, e2, e3]
  show am_V X 0 0 _ _ ad (12, [(0, .ref 7), (1, .int x1), (2, .int x2), (3, .int x3)], [], (gPut I 12 4 (I 7 12) x1), G, (gP rd))
  refine am_blk 12 [(.aload_n 0, 1, 0, 0, .null), (.getfield 27, 3, 3, 5, .null), (.aload_n 0, 1, 0, 0, .null), (.getfield 53, 3, 3, 12, .null), (.iload_n 2, 1, 2, 0, .null)] (21, [(0, .ref 7), (1, .int x1), (2, .int x2), (3, .int x3)], [.int x2, .int ((gPut I 12 4 (I 7 12) x1) 7 12), .ref 13], (gPut I 12 4 (I 7 12) x1), G, (gP rd)) (True) hX hi (by decide +kernel) rfl trivial ?_
  refine am_callS hX hi (M := mX0_put) (idx := 62) (d' := 1) (As := [.ref 13, .int ((gPut I 12 4 (I 7 12) x1) 7 12), .int x2]) (rest := []) mkX0_put msX0_put (by decide +kernel) (by decide +kernel) rfl ⟨by decide, by decide, Nat.le_of_ble_eq_true rfl⟩ rfl (c_put rfl (by decide) ((gPut I 12 4 (I 7 12) x1) 7 12) x2) ?_
  rintro r9 I9 G9 P9 ⟨e0, e1, e2, e3⟩
  rw [e0, e1, e2, e3]
  show am_V X 0 0 _ _ ad (24, [(0, .ref 7), (1, .int x1), (2, .int x2), (3, .int x3)], [], (gPut (gPut I 12 4 (I 7 12) x1) 13 4 ((gPut I 12 4 (I 7 12) x1) 7 12) x2), G, (gP rd))
  refine am_blk 24 [(.aload_n 0, 1, 0, 0, .null), (.getfield 30, 3, 3, 6, .null), (.aload_n 0, 1, 0, 0, .null), (.getfield 53, 3, 3, 12, .null), (.iload_n 3, 1, 3, 0, .null)] (33, [(0, .ref 7), (1, .int x1), (2, .int x2), (3, .int x3)], [.int x3, .int ((gPut (gPut I 12 4 (I 7 12) x1) 13 4 ((gPut I 12 4 (I 7 12) x1) 7 12) x2) 7 12), .ref 14], (gPut (gPut I 12 4 (I 7 12) x1) 13 4 ((gPut I 12 4 (I 7 12) x1) 7 12) x2), G, (gP rd)) (True) hX hi (by decide +kernel) rfl trivial ?_
  refine am_callS hX hi (M := mX0_put) (idx := 62) (d' := 1) (As := [.ref 14, .int ((gPut (gPut I 12 4 (I 7 12) x1) 13 4 ((gPut I 12 4 (I 7 12) x1) 7 12) x2) 7 12), .int x3]) (rest := []) mkX0_put msX0_put (by decide +kernel) (by decide +kernel) rfl ⟨by decide, by decide, Nat.le_of_ble_eq_true rfl⟩ rfl (c_put rfl (by decide) ((gPut (gPut I 12 4 (I 7 12) x1) 13 4 ((gPut I 12 4 (I 7 12) x1) 7 12) x2) 7 12) x3) ?_
  rintro r9 I9 G9 P9 ⟨e0, e1, e2, e3⟩
  rw [e0, e1, e2, e3]
  show am_V X 0 0 _ _ ad (36, [(0, .ref 7), (1, .int x1), (2, .int x2), (3, .int x3)], [], (gPut (gPut (gPut I 12 4 (I 7 12) x1) 13 4 ((gPut I 12 4 (I 7 12) x1) 7 12) x2) 14 4 ((gPut (gPut I 12 4 (I 7 12) x1) 13 4 ((gPut I 12 4 (I 7 12) x1) 7 12) x2) 7 12) x3), G, (gP rd))
  refine am_blk 36 [(.aload_n 0, 1, 0, 0, .null), (.aload_n 0, 1, 0, 0, .null), (.getfield 53, 3, 3, 12, .null), (.iconst (1), 1, 0, 0, .int (1)), (.iadd, 1, 0, 0, .null), (.iconst (4), 1, 0, 0, .int (4)), (.invokestatic 68, 3, 1, 0, .null), (.putfield 53, 3, 3, 12, .null)] (50, [(0, .ref 7), (1, .int x1), (2, .int x2), (3, .int x3)], [], (am_up (gPut (gPut (gPut I 12 4 (I 7 12) x1) 13 4 ((gPut I 12 4 (I 7 12) x1) 7 12) x2) 14 4 ((gPut (gPut I 12 4 (I 7 12) x1) 13 4 ((gPut I 12 4 (I 7 12) x1) 7 12) x2) 7 12) x3) 7 12 (if (4) < (((gPut (gPut (gPut I 12 4 (I 7 12) x1) 13 4 ((gPut I 12 4 (I 7 12) x1) 7 12) x2) 14 4 ((gPut (gPut I 12 4 (I 7 12) x1) 13 4 ((gPut I 12 4 (I 7 12) x1) 7 12) x2) 7 12) x3) 7 12) + (1)) then (4) else (((gPut (gPut (gPut I 12 4 (I 7 12) x1) 13 4 ((gPut I 12 4 (I 7 12) x1) 7 12) x2) 14 4 ((gPut (gPut I 12 4 (I 7 12) x1) 13 4 ((gPut I 12 4 (I 7 12) x1) 7 12) x2) 7 12) x3) 7 12) + (1)))), G, (gP rd)) (True) hX hi (by decide +kernel) rfl trivial ?_
  refine am_vret hX hi rfl (by decide +kernel) ?_
  exact ⟨rfl, by unfold g_X5_addComb_7; rfl, rfl, rfl⟩
def g_X5_addComb_29 (I : am_I) (G : am_G) (x1 : Int32) (x2 : Int32) (x3 : Int32) : am_I := (am_up (gPut (gPut (gPut I 34 4 (I 29 12) x1) 35 4 ((gPut I 34 4 (I 29 12) x1) 29 12) x2) 36 4 ((gPut (gPut I 34 4 (I 29 12) x1) 35 4 ((gPut I 34 4 (I 29 12) x1) 29 12) x2) 29 12) x3) 29 12 (if (4) < (((gPut (gPut (gPut I 34 4 (I 29 12) x1) 35 4 ((gPut I 34 4 (I 29 12) x1) 29 12) x2) 36 4 ((gPut (gPut I 34 4 (I 29 12) x1) 35 4 ((gPut I 34 4 (I 29 12) x1) 29 12) x2) 29 12) x3) 29 12) + (1)) then (4) else (((gPut (gPut (gPut I 34 4 (I 29 12) x1) 35 4 ((gPut I 34 4 (I 29 12) x1) 29 12) x2) 36 4 ((gPut (gPut I 34 4 (I 29 12) x1) 35 4 ((gPut I 34 4 (I 29 12) x1) 29 12) x2) 29 12) x3) 29 12) + (1))))
set_option maxRecDepth 20000 in
set_option maxHeartbeats 1000000 in
theorem c_X5_addComb_29 (rd : Nat) (I : am_I) (G : am_G) (x1 : Int32) (x2 : Int32) (x3 : Int32) : am_Ct mX5_addComb 2 gS [.ref 29, .int x1, .int x2, .int x3] I G (gP rd) (pV (g_X5_addComb_29 I G x1 x2 x3) G (gP rd)) := by
  refine am_ofF (by decide +kernel) rfl (by decide) (by decide) (Nat.le_of_ble_eq_true rfl) (fun X ad hX hi => ?_)
  have hi : am_info X 3 cX5_addComb 4 false none 2 := hi
  show am_V X 0 0 _ _ ad (0, [(0, .ref 29), (1, .int x1), (2, .int x2), (3, .int x3)], [], I, G, (gP rd))
  refine am_blk 0 [(.aload_n 0, 1, 0, 0, .null), (.getfield 24, 3, 3, 4, .null), (.aload_n 0, 1, 0, 0, .null), (.getfield 53, 3, 3, 12, .null), (.iload_n 1, 1, 1, 0, .null)] (9, [(0, .ref 29), (1, .int x1), (2, .int x2), (3, .int x3)], [.int x1, .int (I 29 12), .ref 34], I, G, (gP rd)) (True) hX hi (by decide +kernel) rfl trivial ?_
  refine am_callS hX hi (M := mX0_put) (idx := 62) (d' := 1) (As := [.ref 34, .int (I 29 12), .int x1]) (rest := []) mkX0_put msX0_put (by decide +kernel) (by decide +kernel) rfl ⟨by decide, by decide, Nat.le_of_ble_eq_true rfl⟩ rfl (c_put rfl (by decide) (I 29 12) x1) ?_
  rintro r9 I9 G9 P9 ⟨e0, e1, e2, e3⟩
  rw [e0, e1, e2, e3]
  show am_V X 0 0 _ _ ad (12, [(0, .ref 29), (1, .int x1), (2, .int x2), (3, .int x3)], [], (gPut I 34 4 (I 29 12) x1), G, (gP rd))
  refine am_blk 12 [(.aload_n 0, 1, 0, 0, .null), (.getfield 27, 3, 3, 5, .null), (.aload_n 0, 1, 0, 0, .null), (.getfield 53, 3, 3, 12, .null), (.iload_n 2, 1, 2, 0, .null)] (21, [(0, .ref 29), (1, .int x1), (2, .int x2), (3, .int x3)], [.int x2, .int ((gPut I 34 4 (I 29 12) x1) 29 12), .ref 35], (gPut I 34 4 (I 29 12) x1), G, (gP rd)) (True) hX hi (by decide +kernel) rfl trivial ?_
  refine am_callS hX hi (M := mX0_put) (idx := 62) (d' := 1) (As := [.ref 35, .int ((gPut I 34 4 (I 29 12) x1) 29 12), .int x2]) (rest := []) mkX0_put msX0_put (by decide +kernel) (by decide +kernel) rfl ⟨by decide, by decide, Nat.le_of_ble_eq_true rfl⟩ rfl (c_put rfl (by decide) ((gPut I 34 4 (I 29 12) x1) 29 12) x2) ?_
  rintro r9 I9 G9 P9 ⟨e0, e1, e2, e3⟩
  rw [e0, e1, e2, e3]
  show am_V X 0 0 _ _ ad (24, [(0, .ref 29), (1, .int x1), (2, .int x2), (3, .int x3)], [], (gPut (gPut I 34 4 (I 29 12) x1) 35 4 ((gPut I 34 4 (I 29 12) x1) 29 12) x2), G, (gP rd))
  refine am_blk 24 [(.aload_n 0, 1, 0, 0, .null), (.getfield 30, 3, 3, 6, .null), (.aload_n 0, 1, 0, 0, .null), (.getfield 53, 3, 3, 12, .null), (.iload_n 3, 1, 3, 0, .null)] (33, [(0, .ref 29), (1, .int x1), (2, .int x2), (3, .int x3)], [.int x3, .int ((gPut (gPut I 34 4 (I 29 12) x1) 35 4 ((gPut I 34 4 (I 29 12) x1) 29 12) x2) 29 12), .ref 36], (gPut (gPut I 34 4 (I 29 12) x1) 35 4 ((gPut I 34 4 (I 29 12) x1) 29 12) x2), G, (gP rd)) (True) hX hi (by decide +kernel) rfl trivial ?_
  refine am_callS hX hi (M := mX0_put) (idx := 62) (d' := 1) (As := [.ref 36, .int ((gPut (gPut I 34 4 (I 29 12) x1) 35 4 ((gPut I 34 4 (I 29 12) x1) 29 12) x2) 29 12), .int x3]) (rest := []) mkX0_put msX0_put (by decide +kernel) (by decide +kernel) rfl ⟨by decide, by decide, Nat.le_of_ble_eq_true rfl⟩ rfl (c_put rfl (by decide) ((gPut (gPut I 34 4 (I 29 12) x1) 35 4 ((gPut I 34 4 (I 29 12) x1) 29 12) x2) 29 12) x3) ?_
  rintro r9 I9 G9 P9 ⟨e0, e1, e2, e3⟩
  rw [e0, e1, e2, e3]
  show am_V X 0 0 _ _ ad (36, [(0, .ref 29), (1, .int x1), (2, .int x2), (3, .int x3)], [], (gPut (gPut (gPut I 34 4 (I 29 12) x1) 35 4 ((gPut I 34 4 (I 29 12) x1) 29 12) x2) 36 4 ((gPut (gPut I 34 4 (I 29 12) x1) 35 4 ((gPut I 34 4 (I 29 12) x1) 29 12) x2) 29 12) x3), G, (gP rd))
  refine am_blk 36 [(.aload_n 0, 1, 0, 0, .null), (.aload_n 0, 1, 0, 0, .null), (.getfield 53, 3, 3, 12, .null), (.iconst (1), 1, 0, 0, .int (1)), (.iadd, 1, 0, 0, .null), (.iconst (4), 1, 0, 0, .int (4)), (.invokestatic 68, 3, 1, 0, .null), (.putfield 53, 3, 3, 12, .null)] (50, [(0, .ref 29), (1, .int x1), (2, .int x2), (3, .int x3)], [], (am_up (gPut (gPut (gPut I 34 4 (I 29 12) x1) 35 4 ((gPut I 34 4 (I 29 12) x1) 29 12) x2) 36 4 ((gPut (gPut I 34 4 (I 29 12) x1) 35 4 ((gPut I 34 4 (I 29 12) x1) 29 12) x2) 29 12) x3) 29 12 (if (4) < (((gPut (gPut (gPut I 34 4 (I 29 12) x1) 35 4 ((gPut I 34 4 (I 29 12) x1) 29 12) x2) 36 4 ((gPut (gPut I 34 4 (I 29 12) x1) 35 4 ((gPut I 34 4 (I 29 12) x1) 29 12) x2) 29 12) x3) 29 12) + (1)) then (4) else (((gPut (gPut (gPut I 34 4 (I 29 12) x1) 35 4 ((gPut I 34 4 (I 29 12) x1) 29 12) x2) 36 4 ((gPut (gPut I 34 4 (I 29 12) x1) 35 4 ((gPut I 34 4 (I 29 12) x1) 29 12) x2) 29 12) x3) 29 12) + (1)))), G, (gP rd)) (True) hX hi (by decide +kernel) rfl trivial ?_
  refine am_vret hX hi rfl (by decide +kernel) ?_
  exact ⟨rfl, by unfold g_X5_addComb_29; rfl, rfl, rfl⟩
def g_X5_addInk_7 (I : am_I) (G : am_G) (x1 : Int32) : am_I := (am_up (gPut I 15 5 (I 7 13) x1) 7 13 (if (5) < (((gPut I 15 5 (I 7 13) x1) 7 13) + (1)) then (5) else (((gPut I 15 5 (I 7 13) x1) 7 13) + (1))))
set_option maxRecDepth 20000 in
set_option maxHeartbeats 1000000 in
theorem c_X5_addInk_7 (rd : Nat) (I : am_I) (G : am_G) (x1 : Int32) : am_Ct mX5_addInk 2 gS [.ref 7, .int x1] I G (gP rd) (pV (g_X5_addInk_7 I G x1) G (gP rd)) := by
  refine am_ofF (by decide +kernel) rfl (by decide) (by decide) (Nat.le_of_ble_eq_true rfl) (fun X ad hX hi => ?_)
  have hi : am_info X 3 cX5_addInk 2 false none 2 := hi
  show am_V X 0 0 _ _ ad (0, [(0, .ref 7), (1, .int x1)], [], I, G, (gP rd))
  refine am_blk 0 [(.aload_n 0, 1, 0, 0, .null), (.getfield 33, 3, 3, 7, .null), (.aload_n 0, 1, 0, 0, .null), (.getfield 56, 3, 3, 13, .null), (.iload_n 1, 1, 1, 0, .null)] (9, [(0, .ref 7), (1, .int x1)], [.int x1, .int (I 7 13), .ref 15], I, G, (gP rd)) (True) hX hi (by decide +kernel) rfl trivial ?_
  refine am_callS hX hi (M := mX0_put) (idx := 62) (d' := 1) (As := [.ref 15, .int (I 7 13), .int x1]) (rest := []) mkX0_put msX0_put (by decide +kernel) (by decide +kernel) rfl ⟨by decide, by decide, Nat.le_of_ble_eq_true rfl⟩ rfl (c_put rfl (by decide) (I 7 13) x1) ?_
  rintro r9 I9 G9 P9 ⟨e0, e1, e2, e3⟩
  rw [e0, e1, e2, e3]
  show am_V X 0 0 _ _ ad (12, [(0, .ref 7), (1, .int x1)], [], (gPut I 15 5 (I 7 13) x1), G, (gP rd))
  refine am_blk 12 [(.aload_n 0, 1, 0, 0, .null), (.aload_n 0, 1, 0, 0, .null), (.getfield 56, 3, 3, 13, .null), (.iconst (1), 1, 0, 0, .int (1)), (.iadd, 1, 0, 0, .null), (.iconst (5), 1, 0, 0, .int (5)), (.invokestatic 68, 3, 1, 0, .null), (.putfield 56, 3, 3, 13, .null)] (26, [(0, .ref 7), (1, .int x1)], [], (am_up (gPut I 15 5 (I 7 13) x1) 7 13 (if (5) < (((gPut I 15 5 (I 7 13) x1) 7 13) + (1)) then (5) else (((gPut I 15 5 (I 7 13) x1) 7 13) + (1)))), G, (gP rd)) (True) hX hi (by decide +kernel) rfl trivial ?_
  refine am_vret hX hi rfl (by decide +kernel) ?_
  exact ⟨rfl, by unfold g_X5_addInk_7; rfl, rfl, rfl⟩
def g_X5_addInk_29 (I : am_I) (G : am_G) (x1 : Int32) : am_I := (am_up (gPut I 37 5 (I 29 13) x1) 29 13 (if (5) < (((gPut I 37 5 (I 29 13) x1) 29 13) + (1)) then (5) else (((gPut I 37 5 (I 29 13) x1) 29 13) + (1))))
set_option maxRecDepth 20000 in
set_option maxHeartbeats 1000000 in
theorem c_X5_addInk_29 (rd : Nat) (I : am_I) (G : am_G) (x1 : Int32) : am_Ct mX5_addInk 2 gS [.ref 29, .int x1] I G (gP rd) (pV (g_X5_addInk_29 I G x1) G (gP rd)) := by
  refine am_ofF (by decide +kernel) rfl (by decide) (by decide) (Nat.le_of_ble_eq_true rfl) (fun X ad hX hi => ?_)
  have hi : am_info X 3 cX5_addInk 2 false none 2 := hi
  show am_V X 0 0 _ _ ad (0, [(0, .ref 29), (1, .int x1)], [], I, G, (gP rd))
  refine am_blk 0 [(.aload_n 0, 1, 0, 0, .null), (.getfield 33, 3, 3, 7, .null), (.aload_n 0, 1, 0, 0, .null), (.getfield 56, 3, 3, 13, .null), (.iload_n 1, 1, 1, 0, .null)] (9, [(0, .ref 29), (1, .int x1)], [.int x1, .int (I 29 13), .ref 37], I, G, (gP rd)) (True) hX hi (by decide +kernel) rfl trivial ?_
  refine am_callS hX hi (M := mX0_put) (idx := 62) (d' := 1) (As := [.ref 37, .int (I 29 13), .int x1]) (rest := []) mkX0_put msX0_put (by decide +kernel) (by decide +kernel) rfl ⟨by decide, by decide, Nat.le_of_ble_eq_true rfl⟩ rfl (c_put rfl (by decide) (I 29 13) x1) ?_
  rintro r9 I9 G9 P9 ⟨e0, e1, e2, e3⟩
  rw [e0, e1, e2, e3]
  show am_V X 0 0 _ _ ad (12, [(0, .ref 29), (1, .int x1)], [], (gPut I 37 5 (I 29 13) x1), G, (gP rd))
  refine am_blk 12 [(.aload_n 0, 1, 0, 0, .null), (.aload_n 0, 1, 0, 0, .null), (.getfield 56, 3, 3, 13, .null), (.iconst (1), 1, 0, 0, .int (1)), (.iadd, 1, 0, 0, .null), (.iconst (5), 1, 0, 0, .int (5)), (.invokestatic 68, 3, 1, 0, .null), (.putfield 56, 3, 3, 13, .null)] (26, [(0, .ref 29), (1, .int x1)], [], (am_up (gPut I 37 5 (I 29 13) x1) 29 13 (if (5) < (((gPut I 37 5 (I 29 13) x1) 29 13) + (1)) then (5) else (((gPut I 37 5 (I 29 13) x1) 29 13) + (1)))), G, (gP rd)) (True) hX hi (by decide +kernel) rfl trivial ?_
  refine am_vret hX hi rfl (by decide +kernel) ?_
  exact ⟨rfl, by unfold g_X5_addInk_29; rfl, rfl, rfl⟩
def f_X5_lowestNextLevel_7 (I : am_I) (G : am_G)  : Int32 := (if (I 7 13) = 0 then (0) else ((gAt (I 15) 5 ((I 7 13) - (1))) + (1)))
set_option maxRecDepth 20000 in
set_option maxHeartbeats 1000000 in
theorem c_X5_lowestNextLevel_7 (rd : Nat) (I : am_I) (G : am_G)  : am_Ct mX5_lowestNextLevel 2 gS [.ref 7] I G (gP rd) (pI (f_X5_lowestNextLevel_7 I G ) I G (gP rd)) := by
  refine am_ofF (by decide +kernel) rfl (by decide) (by decide) (Nat.le_of_ble_eq_true rfl) (fun X ad hX hi => ?_)
  have hi : am_info X 3 cX5_lowestNextLevel 1 false (Option.some Jvm.ClassFile.FieldType.int) 2 := hi
  show am_V X 0 0 _ _ ad (0, [(0, .ref 7)], [], I, G, (gP rd))
  refine am_blk 0 [(.aload_n 0, 1, 0, 0, .null), (.getfield 56, 3, 3, 13, .null)] (4, [(0, .ref 7)], [.int (I 7 13)], I, G, (gP rd)) (True) hX hi (by decide +kernel) rfl trivial ?_
  refine am_if_ne (tgt := 11) hX hi (off := (7)) (by decide +kernel) (by decide) (fun c4 => ?_) (fun c4 => ?_)
  · refine am_blk 11 [(.aload_n 0, 1, 0, 0, .null), (.getfield 33, 3, 3, 7, .null), (.aload_n 0, 1, 0, 0, .null), (.getfield 56, 3, 3, 13, .null), (.iconst (1), 1, 0, 0, .int (1)), (.isub, 1, 0, 0, .null)] (21, [(0, .ref 7)], [.int ((I 7 13) - (1)), .ref 15], I, G, (gP rd)) (True) hX hi (by decide +kernel) rfl trivial ?_
    refine am_callS hX hi (M := mX0_at) (idx := 74) (d' := 1) (As := [.ref 15, .int ((I 7 13) - (1))]) (rest := []) mkX0_at msX0_at (by decide +kernel) (by decide +kernel) rfl ⟨by decide, by decide, Nat.le_of_ble_eq_true rfl⟩ rfl (c_at rfl (by decide) ((I 7 13) - (1))) ?_
    rintro r9 I9 G9 P9 ⟨e0, e1, e2, e3⟩
    rw [e0, e1, e2, e3]
    show am_V X 0 0 _ _ ad (24, [(0, .ref 7)], [.int (gAt (I 15) 5 ((I 7 13) - (1)))], I, G, (gP rd))
    refine am_blk 24 [(.iconst (1), 1, 0, 0, .int (1)), (.iadd, 1, 0, 0, .null)] (26, [(0, .ref 7)], [.int ((gAt (I 15) 5 ((I 7 13) - (1))) + (1))], I, G, (gP rd)) (True) hX hi (by decide +kernel) rfl trivial ?_
    refine am_iret hX hi rfl rfl (by decide +kernel) ?_
    exact ⟨by unfold f_X5_lowestNextLevel_7; rw [if_neg c4], rfl, rfl, rfl⟩
  · refine am_blk 7 [(.iconst (0), 1, 0, 0, .int (0)), (.goto (18), 3, 0, 26, .null)] (26, [(0, .ref 7)], [.int (0)], I, G, (gP rd)) (True) hX hi (by decide +kernel) rfl trivial ?_
    refine am_iret hX hi rfl rfl (by decide +kernel) ?_
    exact ⟨by unfold f_X5_lowestNextLevel_7; rw [if_pos c4], rfl, rfl, rfl⟩
def f_X5_lowestNextLevel_29 (I : am_I) (G : am_G)  : Int32 := (if (I 29 13) = 0 then (0) else ((gAt (I 37) 5 ((I 29 13) - (1))) + (1)))
set_option maxRecDepth 20000 in
set_option maxHeartbeats 1000000 in
theorem c_X5_lowestNextLevel_29 (rd : Nat) (I : am_I) (G : am_G)  : am_Ct mX5_lowestNextLevel 2 gS [.ref 29] I G (gP rd) (pI (f_X5_lowestNextLevel_29 I G ) I G (gP rd)) := by
  refine am_ofF (by decide +kernel) rfl (by decide) (by decide) (Nat.le_of_ble_eq_true rfl) (fun X ad hX hi => ?_)
  have hi : am_info X 3 cX5_lowestNextLevel 1 false (Option.some Jvm.ClassFile.FieldType.int) 2 := hi
  show am_V X 0 0 _ _ ad (0, [(0, .ref 29)], [], I, G, (gP rd))
  refine am_blk 0 [(.aload_n 0, 1, 0, 0, .null), (.getfield 56, 3, 3, 13, .null)] (4, [(0, .ref 29)], [.int (I 29 13)], I, G, (gP rd)) (True) hX hi (by decide +kernel) rfl trivial ?_
  refine am_if_ne (tgt := 11) hX hi (off := (7)) (by decide +kernel) (by decide) (fun c4 => ?_) (fun c4 => ?_)
  · refine am_blk 11 [(.aload_n 0, 1, 0, 0, .null), (.getfield 33, 3, 3, 7, .null), (.aload_n 0, 1, 0, 0, .null), (.getfield 56, 3, 3, 13, .null), (.iconst (1), 1, 0, 0, .int (1)), (.isub, 1, 0, 0, .null)] (21, [(0, .ref 29)], [.int ((I 29 13) - (1)), .ref 37], I, G, (gP rd)) (True) hX hi (by decide +kernel) rfl trivial ?_
    refine am_callS hX hi (M := mX0_at) (idx := 74) (d' := 1) (As := [.ref 37, .int ((I 29 13) - (1))]) (rest := []) mkX0_at msX0_at (by decide +kernel) (by decide +kernel) rfl ⟨by decide, by decide, Nat.le_of_ble_eq_true rfl⟩ rfl (c_at rfl (by decide) ((I 29 13) - (1))) ?_
    rintro r9 I9 G9 P9 ⟨e0, e1, e2, e3⟩
    rw [e0, e1, e2, e3]
    show am_V X 0 0 _ _ ad (24, [(0, .ref 29)], [.int (gAt (I 37) 5 ((I 29 13) - (1)))], I, G, (gP rd))
    refine am_blk 24 [(.iconst (1), 1, 0, 0, .int (1)), (.iadd, 1, 0, 0, .null)] (26, [(0, .ref 29)], [.int ((gAt (I 37) 5 ((I 29 13) - (1))) + (1))], I, G, (gP rd)) (True) hX hi (by decide +kernel) rfl trivial ?_
    refine am_iret hX hi rfl rfl (by decide +kernel) ?_
    exact ⟨by unfold f_X5_lowestNextLevel_29; rw [if_neg c4], rfl, rfl, rfl⟩
  · refine am_blk 7 [(.iconst (0), 1, 0, 0, .int (0)), (.goto (18), 3, 0, 26, .null)] (26, [(0, .ref 29)], [.int (0)], I, G, (gP rd)) (True) hX hi (by decide +kernel) rfl trivial ?_
    refine am_iret hX hi rfl rfl (by decide +kernel) ?_
    exact ⟨by unfold f_X5_lowestNextLevel_29; rw [if_pos c4], rfl, rfl, rfl⟩
def f_X5_spot_7 (I : am_I) (G : am_G) (x1 : Int32) (x2 : Int32) : Int32 := (((gWr x2.toInt64.toInt (I 7 10)) * (I 7 9)) + (gWr x1.toInt64.toInt (I 7 9)))
set_option maxRecDepth 20000 in
set_option maxHeartbeats 1000000 in
theorem c_X5_spot_7 (rd : Nat) (I : am_I) (G : am_G) (x1 : Int32) (x2 : Int32) : am_Ct mX5_spot 3 gS [.ref 7, .int x1, .int x2] I G (gP rd) (pI (f_X5_spot_7 I G x1 x2) I G (gP rd)) := by
  refine am_ofF (by decide +kernel) rfl (by decide) (by decide) (Nat.le_of_ble_eq_true rfl) (fun X ad hX hi => ?_)
  have hi : am_info X 3 cX5_spot 3 false (Option.some Jvm.ClassFile.FieldType.int) 3 := hi
  show am_V X 0 0 _ _ ad (0, [(0, .ref 7), (1, .int x1), (2, .int x2)], [], I, G, (gP rd))
  refine am_blk 0 [(.iload_n 2, 1, 2, 0, .null), (.i2l, 1, 0, 0, .null), (.aload_n 0, 1, 0, 0, .null), (.getfield 47, 3, 3, 10, .null)] (6, [(0, .ref 7), (1, .int x1), (2, .int x2)], [.int (I 7 10), .long x2.toInt64], I, G, (gP rd)) (True) hX hi (by decide +kernel) rfl trivial ?_
  refine am_callS hX hi (M := mX0_wrap) (idx := 86) (d' := 2) (As := [.long x2.toInt64, .int (I 7 10)]) (rest := []) mkX0_wrap msX0_wrap (by decide +kernel) (by decide +kernel) rfl ⟨by decide, by decide, Nat.le_of_ble_eq_true rfl⟩ rfl (c_wrap x2.toInt64 (I 7 10)) ?_
  rintro r9 I9 G9 P9 ⟨e0, e1, e2, e3⟩
  rw [e0, e1, e2, e3]
  show am_V X 0 0 _ _ ad (9, [(0, .ref 7), (1, .int x1), (2, .int x2)], [.int (gWr x2.toInt64.toInt (I 7 10))], I, G, (gP rd))
  refine am_blk 9 [(.aload_n 0, 1, 0, 0, .null), (.getfield 43, 3, 3, 9, .null), (.imul, 1, 0, 0, .null), (.iload_n 1, 1, 1, 0, .null), (.i2l, 1, 0, 0, .null), (.aload_n 0, 1, 0, 0, .null), (.getfield 43, 3, 3, 9, .null)] (20, [(0, .ref 7), (1, .int x1), (2, .int x2)], [.int (I 7 9), .long x1.toInt64, .int ((gWr x2.toInt64.toInt (I 7 10)) * (I 7 9))], I, G, (gP rd)) (True) hX hi (by decide +kernel) rfl trivial ?_
  refine am_callS hX hi (M := mX0_wrap) (idx := 86) (d' := 2) (As := [.long x1.toInt64, .int (I 7 9)]) (rest := [.int ((gWr x2.toInt64.toInt (I 7 10)) * (I 7 9))]) mkX0_wrap msX0_wrap (by decide +kernel) (by decide +kernel) rfl ⟨by decide, by decide, Nat.le_of_ble_eq_true rfl⟩ rfl (c_wrap x1.toInt64 (I 7 9)) ?_
  rintro r9 I9 G9 P9 ⟨e0, e1, e2, e3⟩
  rw [e0, e1, e2, e3]
  show am_V X 0 0 _ _ ad (23, [(0, .ref 7), (1, .int x1), (2, .int x2)], [.int (gWr x1.toInt64.toInt (I 7 9)), .int ((gWr x2.toInt64.toInt (I 7 10)) * (I 7 9))], I, G, (gP rd))
  refine am_blk 23 [(.iadd, 1, 0, 0, .null)] (24, [(0, .ref 7), (1, .int x1), (2, .int x2)], [.int (((gWr x2.toInt64.toInt (I 7 10)) * (I 7 9)) + (gWr x1.toInt64.toInt (I 7 9)))], I, G, (gP rd)) (True) hX hi (by decide +kernel) rfl trivial ?_
  refine am_iret hX hi rfl rfl (by decide +kernel) ?_
  exact ⟨by unfold f_X5_spot_7; rfl, rfl, rfl, rfl⟩
def f_X5_spot_29 (I : am_I) (G : am_G) (x1 : Int32) (x2 : Int32) : Int32 := (((gWr x2.toInt64.toInt (I 29 10)) * (I 29 9)) + (gWr x1.toInt64.toInt (I 29 9)))
set_option maxRecDepth 20000 in
set_option maxHeartbeats 1000000 in
theorem c_X5_spot_29 (rd : Nat) (I : am_I) (G : am_G) (x1 : Int32) (x2 : Int32) : am_Ct mX5_spot 3 gS [.ref 29, .int x1, .int x2] I G (gP rd) (pI (f_X5_spot_29 I G x1 x2) I G (gP rd)) := by
  refine am_ofF (by decide +kernel) rfl (by decide) (by decide) (Nat.le_of_ble_eq_true rfl) (fun X ad hX hi => ?_)
  have hi : am_info X 3 cX5_spot 3 false (Option.some Jvm.ClassFile.FieldType.int) 3 := hi
  show am_V X 0 0 _ _ ad (0, [(0, .ref 29), (1, .int x1), (2, .int x2)], [], I, G, (gP rd))
  refine am_blk 0 [(.iload_n 2, 1, 2, 0, .null), (.i2l, 1, 0, 0, .null), (.aload_n 0, 1, 0, 0, .null), (.getfield 47, 3, 3, 10, .null)] (6, [(0, .ref 29), (1, .int x1), (2, .int x2)], [.int (I 29 10), .long x2.toInt64], I, G, (gP rd)) (True) hX hi (by decide +kernel) rfl trivial ?_
  refine am_callS hX hi (M := mX0_wrap) (idx := 86) (d' := 2) (As := [.long x2.toInt64, .int (I 29 10)]) (rest := []) mkX0_wrap msX0_wrap (by decide +kernel) (by decide +kernel) rfl ⟨by decide, by decide, Nat.le_of_ble_eq_true rfl⟩ rfl (c_wrap x2.toInt64 (I 29 10)) ?_
  rintro r9 I9 G9 P9 ⟨e0, e1, e2, e3⟩
  rw [e0, e1, e2, e3]
  show am_V X 0 0 _ _ ad (9, [(0, .ref 29), (1, .int x1), (2, .int x2)], [.int (gWr x2.toInt64.toInt (I 29 10))], I, G, (gP rd))
  refine am_blk 9 [(.aload_n 0, 1, 0, 0, .null), (.getfield 43, 3, 3, 9, .null), (.imul, 1, 0, 0, .null), (.iload_n 1, 1, 1, 0, .null), (.i2l, 1, 0, 0, .null), (.aload_n 0, 1, 0, 0, .null), (.getfield 43, 3, 3, 9, .null)] (20, [(0, .ref 29), (1, .int x1), (2, .int x2)], [.int (I 29 9), .long x1.toInt64, .int ((gWr x2.toInt64.toInt (I 29 10)) * (I 29 9))], I, G, (gP rd)) (True) hX hi (by decide +kernel) rfl trivial ?_
  refine am_callS hX hi (M := mX0_wrap) (idx := 86) (d' := 2) (As := [.long x1.toInt64, .int (I 29 9)]) (rest := [.int ((gWr x2.toInt64.toInt (I 29 10)) * (I 29 9))]) mkX0_wrap msX0_wrap (by decide +kernel) (by decide +kernel) rfl ⟨by decide, by decide, Nat.le_of_ble_eq_true rfl⟩ rfl (c_wrap x1.toInt64 (I 29 9)) ?_
  rintro r9 I9 G9 P9 ⟨e0, e1, e2, e3⟩
  rw [e0, e1, e2, e3]
  show am_V X 0 0 _ _ ad (23, [(0, .ref 29), (1, .int x1), (2, .int x2)], [.int (gWr x1.toInt64.toInt (I 29 9)), .int ((gWr x2.toInt64.toInt (I 29 10)) * (I 29 9))], I, G, (gP rd))
  refine am_blk 23 [(.iadd, 1, 0, 0, .null)] (24, [(0, .ref 29), (1, .int x1), (2, .int x2)], [.int (((gWr x2.toInt64.toInt (I 29 10)) * (I 29 9)) + (gWr x1.toInt64.toInt (I 29 9)))], I, G, (gP rd)) (True) hX hi (by decide +kernel) rfl trivial ?_
  refine am_iret hX hi rfl rfl (by decide +kernel) ?_
  exact ⟨by unfold f_X5_spot_29; rfl, rfl, rfl, rfl⟩
def f_X5_linesOf_7 (I : am_I) (G : am_G) (x1 : Int32) : Int32 := (if (gAt (I 12) 4 x1) = 0 then (I 7 10) else (I 7 9))
set_option maxRecDepth 20000 in
set_option maxHeartbeats 1000000 in
theorem c_X5_linesOf_7 (rd : Nat) (I : am_I) (G : am_G) (x1 : Int32) : am_Ct mX5_linesOf 2 gS [.ref 7, .int x1] I G (gP rd) (pI (f_X5_linesOf_7 I G x1) I G (gP rd)) := by
  refine am_ofF (by decide +kernel) rfl (by decide) (by decide) (Nat.le_of_ble_eq_true rfl) (fun X ad hX hi => ?_)
  have hi : am_info X 3 cX5_linesOf 2 false (Option.some Jvm.ClassFile.FieldType.int) 2 := hi
  show am_V X 0 0 _ _ ad (0, [(0, .ref 7), (1, .int x1)], [], I, G, (gP rd))
  refine am_blk 0 [(.aload_n 0, 1, 0, 0, .null), (.getfield 24, 3, 3, 4, .null), (.iload_n 1, 1, 1, 0, .null)] (5, [(0, .ref 7), (1, .int x1)], [.int x1, .ref 12], I, G, (gP rd)) (True) hX hi (by decide +kernel) rfl trivial ?_
  refine am_callS hX hi (M := mX0_at) (idx := 74) (d' := 1) (As := [.ref 12, .int x1]) (rest := []) mkX0_at msX0_at (by decide +kernel) (by decide +kernel) rfl ⟨by decide, by decide, Nat.le_of_ble_eq_true rfl⟩ rfl (c_at rfl (by decide) x1) ?_
  rintro r9 I9 G9 P9 ⟨e0, e1, e2, e3⟩
  rw [e0, e1, e2, e3]
  show am_V X 0 0 _ _ ad (8, [(0, .ref 7), (1, .int x1)], [.int (gAt (I 12) 4 x1)], I, G, (gP rd))
  refine am_if_ne (tgt := 18) hX hi (off := (10)) (by decide +kernel) (by decide) (fun c8 => ?_) (fun c8 => ?_)
  · refine am_blk 18 [(.aload_n 0, 1, 0, 0, .null), (.getfield 43, 3, 3, 9, .null)] (22, [(0, .ref 7), (1, .int x1)], [.int (I 7 9)], I, G, (gP rd)) (True) hX hi (by decide +kernel) rfl trivial ?_
    refine am_iret hX hi rfl rfl (by decide +kernel) ?_
    exact ⟨by unfold f_X5_linesOf_7; rw [if_neg c8], rfl, rfl, rfl⟩
  · refine am_blk 11 [(.aload_n 0, 1, 0, 0, .null), (.getfield 47, 3, 3, 10, .null), (.goto (7), 3, 0, 22, .null)] (22, [(0, .ref 7), (1, .int x1)], [.int (I 7 10)], I, G, (gP rd)) (True) hX hi (by decide +kernel) rfl trivial ?_
    refine am_iret hX hi rfl rfl (by decide +kernel) ?_
    exact ⟨by unfold f_X5_linesOf_7; rw [if_pos c8], rfl, rfl, rfl⟩
def f_X5_linesOf_29 (I : am_I) (G : am_G) (x1 : Int32) : Int32 := (if (gAt (I 34) 4 x1) = 0 then (I 29 10) else (I 29 9))
set_option maxRecDepth 20000 in
set_option maxHeartbeats 1000000 in
theorem c_X5_linesOf_29 (rd : Nat) (I : am_I) (G : am_G) (x1 : Int32) : am_Ct mX5_linesOf 2 gS [.ref 29, .int x1] I G (gP rd) (pI (f_X5_linesOf_29 I G x1) I G (gP rd)) := by
  refine am_ofF (by decide +kernel) rfl (by decide) (by decide) (Nat.le_of_ble_eq_true rfl) (fun X ad hX hi => ?_)
  have hi : am_info X 3 cX5_linesOf 2 false (Option.some Jvm.ClassFile.FieldType.int) 2 := hi
  show am_V X 0 0 _ _ ad (0, [(0, .ref 29), (1, .int x1)], [], I, G, (gP rd))
  refine am_blk 0 [(.aload_n 0, 1, 0, 0, .null), (.getfield 24, 3, 3, 4, .null), (.iload_n 1, 1, 1, 0, .null)] (5, [(0, .ref 29), (1, .int x1)], [.int x1, .ref 34], I, G, (gP rd)) (True) hX hi (by decide +kernel) rfl trivial ?_
  refine am_callS hX hi (M := mX0_at) (idx := 74) (d' := 1) (As := [.ref 34, .int x1]) (rest := []) mkX0_at msX0_at (by decide +kernel) (by decide +kernel) rfl ⟨by decide, by decide, Nat.le_of_ble_eq_true rfl⟩ rfl (c_at rfl (by decide) x1) ?_
  rintro r9 I9 G9 P9 ⟨e0, e1, e2, e3⟩
  rw [e0, e1, e2, e3]
  show am_V X 0 0 _ _ ad (8, [(0, .ref 29), (1, .int x1)], [.int (gAt (I 34) 4 x1)], I, G, (gP rd))
  refine am_if_ne (tgt := 18) hX hi (off := (10)) (by decide +kernel) (by decide) (fun c8 => ?_) (fun c8 => ?_)
  · refine am_blk 18 [(.aload_n 0, 1, 0, 0, .null), (.getfield 43, 3, 3, 9, .null)] (22, [(0, .ref 29), (1, .int x1)], [.int (I 29 9)], I, G, (gP rd)) (True) hX hi (by decide +kernel) rfl trivial ?_
    refine am_iret hX hi rfl rfl (by decide +kernel) ?_
    exact ⟨by unfold f_X5_linesOf_29; rw [if_neg c8], rfl, rfl, rfl⟩
  · refine am_blk 11 [(.aload_n 0, 1, 0, 0, .null), (.getfield 47, 3, 3, 10, .null), (.goto (7), 3, 0, 22, .null)] (22, [(0, .ref 29), (1, .int x1)], [.int (I 29 10)], I, G, (gP rd)) (True) hX hi (by decide +kernel) rfl trivial ?_
    refine am_iret hX hi rfl rfl (by decide +kernel) ?_
    exact ⟨by unfold f_X5_linesOf_29; rw [if_pos c8], rfl, rfl, rfl⟩
def g_X7_spoil_53 (I : am_I) (G : am_G)  : am_I := (am_up (am_up I 53 14 (0)) 53 15 (0))
set_option maxRecDepth 20000 in
set_option maxHeartbeats 1000000 in
theorem c_X7_spoil_53 (rd : Nat) (I : am_I) (G : am_G)  : am_Ct mX7_spoil 1 gS [.ref 53] I G (gP rd) (pV (g_X7_spoil_53 I G ) G (gP rd)) := by
  refine am_ofF (by decide +kernel) rfl (by decide) (by decide) (Nat.le_of_ble_eq_true rfl) (fun X ad hX hi => ?_)
  have hi : am_info X 5 cX7_spoil 1 false none 1 := hi
  show am_V X 0 0 _ _ ad (0, [(0, .ref 53)], [], I, G, (gP rd))
  refine am_blk 0 [(.aload_n 0, 1, 0, 0, .null), (.iconst (0), 1, 0, 0, .int (0)), (.putfield 97, 3, 5, 14, .null), (.aload_n 0, 1, 0, 0, .null), (.iconst (0), 1, 0, 0, .int (0)), (.putfield 101, 3, 5, 15, .null)] (10, [(0, .ref 53)], [], (am_up (am_up I 53 14 (0)) 53 15 (0)), G, (gP rd)) (((0) = 0 ∨ (0) = 1) ∧ ((0) = 0 ∨ (0) = 1) ∧ True) hX hi (by decide +kernel) rfl ?_ ?_
  · exact ⟨(by first | assumption | (refine (i_in _ _).mpr ?_; simp only [i_lt, i_le, i_eq, i_0, i_of, am_n] at *; omega)), (by first | assumption | (refine (i_in _ _).mpr ?_; simp only [i_lt, i_le, i_eq, i_0, i_of, am_n] at *; omega)), trivial⟩
  refine am_vret hX hi rfl (by decide +kernel) ?_
  exact ⟨rfl, by unfold g_X7_spoil_53; rfl, rfl, rfl⟩
def g_X7_spoil_66 (I : am_I) (G : am_G)  : am_I := (am_up (am_up I 66 14 (0)) 66 15 (0))
set_option maxRecDepth 20000 in
set_option maxHeartbeats 1000000 in
theorem c_X7_spoil_66 (rd : Nat) (I : am_I) (G : am_G)  : am_Ct mX7_spoil 1 gS [.ref 66] I G (gP rd) (pV (g_X7_spoil_66 I G ) G (gP rd)) := by
  refine am_ofF (by decide +kernel) rfl (by decide) (by decide) (Nat.le_of_ble_eq_true rfl) (fun X ad hX hi => ?_)
  have hi : am_info X 5 cX7_spoil 1 false none 1 := hi
  show am_V X 0 0 _ _ ad (0, [(0, .ref 66)], [], I, G, (gP rd))
  refine am_blk 0 [(.aload_n 0, 1, 0, 0, .null), (.iconst (0), 1, 0, 0, .int (0)), (.putfield 97, 3, 5, 14, .null), (.aload_n 0, 1, 0, 0, .null), (.iconst (0), 1, 0, 0, .int (0)), (.putfield 101, 3, 5, 15, .null)] (10, [(0, .ref 66)], [], (am_up (am_up I 66 14 (0)) 66 15 (0)), G, (gP rd)) (((0) = 0 ∨ (0) = 1) ∧ ((0) = 0 ∨ (0) = 1) ∧ True) hX hi (by decide +kernel) rfl ?_ ?_
  · exact ⟨(by first | assumption | (refine (i_in _ _).mpr ?_; simp only [i_lt, i_le, i_eq, i_0, i_of, am_n] at *; omega)), (by first | assumption | (refine (i_in _ _).mpr ?_; simp only [i_lt, i_le, i_eq, i_0, i_of, am_n] at *; omega)), trivial⟩
  refine am_vret hX hi rfl (by decide +kernel) ?_
  exact ⟨rfl, by unfold g_X7_spoil_66; rfl, rfl, rfl⟩
def f_X7_changeSeed_53 (I : am_I) (G : am_G) (x1 : Int32) (x2 : Int32) : Int32 := (if (gAt (I 56) 4 x1) = x2 then (0) else (1))
def g_X7_changeSeed_53 (I : am_I) (G : am_G) (x1 : Int32) (x2 : Int32) : am_I := (if (gAt (I 56) 4 x1) = x2 then I else (g_X7_spoil_53 (gPut I 56 4 x1 x2) G ))
set_option maxRecDepth 20000 in
set_option maxHeartbeats 1000000 in
theorem c_X7_changeSeed_53 (rd : Nat) (I : am_I) (G : am_G) (x1 : Int32) (x2 : Int32) : am_Ct mX7_changeSeed 2 gS [.ref 53, .int x1, .int x2] I G (gP rd) (pI (f_X7_changeSeed_53 I G x1 x2) (g_X7_changeSeed_53 I G x1 x2) G (gP rd)) := by
  refine am_ofF (by decide +kernel) rfl (by decide) (by decide) (Nat.le_of_ble_eq_true rfl) (fun X ad hX hi => ?_)
  have hi : am_info X 5 cX7_changeSeed 3 false (Option.some Jvm.ClassFile.FieldType.boolean) 2 := hi
  show am_V X 0 0 _ _ ad (0, [(0, .ref 53), (1, .int x1), (2, .int x2)], [], I, G, (gP rd))
  refine am_blk 0 [(.aload_n 0, 1, 0, 0, .null), (.getfield 18, 3, 5, 4, .null), (.iload_n 1, 1, 1, 0, .null)] (5, [(0, .ref 53), (1, .int x1), (2, .int x2)], [.int x1, .ref 56], I, G, (gP rd)) (True) hX hi (by decide +kernel) rfl trivial ?_
  refine am_callS hX hi (M := mX0_at) (idx := 85) (d' := 1) (As := [.ref 56, .int x1]) (rest := []) mkX0_at msX0_at (by decide +kernel) (by decide +kernel) rfl ⟨by decide, by decide, Nat.le_of_ble_eq_true rfl⟩ rfl (c_at rfl (by decide) x1) ?_
  rintro r9 I9 G9 P9 ⟨e0, e1, e2, e3⟩
  rw [e0, e1, e2, e3]
  show am_V X 0 0 _ _ ad (8, [(0, .ref 53), (1, .int x1), (2, .int x2)], [.int (gAt (I 56) 4 x1)], I, G, (gP rd))
  refine am_blk 8 [(.iload_n 2, 1, 2, 0, .null)] (9, [(0, .ref 53), (1, .int x1), (2, .int x2)], [.int x2, .int (gAt (I 56) 4 x1)], I, G, (gP rd)) (True) hX hi (by decide +kernel) rfl trivial ?_
  refine am_icmp_ne (tgt := 14) hX hi (off := (5)) (by decide +kernel) (by decide) (fun c9 => ?_) (fun c9 => ?_)
  · refine am_blk 14 [(.aload_n 0, 1, 0, 0, .null), (.getfield 18, 3, 5, 4, .null), (.iload_n 1, 1, 1, 0, .null), (.iload_n 2, 1, 2, 0, .null)] (20, [(0, .ref 53), (1, .int x1), (2, .int x2)], [.int x2, .int x1, .ref 56], I, G, (gP rd)) (True) hX hi (by decide +kernel) rfl trivial ?_
    refine am_callS hX hi (M := mX0_put) (idx := 89) (d' := 1) (As := [.ref 56, .int x1, .int x2]) (rest := []) mkX0_put msX0_put (by decide +kernel) (by decide +kernel) rfl ⟨by decide, by decide, Nat.le_of_ble_eq_true rfl⟩ rfl (c_put rfl (by decide) x1 x2) ?_
    rintro r9 I9 G9 P9 ⟨e0, e1, e2, e3⟩
    rw [e0, e1, e2, e3]
    show am_V X 0 0 _ _ ad (23, [(0, .ref 53), (1, .int x1), (2, .int x2)], [], (gPut I 56 4 x1 x2), G, (gP rd))
    refine am_blk 23 [(.aload_n 0, 1, 0, 0, .null)] (24, [(0, .ref 53), (1, .int x1), (2, .int x2)], [.ref 53], (gPut I 56 4 x1 x2), G, (gP rd)) (True) hX hi (by decide +kernel) rfl trivial ?_
    refine am_callV hX hi (M := mX7_spoil) (idx := 79) (d' := 1) (b := 53) (ci := 5) (As := []) (rest := []) mkX7_spoil miX7_spoil mvX7_spoil (by decide +kernel) (by decide +kernel) rfl (by decide +kernel) rfl ⟨by decide, by decide, Nat.le_of_ble_eq_true rfl⟩ rfl (c_X7_spoil_53 rd (gPut I 56 4 x1 x2) G ) ?_
    rintro r9 I9 G9 P9 ⟨e0, e1, e2, e3⟩
    rw [e0, e1, e2, e3]
    show am_V X 0 0 _ _ ad (27, [(0, .ref 53), (1, .int x1), (2, .int x2)], [], (g_X7_spoil_53 (gPut I 56 4 x1 x2) G ), G, (gP rd))
    refine am_blk 27 [(.iconst (1), 1, 0, 0, .int (1))] (28, [(0, .ref 53), (1, .int x1), (2, .int x2)], [.int (1)], (g_X7_spoil_53 (gPut I 56 4 x1 x2) G ), G, (gP rd)) (True) hX hi (by decide +kernel) rfl trivial ?_
    refine am_iret hX hi rfl (by first | rfl | decide | (simp [narrow]; done)) (by decide +kernel) ?_
    exact ⟨by unfold f_X7_changeSeed_53; rw [if_neg c9], by unfold g_X7_changeSeed_53; rw [if_neg c9], rfl, rfl⟩
  · refine am_blk 12 [(.iconst (0), 1, 0, 0, .int (0))] (13, [(0, .ref 53), (1, .int x1), (2, .int x2)], [.int (0)], I, G, (gP rd)) (True) hX hi (by decide +kernel) rfl trivial ?_
    refine am_iret hX hi rfl (by first | rfl | decide | (simp [narrow]; done)) (by decide +kernel) ?_
    exact ⟨by unfold f_X7_changeSeed_53; rw [if_pos c9], by unfold g_X7_changeSeed_53; rw [if_pos c9], rfl, rfl⟩
def f_X7_changeSeed_66 (I : am_I) (G : am_G) (x1 : Int32) (x2 : Int32) : Int32 := (if (gAt (I 69) 4 x1) = x2 then (0) else (1))
def g_X7_changeSeed_66 (I : am_I) (G : am_G) (x1 : Int32) (x2 : Int32) : am_I := (if (gAt (I 69) 4 x1) = x2 then I else (g_X7_spoil_66 (gPut I 69 4 x1 x2) G ))
set_option maxRecDepth 20000 in
set_option maxHeartbeats 1000000 in
theorem c_X7_changeSeed_66 (rd : Nat) (I : am_I) (G : am_G) (x1 : Int32) (x2 : Int32) : am_Ct mX7_changeSeed 2 gS [.ref 66, .int x1, .int x2] I G (gP rd) (pI (f_X7_changeSeed_66 I G x1 x2) (g_X7_changeSeed_66 I G x1 x2) G (gP rd)) := by
  refine am_ofF (by decide +kernel) rfl (by decide) (by decide) (Nat.le_of_ble_eq_true rfl) (fun X ad hX hi => ?_)
  have hi : am_info X 5 cX7_changeSeed 3 false (Option.some Jvm.ClassFile.FieldType.boolean) 2 := hi
  show am_V X 0 0 _ _ ad (0, [(0, .ref 66), (1, .int x1), (2, .int x2)], [], I, G, (gP rd))
  refine am_blk 0 [(.aload_n 0, 1, 0, 0, .null), (.getfield 18, 3, 5, 4, .null), (.iload_n 1, 1, 1, 0, .null)] (5, [(0, .ref 66), (1, .int x1), (2, .int x2)], [.int x1, .ref 69], I, G, (gP rd)) (True) hX hi (by decide +kernel) rfl trivial ?_
  refine am_callS hX hi (M := mX0_at) (idx := 85) (d' := 1) (As := [.ref 69, .int x1]) (rest := []) mkX0_at msX0_at (by decide +kernel) (by decide +kernel) rfl ⟨by decide, by decide, Nat.le_of_ble_eq_true rfl⟩ rfl (c_at rfl (by decide) x1) ?_
  rintro r9 I9 G9 P9 ⟨e0, e1, e2, e3⟩
  rw [e0, e1, e2, e3]
  show am_V X 0 0 _ _ ad (8, [(0, .ref 66), (1, .int x1), (2, .int x2)], [.int (gAt (I 69) 4 x1)], I, G, (gP rd))
  refine am_blk 8 [(.iload_n 2, 1, 2, 0, .null)] (9, [(0, .ref 66), (1, .int x1), (2, .int x2)], [.int x2, .int (gAt (I 69) 4 x1)], I, G, (gP rd)) (True) hX hi (by decide +kernel) rfl trivial ?_
  refine am_icmp_ne (tgt := 14) hX hi (off := (5)) (by decide +kernel) (by decide) (fun c9 => ?_) (fun c9 => ?_)
  · refine am_blk 14 [(.aload_n 0, 1, 0, 0, .null), (.getfield 18, 3, 5, 4, .null), (.iload_n 1, 1, 1, 0, .null), (.iload_n 2, 1, 2, 0, .null)] (20, [(0, .ref 66), (1, .int x1), (2, .int x2)], [.int x2, .int x1, .ref 69], I, G, (gP rd)) (True) hX hi (by decide +kernel) rfl trivial ?_
    refine am_callS hX hi (M := mX0_put) (idx := 89) (d' := 1) (As := [.ref 69, .int x1, .int x2]) (rest := []) mkX0_put msX0_put (by decide +kernel) (by decide +kernel) rfl ⟨by decide, by decide, Nat.le_of_ble_eq_true rfl⟩ rfl (c_put rfl (by decide) x1 x2) ?_
    rintro r9 I9 G9 P9 ⟨e0, e1, e2, e3⟩
    rw [e0, e1, e2, e3]
    show am_V X 0 0 _ _ ad (23, [(0, .ref 66), (1, .int x1), (2, .int x2)], [], (gPut I 69 4 x1 x2), G, (gP rd))
    refine am_blk 23 [(.aload_n 0, 1, 0, 0, .null)] (24, [(0, .ref 66), (1, .int x1), (2, .int x2)], [.ref 66], (gPut I 69 4 x1 x2), G, (gP rd)) (True) hX hi (by decide +kernel) rfl trivial ?_
    refine am_callV hX hi (M := mX7_spoil) (idx := 79) (d' := 1) (b := 66) (ci := 5) (As := []) (rest := []) mkX7_spoil miX7_spoil mvX7_spoil (by decide +kernel) (by decide +kernel) rfl (by decide +kernel) rfl ⟨by decide, by decide, Nat.le_of_ble_eq_true rfl⟩ rfl (c_X7_spoil_66 rd (gPut I 69 4 x1 x2) G ) ?_
    rintro r9 I9 G9 P9 ⟨e0, e1, e2, e3⟩
    rw [e0, e1, e2, e3]
    show am_V X 0 0 _ _ ad (27, [(0, .ref 66), (1, .int x1), (2, .int x2)], [], (g_X7_spoil_66 (gPut I 69 4 x1 x2) G ), G, (gP rd))
    refine am_blk 27 [(.iconst (1), 1, 0, 0, .int (1))] (28, [(0, .ref 66), (1, .int x1), (2, .int x2)], [.int (1)], (g_X7_spoil_66 (gPut I 69 4 x1 x2) G ), G, (gP rd)) (True) hX hi (by decide +kernel) rfl trivial ?_
    refine am_iret hX hi rfl (by first | rfl | decide | (simp [narrow]; done)) (by decide +kernel) ?_
    exact ⟨by unfold f_X7_changeSeed_66; rw [if_neg c9], by unfold g_X7_changeSeed_66; rw [if_neg c9], rfl, rfl⟩
  · refine am_blk 12 [(.iconst (0), 1, 0, 0, .int (0))] (13, [(0, .ref 66), (1, .int x1), (2, .int x2)], [.int (0)], I, G, (gP rd)) (True) hX hi (by decide +kernel) rfl trivial ?_
    refine am_iret hX hi rfl (by first | rfl | decide | (simp [narrow]; done)) (by decide +kernel) ?_
    exact ⟨by unfold f_X7_changeSeed_66; rw [if_pos c9], by unfold g_X7_changeSeed_66; rw [if_pos c9], rfl, rfl⟩
def f_X7_changeDrift_53 (I : am_I) (G : am_G) (x1 : Int32) (x2 : Int32) : Int32 := (if (gWr ((I 53 10).toInt64 + x1.toInt64).toInt (I 7 9)) = (I 53 10) then (if (gWr ((I 53 11).toInt64 + x2.toInt64).toInt (I 7 10)) = (I 53 11) then (0) else (1)) else (1))
def g_X7_changeDrift_53 (I : am_I) (G : am_G) (x1 : Int32) (x2 : Int32) : am_I := (if (gWr ((I 53 10).toInt64 + x1.toInt64).toInt (I 7 9)) = (I 53 10) then (if (gWr ((I 53 11).toInt64 + x2.toInt64).toInt (I 7 10)) = (I 53 11) then (if (0) = 0 then (am_up (am_up I 53 10 (gWr ((I 53 10).toInt64 + x1.toInt64).toInt (I 7 9))) 53 11 (gWr ((I 53 11).toInt64 + x2.toInt64).toInt (I 7 10))) else (g_X7_spoil_53 (am_up (am_up I 53 10 (gWr ((I 53 10).toInt64 + x1.toInt64).toInt (I 7 9))) 53 11 (gWr ((I 53 11).toInt64 + x2.toInt64).toInt (I 7 10))) G )) else (if (1) = 0 then (am_up (am_up I 53 10 (gWr ((I 53 10).toInt64 + x1.toInt64).toInt (I 7 9))) 53 11 (gWr ((I 53 11).toInt64 + x2.toInt64).toInt (I 7 10))) else (g_X7_spoil_53 (am_up (am_up I 53 10 (gWr ((I 53 10).toInt64 + x1.toInt64).toInt (I 7 9))) 53 11 (gWr ((I 53 11).toInt64 + x2.toInt64).toInt (I 7 10))) G ))) else (if (1) = 0 then (am_up (am_up I 53 10 (gWr ((I 53 10).toInt64 + x1.toInt64).toInt (I 7 9))) 53 11 (gWr ((I 53 11).toInt64 + x2.toInt64).toInt (I 7 10))) else (g_X7_spoil_53 (am_up (am_up I 53 10 (gWr ((I 53 10).toInt64 + x1.toInt64).toInt (I 7 9))) 53 11 (gWr ((I 53 11).toInt64 + x2.toInt64).toInt (I 7 10))) G )))
set_option maxRecDepth 20000 in
set_option maxHeartbeats 1000000 in
theorem c_X7_changeDrift_53 (rd : Nat) (I : am_I) (G : am_G) (x1 : Int32) (x2 : Int32) : am_Ct mX7_changeDrift 3 gS [.ref 53, .int x1, .int x2] I G (gP rd) (pI (f_X7_changeDrift_53 I G x1 x2) (g_X7_changeDrift_53 I G x1 x2) G (gP rd)) := by
  refine am_ofF (by decide +kernel) rfl (by decide) (by decide) (Nat.le_of_ble_eq_true rfl) (fun X ad hX hi => ?_)
  have hi : am_info X 5 cX7_changeDrift 6 false (Option.some Jvm.ClassFile.FieldType.boolean) 3 := hi
  show am_V X 0 0 _ _ ad (0, [(0, .ref 53), (1, .int x1), (2, .int x2)], [], I, G, (gP rd))
  refine am_blk 0 [(.aload_n 0, 1, 0, 0, .null), (.getfield 52, 3, 5, 10, .null), (.istore_n 3, 1, 3, 0, .null), (.aload_n 0, 1, 0, 0, .null), (.getfield 56, 3, 5, 11, .null), (.istore 4, 2, 4, 0, .null), (.aload_n 0, 1, 0, 0, .null), (.aload_n 0, 1, 0, 0, .null), (.getfield 52, 3, 5, 10, .null), (.i2l, 1, 0, 0, .null), (.iload_n 1, 1, 1, 0, .null), (.i2l, 1, 0, 0, .null), (.ladd, 1, 0, 0, .null), (.aload_n 0, 1, 0, 0, .null), (.getfield 44, 3, 5, 0, .null), (.getfield 104, 3, 3, 9, .null)] (27, [(0, .ref 53), (1, .int x1), (2, .int x2), (3, .int (I 53 10)), (4, .int (I 53 11))], [.int (I 7 9), .long ((I 53 10).toInt64 + x1.toInt64), .ref 53], I, G, (gP rd)) (True) hX hi (by decide +kernel) rfl trivial ?_
  refine am_callS hX hi (M := mX0_wrap) (idx := 107) (d' := 2) (As := [.long ((I 53 10).toInt64 + x1.toInt64), .int (I 7 9)]) (rest := [.ref 53]) mkX0_wrap msX0_wrap (by decide +kernel) (by decide +kernel) rfl ⟨by decide, by decide, Nat.le_of_ble_eq_true rfl⟩ rfl (c_wrap ((I 53 10).toInt64 + x1.toInt64) (I 7 9)) ?_
  rintro r9 I9 G9 P9 ⟨e0, e1, e2, e3⟩
  rw [e0, e1, e2, e3]
  show am_V X 0 0 _ _ ad (30, [(0, .ref 53), (1, .int x1), (2, .int x2), (3, .int (I 53 10)), (4, .int (I 53 11))], [.int (gWr ((I 53 10).toInt64 + x1.toInt64).toInt (I 7 9)), .ref 53], I, G, (gP rd))
  refine am_blk 30 [(.putfield 52, 3, 5, 10, .null), (.aload_n 0, 1, 0, 0, .null), (.aload_n 0, 1, 0, 0, .null), (.getfield 56, 3, 5, 11, .null), (.i2l, 1, 0, 0, .null), (.iload_n 2, 1, 2, 0, .null), (.i2l, 1, 0, 0, .null), (.ladd, 1, 0, 0, .null), (.aload_n 0, 1, 0, 0, .null), (.getfield 44, 3, 5, 0, .null), (.getfield 111, 3, 3, 10, .null)] (49, [(0, .ref 53), (1, .int x1), (2, .int x2), (3, .int (I 53 10)), (4, .int (I 53 11))], [.int (I 7 10), .long ((I 53 11).toInt64 + x2.toInt64), .ref 53], (am_up I 53 10 (gWr ((I 53 10).toInt64 + x1.toInt64).toInt (I 7 9))), G, (gP rd)) (True) hX hi (by decide +kernel) rfl trivial ?_
  refine am_callS hX hi (M := mX0_wrap) (idx := 107) (d' := 2) (As := [.long ((I 53 11).toInt64 + x2.toInt64), .int (I 7 10)]) (rest := [.ref 53]) mkX0_wrap msX0_wrap (by decide +kernel) (by decide +kernel) rfl ⟨by decide, by decide, Nat.le_of_ble_eq_true rfl⟩ rfl (c_wrap ((I 53 11).toInt64 + x2.toInt64) (I 7 10)) ?_
  rintro r9 I9 G9 P9 ⟨e0, e1, e2, e3⟩
  rw [e0, e1, e2, e3]
  show am_V X 0 0 _ _ ad (52, [(0, .ref 53), (1, .int x1), (2, .int x2), (3, .int (I 53 10)), (4, .int (I 53 11))], [.int (gWr ((I 53 11).toInt64 + x2.toInt64).toInt (I 7 10)), .ref 53], (am_up I 53 10 (gWr ((I 53 10).toInt64 + x1.toInt64).toInt (I 7 9))), G, (gP rd))
  refine am_blk 52 [(.putfield 56, 3, 5, 11, .null), (.aload_n 0, 1, 0, 0, .null), (.getfield 52, 3, 5, 10, .null), (.iload_n 3, 1, 3, 0, .null)] (60, [(0, .ref 53), (1, .int x1), (2, .int x2), (3, .int (I 53 10)), (4, .int (I 53 11))], [.int (I 53 10), .int (gWr ((I 53 10).toInt64 + x1.toInt64).toInt (I 7 9))], (am_up (am_up I 53 10 (gWr ((I 53 10).toInt64 + x1.toInt64).toInt (I 7 9))) 53 11 (gWr ((I 53 11).toInt64 + x2.toInt64).toInt (I 7 10))), G, (gP rd)) (True) hX hi (by decide +kernel) rfl trivial ?_
  refine am_icmp_ne (tgt := 72) hX hi (off := (12)) (by decide +kernel) (by decide) (fun c60 => ?_) (fun c60 => ?_)
  · refine am_blk 72 [(.iconst (1), 1, 0, 0, .int (1)), (.goto (4), 3, 0, 77, .null), (.istore 5, 2, 5, 0, .null), (.iload 5, 2, 5, 0, .null)] (81, [(0, .ref 53), (1, .int x1), (2, .int x2), (3, .int (I 53 10)), (4, .int (I 53 11)), (5, .int (1))], [.int (1)], (am_up (am_up I 53 10 (gWr ((I 53 10).toInt64 + x1.toInt64).toInt (I 7 9))) 53 11 (gWr ((I 53 11).toInt64 + x2.toInt64).toInt (I 7 10))), G, (gP rd)) (True) hX hi (by decide +kernel) rfl trivial ?_
    refine am_if_eq (tgt := 88) hX hi (off := (7)) (by decide +kernel) (by decide) (fun c81 => ?_) (fun c81 => ?_)
    · refine am_blk 88 [(.iload 5, 2, 5, 0, .null)] (90, [(0, .ref 53), (1, .int x1), (2, .int x2), (3, .int (I 53 10)), (4, .int (I 53 11)), (5, .int (1))], [.int (1)], (am_up (am_up I 53 10 (gWr ((I 53 10).toInt64 + x1.toInt64).toInt (I 7 9))) 53 11 (gWr ((I 53 11).toInt64 + x2.toInt64).toInt (I 7 10))), G, (gP rd)) (True) hX hi (by decide +kernel) rfl trivial ?_
      refine am_iret hX hi rfl (by first | rfl | decide | (simp [narrow]; done)) (by decide +kernel) ?_
      exact ⟨by unfold f_X7_changeDrift_53; rw [if_neg c60], by unfold g_X7_changeDrift_53; rw [if_neg c60, if_pos c81], rfl, rfl⟩
    · refine am_blk 84 [(.aload_n 0, 1, 0, 0, .null)] (85, [(0, .ref 53), (1, .int x1), (2, .int x2), (3, .int (I 53 10)), (4, .int (I 53 11)), (5, .int (1))], [.ref 53], (am_up (am_up I 53 10 (gWr ((I 53 10).toInt64 + x1.toInt64).toInt (I 7 9))) 53 11 (gWr ((I 53 11).toInt64 + x2.toInt64).toInt (I 7 10))), G, (gP rd)) (True) hX hi (by decide +kernel) rfl trivial ?_
      refine am_callV hX hi (M := mX7_spoil) (idx := 79) (d' := 1) (b := 53) (ci := 5) (As := []) (rest := []) mkX7_spoil miX7_spoil mvX7_spoil (by decide +kernel) (by decide +kernel) rfl (by decide +kernel) rfl ⟨by decide, by decide, Nat.le_of_ble_eq_true rfl⟩ rfl (c_X7_spoil_53 rd (am_up (am_up I 53 10 (gWr ((I 53 10).toInt64 + x1.toInt64).toInt (I 7 9))) 53 11 (gWr ((I 53 11).toInt64 + x2.toInt64).toInt (I 7 10))) G ) ?_
      rintro r9 I9 G9 P9 ⟨e0, e1, e2, e3⟩
      rw [e0, e1, e2, e3]
      show am_V X 0 0 _ _ ad (88, [(0, .ref 53), (1, .int x1), (2, .int x2), (3, .int (I 53 10)), (4, .int (I 53 11)), (5, .int (1))], [], (g_X7_spoil_53 (am_up (am_up I 53 10 (gWr ((I 53 10).toInt64 + x1.toInt64).toInt (I 7 9))) 53 11 (gWr ((I 53 11).toInt64 + x2.toInt64).toInt (I 7 10))) G ), G, (gP rd))
      refine am_blk 88 [(.iload 5, 2, 5, 0, .null)] (90, [(0, .ref 53), (1, .int x1), (2, .int x2), (3, .int (I 53 10)), (4, .int (I 53 11)), (5, .int (1))], [.int (1)], (g_X7_spoil_53 (am_up (am_up I 53 10 (gWr ((I 53 10).toInt64 + x1.toInt64).toInt (I 7 9))) 53 11 (gWr ((I 53 11).toInt64 + x2.toInt64).toInt (I 7 10))) G ), G, (gP rd)) (True) hX hi (by decide +kernel) rfl trivial ?_
      refine am_iret hX hi rfl (by first | rfl | decide | (simp [narrow]; done)) (by decide +kernel) ?_
      exact ⟨by unfold f_X7_changeDrift_53; rw [if_neg c60], by unfold g_X7_changeDrift_53; rw [if_neg c60, if_neg c81], rfl, rfl⟩
  · refine am_blk 63 [(.aload_n 0, 1, 0, 0, .null), (.getfield 56, 3, 5, 11, .null), (.iload 4, 2, 4, 0, .null)] (69, [(0, .ref 53), (1, .int x1), (2, .int x2), (3, .int (I 53 10)), (4, .int (I 53 11))], [.int (I 53 11), .int (gWr ((I 53 11).toInt64 + x2.toInt64).toInt (I 7 10))], (am_up (am_up I 53 10 (gWr ((I 53 10).toInt64 + x1.toInt64).toInt (I 7 9))) 53 11 (gWr ((I 53 11).toInt64 + x2.toInt64).toInt (I 7 10))), G, (gP rd)) (True) hX hi (by decide +kernel) rfl trivial ?_
    refine am_icmp_eq (tgt := 76) hX hi (off := (7)) (by decide +kernel) (by decide) (fun c69 => ?_) (fun c69 => ?_)
    · refine am_blk 76 [(.iconst (0), 1, 0, 0, .int (0)), (.istore 5, 2, 5, 0, .null), (.iload 5, 2, 5, 0, .null)] (81, [(0, .ref 53), (1, .int x1), (2, .int x2), (3, .int (I 53 10)), (4, .int (I 53 11)), (5, .int (0))], [.int (0)], (am_up (am_up I 53 10 (gWr ((I 53 10).toInt64 + x1.toInt64).toInt (I 7 9))) 53 11 (gWr ((I 53 11).toInt64 + x2.toInt64).toInt (I 7 10))), G, (gP rd)) (True) hX hi (by decide +kernel) rfl trivial ?_
      refine am_if_eq (tgt := 88) hX hi (off := (7)) (by decide +kernel) (by decide) (fun c81 => ?_) (fun c81 => ?_)
      · refine am_blk 88 [(.iload 5, 2, 5, 0, .null)] (90, [(0, .ref 53), (1, .int x1), (2, .int x2), (3, .int (I 53 10)), (4, .int (I 53 11)), (5, .int (0))], [.int (0)], (am_up (am_up I 53 10 (gWr ((I 53 10).toInt64 + x1.toInt64).toInt (I 7 9))) 53 11 (gWr ((I 53 11).toInt64 + x2.toInt64).toInt (I 7 10))), G, (gP rd)) (True) hX hi (by decide +kernel) rfl trivial ?_
        refine am_iret hX hi rfl (by first | rfl | decide | (simp [narrow]; done)) (by decide +kernel) ?_
        exact ⟨by unfold f_X7_changeDrift_53; rw [if_pos c60, if_pos c69], by unfold g_X7_changeDrift_53; rw [if_pos c60, if_pos c69, if_pos c81], rfl, rfl⟩
      · refine am_blk 84 [(.aload_n 0, 1, 0, 0, .null)] (85, [(0, .ref 53), (1, .int x1), (2, .int x2), (3, .int (I 53 10)), (4, .int (I 53 11)), (5, .int (0))], [.ref 53], (am_up (am_up I 53 10 (gWr ((I 53 10).toInt64 + x1.toInt64).toInt (I 7 9))) 53 11 (gWr ((I 53 11).toInt64 + x2.toInt64).toInt (I 7 10))), G, (gP rd)) (True) hX hi (by decide +kernel) rfl trivial ?_
        refine am_callV hX hi (M := mX7_spoil) (idx := 79) (d' := 1) (b := 53) (ci := 5) (As := []) (rest := []) mkX7_spoil miX7_spoil mvX7_spoil (by decide +kernel) (by decide +kernel) rfl (by decide +kernel) rfl ⟨by decide, by decide, Nat.le_of_ble_eq_true rfl⟩ rfl (c_X7_spoil_53 rd (am_up (am_up I 53 10 (gWr ((I 53 10).toInt64 + x1.toInt64).toInt (I 7 9))) 53 11 (gWr ((I 53 11).toInt64 + x2.toInt64).toInt (I 7 10))) G ) ?_
        rintro r9 I9 G9 P9 ⟨e0, e1, e2, e3⟩
        rw [e0, e1, e2, e3]
        show am_V X 0 0 _ _ ad (88, [(0, .ref 53), (1, .int x1), (2, .int x2), (3, .int (I 53 10)), (4, .int (I 53 11)), (5, .int (0))], [], (g_X7_spoil_53 (am_up (am_up I 53 10 (gWr ((I 53 10).toInt64 + x1.toInt64).toInt (I 7 9))) 53 11 (gWr ((I 53 11).toInt64 + x2.toInt64).toInt (I 7 10))) G ), G, (gP rd))
        refine am_blk 88 [(.iload 5, 2, 5, 0, .null)] (90, [(0, .ref 53), (1, .int x1), (2, .int x2), (3, .int (I 53 10)), (4, .int (I 53 11)), (5, .int (0))], [.int (0)], (g_X7_spoil_53 (am_up (am_up I 53 10 (gWr ((I 53 10).toInt64 + x1.toInt64).toInt (I 7 9))) 53 11 (gWr ((I 53 11).toInt64 + x2.toInt64).toInt (I 7 10))) G ), G, (gP rd)) (True) hX hi (by decide +kernel) rfl trivial ?_
        refine am_iret hX hi rfl (by first | rfl | decide | (simp [narrow]; done)) (by decide +kernel) ?_
        exact ⟨by unfold f_X7_changeDrift_53; rw [if_pos c60, if_pos c69], by unfold g_X7_changeDrift_53; rw [if_pos c60, if_pos c69, if_neg c81], rfl, rfl⟩
    · refine am_blk 72 [(.iconst (1), 1, 0, 0, .int (1)), (.goto (4), 3, 0, 77, .null), (.istore 5, 2, 5, 0, .null), (.iload 5, 2, 5, 0, .null)] (81, [(0, .ref 53), (1, .int x1), (2, .int x2), (3, .int (I 53 10)), (4, .int (I 53 11)), (5, .int (1))], [.int (1)], (am_up (am_up I 53 10 (gWr ((I 53 10).toInt64 + x1.toInt64).toInt (I 7 9))) 53 11 (gWr ((I 53 11).toInt64 + x2.toInt64).toInt (I 7 10))), G, (gP rd)) (True) hX hi (by decide +kernel) rfl trivial ?_
      refine am_if_eq (tgt := 88) hX hi (off := (7)) (by decide +kernel) (by decide) (fun c81 => ?_) (fun c81 => ?_)
      · refine am_blk 88 [(.iload 5, 2, 5, 0, .null)] (90, [(0, .ref 53), (1, .int x1), (2, .int x2), (3, .int (I 53 10)), (4, .int (I 53 11)), (5, .int (1))], [.int (1)], (am_up (am_up I 53 10 (gWr ((I 53 10).toInt64 + x1.toInt64).toInt (I 7 9))) 53 11 (gWr ((I 53 11).toInt64 + x2.toInt64).toInt (I 7 10))), G, (gP rd)) (True) hX hi (by decide +kernel) rfl trivial ?_
        refine am_iret hX hi rfl (by first | rfl | decide | (simp [narrow]; done)) (by decide +kernel) ?_
        exact ⟨by unfold f_X7_changeDrift_53; rw [if_pos c60, if_neg c69], by unfold g_X7_changeDrift_53; rw [if_pos c60, if_neg c69, if_pos c81], rfl, rfl⟩
      · refine am_blk 84 [(.aload_n 0, 1, 0, 0, .null)] (85, [(0, .ref 53), (1, .int x1), (2, .int x2), (3, .int (I 53 10)), (4, .int (I 53 11)), (5, .int (1))], [.ref 53], (am_up (am_up I 53 10 (gWr ((I 53 10).toInt64 + x1.toInt64).toInt (I 7 9))) 53 11 (gWr ((I 53 11).toInt64 + x2.toInt64).toInt (I 7 10))), G, (gP rd)) (True) hX hi (by decide +kernel) rfl trivial ?_
        refine am_callV hX hi (M := mX7_spoil) (idx := 79) (d' := 1) (b := 53) (ci := 5) (As := []) (rest := []) mkX7_spoil miX7_spoil mvX7_spoil (by decide +kernel) (by decide +kernel) rfl (by decide +kernel) rfl ⟨by decide, by decide, Nat.le_of_ble_eq_true rfl⟩ rfl (c_X7_spoil_53 rd (am_up (am_up I 53 10 (gWr ((I 53 10).toInt64 + x1.toInt64).toInt (I 7 9))) 53 11 (gWr ((I 53 11).toInt64 + x2.toInt64).toInt (I 7 10))) G ) ?_
        rintro r9 I9 G9 P9 ⟨e0, e1, e2, e3⟩
        rw [e0, e1, e2, e3]
        show am_V X 0 0 _ _ ad (88, [(0, .ref 53), (1, .int x1), (2, .int x2), (3, .int (I 53 10)), (4, .int (I 53 11)), (5, .int (1))], [], (g_X7_spoil_53 (am_up (am_up I 53 10 (gWr ((I 53 10).toInt64 + x1.toInt64).toInt (I 7 9))) 53 11 (gWr ((I 53 11).toInt64 + x2.toInt64).toInt (I 7 10))) G ), G, (gP rd))
        refine am_blk 88 [(.iload 5, 2, 5, 0, .null)] (90, [(0, .ref 53), (1, .int x1), (2, .int x2), (3, .int (I 53 10)), (4, .int (I 53 11)), (5, .int (1))], [.int (1)], (g_X7_spoil_53 (am_up (am_up I 53 10 (gWr ((I 53 10).toInt64 + x1.toInt64).toInt (I 7 9))) 53 11 (gWr ((I 53 11).toInt64 + x2.toInt64).toInt (I 7 10))) G ), G, (gP rd)) (True) hX hi (by decide +kernel) rfl trivial ?_
        refine am_iret hX hi rfl (by first | rfl | decide | (simp [narrow]; done)) (by decide +kernel) ?_
        exact ⟨by unfold f_X7_changeDrift_53; rw [if_pos c60, if_neg c69], by unfold g_X7_changeDrift_53; rw [if_pos c60, if_neg c69, if_neg c81], rfl, rfl⟩
def f_X7_changeDrift_66 (I : am_I) (G : am_G) (x1 : Int32) (x2 : Int32) : Int32 := (if (gWr ((I 66 10).toInt64 + x1.toInt64).toInt (I 7 9)) = (I 66 10) then (if (gWr ((I 66 11).toInt64 + x2.toInt64).toInt (I 7 10)) = (I 66 11) then (0) else (1)) else (1))
def g_X7_changeDrift_66 (I : am_I) (G : am_G) (x1 : Int32) (x2 : Int32) : am_I := (if (gWr ((I 66 10).toInt64 + x1.toInt64).toInt (I 7 9)) = (I 66 10) then (if (gWr ((I 66 11).toInt64 + x2.toInt64).toInt (I 7 10)) = (I 66 11) then (if (0) = 0 then (am_up (am_up I 66 10 (gWr ((I 66 10).toInt64 + x1.toInt64).toInt (I 7 9))) 66 11 (gWr ((I 66 11).toInt64 + x2.toInt64).toInt (I 7 10))) else (g_X7_spoil_66 (am_up (am_up I 66 10 (gWr ((I 66 10).toInt64 + x1.toInt64).toInt (I 7 9))) 66 11 (gWr ((I 66 11).toInt64 + x2.toInt64).toInt (I 7 10))) G )) else (if (1) = 0 then (am_up (am_up I 66 10 (gWr ((I 66 10).toInt64 + x1.toInt64).toInt (I 7 9))) 66 11 (gWr ((I 66 11).toInt64 + x2.toInt64).toInt (I 7 10))) else (g_X7_spoil_66 (am_up (am_up I 66 10 (gWr ((I 66 10).toInt64 + x1.toInt64).toInt (I 7 9))) 66 11 (gWr ((I 66 11).toInt64 + x2.toInt64).toInt (I 7 10))) G ))) else (if (1) = 0 then (am_up (am_up I 66 10 (gWr ((I 66 10).toInt64 + x1.toInt64).toInt (I 7 9))) 66 11 (gWr ((I 66 11).toInt64 + x2.toInt64).toInt (I 7 10))) else (g_X7_spoil_66 (am_up (am_up I 66 10 (gWr ((I 66 10).toInt64 + x1.toInt64).toInt (I 7 9))) 66 11 (gWr ((I 66 11).toInt64 + x2.toInt64).toInt (I 7 10))) G )))
set_option maxRecDepth 20000 in
set_option maxHeartbeats 1000000 in
theorem c_X7_changeDrift_66 (rd : Nat) (I : am_I) (G : am_G) (x1 : Int32) (x2 : Int32) : am_Ct mX7_changeDrift 3 gS [.ref 66, .int x1, .int x2] I G (gP rd) (pI (f_X7_changeDrift_66 I G x1 x2) (g_X7_changeDrift_66 I G x1 x2) G (gP rd)) := by
  refine am_ofF (by decide +kernel) rfl (by decide) (by decide) (Nat.le_of_ble_eq_true rfl) (fun X ad hX hi => ?_)
  have hi : am_info X 5 cX7_changeDrift 6 false (Option.some Jvm.ClassFile.FieldType.boolean) 3 := hi
  show am_V X 0 0 _ _ ad (0, [(0, .ref 66), (1, .int x1), (2, .int x2)], [], I, G, (gP rd))
  refine am_blk 0 [(.aload_n 0, 1, 0, 0, .null), (.getfield 52, 3, 5, 10, .null), (.istore_n 3, 1, 3, 0, .null), (.aload_n 0, 1, 0, 0, .null), (.getfield 56, 3, 5, 11, .null), (.istore 4, 2, 4, 0, .null), (.aload_n 0, 1, 0, 0, .null), (.aload_n 0, 1, 0, 0, .null), (.getfield 52, 3, 5, 10, .null), (.i2l, 1, 0, 0, .null), (.iload_n 1, 1, 1, 0, .null), (.i2l, 1, 0, 0, .null), (.ladd, 1, 0, 0, .null), (.aload_n 0, 1, 0, 0, .null), (.getfield 44, 3, 5, 0, .null), (.getfield 104, 3, 3, 9, .null)] (27, [(0, .ref 66), (1, .int x1), (2, .int x2), (3, .int (I 66 10)), (4, .int (I 66 11))], [.int (I 7 9), .long ((I 66 10).toInt64 + x1.toInt64), .ref 66], I, G, (gP rd)) (True) hX hi (by decide +kernel) rfl trivial ?_
  refine am_callS hX hi (M := mX0_wrap) (idx := 107) (d' := 2) (As := [.long ((I 66 10).toInt64 + x1.toInt64), .int (I 7 9)]) (rest := [.ref 66]) mkX0_wrap msX0_wrap (by decide +kernel) (by decide +kernel) rfl ⟨by decide, by decide, Nat.le_of_ble_eq_true rfl⟩ rfl (c_wrap ((I 66 10).toInt64 + x1.toInt64) (I 7 9)) ?_
  rintro r9 I9 G9 P9 ⟨e0, e1, e2, e3⟩
  rw [e0, e1, e2, e3]
  show am_V X 0 0 _ _ ad (30, [(0, .ref 66), (1, .int x1), (2, .int x2), (3, .int (I 66 10)), (4, .int (I 66 11))], [.int (gWr ((I 66 10).toInt64 + x1.toInt64).toInt (I 7 9)), .ref 66], I, G, (gP rd))
  refine am_blk 30 [(.putfield 52, 3, 5, 10, .null), (.aload_n 0, 1, 0, 0, .null), (.aload_n 0, 1, 0, 0, .null), (.getfield 56, 3, 5, 11, .null), (.i2l, 1, 0, 0, .null), (.iload_n 2, 1, 2, 0, .null), (.i2l, 1, 0, 0, .null), (.ladd, 1, 0, 0, .null), (.aload_n 0, 1, 0, 0, .null), (.getfield 44, 3, 5, 0, .null), (.getfield 111, 3, 3, 10, .null)] (49, [(0, .ref 66), (1, .int x1), (2, .int x2), (3, .int (I 66 10)), (4, .int (I 66 11))], [.int (I 7 10), .long ((I 66 11).toInt64 + x2.toInt64), .ref 66], (am_up I 66 10 (gWr ((I 66 10).toInt64 + x1.toInt64).toInt (I 7 9))), G, (gP rd)) (True) hX hi (by decide +kernel) rfl trivial ?_
  refine am_callS hX hi (M := mX0_wrap) (idx := 107) (d' := 2) (As := [.long ((I 66 11).toInt64 + x2.toInt64), .int (I 7 10)]) (rest := [.ref 66]) mkX0_wrap msX0_wrap (by decide +kernel) (by decide +kernel) rfl ⟨by decide, by decide, Nat.le_of_ble_eq_true rfl⟩ rfl (c_wrap ((I 66 11).toInt64 + x2.toInt64) (I 7 10)) ?_
  rintro r9 I9 G9 P9 ⟨e0, e1, e2, e3⟩
  rw [e0, e1, e2, e3]
  show am_V X 0 0 _ _ ad (52, [(0, .ref 66), (1, .int x1), (2, .int x2), (3, .int (I 66 10)), (4, .int (I 66 11))], [.int (gWr ((I 66 11).toInt64 + x2.toInt64).toInt (I 7 10)), .ref 66], (am_up I 66 10 (gWr ((I 66 10).toInt64 + x1.toInt64).toInt (I 7 9))), G, (gP rd))
  refine am_blk 52 [(.putfield 56, 3, 5, 11, .null), (.aload_n 0, 1, 0, 0, .null), (.getfield 52, 3, 5, 10, .null), (.iload_n 3, 1, 3, 0, .null)] (60, [(0, .ref 66), (1, .int x1), (2, .int x2), (3, .int (I 66 10)), (4, .int (I 66 11))], [.int (I 66 10), .int (gWr ((I 66 10).toInt64 + x1.toInt64).toInt (I 7 9))], (am_up (am_up I 66 10 (gWr ((I 66 10).toInt64 + x1.toInt64).toInt (I 7 9))) 66 11 (gWr ((I 66 11).toInt64 + x2.toInt64).toInt (I 7 10))), G, (gP rd)) (True) hX hi (by decide +kernel) rfl trivial ?_
  refine am_icmp_ne (tgt := 72) hX hi (off := (12)) (by decide +kernel) (by decide) (fun c60 => ?_) (fun c60 => ?_)
  · refine am_blk 72 [(.iconst (1), 1, 0, 0, .int (1)), (.goto (4), 3, 0, 77, .null), (.istore 5, 2, 5, 0, .null), (.iload 5, 2, 5, 0, .null)] (81, [(0, .ref 66), (1, .int x1), (2, .int x2), (3, .int (I 66 10)), (4, .int (I 66 11)), (5, .int (1))], [.int (1)], (am_up (am_up I 66 10 (gWr ((I 66 10).toInt64 + x1.toInt64).toInt (I 7 9))) 66 11 (gWr ((I 66 11).toInt64 + x2.toInt64).toInt (I 7 10))), G, (gP rd)) (True) hX hi (by decide +kernel) rfl trivial ?_
    refine am_if_eq (tgt := 88) hX hi (off := (7)) (by decide +kernel) (by decide) (fun c81 => ?_) (fun c81 => ?_)
    · refine am_blk 88 [(.iload 5, 2, 5, 0, .null)] (90, [(0, .ref 66), (1, .int x1), (2, .int x2), (3, .int (I 66 10)), (4, .int (I 66 11)), (5, .int (1))], [.int (1)], (am_up (am_up I 66 10 (gWr ((I 66 10).toInt64 + x1.toInt64).toInt (I 7 9))) 66 11 (gWr ((I 66 11).toInt64 + x2.toInt64).toInt (I 7 10))), G, (gP rd)) (True) hX hi (by decide +kernel) rfl trivial ?_
      refine am_iret hX hi rfl (by first | rfl | decide | (simp [narrow]; done)) (by decide +kernel) ?_
      exact ⟨by unfold f_X7_changeDrift_66; rw [if_neg c60], by unfold g_X7_changeDrift_66; rw [if_neg c60, if_pos c81], rfl, rfl⟩
    · refine am_blk 84 [(.aload_n 0, 1, 0, 0, .null)] (85, [(0, .ref 66), (1, .int x1), (2, .int x2), (3, .int (I 66 10)), (4, .int (I 66 11)), (5, .int (1))], [.ref 66], (am_up (am_up I 66 10 (gWr ((I 66 10).toInt64 + x1.toInt64).toInt (I 7 9))) 66 11 (gWr ((I 66 11).toInt64 + x2.toInt64).toInt (I 7 10))), G, (gP rd)) (True) hX hi (by decide +kernel) rfl trivial ?_
      refine am_callV hX hi (M := mX7_spoil) (idx := 79) (d' := 1) (b := 66) (ci := 5) (As := []) (rest := []) mkX7_spoil miX7_spoil mvX7_spoil (by decide +kernel) (by decide +kernel) rfl (by decide +kernel) rfl ⟨by decide, by decide, Nat.le_of_ble_eq_true rfl⟩ rfl (c_X7_spoil_66 rd (am_up (am_up I 66 10 (gWr ((I 66 10).toInt64 + x1.toInt64).toInt (I 7 9))) 66 11 (gWr ((I 66 11).toInt64 + x2.toInt64).toInt (I 7 10))) G ) ?_
      rintro r9 I9 G9 P9 ⟨e0, e1, e2, e3⟩
      rw [e0, e1, e2, e3]
      show am_V X 0 0 _ _ ad (88, [(0, .ref 66), (1, .int x1), (2, .int x2), (3, .int (I 66 10)), (4, .int (I 66 11)), (5, .int (1))], [], (g_X7_spoil_66 (am_up (am_up I 66 10 (gWr ((I 66 10).toInt64 + x1.toInt64).toInt (I 7 9))) 66 11 (gWr ((I 66 11).toInt64 + x2.toInt64).toInt (I 7 10))) G ), G, (gP rd))
      refine am_blk 88 [(.iload 5, 2, 5, 0, .null)] (90, [(0, .ref 66), (1, .int x1), (2, .int x2), (3, .int (I 66 10)), (4, .int (I 66 11)), (5, .int (1))], [.int (1)], (g_X7_spoil_66 (am_up (am_up I 66 10 (gWr ((I 66 10).toInt64 + x1.toInt64).toInt (I 7 9))) 66 11 (gWr ((I 66 11).toInt64 + x2.toInt64).toInt (I 7 10))) G ), G, (gP rd)) (True) hX hi (by decide +kernel) rfl trivial ?_
      refine am_iret hX hi rfl (by first | rfl | decide | (simp [narrow]; done)) (by decide +kernel) ?_
      exact ⟨by unfold f_X7_changeDrift_66; rw [if_neg c60], by unfold g_X7_changeDrift_66; rw [if_neg c60, if_neg c81], rfl, rfl⟩
  · refine am_blk 63 [(.aload_n 0, 1, 0, 0, .null), (.getfield 56, 3, 5, 11, .null), (.iload 4, 2, 4, 0, .null)] (69, [(0, .ref 66), (1, .int x1), (2, .int x2), (3, .int (I 66 10)), (4, .int (I 66 11))], [.int (I 66 11), .int (gWr ((I 66 11).toInt64 + x2.toInt64).toInt (I 7 10))], (am_up (am_up I 66 10 (gWr ((I 66 10).toInt64 + x1.toInt64).toInt (I 7 9))) 66 11 (gWr ((I 66 11).toInt64 + x2.toInt64).toInt (I 7 10))), G, (gP rd)) (True) hX hi (by decide +kernel) rfl trivial ?_
    refine am_icmp_eq (tgt := 76) hX hi (off := (7)) (by decide +kernel) (by decide) (fun c69 => ?_) (fun c69 => ?_)
    · refine am_blk 76 [(.iconst (0), 1, 0, 0, .int (0)), (.istore 5, 2, 5, 0, .null), (.iload 5, 2, 5, 0, .null)] (81, [(0, .ref 66), (1, .int x1), (2, .int x2), (3, .int (I 66 10)), (4, .int (I 66 11)), (5, .int (0))], [.int (0)], (am_up (am_up I 66 10 (gWr ((I 66 10).toInt64 + x1.toInt64).toInt (I 7 9))) 66 11 (gWr ((I 66 11).toInt64 + x2.toInt64).toInt (I 7 10))), G, (gP rd)) (True) hX hi (by decide +kernel) rfl trivial ?_
      refine am_if_eq (tgt := 88) hX hi (off := (7)) (by decide +kernel) (by decide) (fun c81 => ?_) (fun c81 => ?_)
      · refine am_blk 88 [(.iload 5, 2, 5, 0, .null)] (90, [(0, .ref 66), (1, .int x1), (2, .int x2), (3, .int (I 66 10)), (4, .int (I 66 11)), (5, .int (0))], [.int (0)], (am_up (am_up I 66 10 (gWr ((I 66 10).toInt64 + x1.toInt64).toInt (I 7 9))) 66 11 (gWr ((I 66 11).toInt64 + x2.toInt64).toInt (I 7 10))), G, (gP rd)) (True) hX hi (by decide +kernel) rfl trivial ?_
        refine am_iret hX hi rfl (by first | rfl | decide | (simp [narrow]; done)) (by decide +kernel) ?_
        exact ⟨by unfold f_X7_changeDrift_66; rw [if_pos c60, if_pos c69], by unfold g_X7_changeDrift_66; rw [if_pos c60, if_pos c69, if_pos c81], rfl, rfl⟩
      · refine am_blk 84 [(.aload_n 0, 1, 0, 0, .null)] (85, [(0, .ref 66), (1, .int x1), (2, .int x2), (3, .int (I 66 10)), (4, .int (I 66 11)), (5, .int (0))], [.ref 66], (am_up (am_up I 66 10 (gWr ((I 66 10).toInt64 + x1.toInt64).toInt (I 7 9))) 66 11 (gWr ((I 66 11).toInt64 + x2.toInt64).toInt (I 7 10))), G, (gP rd)) (True) hX hi (by decide +kernel) rfl trivial ?_
        refine am_callV hX hi (M := mX7_spoil) (idx := 79) (d' := 1) (b := 66) (ci := 5) (As := []) (rest := []) mkX7_spoil miX7_spoil mvX7_spoil (by decide +kernel) (by decide +kernel) rfl (by decide +kernel) rfl ⟨by decide, by decide, Nat.le_of_ble_eq_true rfl⟩ rfl (c_X7_spoil_66 rd (am_up (am_up I 66 10 (gWr ((I 66 10).toInt64 + x1.toInt64).toInt (I 7 9))) 66 11 (gWr ((I 66 11).toInt64 + x2.toInt64).toInt (I 7 10))) G ) ?_
        rintro r9 I9 G9 P9 ⟨e0, e1, e2, e3⟩
        rw [e0, e1, e2, e3]
        show am_V X 0 0 _ _ ad (88, [(0, .ref 66), (1, .int x1), (2, .int x2), (3, .int (I 66 10)), (4, .int (I 66 11)), (5, .int (0))], [], (g_X7_spoil_66 (am_up (am_up I 66 10 (gWr ((I 66 10).toInt64 + x1.toInt64).toInt (I 7 9))) 66 11 (gWr ((I 66 11).toInt64 + x2.toInt64).toInt (I 7 10))) G ), G, (gP rd))
        refine am_blk 88 [(.iload 5, 2, 5, 0, .null)] (90, [(0, .ref 66), (1, .int x1), (2, .int x2), (3, .int (I 66 10)), (4, .int (I 66 11)), (5, .int (0))], [.int (0)], (g_X7_spoil_66 (am_up (am_up I 66 10 (gWr ((I 66 10).toInt64 + x1.toInt64).toInt (I 7 9))) 66 11 (gWr ((I 66 11).toInt64 + x2.toInt64).toInt (I 7 10))) G ), G, (gP rd)) (True) hX hi (by decide +kernel) rfl trivial ?_
        refine am_iret hX hi rfl (by first | rfl | decide | (simp [narrow]; done)) (by decide +kernel) ?_
        exact ⟨by unfold f_X7_changeDrift_66; rw [if_pos c60, if_pos c69], by unfold g_X7_changeDrift_66; rw [if_pos c60, if_pos c69, if_neg c81], rfl, rfl⟩
    · refine am_blk 72 [(.iconst (1), 1, 0, 0, .int (1)), (.goto (4), 3, 0, 77, .null), (.istore 5, 2, 5, 0, .null), (.iload 5, 2, 5, 0, .null)] (81, [(0, .ref 66), (1, .int x1), (2, .int x2), (3, .int (I 66 10)), (4, .int (I 66 11)), (5, .int (1))], [.int (1)], (am_up (am_up I 66 10 (gWr ((I 66 10).toInt64 + x1.toInt64).toInt (I 7 9))) 66 11 (gWr ((I 66 11).toInt64 + x2.toInt64).toInt (I 7 10))), G, (gP rd)) (True) hX hi (by decide +kernel) rfl trivial ?_
      refine am_if_eq (tgt := 88) hX hi (off := (7)) (by decide +kernel) (by decide) (fun c81 => ?_) (fun c81 => ?_)
      · refine am_blk 88 [(.iload 5, 2, 5, 0, .null)] (90, [(0, .ref 66), (1, .int x1), (2, .int x2), (3, .int (I 66 10)), (4, .int (I 66 11)), (5, .int (1))], [.int (1)], (am_up (am_up I 66 10 (gWr ((I 66 10).toInt64 + x1.toInt64).toInt (I 7 9))) 66 11 (gWr ((I 66 11).toInt64 + x2.toInt64).toInt (I 7 10))), G, (gP rd)) (True) hX hi (by decide +kernel) rfl trivial ?_
        refine am_iret hX hi rfl (by first | rfl | decide | (simp [narrow]; done)) (by decide +kernel) ?_
        exact ⟨by unfold f_X7_changeDrift_66; rw [if_pos c60, if_neg c69], by unfold g_X7_changeDrift_66; rw [if_pos c60, if_neg c69, if_pos c81], rfl, rfl⟩
      · refine am_blk 84 [(.aload_n 0, 1, 0, 0, .null)] (85, [(0, .ref 66), (1, .int x1), (2, .int x2), (3, .int (I 66 10)), (4, .int (I 66 11)), (5, .int (1))], [.ref 66], (am_up (am_up I 66 10 (gWr ((I 66 10).toInt64 + x1.toInt64).toInt (I 7 9))) 66 11 (gWr ((I 66 11).toInt64 + x2.toInt64).toInt (I 7 10))), G, (gP rd)) (True) hX hi (by decide +kernel) rfl trivial ?_
        refine am_callV hX hi (M := mX7_spoil) (idx := 79) (d' := 1) (b := 66) (ci := 5) (As := []) (rest := []) mkX7_spoil miX7_spoil mvX7_spoil (by decide +kernel) (by decide +kernel) rfl (by decide +kernel) rfl ⟨by decide, by decide, Nat.le_of_ble_eq_true rfl⟩ rfl (c_X7_spoil_66 rd (am_up (am_up I 66 10 (gWr ((I 66 10).toInt64 + x1.toInt64).toInt (I 7 9))) 66 11 (gWr ((I 66 11).toInt64 + x2.toInt64).toInt (I 7 10))) G ) ?_
        rintro r9 I9 G9 P9 ⟨e0, e1, e2, e3⟩
        rw [e0, e1, e2, e3]
        show am_V X 0 0 _ _ ad (88, [(0, .ref 66), (1, .int x1), (2, .int x2), (3, .int (I 66 10)), (4, .int (I 66 11)), (5, .int (1))], [], (g_X7_spoil_66 (am_up (am_up I 66 10 (gWr ((I 66 10).toInt64 + x1.toInt64).toInt (I 7 9))) 66 11 (gWr ((I 66 11).toInt64 + x2.toInt64).toInt (I 7 10))) G ), G, (gP rd))
        refine am_blk 88 [(.iload 5, 2, 5, 0, .null)] (90, [(0, .ref 66), (1, .int x1), (2, .int x2), (3, .int (I 66 10)), (4, .int (I 66 11)), (5, .int (1))], [.int (1)], (g_X7_spoil_66 (am_up (am_up I 66 10 (gWr ((I 66 10).toInt64 + x1.toInt64).toInt (I 7 9))) 66 11 (gWr ((I 66 11).toInt64 + x2.toInt64).toInt (I 7 10))) G ), G, (gP rd)) (True) hX hi (by decide +kernel) rfl trivial ?_
        refine am_iret hX hi rfl (by first | rfl | decide | (simp [narrow]; done)) (by decide +kernel) ?_
        exact ⟨by unfold f_X7_changeDrift_66; rw [if_pos c60, if_neg c69], by unfold g_X7_changeDrift_66; rw [if_pos c60, if_neg c69, if_neg c81], rfl, rfl⟩
def f_X7_shiftOf_53 (I : am_I) (G : am_G) (x1 : Int32) (x2 : Int32) : Int32 := (gAt (I 55) 96 ((x1 * (24)) + x2))
set_option maxRecDepth 20000 in
set_option maxHeartbeats 1000000 in
theorem c_X7_shiftOf_53 (rd : Nat) (I : am_I) (G : am_G) (x1 : Int32) (x2 : Int32) : am_Ct mX7_shiftOf 2 gS [.ref 53, .int x1, .int x2] I G (gP rd) (pI (f_X7_shiftOf_53 I G x1 x2) I G (gP rd)) := by
  refine am_ofF (by decide +kernel) rfl (by decide) (by decide) (Nat.le_of_ble_eq_true rfl) (fun X ad hX hi => ?_)
  have hi : am_info X 5 cX7_shiftOf 3 false (Option.some Jvm.ClassFile.FieldType.int) 2 := hi
  show am_V X 0 0 _ _ ad (0, [(0, .ref 53), (1, .int x1), (2, .int x2)], [], I, G, (gP rd))
  refine am_blk 0 [(.aload_n 0, 1, 0, 0, .null), (.getfield 15, 3, 5, 3, .null), (.iload_n 1, 1, 1, 0, .null), (.bipush (24), 2, 0, 0, .int (24)), (.imul, 1, 0, 0, .null), (.iload_n 2, 1, 2, 0, .null), (.iadd, 1, 0, 0, .null)] (10, [(0, .ref 53), (1, .int x1), (2, .int x2)], [.int ((x1 * (24)) + x2), .ref 55], I, G, (gP rd)) (True) hX hi (by decide +kernel) rfl trivial ?_
  refine am_callS hX hi (M := mX0_at) (idx := 85) (d' := 1) (As := [.ref 55, .int ((x1 * (24)) + x2)]) (rest := []) mkX0_at msX0_at (by decide +kernel) (by decide +kernel) rfl ⟨by decide, by decide, Nat.le_of_ble_eq_true rfl⟩ rfl (c_at rfl (by decide) ((x1 * (24)) + x2)) ?_
  rintro r9 I9 G9 P9 ⟨e0, e1, e2, e3⟩
  rw [e0, e1, e2, e3]
  show am_V X 0 0 _ _ ad (13, [(0, .ref 53), (1, .int x1), (2, .int x2)], [.int (gAt (I 55) 96 ((x1 * (24)) + x2))], I, G, (gP rd))
  refine am_iret hX hi rfl rfl (by decide +kernel) ?_
  exact ⟨by unfold f_X7_shiftOf_53; rfl, rfl, rfl, rfl⟩
def f_X7_shiftOf_66 (I : am_I) (G : am_G) (x1 : Int32) (x2 : Int32) : Int32 := (gAt (I 68) 96 ((x1 * (24)) + x2))
set_option maxRecDepth 20000 in
set_option maxHeartbeats 1000000 in
theorem c_X7_shiftOf_66 (rd : Nat) (I : am_I) (G : am_G) (x1 : Int32) (x2 : Int32) : am_Ct mX7_shiftOf 2 gS [.ref 66, .int x1, .int x2] I G (gP rd) (pI (f_X7_shiftOf_66 I G x1 x2) I G (gP rd)) := by
  refine am_ofF (by decide +kernel) rfl (by decide) (by decide) (Nat.le_of_ble_eq_true rfl) (fun X ad hX hi => ?_)
  have hi : am_info X 5 cX7_shiftOf 3 false (Option.some Jvm.ClassFile.FieldType.int) 2 := hi
  show am_V X 0 0 _ _ ad (0, [(0, .ref 66), (1, .int x1), (2, .int x2)], [], I, G, (gP rd))
  refine am_blk 0 [(.aload_n 0, 1, 0, 0, .null), (.getfield 15, 3, 5, 3, .null), (.iload_n 1, 1, 1, 0, .null), (.bipush (24), 2, 0, 0, .int (24)), (.imul, 1, 0, 0, .null), (.iload_n 2, 1, 2, 0, .null), (.iadd, 1, 0, 0, .null)] (10, [(0, .ref 66), (1, .int x1), (2, .int x2)], [.int ((x1 * (24)) + x2), .ref 68], I, G, (gP rd)) (True) hX hi (by decide +kernel) rfl trivial ?_
  refine am_callS hX hi (M := mX0_at) (idx := 85) (d' := 1) (As := [.ref 68, .int ((x1 * (24)) + x2)]) (rest := []) mkX0_at msX0_at (by decide +kernel) (by decide +kernel) rfl ⟨by decide, by decide, Nat.le_of_ble_eq_true rfl⟩ rfl (c_at rfl (by decide) ((x1 * (24)) + x2)) ?_
  rintro r9 I9 G9 P9 ⟨e0, e1, e2, e3⟩
  rw [e0, e1, e2, e3]
  show am_V X 0 0 _ _ ad (13, [(0, .ref 66), (1, .int x1), (2, .int x2)], [.int (gAt (I 68) 96 ((x1 * (24)) + x2))], I, G, (gP rd))
  refine am_iret hX hi rfl rfl (by decide +kernel) ?_
  exact ⟨by unfold f_X7_shiftOf_66; rfl, rfl, rfl, rfl⟩
def g_X8_clear_64 (I : am_I) (G : am_G)  : am_I := (am_up I 64 1 (0))
set_option maxRecDepth 20000 in
set_option maxHeartbeats 1000000 in
theorem c_X8_clear_64 (rd : Nat) (I : am_I) (G : am_G)  : am_Ct mX8_clear 1 gS [.ref 64] I G (gP rd) (pV (g_X8_clear_64 I G ) G (gP rd)) := by
  refine am_ofF (by decide +kernel) rfl (by decide) (by decide) (Nat.le_of_ble_eq_true rfl) (fun X ad hX hi => ?_)
  have hi : am_info X 6 cX8_clear 1 false none 1 := hi
  show am_V X 0 0 _ _ ad (0, [(0, .ref 64)], [], I, G, (gP rd))
  refine am_blk 0 [(.aload_n 0, 1, 0, 0, .null), (.iconst (0), 1, 0, 0, .int (0)), (.putfield 15, 3, 6, 1, .null)] (5, [(0, .ref 64)], [], (am_up I 64 1 (0)), G, (gP rd)) (True) hX hi (by decide +kernel) rfl trivial ?_
  refine am_vret hX hi rfl (by decide +kernel) ?_
  exact ⟨rfl, by unfold g_X8_clear_64; rfl, rfl, rfl⟩
def g_X8_clear_77 (I : am_I) (G : am_G)  : am_I := (am_up I 77 1 (0))
set_option maxRecDepth 20000 in
set_option maxHeartbeats 1000000 in
theorem c_X8_clear_77 (rd : Nat) (I : am_I) (G : am_G)  : am_Ct mX8_clear 1 gS [.ref 77] I G (gP rd) (pV (g_X8_clear_77 I G ) G (gP rd)) := by
  refine am_ofF (by decide +kernel) rfl (by decide) (by decide) (Nat.le_of_ble_eq_true rfl) (fun X ad hX hi => ?_)
  have hi : am_info X 6 cX8_clear 1 false none 1 := hi
  show am_V X 0 0 _ _ ad (0, [(0, .ref 77)], [], I, G, (gP rd))
  refine am_blk 0 [(.aload_n 0, 1, 0, 0, .null), (.iconst (0), 1, 0, 0, .int (0)), (.putfield 15, 3, 6, 1, .null)] (5, [(0, .ref 77)], [], (am_up I 77 1 (0)), G, (gP rd)) (True) hX hi (by decide +kernel) rfl trivial ?_
  refine am_vret hX hi rfl (by decide +kernel) ?_
  exact ⟨rfl, by unfold g_X8_clear_77; rfl, rfl, rfl⟩
def g_X8_push_64 (I : am_I) (G : am_G) (x1 : Int32) : am_I := (if (I 64 1) < 0 then I else (if (Int32.ofNat 400) ≤ (I 64 1) then I else (am_up (am_up I 65 (I 64 1).toNatClampNeg x1) 64 1 ((I 64 1) + (1)))))
set_option maxRecDepth 20000 in
set_option maxHeartbeats 1000000 in
theorem c_X8_push_64 (rd : Nat) (I : am_I) (G : am_G) (x1 : Int32) : am_Ct mX8_push 1 gS [.ref 64, .int x1] I G (gP rd) (pV (g_X8_push_64 I G x1) G (gP rd)) := by
  refine am_ofF (by decide +kernel) rfl (by decide) (by decide) (Nat.le_of_ble_eq_true rfl) (fun X ad hX hi => ?_)
  have hi : am_info X 6 cX8_push 2 false none 1 := hi
  show am_V X 0 0 _ _ ad (0, [(0, .ref 64), (1, .int x1)], [], I, G, (gP rd))
  refine am_blk 0 [(.aload_n 0, 1, 0, 0, .null), (.getfield 15, 3, 6, 1, .null)] (4, [(0, .ref 64), (1, .int x1)], [.int (I 64 1)], I, G, (gP rd)) (True) hX hi (by decide +kernel) rfl trivial ?_
  refine am_if_lt (tgt := 39) hX hi (off := (35)) (by decide +kernel) (by decide) (fun c4 => ?_) (fun c4 => ?_)
  · refine am_vret hX hi rfl (by decide +kernel) ?_
    exact ⟨rfl, by unfold g_X8_push_64; rw [if_pos c4], rfl, rfl⟩
  · refine am_blk 7 [(.aload_n 0, 1, 0, 0, .null), (.getfield 15, 3, 6, 1, .null), (.aload_n 0, 1, 0, 0, .null), (.getfield 9, 3, 6, 0, .null), (.arraylength, 1, 0, 0, .null)] (16, [(0, .ref 64), (1, .int x1)], [.int (Int32.ofNat 400), .int (I 64 1)], I, G, (gP rd)) (True) hX hi (by decide +kernel) rfl trivial ?_
    refine am_icmp_ge (tgt := 39) hX hi (off := (23)) (by decide +kernel) (by decide) (fun c16 => ?_) (fun c16 => ?_)
    · refine am_vret hX hi rfl (by decide +kernel) ?_
      exact ⟨rfl, by unfold g_X8_push_64; rw [if_neg c4, if_pos c16], rfl, rfl⟩
    · refine am_blk 19 [(.aload_n 0, 1, 0, 0, .null), (.getfield 9, 3, 6, 0, .null), (.aload_n 0, 1, 0, 0, .null), (.getfield 15, 3, 6, 1, .null), (.iload_n 1, 1, 1, 0, .null), (.iastore, 1, 0, 0, .null), (.aload_n 0, 1, 0, 0, .null), (.dup, 1, 0, 0, .null), (.getfield 15, 3, 6, 1, .null), (.iconst (1), 1, 0, 0, .int (1)), (.iadd, 1, 0, 0, .null), (.putfield 15, 3, 6, 1, .null)] (39, [(0, .ref 64), (1, .int x1)], [], (am_up (am_up I 65 (I 64 1).toNatClampNeg x1) 64 1 ((I 64 1) + (1))), G, (gP rd)) (vp_in (I 64 1) 400 ∧ True) hX hi (by decide +kernel) rfl ?_ ?_
      · exact ⟨(by first | assumption | (refine (i_in _ _).mpr ?_; simp only [i_lt, i_le, i_eq, i_0, i_of, am_n] at *; omega)), trivial⟩
      refine am_vret hX hi rfl (by decide +kernel) ?_
      exact ⟨rfl, by unfold g_X8_push_64; rw [if_neg c4, if_neg c16], rfl, rfl⟩
def g_X8_push_77 (I : am_I) (G : am_G) (x1 : Int32) : am_I := (if (I 77 1) < 0 then I else (if (Int32.ofNat 400) ≤ (I 77 1) then I else (am_up (am_up I 78 (I 77 1).toNatClampNeg x1) 77 1 ((I 77 1) + (1)))))
set_option maxRecDepth 20000 in
set_option maxHeartbeats 1000000 in
theorem c_X8_push_77 (rd : Nat) (I : am_I) (G : am_G) (x1 : Int32) : am_Ct mX8_push 1 gS [.ref 77, .int x1] I G (gP rd) (pV (g_X8_push_77 I G x1) G (gP rd)) := by
  refine am_ofF (by decide +kernel) rfl (by decide) (by decide) (Nat.le_of_ble_eq_true rfl) (fun X ad hX hi => ?_)
  have hi : am_info X 6 cX8_push 2 false none 1 := hi
  show am_V X 0 0 _ _ ad (0, [(0, .ref 77), (1, .int x1)], [], I, G, (gP rd))
  refine am_blk 0 [(.aload_n 0, 1, 0, 0, .null), (.getfield 15, 3, 6, 1, .null)] (4, [(0, .ref 77), (1, .int x1)], [.int (I 77 1)], I, G, (gP rd)) (True) hX hi (by decide +kernel) rfl trivial ?_
  refine am_if_lt (tgt := 39) hX hi (off := (35)) (by decide +kernel) (by decide) (fun c4 => ?_) (fun c4 => ?_)
  · refine am_vret hX hi rfl (by decide +kernel) ?_
    exact ⟨rfl, by unfold g_X8_push_77; rw [if_pos c4], rfl, rfl⟩
  · refine am_blk 7 [(.aload_n 0, 1, 0, 0, .null), (.getfield 15, 3, 6, 1, .null), (.aload_n 0, 1, 0, 0, .null), (.getfield 9, 3, 6, 0, .null), (.arraylength, 1, 0, 0, .null)] (16, [(0, .ref 77), (1, .int x1)], [.int (Int32.ofNat 400), .int (I 77 1)], I, G, (gP rd)) (True) hX hi (by decide +kernel) rfl trivial ?_
    refine am_icmp_ge (tgt := 39) hX hi (off := (23)) (by decide +kernel) (by decide) (fun c16 => ?_) (fun c16 => ?_)
    · refine am_vret hX hi rfl (by decide +kernel) ?_
      exact ⟨rfl, by unfold g_X8_push_77; rw [if_neg c4, if_pos c16], rfl, rfl⟩
    · refine am_blk 19 [(.aload_n 0, 1, 0, 0, .null), (.getfield 9, 3, 6, 0, .null), (.aload_n 0, 1, 0, 0, .null), (.getfield 15, 3, 6, 1, .null), (.iload_n 1, 1, 1, 0, .null), (.iastore, 1, 0, 0, .null), (.aload_n 0, 1, 0, 0, .null), (.dup, 1, 0, 0, .null), (.getfield 15, 3, 6, 1, .null), (.iconst (1), 1, 0, 0, .int (1)), (.iadd, 1, 0, 0, .null), (.putfield 15, 3, 6, 1, .null)] (39, [(0, .ref 77), (1, .int x1)], [], (am_up (am_up I 78 (I 77 1).toNatClampNeg x1) 77 1 ((I 77 1) + (1))), G, (gP rd)) (vp_in (I 77 1) 400 ∧ True) hX hi (by decide +kernel) rfl ?_ ?_
      · exact ⟨(by first | assumption | (refine (i_in _ _).mpr ?_; simp only [i_lt, i_le, i_eq, i_0, i_of, am_n] at *; omega)), trivial⟩
      refine am_vret hX hi rfl (by decide +kernel) ?_
      exact ⟨rfl, by unfold g_X8_push_77; rw [if_neg c4, if_neg c16], rfl, rfl⟩
def g_X8_push__64 (I : am_I) (G : am_G) (x1 : Int32) : am_I := (if x1 = 0 then (g_X8_push_64 I G (0)) else (g_X8_push_64 I G (1)))
set_option maxRecDepth 20000 in
set_option maxHeartbeats 1000000 in
theorem c_X8_push__64 (rd : Nat) (I : am_I) (G : am_G) (x1 : Int32) : am_Ct mX8_push_ 2 gS [.ref 64, .int x1] I G (gP rd) (pV (g_X8_push__64 I G x1) G (gP rd)) := by
  refine am_ofF (by decide +kernel) rfl (by decide) (by decide) (Nat.le_of_ble_eq_true rfl) (fun X ad hX hi => ?_)
  have hi : am_info X 6 cX8_push_ 2 false none 2 := hi
  show am_V X 0 0 _ _ ad (0, [(0, .ref 64), (1, .int x1)], [], I, G, (gP rd))
  refine am_blk 0 [(.aload_n 0, 1, 0, 0, .null), (.iload_n 1, 1, 1, 0, .null)] (2, [(0, .ref 64), (1, .int x1)], [.int x1, .ref 64], I, G, (gP rd)) (True) hX hi (by decide +kernel) rfl trivial ?_
  refine am_if_eq (tgt := 9) hX hi (off := (7)) (by decide +kernel) (by decide) (fun c2 => ?_) (fun c2 => ?_)
  · refine am_blk 9 [(.iconst (0), 1, 0, 0, .int (0))] (10, [(0, .ref 64), (1, .int x1)], [.int (0), .ref 64], I, G, (gP rd)) (True) hX hi (by decide +kernel) rfl trivial ?_
    refine am_callV hX hi (M := mX8_push) (idx := 19) (d' := 1) (b := 64) (ci := 6) (As := [.int (0)]) (rest := []) mkX8_push miX8_push mvX8_push (by decide +kernel) (by decide +kernel) rfl (by decide +kernel) rfl ⟨by decide, by decide, Nat.le_of_ble_eq_true rfl⟩ rfl (c_X8_push_64 rd I G (0)) ?_
    rintro r9 I9 G9 P9 ⟨e0, e1, e2, e3⟩
    rw [e0, e1, e2, e3]
    show am_V X 0 0 _ _ ad (13, [(0, .ref 64), (1, .int x1)], [], (g_X8_push_64 I G (0)), G, (gP rd))
    refine am_vret hX hi rfl (by decide +kernel) ?_
    exact ⟨rfl, by unfold g_X8_push__64; rw [if_pos c2], rfl, rfl⟩
  · refine am_blk 5 [(.iconst (1), 1, 0, 0, .int (1)), (.goto (4), 3, 0, 10, .null)] (10, [(0, .ref 64), (1, .int x1)], [.int (1), .ref 64], I, G, (gP rd)) (True) hX hi (by decide +kernel) rfl trivial ?_
    refine am_callV hX hi (M := mX8_push) (idx := 19) (d' := 1) (b := 64) (ci := 6) (As := [.int (1)]) (rest := []) mkX8_push miX8_push mvX8_push (by decide +kernel) (by decide +kernel) rfl (by decide +kernel) rfl ⟨by decide, by decide, Nat.le_of_ble_eq_true rfl⟩ rfl (c_X8_push_64 rd I G (1)) ?_
    rintro r9 I9 G9 P9 ⟨e0, e1, e2, e3⟩
    rw [e0, e1, e2, e3]
    show am_V X 0 0 _ _ ad (13, [(0, .ref 64), (1, .int x1)], [], (g_X8_push_64 I G (1)), G, (gP rd))
    refine am_vret hX hi rfl (by decide +kernel) ?_
    exact ⟨rfl, by unfold g_X8_push__64; rw [if_neg c2], rfl, rfl⟩
def g_X8_push__77 (I : am_I) (G : am_G) (x1 : Int32) : am_I := (if x1 = 0 then (g_X8_push_77 I G (0)) else (g_X8_push_77 I G (1)))
set_option maxRecDepth 20000 in
set_option maxHeartbeats 1000000 in
theorem c_X8_push__77 (rd : Nat) (I : am_I) (G : am_G) (x1 : Int32) : am_Ct mX8_push_ 2 gS [.ref 77, .int x1] I G (gP rd) (pV (g_X8_push__77 I G x1) G (gP rd)) := by
  refine am_ofF (by decide +kernel) rfl (by decide) (by decide) (Nat.le_of_ble_eq_true rfl) (fun X ad hX hi => ?_)
  have hi : am_info X 6 cX8_push_ 2 false none 2 := hi
  show am_V X 0 0 _ _ ad (0, [(0, .ref 77), (1, .int x1)], [], I, G, (gP rd))
  refine am_blk 0 [(.aload_n 0, 1, 0, 0, .null), (.iload_n 1, 1, 1, 0, .null)] (2, [(0, .ref 77), (1, .int x1)], [.int x1, .ref 77], I, G, (gP rd)) (True) hX hi (by decide +kernel) rfl trivial ?_
  refine am_if_eq (tgt := 9) hX hi (off := (7)) (by decide +kernel) (by decide) (fun c2 => ?_) (fun c2 => ?_)
  · refine am_blk 9 [(.iconst (0), 1, 0, 0, .int (0))] (10, [(0, .ref 77), (1, .int x1)], [.int (0), .ref 77], I, G, (gP rd)) (True) hX hi (by decide +kernel) rfl trivial ?_
    refine am_callV hX hi (M := mX8_push) (idx := 19) (d' := 1) (b := 77) (ci := 6) (As := [.int (0)]) (rest := []) mkX8_push miX8_push mvX8_push (by decide +kernel) (by decide +kernel) rfl (by decide +kernel) rfl ⟨by decide, by decide, Nat.le_of_ble_eq_true rfl⟩ rfl (c_X8_push_77 rd I G (0)) ?_
    rintro r9 I9 G9 P9 ⟨e0, e1, e2, e3⟩
    rw [e0, e1, e2, e3]
    show am_V X 0 0 _ _ ad (13, [(0, .ref 77), (1, .int x1)], [], (g_X8_push_77 I G (0)), G, (gP rd))
    refine am_vret hX hi rfl (by decide +kernel) ?_
    exact ⟨rfl, by unfold g_X8_push__77; rw [if_pos c2], rfl, rfl⟩
  · refine am_blk 5 [(.iconst (1), 1, 0, 0, .int (1)), (.goto (4), 3, 0, 10, .null)] (10, [(0, .ref 77), (1, .int x1)], [.int (1), .ref 77], I, G, (gP rd)) (True) hX hi (by decide +kernel) rfl trivial ?_
    refine am_callV hX hi (M := mX8_push) (idx := 19) (d' := 1) (b := 77) (ci := 6) (As := [.int (1)]) (rest := []) mkX8_push miX8_push mvX8_push (by decide +kernel) (by decide +kernel) rfl (by decide +kernel) rfl ⟨by decide, by decide, Nat.le_of_ble_eq_true rfl⟩ rfl (c_X8_push_77 rd I G (1)) ?_
    rintro r9 I9 G9 P9 ⟨e0, e1, e2, e3⟩
    rw [e0, e1, e2, e3]
    show am_V X 0 0 _ _ ad (13, [(0, .ref 77), (1, .int x1)], [], (g_X8_push_77 I G (1)), G, (gP rd))
    refine am_vret hX hi rfl (by decide +kernel) ?_
    exact ⟨rfl, by unfold g_X8_push__77; rw [if_neg c2], rfl, rfl⟩
def f_X8_pop_64 (I : am_I) (G : am_G)  : Int32 := (if (I 64 1) ≤ 0 then (0) else (if (Int32.ofNat 400) < (I 64 1) then (0) else (I 65 ((I 64 1) - (1)).toNatClampNeg)))
def g_X8_pop_64 (I : am_I) (G : am_G)  : am_I := (if (I 64 1) ≤ 0 then I else (if (Int32.ofNat 400) < (I 64 1) then I else (am_up I 64 1 ((I 64 1) - (1)))))
set_option maxRecDepth 20000 in
set_option maxHeartbeats 1000000 in
theorem c_X8_pop_64 (rd : Nat) (I : am_I) (G : am_G)  : am_Ct mX8_pop 1 gS [.ref 64] I G (gP rd) (pI (f_X8_pop_64 I G ) (g_X8_pop_64 I G ) G (gP rd)) := by
  refine am_ofF (by decide +kernel) rfl (by decide) (by decide) (Nat.le_of_ble_eq_true rfl) (fun X ad hX hi => ?_)
  have hi : am_info X 6 cX8_pop 1 false (Option.some Jvm.ClassFile.FieldType.int) 1 := hi
  show am_V X 0 0 _ _ ad (0, [(0, .ref 64)], [], I, G, (gP rd))
  refine am_blk 0 [(.aload_n 0, 1, 0, 0, .null), (.getfield 15, 3, 6, 1, .null)] (4, [(0, .ref 64)], [.int (I 64 1)], I, G, (gP rd)) (True) hX hi (by decide +kernel) rfl trivial ?_
  refine am_if_le (tgt := 39) hX hi (off := (35)) (by decide +kernel) (by decide) (fun c4 => ?_) (fun c4 => ?_)
  · refine am_blk 39 [(.iconst (0), 1, 0, 0, .int (0))] (40, [(0, .ref 64)], [.int (0)], I, G, (gP rd)) (True) hX hi (by decide +kernel) rfl trivial ?_
    refine am_iret hX hi rfl rfl (by decide +kernel) ?_
    exact ⟨by unfold f_X8_pop_64; rw [if_pos c4], by unfold g_X8_pop_64; rw [if_pos c4], rfl, rfl⟩
  · refine am_blk 7 [(.aload_n 0, 1, 0, 0, .null), (.getfield 15, 3, 6, 1, .null), (.aload_n 0, 1, 0, 0, .null), (.getfield 9, 3, 6, 0, .null), (.arraylength, 1, 0, 0, .null)] (16, [(0, .ref 64)], [.int (Int32.ofNat 400), .int (I 64 1)], I, G, (gP rd)) (True) hX hi (by decide +kernel) rfl trivial ?_
    refine am_icmp_gt (tgt := 39) hX hi (off := (23)) (by decide +kernel) (by decide) (fun c16 => ?_) (fun c16 => ?_)
    · refine am_blk 39 [(.iconst (0), 1, 0, 0, .int (0))] (40, [(0, .ref 64)], [.int (0)], I, G, (gP rd)) (True) hX hi (by decide +kernel) rfl trivial ?_
      refine am_iret hX hi rfl rfl (by decide +kernel) ?_
      exact ⟨by unfold f_X8_pop_64; rw [if_neg c4, if_pos c16], by unfold g_X8_pop_64; rw [if_neg c4, if_pos c16], rfl, rfl⟩
    · refine am_blk 19 [(.aload_n 0, 1, 0, 0, .null), (.dup, 1, 0, 0, .null), (.getfield 15, 3, 6, 1, .null), (.iconst (1), 1, 0, 0, .int (1)), (.isub, 1, 0, 0, .null), (.putfield 15, 3, 6, 1, .null), (.aload_n 0, 1, 0, 0, .null), (.getfield 9, 3, 6, 0, .null), (.aload_n 0, 1, 0, 0, .null), (.getfield 15, 3, 6, 1, .null), (.iaload, 1, 0, 0, .null)] (38, [(0, .ref 64)], [.int (I 65 ((I 64 1) - (1)).toNatClampNeg)], (am_up I 64 1 ((I 64 1) - (1))), G, (gP rd)) (vp_in ((I 64 1) - (1)) 400 ∧ True) hX hi (by decide +kernel) rfl ?_ ?_
      · exact ⟨(by first | assumption | (refine (i_in _ _).mpr ?_; simp only [i_lt, i_le, i_eq, i_0, i_of, am_n] at *; omega)), trivial⟩
      refine am_iret hX hi rfl rfl (by decide +kernel) ?_
      exact ⟨by unfold f_X8_pop_64; rw [if_neg c4, if_neg c16], by unfold g_X8_pop_64; rw [if_neg c4, if_neg c16], rfl, rfl⟩
def f_X8_pop_77 (I : am_I) (G : am_G)  : Int32 := (if (I 77 1) ≤ 0 then (0) else (if (Int32.ofNat 400) < (I 77 1) then (0) else (I 78 ((I 77 1) - (1)).toNatClampNeg)))
def g_X8_pop_77 (I : am_I) (G : am_G)  : am_I := (if (I 77 1) ≤ 0 then I else (if (Int32.ofNat 400) < (I 77 1) then I else (am_up I 77 1 ((I 77 1) - (1)))))
set_option maxRecDepth 20000 in
set_option maxHeartbeats 1000000 in
theorem c_X8_pop_77 (rd : Nat) (I : am_I) (G : am_G)  : am_Ct mX8_pop 1 gS [.ref 77] I G (gP rd) (pI (f_X8_pop_77 I G ) (g_X8_pop_77 I G ) G (gP rd)) := by
  refine am_ofF (by decide +kernel) rfl (by decide) (by decide) (Nat.le_of_ble_eq_true rfl) (fun X ad hX hi => ?_)
  have hi : am_info X 6 cX8_pop 1 false (Option.some Jvm.ClassFile.FieldType.int) 1 := hi
  show am_V X 0 0 _ _ ad (0, [(0, .ref 77)], [], I, G, (gP rd))
  refine am_blk 0 [(.aload_n 0, 1, 0, 0, .null), (.getfield 15, 3, 6, 1, .null)] (4, [(0, .ref 77)], [.int (I 77 1)], I, G, (gP rd)) (True) hX hi (by decide +kernel) rfl trivial ?_
  refine am_if_le (tgt := 39) hX hi (off := (35)) (by decide +kernel) (by decide) (fun c4 => ?_) (fun c4 => ?_)
  · refine am_blk 39 [(.iconst (0), 1, 0, 0, .int (0))] (40, [(0, .ref 77)], [.int (0)], I, G, (gP rd)) (True) hX hi (by decide +kernel) rfl trivial ?_
    refine am_iret hX hi rfl rfl (by decide +kernel) ?_
    exact ⟨by unfold f_X8_pop_77; rw [if_pos c4], by unfold g_X8_pop_77; rw [if_pos c4], rfl, rfl⟩
  · refine am_blk 7 [(.aload_n 0, 1, 0, 0, .null), (.getfield 15, 3, 6, 1, .null), (.aload_n 0, 1, 0, 0, .null), (.getfield 9, 3, 6, 0, .null), (.arraylength, 1, 0, 0, .null)] (16, [(0, .ref 77)], [.int (Int32.ofNat 400), .int (I 77 1)], I, G, (gP rd)) (True) hX hi (by decide +kernel) rfl trivial ?_
    refine am_icmp_gt (tgt := 39) hX hi (off := (23)) (by decide +kernel) (by decide) (fun c16 => ?_) (fun c16 => ?_)
    · refine am_blk 39 [(.iconst (0), 1, 0, 0, .int (0))] (40, [(0, .ref 77)], [.int (0)], I, G, (gP rd)) (True) hX hi (by decide +kernel) rfl trivial ?_
      refine am_iret hX hi rfl rfl (by decide +kernel) ?_
      exact ⟨by unfold f_X8_pop_77; rw [if_neg c4, if_pos c16], by unfold g_X8_pop_77; rw [if_neg c4, if_pos c16], rfl, rfl⟩
    · refine am_blk 19 [(.aload_n 0, 1, 0, 0, .null), (.dup, 1, 0, 0, .null), (.getfield 15, 3, 6, 1, .null), (.iconst (1), 1, 0, 0, .int (1)), (.isub, 1, 0, 0, .null), (.putfield 15, 3, 6, 1, .null), (.aload_n 0, 1, 0, 0, .null), (.getfield 9, 3, 6, 0, .null), (.aload_n 0, 1, 0, 0, .null), (.getfield 15, 3, 6, 1, .null), (.iaload, 1, 0, 0, .null)] (38, [(0, .ref 77)], [.int (I 78 ((I 77 1) - (1)).toNatClampNeg)], (am_up I 77 1 ((I 77 1) - (1))), G, (gP rd)) (vp_in ((I 77 1) - (1)) 400 ∧ True) hX hi (by decide +kernel) rfl ?_ ?_
      · exact ⟨(by first | assumption | (refine (i_in _ _).mpr ?_; simp only [i_lt, i_le, i_eq, i_0, i_of, am_n] at *; omega)), trivial⟩
      refine am_iret hX hi rfl rfl (by decide +kernel) ?_
      exact ⟨by unfold f_X8_pop_77; rw [if_neg c4, if_neg c16], by unfold g_X8_pop_77; rw [if_neg c4, if_neg c16], rfl, rfl⟩
def f_X9_byteHere_1 (I : am_I) (G : am_G)  : Int32 := (if (I 1 7) < 0 then (-1) else (if (I 1 5) ≤ (I 1 7) then (-1) else (if (Int32.ofNat 2000) ≤ (I 1 7) then (-1) else (I 2 (I 1 7).toNatClampNeg))))
set_option maxRecDepth 20000 in
set_option maxHeartbeats 1000000 in
theorem c_X9_byteHere_1 (rd : Nat) (I : am_I) (G : am_G)  : am_Ct mX9_byteHere 1 gS [.ref 1] I G (gP rd) (pI (f_X9_byteHere_1 I G ) I G (gP rd)) := by
  refine am_ofF (by decide +kernel) rfl (by decide) (by decide) (Nat.le_of_ble_eq_true rfl) (fun X ad hX hi => ?_)
  have hi : am_info X 7 cX9_byteHere 1 false (Option.some Jvm.ClassFile.FieldType.int) 1 := hi
  show am_V X 0 0 _ _ ad (0, [(0, .ref 1)], [], I, G, (gP rd))
  refine am_blk 0 [(.aload_n 0, 1, 0, 0, .null), (.getfield 47, 3, 7, 7, .null)] (4, [(0, .ref 1)], [.int (I 1 7)], I, G, (gP rd)) (True) hX hi (by decide +kernel) rfl trivial ?_
  refine am_if_lt (tgt := 42) hX hi (off := (38)) (by decide +kernel) (by decide) (fun c4 => ?_) (fun c4 => ?_)
  · refine am_blk 42 [(.iconst (-1), 1, 0, 0, .int (-1))] (43, [(0, .ref 1)], [.int (-1)], I, G, (gP rd)) (True) hX hi (by decide +kernel) rfl trivial ?_
    refine am_iret hX hi rfl rfl (by decide +kernel) ?_
    exact ⟨by unfold f_X9_byteHere_1; rw [if_pos c4], rfl, rfl, rfl⟩
  · refine am_blk 7 [(.aload_n 0, 1, 0, 0, .null), (.getfield 47, 3, 7, 7, .null), (.aload_n 0, 1, 0, 0, .null), (.getfield 44, 3, 7, 5, .null)] (15, [(0, .ref 1)], [.int (I 1 5), .int (I 1 7)], I, G, (gP rd)) (True) hX hi (by decide +kernel) rfl trivial ?_
    refine am_icmp_ge (tgt := 42) hX hi (off := (27)) (by decide +kernel) (by decide) (fun c15 => ?_) (fun c15 => ?_)
    · refine am_blk 42 [(.iconst (-1), 1, 0, 0, .int (-1))] (43, [(0, .ref 1)], [.int (-1)], I, G, (gP rd)) (True) hX hi (by decide +kernel) rfl trivial ?_
      refine am_iret hX hi rfl rfl (by decide +kernel) ?_
      exact ⟨by unfold f_X9_byteHere_1; rw [if_neg c4, if_pos c15], rfl, rfl, rfl⟩
    · refine am_blk 18 [(.aload_n 0, 1, 0, 0, .null), (.getfield 47, 3, 7, 7, .null), (.aload_n 0, 1, 0, 0, .null), (.getfield 9, 3, 7, 0, .null), (.arraylength, 1, 0, 0, .null)] (27, [(0, .ref 1)], [.int (Int32.ofNat 2000), .int (I 1 7)], I, G, (gP rd)) (True) hX hi (by decide +kernel) rfl trivial ?_
      refine am_icmp_ge (tgt := 42) hX hi (off := (15)) (by decide +kernel) (by decide) (fun c27 => ?_) (fun c27 => ?_)
      · refine am_blk 42 [(.iconst (-1), 1, 0, 0, .int (-1))] (43, [(0, .ref 1)], [.int (-1)], I, G, (gP rd)) (True) hX hi (by decide +kernel) rfl trivial ?_
        refine am_iret hX hi rfl rfl (by decide +kernel) ?_
        exact ⟨by unfold f_X9_byteHere_1; rw [if_neg c4, if_neg c15, if_pos c27], rfl, rfl, rfl⟩
      · refine am_blk 30 [(.aload_n 0, 1, 0, 0, .null), (.getfield 9, 3, 7, 0, .null), (.aload_n 0, 1, 0, 0, .null), (.getfield 47, 3, 7, 7, .null), (.iaload, 1, 0, 0, .null), (.goto (4), 3, 0, 43, .null)] (43, [(0, .ref 1)], [.int (I 2 (I 1 7).toNatClampNeg)], I, G, (gP rd)) (vp_in (I 1 7) 2000 ∧ True) hX hi (by decide +kernel) rfl ?_ ?_
        · exact ⟨(by first | assumption | (refine (i_in _ _).mpr ?_; simp only [i_lt, i_le, i_eq, i_0, i_of, am_n] at *; omega)), trivial⟩
        refine am_iret hX hi rfl rfl (by decide +kernel) ?_
        exact ⟨by unfold f_X9_byteHere_1; rw [if_neg c4, if_neg c15, if_neg c27], rfl, rfl, rfl⟩
def f_X9_isLetter (I : am_I) (G : am_G) (x1 : Int32) : Int32 := (if x1 < (97) then (0) else (if (122) < x1 then (0) else (1)))
set_option maxRecDepth 20000 in
set_option maxHeartbeats 1000000 in
theorem c_X9_isLetter {sh : List am_Sh} {P : am_P} (I : am_I) (G : am_G) (x1 : Int32) : am_Ct mX9_isLetter 1 sh [.int x1] I G P (pI (f_X9_isLetter I G x1) I G P) := by
  refine am_ofF (by decide +kernel) rfl (by decide) (by decide) (Nat.le_of_ble_eq_true rfl) (fun X ad hX hi => ?_)
  have hi : am_info X 7 cX9_isLetter 1 false (Option.some Jvm.ClassFile.FieldType.boolean) 1 := hi
  show am_V X 0 0 _ _ ad (0, [(0, .int x1)], [], I, G, P)
  refine am_blk 0 [(.iload_n 0, 1, 0, 0, .null), (.bipush (97), 2, 0, 0, .int (97))] (3, [(0, .int x1)], [.int (97), .int x1], I, G, P) (True) hX hi (by decide +kernel) rfl trivial ?_
  refine am_icmp_lt (tgt := 16) hX hi (off := (13)) (by decide +kernel) (by decide) (fun c3 => ?_) (fun c3 => ?_)
  · refine am_blk 16 [(.iconst (0), 1, 0, 0, .int (0))] (17, [(0, .int x1)], [.int (0)], I, G, P) (True) hX hi (by decide +kernel) rfl trivial ?_
    refine am_iret hX hi rfl (by first | rfl | decide | (simp [narrow]; done)) (by decide +kernel) ?_
    exact ⟨by unfold f_X9_isLetter; rw [if_pos c3], rfl, rfl, rfl⟩
  · refine am_blk 6 [(.iload_n 0, 1, 0, 0, .null), (.bipush (122), 2, 0, 0, .int (122))] (9, [(0, .int x1)], [.int (122), .int x1], I, G, P) (True) hX hi (by decide +kernel) rfl trivial ?_
    refine am_icmp_gt (tgt := 16) hX hi (off := (7)) (by decide +kernel) (by decide) (fun c9 => ?_) (fun c9 => ?_)
    · refine am_blk 16 [(.iconst (0), 1, 0, 0, .int (0))] (17, [(0, .int x1)], [.int (0)], I, G, P) (True) hX hi (by decide +kernel) rfl trivial ?_
      refine am_iret hX hi rfl (by first | rfl | decide | (simp [narrow]; done)) (by decide +kernel) ?_
      exact ⟨by unfold f_X9_isLetter; rw [if_neg c3, if_pos c9], rfl, rfl, rfl⟩
    · refine am_blk 12 [(.iconst (1), 1, 0, 0, .int (1)), (.goto (4), 3, 0, 17, .null)] (17, [(0, .int x1)], [.int (1)], I, G, P) (True) hX hi (by decide +kernel) rfl trivial ?_
      refine am_iret hX hi rfl (by first | rfl | decide | (simp [narrow]; done)) (by decide +kernel) ?_
      exact ⟨by unfold f_X9_isLetter; rw [if_neg c3, if_neg c9], rfl, rfl, rfl⟩
def f_X9_isDigit (I : am_I) (G : am_G) (x1 : Int32) : Int32 := (if x1 < (48) then (0) else (if (57) < x1 then (0) else (1)))
set_option maxRecDepth 20000 in
set_option maxHeartbeats 1000000 in
theorem c_X9_isDigit {sh : List am_Sh} {P : am_P} (I : am_I) (G : am_G) (x1 : Int32) : am_Ct mX9_isDigit 1 sh [.int x1] I G P (pI (f_X9_isDigit I G x1) I G P) := by
  refine am_ofF (by decide +kernel) rfl (by decide) (by decide) (Nat.le_of_ble_eq_true rfl) (fun X ad hX hi => ?_)
  have hi : am_info X 7 cX9_isDigit 1 false (Option.some Jvm.ClassFile.FieldType.boolean) 1 := hi
  show am_V X 0 0 _ _ ad (0, [(0, .int x1)], [], I, G, P)
  refine am_blk 0 [(.iload_n 0, 1, 0, 0, .null), (.bipush (48), 2, 0, 0, .int (48))] (3, [(0, .int x1)], [.int (48), .int x1], I, G, P) (True) hX hi (by decide +kernel) rfl trivial ?_
  refine am_icmp_lt (tgt := 16) hX hi (off := (13)) (by decide +kernel) (by decide) (fun c3 => ?_) (fun c3 => ?_)
  · refine am_blk 16 [(.iconst (0), 1, 0, 0, .int (0))] (17, [(0, .int x1)], [.int (0)], I, G, P) (True) hX hi (by decide +kernel) rfl trivial ?_
    refine am_iret hX hi rfl (by first | rfl | decide | (simp [narrow]; done)) (by decide +kernel) ?_
    exact ⟨by unfold f_X9_isDigit; rw [if_pos c3], rfl, rfl, rfl⟩
  · refine am_blk 6 [(.iload_n 0, 1, 0, 0, .null), (.bipush (57), 2, 0, 0, .int (57))] (9, [(0, .int x1)], [.int (57), .int x1], I, G, P) (True) hX hi (by decide +kernel) rfl trivial ?_
    refine am_icmp_gt (tgt := 16) hX hi (off := (7)) (by decide +kernel) (by decide) (fun c9 => ?_) (fun c9 => ?_)
    · refine am_blk 16 [(.iconst (0), 1, 0, 0, .int (0))] (17, [(0, .int x1)], [.int (0)], I, G, P) (True) hX hi (by decide +kernel) rfl trivial ?_
      refine am_iret hX hi rfl (by first | rfl | decide | (simp [narrow]; done)) (by decide +kernel) ?_
      exact ⟨by unfold f_X9_isDigit; rw [if_neg c3, if_pos c9], rfl, rfl, rfl⟩
    · refine am_blk 12 [(.iconst (1), 1, 0, 0, .int (1)), (.goto (4), 3, 0, 17, .null)] (17, [(0, .int x1)], [.int (1)], I, G, P) (True) hX hi (by decide +kernel) rfl trivial ?_
      refine am_iret hX hi rfl (by first | rfl | decide | (simp [narrow]; done)) (by decide +kernel) ?_
      exact ⟨by unfold f_X9_isDigit; rw [if_neg c3, if_neg c9], rfl, rfl, rfl⟩
def f_X9_kindAt_1 (I : am_I) (G : am_G) (x1 : Int32) : Int32 := (if x1 < 0 then (42) else (if (I 1 6) ≤ x1 then (42) else (if (Int32.ofNat 401) ≤ x1 then (42) else (I 4 x1.toNatClampNeg))))
set_option maxRecDepth 20000 in
set_option maxHeartbeats 1000000 in
theorem c_X9_kindAt_1 (rd : Nat) (I : am_I) (G : am_G) (x1 : Int32) : am_Ct mX9_kindAt 1 gS [.ref 1, .int x1] I G (gP rd) (pI (f_X9_kindAt_1 I G x1) I G (gP rd)) := by
  refine am_ofF (by decide +kernel) rfl (by decide) (by decide) (Nat.le_of_ble_eq_true rfl) (fun X ad hX hi => ?_)
  have hi : am_info X 7 cX9_kindAt 2 false (Option.some Jvm.ClassFile.FieldType.int) 1 := hi
  show am_V X 0 0 _ _ ad (0, [(0, .ref 1), (1, .int x1)], [], I, G, (gP rd))
  refine am_blk 0 [(.iload_n 1, 1, 1, 0, .null)] (1, [(0, .ref 1), (1, .int x1)], [.int x1], I, G, (gP rd)) (True) hX hi (by decide +kernel) rfl trivial ?_
  refine am_if_lt (tgt := 30) hX hi (off := (29)) (by decide +kernel) (by decide) (fun c1 => ?_) (fun c1 => ?_)
  · refine am_blk 30 [(.bipush (42), 2, 0, 0, .int (42))] (32, [(0, .ref 1), (1, .int x1)], [.int (42)], I, G, (gP rd)) (True) hX hi (by decide +kernel) rfl trivial ?_
    refine am_iret hX hi rfl rfl (by decide +kernel) ?_
    exact ⟨by unfold f_X9_kindAt_1; rw [if_pos c1], rfl, rfl, rfl⟩
  · refine am_blk 4 [(.iload_n 1, 1, 1, 0, .null), (.aload_n 0, 1, 0, 0, .null), (.getfield 50, 3, 7, 6, .null)] (9, [(0, .ref 1), (1, .int x1)], [.int (I 1 6), .int x1], I, G, (gP rd)) (True) hX hi (by decide +kernel) rfl trivial ?_
    refine am_icmp_ge (tgt := 30) hX hi (off := (21)) (by decide +kernel) (by decide) (fun c9 => ?_) (fun c9 => ?_)
    · refine am_blk 30 [(.bipush (42), 2, 0, 0, .int (42))] (32, [(0, .ref 1), (1, .int x1)], [.int (42)], I, G, (gP rd)) (True) hX hi (by decide +kernel) rfl trivial ?_
      refine am_iret hX hi rfl rfl (by decide +kernel) ?_
      exact ⟨by unfold f_X9_kindAt_1; rw [if_neg c1, if_pos c9], rfl, rfl, rfl⟩
    · refine am_blk 12 [(.iload_n 1, 1, 1, 0, .null), (.aload_n 0, 1, 0, 0, .null), (.getfield 21, 3, 7, 2, .null), (.arraylength, 1, 0, 0, .null)] (18, [(0, .ref 1), (1, .int x1)], [.int (Int32.ofNat 401), .int x1], I, G, (gP rd)) (True) hX hi (by decide +kernel) rfl trivial ?_
      refine am_icmp_ge (tgt := 30) hX hi (off := (12)) (by decide +kernel) (by decide) (fun c18 => ?_) (fun c18 => ?_)
      · refine am_blk 30 [(.bipush (42), 2, 0, 0, .int (42))] (32, [(0, .ref 1), (1, .int x1)], [.int (42)], I, G, (gP rd)) (True) hX hi (by decide +kernel) rfl trivial ?_
        refine am_iret hX hi rfl rfl (by decide +kernel) ?_
        exact ⟨by unfold f_X9_kindAt_1; rw [if_neg c1, if_neg c9, if_pos c18], rfl, rfl, rfl⟩
      · refine am_blk 21 [(.aload_n 0, 1, 0, 0, .null), (.getfield 21, 3, 7, 2, .null), (.iload_n 1, 1, 1, 0, .null), (.iaload, 1, 0, 0, .null), (.goto (5), 3, 0, 32, .null)] (32, [(0, .ref 1), (1, .int x1)], [.int (I 4 x1.toNatClampNeg)], I, G, (gP rd)) (vp_in x1 401 ∧ True) hX hi (by decide +kernel) rfl ?_ ?_
        · exact ⟨(by first | assumption | (refine (i_in _ _).mpr ?_; simp only [i_lt, i_le, i_eq, i_0, i_of, am_n] at *; omega)), trivial⟩
        refine am_iret hX hi rfl rfl (by decide +kernel) ?_
        exact ⟨by unfold f_X9_kindAt_1; rw [if_neg c1, if_neg c9, if_neg c18], rfl, rfl, rfl⟩
def f_X9_startAt_1 (I : am_I) (G : am_G) (x1 : Int32) : Int32 := (gAt (I 5) 401 x1)
set_option maxRecDepth 20000 in
set_option maxHeartbeats 1000000 in
theorem c_X9_startAt_1 (rd : Nat) (I : am_I) (G : am_G) (x1 : Int32) : am_Ct mX9_startAt 2 gS [.ref 1, .int x1] I G (gP rd) (pI (f_X9_startAt_1 I G x1) I G (gP rd)) := by
  refine am_ofF (by decide +kernel) rfl (by decide) (by decide) (Nat.le_of_ble_eq_true rfl) (fun X ad hX hi => ?_)
  have hi : am_info X 7 cX9_startAt 2 false (Option.some Jvm.ClassFile.FieldType.int) 2 := hi
  show am_V X 0 0 _ _ ad (0, [(0, .ref 1), (1, .int x1)], [], I, G, (gP rd))
  refine am_blk 0 [(.aload_n 0, 1, 0, 0, .null), (.getfield 24, 3, 7, 3, .null), (.iload_n 1, 1, 1, 0, .null)] (5, [(0, .ref 1), (1, .int x1)], [.int x1, .ref 5], I, G, (gP rd)) (True) hX hi (by decide +kernel) rfl trivial ?_
  refine am_callS hX hi (M := mX0_at) (idx := 91) (d' := 1) (As := [.ref 5, .int x1]) (rest := []) mkX0_at msX0_at (by decide +kernel) (by decide +kernel) rfl ⟨by decide, by decide, Nat.le_of_ble_eq_true rfl⟩ rfl (c_at rfl (by decide) x1) ?_
  rintro r9 I9 G9 P9 ⟨e0, e1, e2, e3⟩
  rw [e0, e1, e2, e3]
  show am_V X 0 0 _ _ ad (8, [(0, .ref 1), (1, .int x1)], [.int (gAt (I 5) 401 x1)], I, G, (gP rd))
  refine am_iret hX hi rfl rfl (by decide +kernel) ?_
  exact ⟨by unfold f_X9_startAt_1; rfl, rfl, rfl, rfl⟩
def f_X9_contentAt_1 (I : am_I) (G : am_G) (x1 : Int32) : Int64 := (if x1 < 0 then (0) else (if (Int32.ofNat 401) ≤ x1 then (0) else (G 6 x1.toNatClampNeg)))
set_option maxRecDepth 20000 in
set_option maxHeartbeats 1000000 in
theorem c_X9_contentAt_1 (rd : Nat) (I : am_I) (G : am_G) (x1 : Int32) : am_Ct mX9_contentAt 1 gS [.ref 1, .int x1] I G (gP rd) (pL (f_X9_contentAt_1 I G x1) I G (gP rd)) := by
  refine am_ofF (by decide +kernel) rfl (by decide) (by decide) (Nat.le_of_ble_eq_true rfl) (fun X ad hX hi => ?_)
  have hi : am_info X 7 cX9_contentAt 2 false (Option.some Jvm.ClassFile.FieldType.long) 1 := hi
  show am_V X 0 0 _ _ ad (0, [(0, .ref 1), (1, .int x1)], [], I, G, (gP rd))
  refine am_blk 0 [(.iload_n 1, 1, 1, 0, .null)] (1, [(0, .ref 1), (1, .int x1)], [.int x1], I, G, (gP rd)) (True) hX hi (by decide +kernel) rfl trivial ?_
  refine am_if_lt (tgt := 22) hX hi (off := (21)) (by decide +kernel) (by decide) (fun c1 => ?_) (fun c1 => ?_)
  · refine am_blk 22 [(.lconst 0, 1, 0, 0, .long (0))] (23, [(0, .ref 1), (1, .int x1)], [.long (0)], I, G, (gP rd)) (True) hX hi (by decide +kernel) rfl trivial ?_
    refine am_lret hX hi rfl (by decide +kernel) ?_
    exact ⟨by unfold f_X9_contentAt_1; rw [if_pos c1], rfl, rfl, rfl⟩
  · refine am_blk 4 [(.iload_n 1, 1, 1, 0, .null), (.aload_n 0, 1, 0, 0, .null), (.getfield 27, 3, 7, 4, .null), (.arraylength, 1, 0, 0, .null)] (10, [(0, .ref 1), (1, .int x1)], [.int (Int32.ofNat 401), .int x1], I, G, (gP rd)) (True) hX hi (by decide +kernel) rfl trivial ?_
    refine am_icmp_ge (tgt := 22) hX hi (off := (12)) (by decide +kernel) (by decide) (fun c10 => ?_) (fun c10 => ?_)
    · refine am_blk 22 [(.lconst 0, 1, 0, 0, .long (0))] (23, [(0, .ref 1), (1, .int x1)], [.long (0)], I, G, (gP rd)) (True) hX hi (by decide +kernel) rfl trivial ?_
      refine am_lret hX hi rfl (by decide +kernel) ?_
      exact ⟨by unfold f_X9_contentAt_1; rw [if_neg c1, if_pos c10], rfl, rfl, rfl⟩
    · refine am_blk 13 [(.aload_n 0, 1, 0, 0, .null), (.getfield 27, 3, 7, 4, .null), (.iload_n 1, 1, 1, 0, .null), (.laload, 1, 0, 0, .null), (.goto (4), 3, 0, 23, .null)] (23, [(0, .ref 1), (1, .int x1)], [.long (G 6 x1.toNatClampNeg)], I, G, (gP rd)) (vp_in x1 401 ∧ True) hX hi (by decide +kernel) rfl ?_ ?_
      · exact ⟨(by first | assumption | (refine (i_in _ _).mpr ?_; simp only [i_lt, i_le, i_eq, i_0, i_of, am_n] at *; omega)), trivial⟩
      refine am_lret hX hi rfl (by decide +kernel) ?_
      exact ⟨by unfold f_X9_contentAt_1; rw [if_neg c1, if_neg c10], rfl, rfl, rfl⟩
def f_X10_sheetOf (I : am_I) (G : am_G) (x1 : Int32) (x2 : Int32) : Int32 := ((x1 * (8)) + (x2 - x2 / (8) * (8)))
set_option maxRecDepth 20000 in
set_option maxHeartbeats 1000000 in
theorem c_X10_sheetOf {sh : List am_Sh} {P : am_P} (I : am_I) (G : am_G) (x1 : Int32) (x2 : Int32) : am_Ct mX10_sheetOf 1 sh [.int x1, .int x2] I G P (pI (f_X10_sheetOf I G x1 x2) I G P) := by
  refine am_ofF (by decide +kernel) rfl (by decide) (by decide) (Nat.le_of_ble_eq_true rfl) (fun X ad hX hi => ?_)
  have hi : am_info X 8 cX10_sheetOf 2 false (Option.some Jvm.ClassFile.FieldType.int) 1 := hi
  show am_V X 0 0 _ _ ad (0, [(0, .int x1), (1, .int x2)], [], I, G, P)
  refine am_blk 0 [(.iload_n 0, 1, 0, 0, .null), (.bipush (8), 2, 0, 0, .int (8)), (.imul, 1, 0, 0, .null), (.iload_n 1, 1, 1, 0, .null), (.bipush (8), 2, 0, 0, .int (8)), (.irem, 1, 0, 0, .null), (.iadd, 1, 0, 0, .null)] (9, [(0, .int x1), (1, .int x2)], [.int ((x1 * (8)) + (x2 - x2 / (8) * (8)))], I, G, P) (¬ (8) = 0 ∧ True) hX hi (by decide +kernel) rfl ?_ ?_
  · exact ⟨(by first | assumption | (refine (i_in _ _).mpr ?_; simp only [i_lt, i_le, i_eq, i_0, i_of, am_n] at *; omega)), trivial⟩
  refine am_iret hX hi rfl rfl (by decide +kernel) ?_
  exact ⟨by unfold f_X10_sheetOf; rfl, rfl, rfl, rfl⟩
def f_X10_gradientAt_25 (I : am_I) (G : am_G) (x1 : Int32) (x2 : Int32) (x3 : Int32) (x4 : Int32) : Int32 := ((((x2 + (((3) * (gWr x3.toInt64.toInt (gAt (I 8) 4 x1))) * (gWr x3.toInt64.toInt (gAt (I 8) 4 x1)))) + ((5) * (gWr x4.toInt64.toInt (gAt (I 9) 4 x1)))) + ((gWr x3.toInt64.toInt (gAt (I 8) 4 x1)) * (gWr x4.toInt64.toInt (gAt (I 9) 4 x1)))) - (((x2 + (((3) * (gWr x3.toInt64.toInt (gAt (I 8) 4 x1))) * (gWr x3.toInt64.toInt (gAt (I 8) 4 x1)))) + ((5) * (gWr x4.toInt64.toInt (gAt (I 9) 4 x1)))) + ((gWr x3.toInt64.toInt (gAt (I 8) 4 x1)) * (gWr x4.toInt64.toInt (gAt (I 9) 4 x1)))) / (8) * (8))
set_option maxRecDepth 20000 in
set_option maxHeartbeats 1000000 in
theorem c_X10_gradientAt_25 (rd : Nat) (I : am_I) (G : am_G) (x1 : Int32) (x2 : Int32) (x3 : Int32) (x4 : Int32) : am_Ct mX10_gradientAt 3 gS [.ref 25, .int x1, .int x2, .int x3, .int x4] I G (gP rd) (pI (f_X10_gradientAt_25 I G x1 x2 x3 x4) I G (gP rd)) := by
  refine am_ofF (by decide +kernel) rfl (by decide) (by decide) (Nat.le_of_ble_eq_true rfl) (fun X ad hX hi => ?_)
  have hi : am_info X 8 cX10_gradientAt 7 false (Option.some Jvm.ClassFile.FieldType.int) 3 := hi
  show am_V X 0 0 _ _ ad (0, [(0, .ref 25), (1, .int x1), (2, .int x2), (3, .int x3), (4, .int x4)], [], I, G, (gP rd))
  refine am_blk 0 [(.iload_n 3, 1, 3, 0, .null), (.i2l, 1, 0, 0, .null), (.aload_n 0, 1, 0, 0, .null), (.getfield 18, 3, 8, 0, .null), (.getfield 49, 3, 3, 0, .null), (.iload_n 1, 1, 1, 0, .null)] (10, [(0, .ref 25), (1, .int x1), (2, .int x2), (3, .int x3), (4, .int x4)], [.int x1, .ref 8, .long x3.toInt64], I, G, (gP rd)) (True) hX hi (by decide +kernel) rfl trivial ?_
  refine am_callS hX hi (M := mX0_at) (idx := 26) (d' := 1) (As := [.ref 8, .int x1]) (rest := [.long x3.toInt64]) mkX0_at msX0_at (by decide +kernel) (by decide +kernel) rfl ⟨by decide, by decide, Nat.le_of_ble_eq_true rfl⟩ rfl (c_at rfl (by decide) x1) ?_
  rintro r9 I9 G9 P9 ⟨e0, e1, e2, e3⟩
  rw [e0, e1, e2, e3]
  show am_V X 0 0 _ _ ad (13, [(0, .ref 25), (1, .int x1), (2, .int x2), (3, .int x3), (4, .int x4)], [.int (gAt (I 8) 4 x1), .long x3.toInt64], I, G, (gP rd))
  refine am_callS hX hi (M := mX0_wrap) (idx := 72) (d' := 2) (As := [.long x3.toInt64, .int (gAt (I 8) 4 x1)]) (rest := []) mkX0_wrap msX0_wrap (by decide +kernel) (by decide +kernel) rfl ⟨by decide, by decide, Nat.le_of_ble_eq_true rfl⟩ rfl (c_wrap x3.toInt64 (gAt (I 8) 4 x1)) ?_
  rintro r9 I9 G9 P9 ⟨e0, e1, e2, e3⟩
  rw [e0, e1, e2, e3]
  show am_V X 0 0 _ _ ad (16, [(0, .ref 25), (1, .int x1), (2, .int x2), (3, .int x3), (4, .int x4)], [.int (gWr x3.toInt64.toInt (gAt (I 8) 4 x1))], I, G, (gP rd))
  refine am_blk 16 [(.istore 5, 2, 5, 0, .null), (.iload 4, 2, 4, 0, .null), (.i2l, 1, 0, 0, .null), (.aload_n 0, 1, 0, 0, .null), (.getfield 18, 3, 8, 0, .null), (.getfield 55, 3, 3, 1, .null), (.iload_n 1, 1, 1, 0, .null)] (29, [(0, .ref 25), (1, .int x1), (2, .int x2), (3, .int x3), (4, .int x4), (5, .int (gWr x3.toInt64.toInt (gAt (I 8) 4 x1)))], [.int x1, .ref 9, .long x4.toInt64], I, G, (gP rd)) (True) hX hi (by decide +kernel) rfl trivial ?_
  refine am_callS hX hi (M := mX0_at) (idx := 26) (d' := 1) (As := [.ref 9, .int x1]) (rest := [.long x4.toInt64]) mkX0_at msX0_at (by decide +kernel) (by decide +kernel) rfl ⟨by decide, by decide, Nat.le_of_ble_eq_true rfl⟩ rfl (c_at rfl (by decide) x1) ?_
  rintro r9 I9 G9 P9 ⟨e0, e1, e2, e3⟩
  rw [e0, e1, e2, e3]
  show am_V X 0 0 _ _ ad (32, [(0, .ref 25), (1, .int x1), (2, .int x2), (3, .int x3), (4, .int x4), (5, .int (gWr x3.toInt64.toInt (gAt (I 8) 4 x1)))], [.int (gAt (I 9) 4 x1), .long x4.toInt64], I, G, (gP rd))
  refine am_callS hX hi (M := mX0_wrap) (idx := 72) (d' := 2) (As := [.long x4.toInt64, .int (gAt (I 9) 4 x1)]) (rest := []) mkX0_wrap msX0_wrap (by decide +kernel) (by decide +kernel) rfl ⟨by decide, by decide, Nat.le_of_ble_eq_true rfl⟩ rfl (c_wrap x4.toInt64 (gAt (I 9) 4 x1)) ?_
  rintro r9 I9 G9 P9 ⟨e0, e1, e2, e3⟩
  rw [e0, e1, e2, e3]
  show am_V X 0 0 _ _ ad (35, [(0, .ref 25), (1, .int x1), (2, .int x2), (3, .int x3), (4, .int x4), (5, .int (gWr x3.toInt64.toInt (gAt (I 8) 4 x1)))], [.int (gWr x4.toInt64.toInt (gAt (I 9) 4 x1))], I, G, (gP rd))
  refine am_blk 35 [(.istore 6, 2, 6, 0, .null), (.iload_n 2, 1, 2, 0, .null), (.iconst (3), 1, 0, 0, .int (3)), (.iload 5, 2, 5, 0, .null), (.imul, 1, 0, 0, .null), (.iload 5, 2, 5, 0, .null), (.imul, 1, 0, 0, .null), (.iadd, 1, 0, 0, .null), (.iconst (5), 1, 0, 0, .int (5)), (.iload 6, 2, 6, 0, .null), (.imul, 1, 0, 0, .null), (.iadd, 1, 0, 0, .null), (.iload 5, 2, 5, 0, .null), (.iload 6, 2, 6, 0, .null), (.imul, 1, 0, 0, .null), (.iadd, 1, 0, 0, .null), (.bipush (8), 2, 0, 0, .int (8)), (.irem, 1, 0, 0, .null)] (60, [(0, .ref 25), (1, .int x1), (2, .int x2), (3, .int x3), (4, .int x4), (5, .int (gWr x3.toInt64.toInt (gAt (I 8) 4 x1))), (6, .int (gWr x4.toInt64.toInt (gAt (I 9) 4 x1)))], [.int ((((x2 + (((3) * (gWr x3.toInt64.toInt (gAt (I 8) 4 x1))) * (gWr x3.toInt64.toInt (gAt (I 8) 4 x1)))) + ((5) * (gWr x4.toInt64.toInt (gAt (I 9) 4 x1)))) + ((gWr x3.toInt64.toInt (gAt (I 8) 4 x1)) * (gWr x4.toInt64.toInt (gAt (I 9) 4 x1)))) - (((x2 + (((3) * (gWr x3.toInt64.toInt (gAt (I 8) 4 x1))) * (gWr x3.toInt64.toInt (gAt (I 8) 4 x1)))) + ((5) * (gWr x4.toInt64.toInt (gAt (I 9) 4 x1)))) + ((gWr x3.toInt64.toInt (gAt (I 8) 4 x1)) * (gWr x4.toInt64.toInt (gAt (I 9) 4 x1)))) / (8) * (8))], I, G, (gP rd)) (¬ (8) = 0 ∧ True) hX hi (by decide +kernel) rfl ?_ ?_
  · exact ⟨(by first | assumption | (refine (i_in _ _).mpr ?_; simp only [i_lt, i_le, i_eq, i_0, i_of, am_n] at *; omega)), trivial⟩
  refine am_iret hX hi rfl rfl (by decide +kernel) ?_
  exact ⟨by unfold f_X10_gradientAt_25; rfl, rfl, rfl, rfl⟩
def f_X10_between (I : am_I) (G : am_G) (x1 : Int32) (x2 : Int32) (x3 : Int32) : Int32 := (x1 + (((x2 - x1) * x3) / (256)))
set_option maxRecDepth 20000 in
set_option maxHeartbeats 1000000 in
theorem c_X10_between {sh : List am_Sh} {P : am_P} (I : am_I) (G : am_G) (x1 : Int32) (x2 : Int32) (x3 : Int32) : am_Ct mX10_between 1 sh [.int x1, .int x2, .int x3] I G P (pI (f_X10_between I G x1 x2 x3) I G P) := by
  refine am_ofF (by decide +kernel) rfl (by decide) (by decide) (Nat.le_of_ble_eq_true rfl) (fun X ad hX hi => ?_)
  have hi : am_info X 8 cX10_between 3 false (Option.some Jvm.ClassFile.FieldType.int) 1 := hi
  show am_V X 0 0 _ _ ad (0, [(0, .int x1), (1, .int x2), (2, .int x3)], [], I, G, P)
  refine am_blk 0 [(.iload_n 0, 1, 0, 0, .null), (.iload_n 1, 1, 1, 0, .null), (.iload_n 0, 1, 0, 0, .null), (.isub, 1, 0, 0, .null), (.iload_n 2, 1, 2, 0, .null), (.imul, 1, 0, 0, .null), (.sipush (256), 3, 0, 0, .int (256)), (.idiv, 1, 0, 0, .null), (.iadd, 1, 0, 0, .null)] (11, [(0, .int x1), (1, .int x2), (2, .int x3)], [.int (x1 + (((x2 - x1) * x3) / (256)))], I, G, P) (¬ (256) = 0 ∧ True) hX hi (by decide +kernel) rfl ?_ ?_
  · exact ⟨(by first | assumption | (refine (i_in _ _).mpr ?_; simp only [i_lt, i_le, i_eq, i_0, i_of, am_n] at *; omega)), trivial⟩
  refine am_iret hX hi rfl rfl (by decide +kernel) ?_
  exact ⟨by unfold f_X10_between; rfl, rfl, rfl, rfl⟩
def f_X11_errorAt_0 (I : am_I) (G : am_G)  : Int32 := (I 0 6)
set_option maxRecDepth 20000 in
set_option maxHeartbeats 1000000 in
theorem c_X11_errorAt_0 (rd : Nat) (I : am_I) (G : am_G)  : am_Ct mX11_errorAt 1 gS [.ref 0] I G (gP rd) (pI (f_X11_errorAt_0 I G ) I G (gP rd)) := by
  refine am_ofF (by decide +kernel) rfl (by decide) (by decide) (Nat.le_of_ble_eq_true rfl) (fun X ad hX hi => ?_)
  have hi : am_info X 9 cX11_errorAt 1 false (Option.some Jvm.ClassFile.FieldType.int) 1 := hi
  show am_V X 0 0 _ _ ad (0, [(0, .ref 0)], [], I, G, (gP rd))
  refine am_blk 0 [(.aload_n 0, 1, 0, 0, .null), (.getfield 53, 3, 9, 6, .null)] (4, [(0, .ref 0)], [.int (I 0 6)], I, G, (gP rd)) (True) hX hi (by decide +kernel) rfl trivial ?_
  refine am_iret hX hi rfl rfl (by decide +kernel) ?_
  exact ⟨by unfold f_X11_errorAt_0; rfl, rfl, rfl, rfl⟩
def f_X12_spots_86 (I : am_I) (G : am_G)  : Int32 := ((I 86 0) * (I 86 1))
set_option maxRecDepth 20000 in
set_option maxHeartbeats 1000000 in
theorem c_X12_spots_86 (rd : Nat) (I : am_I) (G : am_G)  : am_Ct mX12_spots 1 gS [.ref 86] I G (gP rd) (pI (f_X12_spots_86 I G ) I G (gP rd)) := by
  refine am_ofF (by decide +kernel) rfl (by decide) (by decide) (Nat.le_of_ble_eq_true rfl) (fun X ad hX hi => ?_)
  have hi : am_info X 10 cX12_spots 1 false (Option.some Jvm.ClassFile.FieldType.int) 1 := hi
  show am_V X 0 0 _ _ ad (0, [(0, .ref 86)], [], I, G, (gP rd))
  refine am_blk 0 [(.aload_n 0, 1, 0, 0, .null), (.getfield 9, 3, 10, 0, .null), (.aload_n 0, 1, 0, 0, .null), (.getfield 15, 3, 10, 1, .null), (.imul, 1, 0, 0, .null)] (9, [(0, .ref 86)], [.int ((I 86 0) * (I 86 1))], I, G, (gP rd)) (True) hX hi (by decide +kernel) rfl trivial ?_
  refine am_iret hX hi rfl rfl (by decide +kernel) ?_
  exact ⟨by unfold f_X12_spots_86; rfl, rfl, rfl, rfl⟩
def f_X12_gradient_86 (I : am_I) (G : am_G) (x1 : Int32) (x2 : Int32) (x3 : Int32) (x4 : Int32) : Int32 := ((((x2 + (((3) * (x3 - x3 / (I 87 x1.toNatClampNeg) * (I 87 x1.toNatClampNeg))) * (x3 - x3 / (I 87 x1.toNatClampNeg) * (I 87 x1.toNatClampNeg)))) + ((5) * (x4 - x4 / (I 88 x1.toNatClampNeg) * (I 88 x1.toNatClampNeg)))) + ((x3 - x3 / (I 87 x1.toNatClampNeg) * (I 87 x1.toNatClampNeg)) * (x4 - x4 / (I 88 x1.toNatClampNeg) * (I 88 x1.toNatClampNeg)))) - (((x2 + (((3) * (x3 - x3 / (I 87 x1.toNatClampNeg) * (I 87 x1.toNatClampNeg))) * (x3 - x3 / (I 87 x1.toNatClampNeg) * (I 87 x1.toNatClampNeg)))) + ((5) * (x4 - x4 / (I 88 x1.toNatClampNeg) * (I 88 x1.toNatClampNeg)))) + ((x3 - x3 / (I 87 x1.toNatClampNeg) * (I 87 x1.toNatClampNeg)) * (x4 - x4 / (I 88 x1.toNatClampNeg) * (I 88 x1.toNatClampNeg)))) / (8) * (8))
set_option maxRecDepth 20000 in
set_option maxHeartbeats 1000000 in
theorem c_X12_gradient_86 (rd : Nat) (I : am_I) (G : am_G) (x1 : Int32) (x2 : Int32) (x3 : Int32) (x4 : Int32) : am_Ct mX12_gradient 1 gS [.ref 86, .int x1, .int x2, .int x3, .int x4] I G (gP rd) (pI (f_X12_gradient_86 I G x1 x2 x3 x4) I G (gP rd)) := by
  refine am_ofF (by decide +kernel) rfl (by decide) (by decide) (Nat.le_of_ble_eq_true rfl) (fun X ad hX hi => ?_)
  have hi : am_info X 10 cX12_gradient 7 false (Option.some Jvm.ClassFile.FieldType.int) 1 := hi
  show am_V X 0 0 _ _ ad (0, [(0, .ref 86), (1, .int x1), (2, .int x2), (3, .int x3), (4, .int x4)], [], I, G, (gP rd))
  refine am_blk 0 [(.iload_n 3, 1, 3, 0, .null), (.aload_n 0, 1, 0, 0, .null), (.getfield 18, 3, 10, 5, .null), (.iload_n 1, 1, 1, 0, .null), (.iaload, 1, 0, 0, .null), (.irem, 1, 0, 0, .null), (.istore 5, 2, 5, 0, .null), (.iload 4, 2, 4, 0, .null), (.aload_n 0, 1, 0, 0, .null), (.getfield 22, 3, 10, 6, .null), (.iload_n 1, 1, 1, 0, .null), (.iaload, 1, 0, 0, .null), (.irem, 1, 0, 0, .null), (.istore 6, 2, 6, 0, .null), (.iload_n 2, 1, 2, 0, .null), (.iconst (3), 1, 0, 0, .int (3)), (.iload 5, 2, 5, 0, .null), (.imul, 1, 0, 0, .null), (.iload 5, 2, 5, 0, .null), (.imul, 1, 0, 0, .null), (.iadd, 1, 0, 0, .null), (.iconst (5), 1, 0, 0, .int (5)), (.iload 6, 2, 6, 0, .null), (.imul, 1, 0, 0, .null), (.iadd, 1, 0, 0, .null), (.iload 5, 2, 5, 0, .null), (.iload 6, 2, 6, 0, .null), (.imul, 1, 0, 0, .null), (.iadd, 1, 0, 0, .null), (.bipush (8), 2, 0, 0, .int (8)), (.irem, 1, 0, 0, .null)] (44, [(0, .ref 86), (1, .int x1), (2, .int x2), (3, .int x3), (4, .int x4), (5, .int (x3 - x3 / (I 87 x1.toNatClampNeg) * (I 87 x1.toNatClampNeg))), (6, .int (x4 - x4 / (I 88 x1.toNatClampNeg) * (I 88 x1.toNatClampNeg)))], [.int ((((x2 + (((3) * (x3 - x3 / (I 87 x1.toNatClampNeg) * (I 87 x1.toNatClampNeg))) * (x3 - x3 / (I 87 x1.toNatClampNeg) * (I 87 x1.toNatClampNeg)))) + ((5) * (x4 - x4 / (I 88 x1.toNatClampNeg) * (I 88 x1.toNatClampNeg)))) + ((x3 - x3 / (I 87 x1.toNatClampNeg) * (I 87 x1.toNatClampNeg)) * (x4 - x4 / (I 88 x1.toNatClampNeg) * (I 88 x1.toNatClampNeg)))) - (((x2 + (((3) * (x3 - x3 / (I 87 x1.toNatClampNeg) * (I 87 x1.toNatClampNeg))) * (x3 - x3 / (I 87 x1.toNatClampNeg) * (I 87 x1.toNatClampNeg)))) + ((5) * (x4 - x4 / (I 88 x1.toNatClampNeg) * (I 88 x1.toNatClampNeg)))) + ((x3 - x3 / (I 87 x1.toNatClampNeg) * (I 87 x1.toNatClampNeg)) * (x4 - x4 / (I 88 x1.toNatClampNeg) * (I 88 x1.toNatClampNeg)))) / (8) * (8))], I, G, (gP rd)) (vp_in x1 4 ∧ ¬ (I 87 x1.toNatClampNeg) = 0 ∧ vp_in x1 4 ∧ ¬ (I 88 x1.toNatClampNeg) = 0 ∧ ¬ (8) = 0 ∧ True) hX hi (by decide +kernel) rfl ?_ ?_
  · exact ⟨(by first | assumption | (refine (i_in _ _).mpr ?_; simp only [i_lt, i_le, i_eq, i_0, i_of, am_n] at *; omega)), (by first | assumption | (refine (i_in _ _).mpr ?_; simp only [i_lt, i_le, i_eq, i_0, i_of, am_n] at *; omega)), (by first | assumption | (refine (i_in _ _).mpr ?_; simp only [i_lt, i_le, i_eq, i_0, i_of, am_n] at *; omega)), (by first | assumption | (refine (i_in _ _).mpr ?_; simp only [i_lt, i_le, i_eq, i_0, i_of, am_n] at *; omega)), (by first | assumption | (refine (i_in _ _).mpr ?_; simp only [i_lt, i_le, i_eq, i_0, i_of, am_n] at *; omega)), trivial⟩
  refine am_iret hX hi rfl rfl (by decide +kernel) ?_
  exact ⟨by unfold f_X12_gradient_86; rfl, rfl, rfl, rfl⟩
def f_X13_letPull_102 (I : am_I) (G : am_G) (x1 : Int32) (x2 : Int32) : Int32 := (if (I 104 x1.toNatClampNeg) = x2 then (0) else (1))
def g_X13_letPull_102 (I : am_I) (G : am_G) (x1 : Int32) (x2 : Int32) : am_I := (if (I 104 x1.toNatClampNeg) = x2 then I else (am_up (am_up I 104 x1.toNatClampNeg x2) 102 10 (0)))
set_option maxRecDepth 20000 in
set_option maxHeartbeats 1000000 in
theorem c_X13_letPull_102 (rd : Nat) (I : am_I) (G : am_G) (x1 : Int32) (x2 : Int32) : am_Ct mX13_letPull 1 gS [.ref 102, .int x1, .int x2] I G (gP rd) (pI (f_X13_letPull_102 I G x1 x2) (g_X13_letPull_102 I G x1 x2) G (gP rd)) := by
  refine am_ofF (by decide +kernel) rfl (by decide) (by decide) (Nat.le_of_ble_eq_true rfl) (fun X ad hX hi => ?_)
  have hi : am_info X 11 cX13_letPull 3 false (Option.some Jvm.ClassFile.FieldType.boolean) 1 := hi
  show am_V X 0 0 _ _ ad (0, [(0, .ref 102), (1, .int x1), (2, .int x2)], [], I, G, (gP rd))
  refine am_blk 0 [(.aload_n 0, 1, 0, 0, .null), (.getfield 19, 3, 11, 5, .null), (.iload_n 1, 1, 1, 0, .null), (.iaload, 1, 0, 0, .null), (.iload_n 2, 1, 2, 0, .null)] (7, [(0, .ref 102), (1, .int x1), (2, .int x2)], [.int x2, .int (I 104 x1.toNatClampNeg)], I, G, (gP rd)) (vp_in x1 4 ∧ True) hX hi (by decide +kernel) rfl ?_ ?_
  · exact ⟨(by first | assumption | (refine (i_in _ _).mpr ?_; simp only [i_lt, i_le, i_eq, i_0, i_of, am_n] at *; omega)), trivial⟩
  refine am_icmp_ne (tgt := 12) hX hi (off := (5)) (by decide +kernel) (by decide) (fun c7 => ?_) (fun c7 => ?_)
  · refine am_blk 12 [(.aload_n 0, 1, 0, 0, .null), (.getfield 19, 3, 11, 5, .null), (.iload_n 1, 1, 1, 0, .null), (.iload_n 2, 1, 2, 0, .null), (.iastore, 1, 0, 0, .null), (.aload_n 0, 1, 0, 0, .null), (.iconst (0), 1, 0, 0, .int (0)), (.putfield 57, 3, 11, 10, .null), (.iconst (1), 1, 0, 0, .int (1))] (25, [(0, .ref 102), (1, .int x1), (2, .int x2)], [.int (1)], (am_up (am_up I 104 x1.toNatClampNeg x2) 102 10 (0)), G, (gP rd)) (vp_in x1 4 ∧ ((0) = 0 ∨ (0) = 1) ∧ True) hX hi (by decide +kernel) rfl ?_ ?_
    · exact ⟨(by first | assumption | (refine (i_in _ _).mpr ?_; simp only [i_lt, i_le, i_eq, i_0, i_of, am_n] at *; omega)), (by first | assumption | (refine (i_in _ _).mpr ?_; simp only [i_lt, i_le, i_eq, i_0, i_of, am_n] at *; omega)), trivial⟩
    refine am_iret hX hi rfl (by first | rfl | decide | (simp [narrow]; done)) (by decide +kernel) ?_
    exact ⟨by unfold f_X13_letPull_102; rw [if_neg c7], by unfold g_X13_letPull_102; rw [if_neg c7], rfl, rfl⟩
  · refine am_blk 10 [(.iconst (0), 1, 0, 0, .int (0))] (11, [(0, .ref 102), (1, .int x1), (2, .int x2)], [.int (0)], I, G, (gP rd)) (True) hX hi (by decide +kernel) rfl trivial ?_
    refine am_iret hX hi rfl (by first | rfl | decide | (simp [narrow]; done)) (by decide +kernel) ?_
    exact ⟨by unfold f_X13_letPull_102; rw [if_pos c7], by unfold g_X13_letPull_102; rw [if_pos c7], rfl, rfl⟩
def f_X13_letPull_112 (I : am_I) (G : am_G) (x1 : Int32) (x2 : Int32) : Int32 := (if (I 114 x1.toNatClampNeg) = x2 then (0) else (1))
def g_X13_letPull_112 (I : am_I) (G : am_G) (x1 : Int32) (x2 : Int32) : am_I := (if (I 114 x1.toNatClampNeg) = x2 then I else (am_up (am_up I 114 x1.toNatClampNeg x2) 112 10 (0)))
set_option maxRecDepth 20000 in
set_option maxHeartbeats 1000000 in
theorem c_X13_letPull_112 (rd : Nat) (I : am_I) (G : am_G) (x1 : Int32) (x2 : Int32) : am_Ct mX13_letPull 1 gS [.ref 112, .int x1, .int x2] I G (gP rd) (pI (f_X13_letPull_112 I G x1 x2) (g_X13_letPull_112 I G x1 x2) G (gP rd)) := by
  refine am_ofF (by decide +kernel) rfl (by decide) (by decide) (Nat.le_of_ble_eq_true rfl) (fun X ad hX hi => ?_)
  have hi : am_info X 11 cX13_letPull 3 false (Option.some Jvm.ClassFile.FieldType.boolean) 1 := hi
  show am_V X 0 0 _ _ ad (0, [(0, .ref 112), (1, .int x1), (2, .int x2)], [], I, G, (gP rd))
  refine am_blk 0 [(.aload_n 0, 1, 0, 0, .null), (.getfield 19, 3, 11, 5, .null), (.iload_n 1, 1, 1, 0, .null), (.iaload, 1, 0, 0, .null), (.iload_n 2, 1, 2, 0, .null)] (7, [(0, .ref 112), (1, .int x1), (2, .int x2)], [.int x2, .int (I 114 x1.toNatClampNeg)], I, G, (gP rd)) (vp_in x1 4 ∧ True) hX hi (by decide +kernel) rfl ?_ ?_
  · exact ⟨(by first | assumption | (refine (i_in _ _).mpr ?_; simp only [i_lt, i_le, i_eq, i_0, i_of, am_n] at *; omega)), trivial⟩
  refine am_icmp_ne (tgt := 12) hX hi (off := (5)) (by decide +kernel) (by decide) (fun c7 => ?_) (fun c7 => ?_)
  · refine am_blk 12 [(.aload_n 0, 1, 0, 0, .null), (.getfield 19, 3, 11, 5, .null), (.iload_n 1, 1, 1, 0, .null), (.iload_n 2, 1, 2, 0, .null), (.iastore, 1, 0, 0, .null), (.aload_n 0, 1, 0, 0, .null), (.iconst (0), 1, 0, 0, .int (0)), (.putfield 57, 3, 11, 10, .null), (.iconst (1), 1, 0, 0, .int (1))] (25, [(0, .ref 112), (1, .int x1), (2, .int x2)], [.int (1)], (am_up (am_up I 114 x1.toNatClampNeg x2) 112 10 (0)), G, (gP rd)) (vp_in x1 4 ∧ ((0) = 0 ∨ (0) = 1) ∧ True) hX hi (by decide +kernel) rfl ?_ ?_
    · exact ⟨(by first | assumption | (refine (i_in _ _).mpr ?_; simp only [i_lt, i_le, i_eq, i_0, i_of, am_n] at *; omega)), (by first | assumption | (refine (i_in _ _).mpr ?_; simp only [i_lt, i_le, i_eq, i_0, i_of, am_n] at *; omega)), trivial⟩
    refine am_iret hX hi rfl (by first | rfl | decide | (simp [narrow]; done)) (by decide +kernel) ?_
    exact ⟨by unfold f_X13_letPull_112; rw [if_neg c7], by unfold g_X13_letPull_112; rw [if_neg c7], rfl, rfl⟩
  · refine am_blk 10 [(.iconst (0), 1, 0, 0, .int (0))] (11, [(0, .ref 112), (1, .int x1), (2, .int x2)], [.int (0)], I, G, (gP rd)) (True) hX hi (by decide +kernel) rfl trivial ?_
    refine am_iret hX hi rfl (by first | rfl | decide | (simp [narrow]; done)) (by decide +kernel) ?_
    exact ⟨by unfold f_X13_letPull_112; rw [if_pos c7], by unfold g_X13_letPull_112; rw [if_pos c7], rfl, rfl⟩
def f_X13_letSeed_102 (I : am_I) (G : am_G) (x1 : Int32) (x2 : Int32) : Int32 := (if (I 103 x1.toNatClampNeg) = x2 then (0) else (1))
def g_X13_letSeed_102 (I : am_I) (G : am_G) (x1 : Int32) (x2 : Int32) : am_I := (if (I 103 x1.toNatClampNeg) = x2 then I else (am_up (am_up (am_up I 103 x1.toNatClampNeg x2) 106 x1.toNatClampNeg (0)) 102 10 (0)))
set_option maxRecDepth 20000 in
set_option maxHeartbeats 1000000 in
theorem c_X13_letSeed_102 (rd : Nat) (I : am_I) (G : am_G) (x1 : Int32) (x2 : Int32) : am_Ct mX13_letSeed 1 gS [.ref 102, .int x1, .int x2] I G (gP rd) (pI (f_X13_letSeed_102 I G x1 x2) (g_X13_letSeed_102 I G x1 x2) G (gP rd)) := by
  refine am_ofF (by decide +kernel) rfl (by decide) (by decide) (Nat.le_of_ble_eq_true rfl) (fun X ad hX hi => ?_)
  have hi : am_info X 11 cX13_letSeed 3 false (Option.some Jvm.ClassFile.FieldType.boolean) 1 := hi
  show am_V X 0 0 _ _ ad (0, [(0, .ref 102), (1, .int x1), (2, .int x2)], [], I, G, (gP rd))
  refine am_blk 0 [(.aload_n 0, 1, 0, 0, .null), (.getfield 15, 3, 11, 4, .null), (.iload_n 1, 1, 1, 0, .null), (.iaload, 1, 0, 0, .null), (.iload_n 2, 1, 2, 0, .null)] (7, [(0, .ref 102), (1, .int x1), (2, .int x2)], [.int x2, .int (I 103 x1.toNatClampNeg)], I, G, (gP rd)) (vp_in x1 4 ∧ True) hX hi (by decide +kernel) rfl ?_ ?_
  · exact ⟨(by first | assumption | (refine (i_in _ _).mpr ?_; simp only [i_lt, i_le, i_eq, i_0, i_of, am_n] at *; omega)), trivial⟩
  refine am_icmp_ne (tgt := 12) hX hi (off := (5)) (by decide +kernel) (by decide) (fun c7 => ?_) (fun c7 => ?_)
  · refine am_blk 12 [(.aload_n 0, 1, 0, 0, .null), (.getfield 15, 3, 11, 4, .null), (.iload_n 1, 1, 1, 0, .null), (.iload_n 2, 1, 2, 0, .null), (.iastore, 1, 0, 0, .null), (.aload_n 0, 1, 0, 0, .null), (.getfield 25, 3, 11, 7, .null), (.iload_n 1, 1, 1, 0, .null), (.iconst (0), 1, 0, 0, .int (0)), (.bastore, 1, 0, 0, .null), (.aload_n 0, 1, 0, 0, .null), (.iconst (0), 1, 0, 0, .int (0)), (.putfield 57, 3, 11, 10, .null), (.iconst (1), 1, 0, 0, .int (1))] (32, [(0, .ref 102), (1, .int x1), (2, .int x2)], [.int (1)], (am_up (am_up (am_up I 103 x1.toNatClampNeg x2) 106 x1.toNatClampNeg (0)) 102 10 (0)), G, (gP rd)) (vp_in x1 4 ∧ (vp_in x1 4 ∧ ((0) = 0 ∨ (0) = 1)) ∧ ((0) = 0 ∨ (0) = 1) ∧ True) hX hi (by decide +kernel) rfl ?_ ?_
    · exact ⟨(by first | assumption | (refine (i_in _ _).mpr ?_; simp only [i_lt, i_le, i_eq, i_0, i_of, am_n] at *; omega)), (by first | assumption | (refine (i_in _ _).mpr ?_; simp only [i_lt, i_le, i_eq, i_0, i_of, am_n] at *; omega)), (by first | assumption | (refine (i_in _ _).mpr ?_; simp only [i_lt, i_le, i_eq, i_0, i_of, am_n] at *; omega)), trivial⟩
    refine am_iret hX hi rfl (by first | rfl | decide | (simp [narrow]; done)) (by decide +kernel) ?_
    exact ⟨by unfold f_X13_letSeed_102; rw [if_neg c7], by unfold g_X13_letSeed_102; rw [if_neg c7], rfl, rfl⟩
  · refine am_blk 10 [(.iconst (0), 1, 0, 0, .int (0))] (11, [(0, .ref 102), (1, .int x1), (2, .int x2)], [.int (0)], I, G, (gP rd)) (True) hX hi (by decide +kernel) rfl trivial ?_
    refine am_iret hX hi rfl (by first | rfl | decide | (simp [narrow]; done)) (by decide +kernel) ?_
    exact ⟨by unfold f_X13_letSeed_102; rw [if_pos c7], by unfold g_X13_letSeed_102; rw [if_pos c7], rfl, rfl⟩
def f_X13_letSeed_112 (I : am_I) (G : am_G) (x1 : Int32) (x2 : Int32) : Int32 := (if (I 113 x1.toNatClampNeg) = x2 then (0) else (1))
def g_X13_letSeed_112 (I : am_I) (G : am_G) (x1 : Int32) (x2 : Int32) : am_I := (if (I 113 x1.toNatClampNeg) = x2 then I else (am_up (am_up (am_up I 113 x1.toNatClampNeg x2) 116 x1.toNatClampNeg (0)) 112 10 (0)))
set_option maxRecDepth 20000 in
set_option maxHeartbeats 1000000 in
theorem c_X13_letSeed_112 (rd : Nat) (I : am_I) (G : am_G) (x1 : Int32) (x2 : Int32) : am_Ct mX13_letSeed 1 gS [.ref 112, .int x1, .int x2] I G (gP rd) (pI (f_X13_letSeed_112 I G x1 x2) (g_X13_letSeed_112 I G x1 x2) G (gP rd)) := by
  refine am_ofF (by decide +kernel) rfl (by decide) (by decide) (Nat.le_of_ble_eq_true rfl) (fun X ad hX hi => ?_)
  have hi : am_info X 11 cX13_letSeed 3 false (Option.some Jvm.ClassFile.FieldType.boolean) 1 := hi
  show am_V X 0 0 _ _ ad (0, [(0, .ref 112), (1, .int x1), (2, .int x2)], [], I, G, (gP rd))
  refine am_blk 0 [(.aload_n 0, 1, 0, 0, .null), (.getfield 15, 3, 11, 4, .null), (.iload_n 1, 1, 1, 0, .null), (.iaload, 1, 0, 0, .null), (.iload_n 2, 1, 2, 0, .null)] (7, [(0, .ref 112), (1, .int x1), (2, .int x2)], [.int x2, .int (I 113 x1.toNatClampNeg)], I, G, (gP rd)) (vp_in x1 4 ∧ True) hX hi (by decide +kernel) rfl ?_ ?_
  · exact ⟨(by first | assumption | (refine (i_in _ _).mpr ?_; simp only [i_lt, i_le, i_eq, i_0, i_of, am_n] at *; omega)), trivial⟩
  refine am_icmp_ne (tgt := 12) hX hi (off := (5)) (by decide +kernel) (by decide) (fun c7 => ?_) (fun c7 => ?_)
  · refine am_blk 12 [(.aload_n 0, 1, 0, 0, .null), (.getfield 15, 3, 11, 4, .null), (.iload_n 1, 1, 1, 0, .null), (.iload_n 2, 1, 2, 0, .null), (.iastore, 1, 0, 0, .null), (.aload_n 0, 1, 0, 0, .null), (.getfield 25, 3, 11, 7, .null), (.iload_n 1, 1, 1, 0, .null), (.iconst (0), 1, 0, 0, .int (0)), (.bastore, 1, 0, 0, .null), (.aload_n 0, 1, 0, 0, .null), (.iconst (0), 1, 0, 0, .int (0)), (.putfield 57, 3, 11, 10, .null), (.iconst (1), 1, 0, 0, .int (1))] (32, [(0, .ref 112), (1, .int x1), (2, .int x2)], [.int (1)], (am_up (am_up (am_up I 113 x1.toNatClampNeg x2) 116 x1.toNatClampNeg (0)) 112 10 (0)), G, (gP rd)) (vp_in x1 4 ∧ (vp_in x1 4 ∧ ((0) = 0 ∨ (0) = 1)) ∧ ((0) = 0 ∨ (0) = 1) ∧ True) hX hi (by decide +kernel) rfl ?_ ?_
    · exact ⟨(by first | assumption | (refine (i_in _ _).mpr ?_; simp only [i_lt, i_le, i_eq, i_0, i_of, am_n] at *; omega)), (by first | assumption | (refine (i_in _ _).mpr ?_; simp only [i_lt, i_le, i_eq, i_0, i_of, am_n] at *; omega)), (by first | assumption | (refine (i_in _ _).mpr ?_; simp only [i_lt, i_le, i_eq, i_0, i_of, am_n] at *; omega)), trivial⟩
    refine am_iret hX hi rfl (by first | rfl | decide | (simp [narrow]; done)) (by decide +kernel) ?_
    exact ⟨by unfold f_X13_letSeed_112; rw [if_neg c7], by unfold g_X13_letSeed_112; rw [if_neg c7], rfl, rfl⟩
  · refine am_blk 10 [(.iconst (0), 1, 0, 0, .int (0))] (11, [(0, .ref 112), (1, .int x1), (2, .int x2)], [.int (0)], I, G, (gP rd)) (True) hX hi (by decide +kernel) rfl trivial ?_
    refine am_iret hX hi rfl (by first | rfl | decide | (simp [narrow]; done)) (by decide +kernel) ?_
    exact ⟨by unfold f_X13_letSeed_112; rw [if_pos c7], by unfold g_X13_letSeed_112; rw [if_pos c7], rfl, rfl⟩
def f_X13_isPushed_102 (I : am_I) (G : am_G) (x1 : Int32) : Int32 := (if x1 = (15) then (1) else (if x1 = (32) then (1) else (if x1 = (9) then (1) else (if x1 = (16) then (1) else (if x1 = (6) then (1) else (if x1 = (18) then (1) else (0)))))))
set_option maxRecDepth 20000 in
set_option maxHeartbeats 1000000 in
theorem c_X13_isPushed_102 (rd : Nat) (I : am_I) (G : am_G) (x1 : Int32) : am_Ct mX13_isPushed 1 gS [.ref 102, .int x1] I G (gP rd) (pI (f_X13_isPushed_102 I G x1) I G (gP rd)) := by
  refine am_ofF (by decide +kernel) rfl (by decide) (by decide) (Nat.le_of_ble_eq_true rfl) (fun X ad hX hi => ?_)
  have hi : am_info X 11 cX13_isPushed 2 false (Option.some Jvm.ClassFile.FieldType.boolean) 1 := hi
  show am_V X 0 0 _ _ ad (0, [(0, .ref 102), (1, .int x1)], [], I, G, (gP rd))
  refine am_blk 0 [(.iload_n 1, 1, 1, 0, .null), (.bipush (15), 2, 0, 0, .int (15))] (3, [(0, .ref 102), (1, .int x1)], [.int (15), .int x1], I, G, (gP rd)) (True) hX hi (by decide +kernel) rfl trivial ?_
  refine am_icmp_eq (tgt := 36) hX hi (off := (33)) (by decide +kernel) (by decide) (fun c3 => ?_) (fun c3 => ?_)
  · refine am_blk 36 [(.iconst (1), 1, 0, 0, .int (1)), (.goto (4), 3, 0, 41, .null)] (41, [(0, .ref 102), (1, .int x1)], [.int (1)], I, G, (gP rd)) (True) hX hi (by decide +kernel) rfl trivial ?_
    refine am_iret hX hi rfl (by first | rfl | decide | (simp [narrow]; done)) (by decide +kernel) ?_
    exact ⟨by unfold f_X13_isPushed_102; rw [if_pos c3], rfl, rfl, rfl⟩
  · refine am_blk 6 [(.iload_n 1, 1, 1, 0, .null), (.bipush (32), 2, 0, 0, .int (32))] (9, [(0, .ref 102), (1, .int x1)], [.int (32), .int x1], I, G, (gP rd)) (True) hX hi (by decide +kernel) rfl trivial ?_
    refine am_icmp_eq (tgt := 36) hX hi (off := (27)) (by decide +kernel) (by decide) (fun c9 => ?_) (fun c9 => ?_)
    · refine am_blk 36 [(.iconst (1), 1, 0, 0, .int (1)), (.goto (4), 3, 0, 41, .null)] (41, [(0, .ref 102), (1, .int x1)], [.int (1)], I, G, (gP rd)) (True) hX hi (by decide +kernel) rfl trivial ?_
      refine am_iret hX hi rfl (by first | rfl | decide | (simp [narrow]; done)) (by decide +kernel) ?_
      exact ⟨by unfold f_X13_isPushed_102; rw [if_neg c3, if_pos c9], rfl, rfl, rfl⟩
    · refine am_blk 12 [(.iload_n 1, 1, 1, 0, .null), (.bipush (9), 2, 0, 0, .int (9))] (15, [(0, .ref 102), (1, .int x1)], [.int (9), .int x1], I, G, (gP rd)) (True) hX hi (by decide +kernel) rfl trivial ?_
      refine am_icmp_eq (tgt := 36) hX hi (off := (21)) (by decide +kernel) (by decide) (fun c15 => ?_) (fun c15 => ?_)
      · refine am_blk 36 [(.iconst (1), 1, 0, 0, .int (1)), (.goto (4), 3, 0, 41, .null)] (41, [(0, .ref 102), (1, .int x1)], [.int (1)], I, G, (gP rd)) (True) hX hi (by decide +kernel) rfl trivial ?_
        refine am_iret hX hi rfl (by first | rfl | decide | (simp [narrow]; done)) (by decide +kernel) ?_
        exact ⟨by unfold f_X13_isPushed_102; rw [if_neg c3, if_neg c9, if_pos c15], rfl, rfl, rfl⟩
      · refine am_blk 18 [(.iload_n 1, 1, 1, 0, .null), (.bipush (16), 2, 0, 0, .int (16))] (21, [(0, .ref 102), (1, .int x1)], [.int (16), .int x1], I, G, (gP rd)) (True) hX hi (by decide +kernel) rfl trivial ?_
        refine am_icmp_eq (tgt := 36) hX hi (off := (15)) (by decide +kernel) (by decide) (fun c21 => ?_) (fun c21 => ?_)
        · refine am_blk 36 [(.iconst (1), 1, 0, 0, .int (1)), (.goto (4), 3, 0, 41, .null)] (41, [(0, .ref 102), (1, .int x1)], [.int (1)], I, G, (gP rd)) (True) hX hi (by decide +kernel) rfl trivial ?_
          refine am_iret hX hi rfl (by first | rfl | decide | (simp [narrow]; done)) (by decide +kernel) ?_
          exact ⟨by unfold f_X13_isPushed_102; rw [if_neg c3, if_neg c9, if_neg c15, if_pos c21], rfl, rfl, rfl⟩
        · refine am_blk 24 [(.iload_n 1, 1, 1, 0, .null), (.bipush (6), 2, 0, 0, .int (6))] (27, [(0, .ref 102), (1, .int x1)], [.int (6), .int x1], I, G, (gP rd)) (True) hX hi (by decide +kernel) rfl trivial ?_
          refine am_icmp_eq (tgt := 36) hX hi (off := (9)) (by decide +kernel) (by decide) (fun c27 => ?_) (fun c27 => ?_)
          · refine am_blk 36 [(.iconst (1), 1, 0, 0, .int (1)), (.goto (4), 3, 0, 41, .null)] (41, [(0, .ref 102), (1, .int x1)], [.int (1)], I, G, (gP rd)) (True) hX hi (by decide +kernel) rfl trivial ?_
            refine am_iret hX hi rfl (by first | rfl | decide | (simp [narrow]; done)) (by decide +kernel) ?_
            exact ⟨by unfold f_X13_isPushed_102; rw [if_neg c3, if_neg c9, if_neg c15, if_neg c21, if_pos c27], rfl, rfl, rfl⟩
          · refine am_blk 30 [(.iload_n 1, 1, 1, 0, .null), (.bipush (18), 2, 0, 0, .int (18))] (33, [(0, .ref 102), (1, .int x1)], [.int (18), .int x1], I, G, (gP rd)) (True) hX hi (by decide +kernel) rfl trivial ?_
            refine am_icmp_ne (tgt := 40) hX hi (off := (7)) (by decide +kernel) (by decide) (fun c33 => ?_) (fun c33 => ?_)
            · refine am_blk 40 [(.iconst (0), 1, 0, 0, .int (0))] (41, [(0, .ref 102), (1, .int x1)], [.int (0)], I, G, (gP rd)) (True) hX hi (by decide +kernel) rfl trivial ?_
              refine am_iret hX hi rfl (by first | rfl | decide | (simp [narrow]; done)) (by decide +kernel) ?_
              exact ⟨by unfold f_X13_isPushed_102; rw [if_neg c3, if_neg c9, if_neg c15, if_neg c21, if_neg c27, if_neg c33], rfl, rfl, rfl⟩
            · refine am_blk 36 [(.iconst (1), 1, 0, 0, .int (1)), (.goto (4), 3, 0, 41, .null)] (41, [(0, .ref 102), (1, .int x1)], [.int (1)], I, G, (gP rd)) (True) hX hi (by decide +kernel) rfl trivial ?_
              refine am_iret hX hi rfl (by first | rfl | decide | (simp [narrow]; done)) (by decide +kernel) ?_
              exact ⟨by unfold f_X13_isPushed_102; rw [if_neg c3, if_neg c9, if_neg c15, if_neg c21, if_neg c27, if_pos c33], rfl, rfl, rfl⟩
def f_X13_isPushed_112 (I : am_I) (G : am_G) (x1 : Int32) : Int32 := (if x1 = (15) then (1) else (if x1 = (32) then (1) else (if x1 = (9) then (1) else (if x1 = (16) then (1) else (if x1 = (6) then (1) else (if x1 = (18) then (1) else (0)))))))
set_option maxRecDepth 20000 in
set_option maxHeartbeats 1000000 in
theorem c_X13_isPushed_112 (rd : Nat) (I : am_I) (G : am_G) (x1 : Int32) : am_Ct mX13_isPushed 1 gS [.ref 112, .int x1] I G (gP rd) (pI (f_X13_isPushed_112 I G x1) I G (gP rd)) := by
  refine am_ofF (by decide +kernel) rfl (by decide) (by decide) (Nat.le_of_ble_eq_true rfl) (fun X ad hX hi => ?_)
  have hi : am_info X 11 cX13_isPushed 2 false (Option.some Jvm.ClassFile.FieldType.boolean) 1 := hi
  show am_V X 0 0 _ _ ad (0, [(0, .ref 112), (1, .int x1)], [], I, G, (gP rd))
  refine am_blk 0 [(.iload_n 1, 1, 1, 0, .null), (.bipush (15), 2, 0, 0, .int (15))] (3, [(0, .ref 112), (1, .int x1)], [.int (15), .int x1], I, G, (gP rd)) (True) hX hi (by decide +kernel) rfl trivial ?_
  refine am_icmp_eq (tgt := 36) hX hi (off := (33)) (by decide +kernel) (by decide) (fun c3 => ?_) (fun c3 => ?_)
  · refine am_blk 36 [(.iconst (1), 1, 0, 0, .int (1)), (.goto (4), 3, 0, 41, .null)] (41, [(0, .ref 112), (1, .int x1)], [.int (1)], I, G, (gP rd)) (True) hX hi (by decide +kernel) rfl trivial ?_
    refine am_iret hX hi rfl (by first | rfl | decide | (simp [narrow]; done)) (by decide +kernel) ?_
    exact ⟨by unfold f_X13_isPushed_112; rw [if_pos c3], rfl, rfl, rfl⟩
  · refine am_blk 6 [(.iload_n 1, 1, 1, 0, .null), (.bipush (32), 2, 0, 0, .int (32))] (9, [(0, .ref 112), (1, .int x1)], [.int (32), .int x1], I, G, (gP rd)) (True) hX hi (by decide +kernel) rfl trivial ?_
    refine am_icmp_eq (tgt := 36) hX hi (off := (27)) (by decide +kernel) (by decide) (fun c9 => ?_) (fun c9 => ?_)
    · refine am_blk 36 [(.iconst (1), 1, 0, 0, .int (1)), (.goto (4), 3, 0, 41, .null)] (41, [(0, .ref 112), (1, .int x1)], [.int (1)], I, G, (gP rd)) (True) hX hi (by decide +kernel) rfl trivial ?_
      refine am_iret hX hi rfl (by first | rfl | decide | (simp [narrow]; done)) (by decide +kernel) ?_
      exact ⟨by unfold f_X13_isPushed_112; rw [if_neg c3, if_pos c9], rfl, rfl, rfl⟩
    · refine am_blk 12 [(.iload_n 1, 1, 1, 0, .null), (.bipush (9), 2, 0, 0, .int (9))] (15, [(0, .ref 112), (1, .int x1)], [.int (9), .int x1], I, G, (gP rd)) (True) hX hi (by decide +kernel) rfl trivial ?_
      refine am_icmp_eq (tgt := 36) hX hi (off := (21)) (by decide +kernel) (by decide) (fun c15 => ?_) (fun c15 => ?_)
      · refine am_blk 36 [(.iconst (1), 1, 0, 0, .int (1)), (.goto (4), 3, 0, 41, .null)] (41, [(0, .ref 112), (1, .int x1)], [.int (1)], I, G, (gP rd)) (True) hX hi (by decide +kernel) rfl trivial ?_
        refine am_iret hX hi rfl (by first | rfl | decide | (simp [narrow]; done)) (by decide +kernel) ?_
        exact ⟨by unfold f_X13_isPushed_112; rw [if_neg c3, if_neg c9, if_pos c15], rfl, rfl, rfl⟩
      · refine am_blk 18 [(.iload_n 1, 1, 1, 0, .null), (.bipush (16), 2, 0, 0, .int (16))] (21, [(0, .ref 112), (1, .int x1)], [.int (16), .int x1], I, G, (gP rd)) (True) hX hi (by decide +kernel) rfl trivial ?_
        refine am_icmp_eq (tgt := 36) hX hi (off := (15)) (by decide +kernel) (by decide) (fun c21 => ?_) (fun c21 => ?_)
        · refine am_blk 36 [(.iconst (1), 1, 0, 0, .int (1)), (.goto (4), 3, 0, 41, .null)] (41, [(0, .ref 112), (1, .int x1)], [.int (1)], I, G, (gP rd)) (True) hX hi (by decide +kernel) rfl trivial ?_
          refine am_iret hX hi rfl (by first | rfl | decide | (simp [narrow]; done)) (by decide +kernel) ?_
          exact ⟨by unfold f_X13_isPushed_112; rw [if_neg c3, if_neg c9, if_neg c15, if_pos c21], rfl, rfl, rfl⟩
        · refine am_blk 24 [(.iload_n 1, 1, 1, 0, .null), (.bipush (6), 2, 0, 0, .int (6))] (27, [(0, .ref 112), (1, .int x1)], [.int (6), .int x1], I, G, (gP rd)) (True) hX hi (by decide +kernel) rfl trivial ?_
          refine am_icmp_eq (tgt := 36) hX hi (off := (9)) (by decide +kernel) (by decide) (fun c27 => ?_) (fun c27 => ?_)
          · refine am_blk 36 [(.iconst (1), 1, 0, 0, .int (1)), (.goto (4), 3, 0, 41, .null)] (41, [(0, .ref 112), (1, .int x1)], [.int (1)], I, G, (gP rd)) (True) hX hi (by decide +kernel) rfl trivial ?_
            refine am_iret hX hi rfl (by first | rfl | decide | (simp [narrow]; done)) (by decide +kernel) ?_
            exact ⟨by unfold f_X13_isPushed_112; rw [if_neg c3, if_neg c9, if_neg c15, if_neg c21, if_pos c27], rfl, rfl, rfl⟩
          · refine am_blk 30 [(.iload_n 1, 1, 1, 0, .null), (.bipush (18), 2, 0, 0, .int (18))] (33, [(0, .ref 112), (1, .int x1)], [.int (18), .int x1], I, G, (gP rd)) (True) hX hi (by decide +kernel) rfl trivial ?_
            refine am_icmp_ne (tgt := 40) hX hi (off := (7)) (by decide +kernel) (by decide) (fun c33 => ?_) (fun c33 => ?_)
            · refine am_blk 40 [(.iconst (0), 1, 0, 0, .int (0))] (41, [(0, .ref 112), (1, .int x1)], [.int (0)], I, G, (gP rd)) (True) hX hi (by decide +kernel) rfl trivial ?_
              refine am_iret hX hi rfl (by first | rfl | decide | (simp [narrow]; done)) (by decide +kernel) ?_
              exact ⟨by unfold f_X13_isPushed_112; rw [if_neg c3, if_neg c9, if_neg c15, if_neg c21, if_neg c27, if_neg c33], rfl, rfl, rfl⟩
            · refine am_blk 36 [(.iconst (1), 1, 0, 0, .int (1)), (.goto (4), 3, 0, 41, .null)] (41, [(0, .ref 112), (1, .int x1)], [.int (1)], I, G, (gP rd)) (True) hX hi (by decide +kernel) rfl trivial ?_
              refine am_iret hX hi rfl (by first | rfl | decide | (simp [narrow]; done)) (by decide +kernel) ?_
              exact ⟨by unfold f_X13_isPushed_112; rw [if_neg c3, if_neg c9, if_neg c15, if_neg c21, if_neg c27, if_pos c33], rfl, rfl, rfl⟩
def f_X14_thrown_79 (I : am_I) (G : am_G)  : Int32 := (I 79 0)
set_option maxRecDepth 20000 in
set_option maxHeartbeats 1000000 in
theorem c_X14_thrown_79 (rd : Nat) (I : am_I) (G : am_G)  : am_Ct mX14_thrown 1 gS [.ref 79] I G (gP rd) (pI (f_X14_thrown_79 I G ) I G (gP rd)) := by
  refine am_ofF (by decide +kernel) rfl (by decide) (by decide) (Nat.le_of_ble_eq_true rfl) (fun X ad hX hi => ?_)
  have hi : am_info X 12 cX14_thrown 1 false (Option.some Jvm.ClassFile.FieldType.int) 1 := hi
  show am_V X 0 0 _ _ ad (0, [(0, .ref 79)], [], I, G, (gP rd))
  refine am_blk 0 [(.aload_n 0, 1, 0, 0, .null), (.getfield 57, 3, 12, 0, .null)] (4, [(0, .ref 79)], [.int (I 79 0)], I, G, (gP rd)) (True) hX hi (by decide +kernel) rfl trivial ?_
  refine am_iret hX hi rfl rfl (by decide +kernel) ?_
  exact ⟨by unfold f_X14_thrown_79; rfl, rfl, rfl, rfl⟩
def f_X14_no_79 (I : am_I) (G : am_G) (x1 : Int32) : Int32 := (0)
def g_X14_no_79 (I : am_I) (G : am_G) (x1 : Int32) : am_I := (am_up I 79 0 x1)
set_option maxRecDepth 20000 in
set_option maxHeartbeats 1000000 in
theorem c_X14_no_79 (rd : Nat) (I : am_I) (G : am_G) (x1 : Int32) : am_Ct mX14_no 1 gS [.ref 79, .int x1] I G (gP rd) (pI (f_X14_no_79 I G x1) (g_X14_no_79 I G x1) G (gP rd)) := by
  refine am_ofF (by decide +kernel) rfl (by decide) (by decide) (Nat.le_of_ble_eq_true rfl) (fun X ad hX hi => ?_)
  have hi : am_info X 12 cX14_no 2 false (Option.some Jvm.ClassFile.FieldType.int) 1 := hi
  show am_V X 0 0 _ _ ad (0, [(0, .ref 79), (1, .int x1)], [], I, G, (gP rd))
  refine am_blk 0 [(.aload_n 0, 1, 0, 0, .null), (.iload_n 1, 1, 1, 0, .null), (.putfield 57, 3, 12, 0, .null), (.iconst (0), 1, 0, 0, .int (0))] (6, [(0, .ref 79), (1, .int x1)], [.int (0)], (am_up I 79 0 x1), G, (gP rd)) (True) hX hi (by decide +kernel) rfl trivial ?_
  refine am_iret hX hi rfl rfl (by decide +kernel) ?_
  exact ⟨by unfold f_X14_no_79; rfl, by unfold g_X14_no_79; rfl, rfl, rfl⟩
def f_X14_isIn (I : am_I) (G : am_G) (x1 : Int32) (x2 : Int32) (x3 : Int32) : Int32 := (if x1 < x2 then (0) else (if x3 < x1 then (0) else (1)))
set_option maxRecDepth 20000 in
set_option maxHeartbeats 1000000 in
theorem c_X14_isIn {sh : List am_Sh} {P : am_P} (I : am_I) (G : am_G) (x1 : Int32) (x2 : Int32) (x3 : Int32) : am_Ct mX14_isIn 1 sh [.int x1, .int x2, .int x3] I G P (pI (f_X14_isIn I G x1 x2 x3) I G P) := by
  refine am_ofF (by decide +kernel) rfl (by decide) (by decide) (Nat.le_of_ble_eq_true rfl) (fun X ad hX hi => ?_)
  have hi : am_info X 12 cX14_isIn 3 false (Option.some Jvm.ClassFile.FieldType.boolean) 1 := hi
  show am_V X 0 0 _ _ ad (0, [(0, .int x1), (1, .int x2), (2, .int x3)], [], I, G, P)
  refine am_blk 0 [(.iload_n 0, 1, 0, 0, .null), (.iload_n 1, 1, 1, 0, .null)] (2, [(0, .int x1), (1, .int x2), (2, .int x3)], [.int x2, .int x1], I, G, P) (True) hX hi (by decide +kernel) rfl trivial ?_
  refine am_icmp_lt (tgt := 14) hX hi (off := (12)) (by decide +kernel) (by decide) (fun c2 => ?_) (fun c2 => ?_)
  · refine am_blk 14 [(.iconst (0), 1, 0, 0, .int (0))] (15, [(0, .int x1), (1, .int x2), (2, .int x3)], [.int (0)], I, G, P) (True) hX hi (by decide +kernel) rfl trivial ?_
    refine am_iret hX hi rfl (by first | rfl | decide | (simp [narrow]; done)) (by decide +kernel) ?_
    exact ⟨by unfold f_X14_isIn; rw [if_pos c2], rfl, rfl, rfl⟩
  · refine am_blk 5 [(.iload_n 0, 1, 0, 0, .null), (.iload_n 2, 1, 2, 0, .null)] (7, [(0, .int x1), (1, .int x2), (2, .int x3)], [.int x3, .int x1], I, G, P) (True) hX hi (by decide +kernel) rfl trivial ?_
    refine am_icmp_gt (tgt := 14) hX hi (off := (7)) (by decide +kernel) (by decide) (fun c7 => ?_) (fun c7 => ?_)
    · refine am_blk 14 [(.iconst (0), 1, 0, 0, .int (0))] (15, [(0, .int x1), (1, .int x2), (2, .int x3)], [.int (0)], I, G, P) (True) hX hi (by decide +kernel) rfl trivial ?_
      refine am_iret hX hi rfl (by first | rfl | decide | (simp [narrow]; done)) (by decide +kernel) ?_
      exact ⟨by unfold f_X14_isIn; rw [if_neg c2, if_pos c7], rfl, rfl, rfl⟩
    · refine am_blk 10 [(.iconst (1), 1, 0, 0, .int (1)), (.goto (4), 3, 0, 15, .null)] (15, [(0, .int x1), (1, .int x2), (2, .int x3)], [.int (1)], I, G, P) (True) hX hi (by decide +kernel) rfl trivial ?_
      refine am_iret hX hi rfl (by first | rfl | decide | (simp [narrow]; done)) (by decide +kernel) ?_
      exact ⟨by unfold f_X14_isIn; rw [if_neg c2, if_neg c7], rfl, rfl, rfl⟩
def f_X14_isOctave_79 (I : am_I) (G : am_G) (x1 : Int32) : Int32 := (f_X14_isIn I G x1 (0) ((I 86 2) - (1)))
set_option maxRecDepth 20000 in
set_option maxHeartbeats 1000000 in
theorem c_X14_isOctave_79 (rd : Nat) (I : am_I) (G : am_G) (x1 : Int32) : am_Ct mX14_isOctave 2 gS [.ref 79, .int x1] I G (gP rd) (pI (f_X14_isOctave_79 I G x1) I G (gP rd)) := by
  refine am_ofF (by decide +kernel) rfl (by decide) (by decide) (Nat.le_of_ble_eq_true rfl) (fun X ad hX hi => ?_)
  have hi : am_info X 12 cX14_isOctave 2 false (Option.some Jvm.ClassFile.FieldType.boolean) 2 := hi
  show am_V X 0 0 _ _ ad (0, [(0, .ref 79), (1, .int x1)], [], I, G, (gP rd))
  refine am_blk 0 [(.iload_n 1, 1, 1, 0, .null), (.iconst (0), 1, 0, 0, .int (0)), (.aload_n 0, 1, 0, 0, .null), (.getfield 35, 3, 12, 11, .null), (.getfield 60, 3, 10, 2, .null), (.iconst (1), 1, 0, 0, .int (1)), (.isub, 1, 0, 0, .null)] (11, [(0, .ref 79), (1, .int x1)], [.int ((I 86 2) - (1)), .int (0), .int x1], I, G, (gP rd)) (True) hX hi (by decide +kernel) rfl trivial ?_
  refine am_callS hX hi (M := mX14_isIn) (idx := 63) (d' := 1) (As := [.int x1, .int (0), .int ((I 86 2) - (1))]) (rest := []) mkX14_isIn msX14_isIn (by decide +kernel) (by decide +kernel) rfl ⟨by decide, by decide, Nat.le_of_ble_eq_true rfl⟩ rfl (c_X14_isIn I G x1 (0) ((I 86 2) - (1))) ?_
  rintro r9 I9 G9 P9 ⟨e0, e1, e2, e3⟩
  rw [e0, e1, e2, e3]
  show am_V X 0 0 _ _ ad (14, [(0, .ref 79), (1, .int x1)], [.int (f_X14_isIn I G x1 (0) ((I 86 2) - (1)))], I, G, (gP rd))
  refine am_iret hX hi rfl (by first | rfl | decide | (simp [narrow]; done)) (by decide +kernel) ?_
  exact ⟨by unfold f_X14_isOctave_79; rfl, rfl, rfl, rfl⟩
def f_X14_isComb_79 (I : am_I) (G : am_G) (x1 : Int32) : Int32 := (f_X14_isIn I G x1 (0) ((I 86 3) - (1)))
set_option maxRecDepth 20000 in
set_option maxHeartbeats 1000000 in
theorem c_X14_isComb_79 (rd : Nat) (I : am_I) (G : am_G) (x1 : Int32) : am_Ct mX14_isComb 2 gS [.ref 79, .int x1] I G (gP rd) (pI (f_X14_isComb_79 I G x1) I G (gP rd)) := by
  refine am_ofF (by decide +kernel) rfl (by decide) (by decide) (Nat.le_of_ble_eq_true rfl) (fun X ad hX hi => ?_)
  have hi : am_info X 12 cX14_isComb 2 false (Option.some Jvm.ClassFile.FieldType.boolean) 2 := hi
  show am_V X 0 0 _ _ ad (0, [(0, .ref 79), (1, .int x1)], [], I, G, (gP rd))
  refine am_blk 0 [(.iload_n 1, 1, 1, 0, .null), (.iconst (0), 1, 0, 0, .int (0)), (.aload_n 0, 1, 0, 0, .null), (.getfield 35, 3, 12, 11, .null), (.getfield 67, 3, 10, 3, .null), (.iconst (1), 1, 0, 0, .int (1)), (.isub, 1, 0, 0, .null)] (11, [(0, .ref 79), (1, .int x1)], [.int ((I 86 3) - (1)), .int (0), .int x1], I, G, (gP rd)) (True) hX hi (by decide +kernel) rfl trivial ?_
  refine am_callS hX hi (M := mX14_isIn) (idx := 63) (d' := 1) (As := [.int x1, .int (0), .int ((I 86 3) - (1))]) (rest := []) mkX14_isIn msX14_isIn (by decide +kernel) (by decide +kernel) rfl ⟨by decide, by decide, Nat.le_of_ble_eq_true rfl⟩ rfl (c_X14_isIn I G x1 (0) ((I 86 3) - (1))) ?_
  rintro r9 I9 G9 P9 ⟨e0, e1, e2, e3⟩
  rw [e0, e1, e2, e3]
  show am_V X 0 0 _ _ ad (14, [(0, .ref 79), (1, .int x1)], [.int (f_X14_isIn I G x1 (0) ((I 86 3) - (1)))], I, G, (gP rd))
  refine am_iret hX hi rfl (by first | rfl | decide | (simp [narrow]; done)) (by decide +kernel) ?_
  exact ⟨by unfold f_X14_isComb_79; rfl, rfl, rfl, rfl⟩
def f_X14_isInk_79 (I : am_I) (G : am_G) (x1 : Int32) : Int32 := (f_X14_isIn I G x1 (0) (I 86 4))
set_option maxRecDepth 20000 in
set_option maxHeartbeats 1000000 in
theorem c_X14_isInk_79 (rd : Nat) (I : am_I) (G : am_G) (x1 : Int32) : am_Ct mX14_isInk 2 gS [.ref 79, .int x1] I G (gP rd) (pI (f_X14_isInk_79 I G x1) I G (gP rd)) := by
  refine am_ofF (by decide +kernel) rfl (by decide) (by decide) (Nat.le_of_ble_eq_true rfl) (fun X ad hX hi => ?_)
  have hi : am_info X 12 cX14_isInk 2 false (Option.some Jvm.ClassFile.FieldType.boolean) 2 := hi
  show am_V X 0 0 _ _ ad (0, [(0, .ref 79), (1, .int x1)], [], I, G, (gP rd))
  refine am_blk 0 [(.iload_n 1, 1, 1, 0, .null), (.iconst (0), 1, 0, 0, .int (0)), (.aload_n 0, 1, 0, 0, .null), (.getfield 35, 3, 12, 11, .null), (.getfield 70, 3, 10, 4, .null)] (9, [(0, .ref 79), (1, .int x1)], [.int (I 86 4), .int (0), .int x1], I, G, (gP rd)) (True) hX hi (by decide +kernel) rfl trivial ?_
  refine am_callS hX hi (M := mX14_isIn) (idx := 63) (d' := 1) (As := [.int x1, .int (0), .int (I 86 4)]) (rest := []) mkX14_isIn msX14_isIn (by decide +kernel) (by decide +kernel) rfl ⟨by decide, by decide, Nat.le_of_ble_eq_true rfl⟩ rfl (c_X14_isIn I G x1 (0) (I 86 4)) ?_
  rintro r9 I9 G9 P9 ⟨e0, e1, e2, e3⟩
  rw [e0, e1, e2, e3]
  show am_V X 0 0 _ _ ad (12, [(0, .ref 79), (1, .int x1)], [.int (f_X14_isIn I G x1 (0) (I 86 4))], I, G, (gP rd))
  refine am_iret hX hi rfl (by first | rfl | decide | (simp [narrow]; done)) (by decide +kernel) ?_
  exact ⟨by unfold f_X14_isInk_79; rfl, rfl, rfl, rfl⟩
def f_X14_between (I : am_I) (G : am_G) (x1 : Int32) (x2 : Int32) (x3 : Int32) : Int32 := (x1 + (((x2 - x1) * x3) / (256)))
set_option maxRecDepth 20000 in
set_option maxHeartbeats 1000000 in
theorem c_X14_between {sh : List am_Sh} {P : am_P} (I : am_I) (G : am_G) (x1 : Int32) (x2 : Int32) (x3 : Int32) : am_Ct mX14_between 1 sh [.int x1, .int x2, .int x3] I G P (pI (f_X14_between I G x1 x2 x3) I G P) := by
  refine am_ofF (by decide +kernel) rfl (by decide) (by decide) (Nat.le_of_ble_eq_true rfl) (fun X ad hX hi => ?_)
  have hi : am_info X 12 cX14_between 3 false (Option.some Jvm.ClassFile.FieldType.int) 1 := hi
  show am_V X 0 0 _ _ ad (0, [(0, .int x1), (1, .int x2), (2, .int x3)], [], I, G, P)
  refine am_blk 0 [(.iload_n 0, 1, 0, 0, .null), (.iload_n 1, 1, 1, 0, .null), (.iload_n 0, 1, 0, 0, .null), (.isub, 1, 0, 0, .null), (.iload_n 2, 1, 2, 0, .null), (.imul, 1, 0, 0, .null), (.sipush (256), 3, 0, 0, .int (256)), (.idiv, 1, 0, 0, .null), (.iadd, 1, 0, 0, .null)] (11, [(0, .int x1), (1, .int x2), (2, .int x3)], [.int (x1 + (((x2 - x1) * x3) / (256)))], I, G, P) (¬ (256) = 0 ∧ True) hX hi (by decide +kernel) rfl ?_ ?_
  · exact ⟨(by first | assumption | (refine (i_in _ _).mpr ?_; simp only [i_lt, i_le, i_eq, i_0, i_of, am_n] at *; omega)), trivial⟩
  refine am_iret hX hi rfl rfl (by decide +kernel) ?_
  exact ⟨by unfold f_X14_between; rfl, rfl, rfl, rfl⟩
def f_X14_isLetter (I : am_I) (G : am_G) (x1 : Int32) : Int32 := (if x1 < (97) then (0) else (if (122) < x1 then (0) else (1)))
set_option maxRecDepth 20000 in
set_option maxHeartbeats 1000000 in
theorem c_X14_isLetter {sh : List am_Sh} {P : am_P} (I : am_I) (G : am_G) (x1 : Int32) : am_Ct mX14_isLetter 1 sh [.int x1] I G P (pI (f_X14_isLetter I G x1) I G P) := by
  refine am_ofF (by decide +kernel) rfl (by decide) (by decide) (Nat.le_of_ble_eq_true rfl) (fun X ad hX hi => ?_)
  have hi : am_info X 12 cX14_isLetter 1 false (Option.some Jvm.ClassFile.FieldType.boolean) 1 := hi
  show am_V X 0 0 _ _ ad (0, [(0, .int x1)], [], I, G, P)
  refine am_blk 0 [(.iload_n 0, 1, 0, 0, .null), (.bipush (97), 2, 0, 0, .int (97))] (3, [(0, .int x1)], [.int (97), .int x1], I, G, P) (True) hX hi (by decide +kernel) rfl trivial ?_
  refine am_icmp_lt (tgt := 16) hX hi (off := (13)) (by decide +kernel) (by decide) (fun c3 => ?_) (fun c3 => ?_)
  · refine am_blk 16 [(.iconst (0), 1, 0, 0, .int (0))] (17, [(0, .int x1)], [.int (0)], I, G, P) (True) hX hi (by decide +kernel) rfl trivial ?_
    refine am_iret hX hi rfl (by first | rfl | decide | (simp [narrow]; done)) (by decide +kernel) ?_
    exact ⟨by unfold f_X14_isLetter; rw [if_pos c3], rfl, rfl, rfl⟩
  · refine am_blk 6 [(.iload_n 0, 1, 0, 0, .null), (.bipush (122), 2, 0, 0, .int (122))] (9, [(0, .int x1)], [.int (122), .int x1], I, G, P) (True) hX hi (by decide +kernel) rfl trivial ?_
    refine am_icmp_gt (tgt := 16) hX hi (off := (7)) (by decide +kernel) (by decide) (fun c9 => ?_) (fun c9 => ?_)
    · refine am_blk 16 [(.iconst (0), 1, 0, 0, .int (0))] (17, [(0, .int x1)], [.int (0)], I, G, P) (True) hX hi (by decide +kernel) rfl trivial ?_
      refine am_iret hX hi rfl (by first | rfl | decide | (simp [narrow]; done)) (by decide +kernel) ?_
      exact ⟨by unfold f_X14_isLetter; rw [if_neg c3, if_pos c9], rfl, rfl, rfl⟩
    · refine am_blk 12 [(.iconst (1), 1, 0, 0, .int (1)), (.goto (4), 3, 0, 17, .null)] (17, [(0, .int x1)], [.int (1)], I, G, P) (True) hX hi (by decide +kernel) rfl trivial ?_
      refine am_iret hX hi rfl (by first | rfl | decide | (simp [narrow]; done)) (by decide +kernel) ?_
      exact ⟨by unfold f_X14_isLetter; rw [if_neg c3, if_neg c9], rfl, rfl, rfl⟩
def f_X14_isDigit (I : am_I) (G : am_G) (x1 : Int32) : Int32 := (if x1 < (48) then (0) else (if (57) < x1 then (0) else (1)))
set_option maxRecDepth 20000 in
set_option maxHeartbeats 1000000 in
theorem c_X14_isDigit {sh : List am_Sh} {P : am_P} (I : am_I) (G : am_G) (x1 : Int32) : am_Ct mX14_isDigit 1 sh [.int x1] I G P (pI (f_X14_isDigit I G x1) I G P) := by
  refine am_ofF (by decide +kernel) rfl (by decide) (by decide) (Nat.le_of_ble_eq_true rfl) (fun X ad hX hi => ?_)
  have hi : am_info X 12 cX14_isDigit 1 false (Option.some Jvm.ClassFile.FieldType.boolean) 1 := hi
  show am_V X 0 0 _ _ ad (0, [(0, .int x1)], [], I, G, P)
  refine am_blk 0 [(.iload_n 0, 1, 0, 0, .null), (.bipush (48), 2, 0, 0, .int (48))] (3, [(0, .int x1)], [.int (48), .int x1], I, G, P) (True) hX hi (by decide +kernel) rfl trivial ?_
  refine am_icmp_lt (tgt := 16) hX hi (off := (13)) (by decide +kernel) (by decide) (fun c3 => ?_) (fun c3 => ?_)
  · refine am_blk 16 [(.iconst (0), 1, 0, 0, .int (0))] (17, [(0, .int x1)], [.int (0)], I, G, P) (True) hX hi (by decide +kernel) rfl trivial ?_
    refine am_iret hX hi rfl (by first | rfl | decide | (simp [narrow]; done)) (by decide +kernel) ?_
    exact ⟨by unfold f_X14_isDigit; rw [if_pos c3], rfl, rfl, rfl⟩
  · refine am_blk 6 [(.iload_n 0, 1, 0, 0, .null), (.bipush (57), 2, 0, 0, .int (57))] (9, [(0, .int x1)], [.int (57), .int x1], I, G, P) (True) hX hi (by decide +kernel) rfl trivial ?_
    refine am_icmp_gt (tgt := 16) hX hi (off := (7)) (by decide +kernel) (by decide) (fun c9 => ?_) (fun c9 => ?_)
    · refine am_blk 16 [(.iconst (0), 1, 0, 0, .int (0))] (17, [(0, .int x1)], [.int (0)], I, G, P) (True) hX hi (by decide +kernel) rfl trivial ?_
      refine am_iret hX hi rfl (by first | rfl | decide | (simp [narrow]; done)) (by decide +kernel) ?_
      exact ⟨by unfold f_X14_isDigit; rw [if_neg c3, if_pos c9], rfl, rfl, rfl⟩
    · refine am_blk 12 [(.iconst (1), 1, 0, 0, .int (1)), (.goto (4), 3, 0, 17, .null)] (17, [(0, .int x1)], [.int (1)], I, G, P) (True) hX hi (by decide +kernel) rfl trivial ?_
      refine am_iret hX hi rfl (by first | rfl | decide | (simp [narrow]; done)) (by decide +kernel) ?_
      exact ⟨by unfold f_X14_isDigit; rw [if_neg c3, if_neg c9], rfl, rfl, rfl⟩
def f_X14_byteOf_79 (I : am_I) (G : am_G) (x1 : Int32) : Int32 := (if (I 79 2) ≤ x1 then (-1) else (I 80 x1.toNatClampNeg))
set_option maxRecDepth 20000 in
set_option maxHeartbeats 1000000 in
theorem c_X14_byteOf_79 (rd : Nat) (I : am_I) (G : am_G) (x1 : Int32) : am_Ct mX14_byteOf 1 gS [.ref 79, .int x1] I G (gP rd) (pI (f_X14_byteOf_79 I G x1) I G (gP rd)) := by
  refine am_ofF (by decide +kernel) rfl (by decide) (by decide) (Nat.le_of_ble_eq_true rfl) (fun X ad hX hi => ?_)
  have hi : am_info X 12 cX14_byteOf 2 false (Option.some Jvm.ClassFile.FieldType.int) 1 := hi
  show am_V X 0 0 _ _ ad (0, [(0, .ref 79), (1, .int x1)], [], I, G, (gP rd))
  refine am_blk 0 [(.iload_n 1, 1, 1, 0, .null), (.aload_n 0, 1, 0, 0, .null), (.getfield 83, 3, 12, 2, .null)] (5, [(0, .ref 79), (1, .int x1)], [.int (I 79 2), .int x1], I, G, (gP rd)) (True) hX hi (by decide +kernel) rfl trivial ?_
  refine am_icmp_ge (tgt := 17) hX hi (off := (12)) (by decide +kernel) (by decide) (fun c5 => ?_) (fun c5 => ?_)
  · refine am_blk 17 [(.iconst (-1), 1, 0, 0, .int (-1))] (18, [(0, .ref 79), (1, .int x1)], [.int (-1)], I, G, (gP rd)) (True) hX hi (by decide +kernel) rfl trivial ?_
    refine am_iret hX hi rfl rfl (by decide +kernel) ?_
    exact ⟨by unfold f_X14_byteOf_79; rw [if_pos c5], rfl, rfl, rfl⟩
  · refine am_blk 8 [(.aload_n 0, 1, 0, 0, .null), (.getfield 9, 3, 12, 1, .null), (.iload_n 1, 1, 1, 0, .null), (.iaload, 1, 0, 0, .null), (.goto (4), 3, 0, 18, .null)] (18, [(0, .ref 79), (1, .int x1)], [.int (I 80 x1.toNatClampNeg)], I, G, (gP rd)) (vp_in x1 2000 ∧ True) hX hi (by decide +kernel) rfl ?_ ?_
    · exact ⟨(by first | assumption | (refine (i_in _ _).mpr ?_; simp only [i_lt, i_le, i_eq, i_0, i_of, am_n] at *; omega)), trivial⟩
    refine am_iret hX hi rfl rfl (by decide +kernel) ?_
    exact ⟨by unfold f_X14_byteOf_79; rw [if_neg c5], rfl, rfl, rfl⟩
def f_X14_is_79 (I : am_I) (G : am_G) (x1 : Int32) : Int32 := (if (I 81 (I 79 9).toNatClampNeg) = x1 then (1) else (0))
set_option maxRecDepth 20000 in
set_option maxHeartbeats 1000000 in
theorem c_X14_is_79 (rd : Nat) (I : am_I) (G : am_G) (x1 : Int32) : am_Ct mX14_is 1 gS [.ref 79, .int x1] I G (gP rd) (pI (f_X14_is_79 I G x1) I G (gP rd)) := by
  refine am_ofF (by decide +kernel) rfl (by decide) (by decide) (Nat.le_of_ble_eq_true rfl) (fun X ad hX hi => ?_)
  have hi : am_info X 12 cX14_is 2 false (Option.some Jvm.ClassFile.FieldType.boolean) 1 := hi
  show am_V X 0 0 _ _ ad (0, [(0, .ref 79), (1, .int x1)], [], I, G, (gP rd))
  refine am_blk 0 [(.aload_n 0, 1, 0, 0, .null), (.getfield 17, 3, 12, 4, .null), (.aload_n 0, 1, 0, 0, .null), (.getfield 122, 3, 12, 9, .null), (.iaload, 1, 0, 0, .null), (.iload_n 1, 1, 1, 0, .null)] (10, [(0, .ref 79), (1, .int x1)], [.int x1, .int (I 81 (I 79 9).toNatClampNeg)], I, G, (gP rd)) (vp_in (I 79 9) 401 ∧ True) hX hi (by decide +kernel) rfl ?_ ?_
  · exact ⟨(by first | assumption | (refine (i_in _ _).mpr ?_; simp only [i_lt, i_le, i_eq, i_0, i_of, am_n] at *; omega)), trivial⟩
  refine am_icmp_ne (tgt := 17) hX hi (off := (7)) (by decide +kernel) (by decide) (fun c10 => ?_) (fun c10 => ?_)
  · refine am_blk 17 [(.iconst (0), 1, 0, 0, .int (0))] (18, [(0, .ref 79), (1, .int x1)], [.int (0)], I, G, (gP rd)) (True) hX hi (by decide +kernel) rfl trivial ?_
    refine am_iret hX hi rfl (by first | rfl | decide | (simp [narrow]; done)) (by decide +kernel) ?_
    exact ⟨by unfold f_X14_is_79; rw [if_neg c10], rfl, rfl, rfl⟩
  · refine am_blk 13 [(.iconst (1), 1, 0, 0, .int (1)), (.goto (4), 3, 0, 18, .null)] (18, [(0, .ref 79), (1, .int x1)], [.int (1)], I, G, (gP rd)) (True) hX hi (by decide +kernel) rfl trivial ?_
    refine am_iret hX hi rfl (by first | rfl | decide | (simp [narrow]; done)) (by decide +kernel) ?_
    exact ⟨by unfold f_X14_is_79; rw [if_pos c10], rfl, rfl, rfl⟩
def f_X14_isSign_79 (I : am_I) (G : am_G) (x1 : Int32) : Int32 := (if (I 81 (I 79 9).toNatClampNeg) = ((50) + x1) then (1) else (0))
set_option maxRecDepth 20000 in
set_option maxHeartbeats 1000000 in
theorem c_X14_isSign_79 (rd : Nat) (I : am_I) (G : am_G) (x1 : Int32) : am_Ct mX14_isSign 1 gS [.ref 79, .int x1] I G (gP rd) (pI (f_X14_isSign_79 I G x1) I G (gP rd)) := by
  refine am_ofF (by decide +kernel) rfl (by decide) (by decide) (Nat.le_of_ble_eq_true rfl) (fun X ad hX hi => ?_)
  have hi : am_info X 12 cX14_isSign 2 false (Option.some Jvm.ClassFile.FieldType.boolean) 1 := hi
  show am_V X 0 0 _ _ ad (0, [(0, .ref 79), (1, .int x1)], [], I, G, (gP rd))
  refine am_blk 0 [(.aload_n 0, 1, 0, 0, .null), (.getfield 17, 3, 12, 4, .null), (.aload_n 0, 1, 0, 0, .null), (.getfield 122, 3, 12, 9, .null), (.iaload, 1, 0, 0, .null), (.bipush (50), 2, 0, 0, .int (50)), (.iload_n 1, 1, 1, 0, .null), (.iadd, 1, 0, 0, .null)] (13, [(0, .ref 79), (1, .int x1)], [.int ((50) + x1), .int (I 81 (I 79 9).toNatClampNeg)], I, G, (gP rd)) (vp_in (I 79 9) 401 ∧ True) hX hi (by decide +kernel) rfl ?_ ?_
  · exact ⟨(by first | assumption | (refine (i_in _ _).mpr ?_; simp only [i_lt, i_le, i_eq, i_0, i_of, am_n] at *; omega)), trivial⟩
  refine am_icmp_ne (tgt := 20) hX hi (off := (7)) (by decide +kernel) (by decide) (fun c13 => ?_) (fun c13 => ?_)
  · refine am_blk 20 [(.iconst (0), 1, 0, 0, .int (0))] (21, [(0, .ref 79), (1, .int x1)], [.int (0)], I, G, (gP rd)) (True) hX hi (by decide +kernel) rfl trivial ?_
    refine am_iret hX hi rfl (by first | rfl | decide | (simp [narrow]; done)) (by decide +kernel) ?_
    exact ⟨by unfold f_X14_isSign_79; rw [if_neg c13], rfl, rfl, rfl⟩
  · refine am_blk 16 [(.iconst (1), 1, 0, 0, .int (1)), (.goto (4), 3, 0, 21, .null)] (21, [(0, .ref 79), (1, .int x1)], [.int (1)], I, G, (gP rd)) (True) hX hi (by decide +kernel) rfl trivial ?_
    refine am_iret hX hi rfl (by first | rfl | decide | (simp [narrow]; done)) (by decide +kernel) ?_
    exact ⟨by unfold f_X14_isSign_79; rw [if_pos c13], rfl, rfl, rfl⟩
def f_X14_eat_79 (I : am_I) (G : am_G) (x1 : Int32) : Int32 := (if (f_X14_is_79 I G x1) = 0 then (0) else (1))
def g_X14_eat_79 (I : am_I) (G : am_G) (x1 : Int32) : am_I := (if (f_X14_is_79 I G x1) = 0 then I else (am_up I 79 9 ((I 79 9) + (1))))
set_option maxRecDepth 20000 in
set_option maxHeartbeats 1000000 in
theorem c_X14_eat_79 (rd : Nat) (I : am_I) (G : am_G) (x1 : Int32) : am_Ct mX14_eat 2 gS [.ref 79, .int x1] I G (gP rd) (pI (f_X14_eat_79 I G x1) (g_X14_eat_79 I G x1) G (gP rd)) := by
  refine am_ofF (by decide +kernel) rfl (by decide) (by decide) (Nat.le_of_ble_eq_true rfl) (fun X ad hX hi => ?_)
  have hi : am_info X 12 cX14_eat 2 false (Option.some Jvm.ClassFile.FieldType.boolean) 2 := hi
  show am_V X 0 0 _ _ ad (0, [(0, .ref 79), (1, .int x1)], [], I, G, (gP rd))
  refine am_blk 0 [(.aload_n 0, 1, 0, 0, .null), (.iload_n 1, 1, 1, 0, .null)] (2, [(0, .ref 79), (1, .int x1)], [.int x1, .ref 79], I, G, (gP rd)) (True) hX hi (by decide +kernel) rfl trivial ?_
  refine am_callV hX hi (M := mX14_is) (idx := 125) (d' := 1) (b := 79) (ci := 12) (As := [.int x1]) (rest := []) mkX14_is miX14_is mvX14_is (by decide +kernel) (by decide +kernel) rfl (by decide +kernel) rfl ⟨by decide, by decide, Nat.le_of_ble_eq_true rfl⟩ rfl (c_X14_is_79 rd I G x1) ?_
  rintro r9 I9 G9 P9 ⟨e0, e1, e2, e3⟩
  rw [e0, e1, e2, e3]
  show am_V X 0 0 _ _ ad (5, [(0, .ref 79), (1, .int x1)], [.int (f_X14_is_79 I G x1)], I, G, (gP rd))
  refine am_if_ne (tgt := 10) hX hi (off := (5)) (by decide +kernel) (by decide) (fun c5 => ?_) (fun c5 => ?_)
  · refine am_blk 10 [(.aload_n 0, 1, 0, 0, .null), (.dup, 1, 0, 0, .null), (.getfield 122, 3, 12, 9, .null), (.iconst (1), 1, 0, 0, .int (1)), (.iadd, 1, 0, 0, .null), (.putfield 122, 3, 12, 9, .null), (.iconst (1), 1, 0, 0, .int (1))] (21, [(0, .ref 79), (1, .int x1)], [.int (1)], (am_up I 79 9 ((I 79 9) + (1))), G, (gP rd)) (True) hX hi (by decide +kernel) rfl trivial ?_
    refine am_iret hX hi rfl (by first | rfl | decide | (simp [narrow]; done)) (by decide +kernel) ?_
    exact ⟨by unfold f_X14_eat_79; rw [if_neg c5], by unfold g_X14_eat_79; rw [if_neg c5], rfl, rfl⟩
  · refine am_blk 8 [(.iconst (0), 1, 0, 0, .int (0))] (9, [(0, .ref 79), (1, .int x1)], [.int (0)], I, G, (gP rd)) (True) hX hi (by decide +kernel) rfl trivial ?_
    refine am_iret hX hi rfl (by first | rfl | decide | (simp [narrow]; done)) (by decide +kernel) ?_
    exact ⟨by unfold f_X14_eat_79; rw [if_pos c5], by unfold g_X14_eat_79; rw [if_pos c5], rfl, rfl⟩
def f_X14_eatSign_79 (I : am_I) (G : am_G) (x1 : Int32) : Int32 := (f_X14_eat_79 I G ((50) + x1))
def g_X14_eatSign_79 (I : am_I) (G : am_G) (x1 : Int32) : am_I := (g_X14_eat_79 I G ((50) + x1))
set_option maxRecDepth 20000 in
set_option maxHeartbeats 1000000 in
theorem c_X14_eatSign_79 (rd : Nat) (I : am_I) (G : am_G) (x1 : Int32) : am_Ct mX14_eatSign 3 gS [.ref 79, .int x1] I G (gP rd) (pI (f_X14_eatSign_79 I G x1) (g_X14_eatSign_79 I G x1) G (gP rd)) := by
  refine am_ofF (by decide +kernel) rfl (by decide) (by decide) (Nat.le_of_ble_eq_true rfl) (fun X ad hX hi => ?_)
  have hi : am_info X 12 cX14_eatSign 2 false (Option.some Jvm.ClassFile.FieldType.boolean) 3 := hi
  show am_V X 0 0 _ _ ad (0, [(0, .ref 79), (1, .int x1)], [], I, G, (gP rd))
  refine am_blk 0 [(.aload_n 0, 1, 0, 0, .null), (.bipush (50), 2, 0, 0, .int (50)), (.iload_n 1, 1, 1, 0, .null), (.iadd, 1, 0, 0, .null)] (5, [(0, .ref 79), (1, .int x1)], [.int ((50) + x1), .ref 79], I, G, (gP rd)) (True) hX hi (by decide +kernel) rfl trivial ?_
  refine am_callV hX hi (M := mX14_eat) (idx := 128) (d' := 2) (b := 79) (ci := 12) (As := [.int ((50) + x1)]) (rest := []) mkX14_eat miX14_eat mvX14_eat (by decide +kernel) (by decide +kernel) rfl (by decide +kernel) rfl ⟨by decide, by decide, Nat.le_of_ble_eq_true rfl⟩ rfl (c_X14_eat_79 rd I G ((50) + x1)) ?_
  rintro r9 I9 G9 P9 ⟨e0, e1, e2, e3⟩
  rw [e0, e1, e2, e3]
  show am_V X 0 0 _ _ ad (8, [(0, .ref 79), (1, .int x1)], [.int (f_X14_eat_79 I G ((50) + x1))], (g_X14_eat_79 I G ((50) + x1)), G, (gP rd))
  refine am_iret hX hi rfl (by first | rfl | decide | (simp [narrow]; done)) (by decide +kernel) ?_
  exact ⟨by unfold f_X14_eatSign_79; rfl, by unfold g_X14_eatSign_79; rfl, rfl, rfl⟩
def f_X14_eatAs_79 (I : am_I) (G : am_G) (x1 : Int32) (x2 : Int32) : Int32 := (f_X14_eat_79 (am_up I 84 (I 79 9).toNatClampNeg x2) G x1)
def g_X14_eatAs_79 (I : am_I) (G : am_G) (x1 : Int32) (x2 : Int32) : am_I := (g_X14_eat_79 (am_up I 84 (I 79 9).toNatClampNeg x2) G x1)
set_option maxRecDepth 20000 in
set_option maxHeartbeats 1000000 in
theorem c_X14_eatAs_79 (rd : Nat) (I : am_I) (G : am_G) (x1 : Int32) (x2 : Int32) : am_Ct mX14_eatAs 3 gS [.ref 79, .int x1, .int x2] I G (gP rd) (pI (f_X14_eatAs_79 I G x1 x2) (g_X14_eatAs_79 I G x1 x2) G (gP rd)) := by
  refine am_ofF (by decide +kernel) rfl (by decide) (by decide) (Nat.le_of_ble_eq_true rfl) (fun X ad hX hi => ?_)
  have hi : am_info X 12 cX14_eatAs 3 false (Option.some Jvm.ClassFile.FieldType.boolean) 3 := hi
  show am_V X 0 0 _ _ ad (0, [(0, .ref 79), (1, .int x1), (2, .int x2)], [], I, G, (gP rd))
  refine am_blk 0 [(.aload_n 0, 1, 0, 0, .null), (.getfield 26, 3, 12, 7, .null), (.aload_n 0, 1, 0, 0, .null), (.getfield 122, 3, 12, 9, .null), (.iload_n 2, 1, 2, 0, .null), (.iastore, 1, 0, 0, .null), (.aload_n 0, 1, 0, 0, .null), (.iload_n 1, 1, 1, 0, .null)] (12, [(0, .ref 79), (1, .int x1), (2, .int x2)], [.int x1, .ref 79], (am_up I 84 (I 79 9).toNatClampNeg x2), G, (gP rd)) (vp_in (I 79 9) 401 ∧ True) hX hi (by decide +kernel) rfl ?_ ?_
  · exact ⟨(by first | assumption | (refine (i_in _ _).mpr ?_; simp only [i_lt, i_le, i_eq, i_0, i_of, am_n] at *; omega)), trivial⟩
  refine am_callV hX hi (M := mX14_eat) (idx := 128) (d' := 2) (b := 79) (ci := 12) (As := [.int x1]) (rest := []) mkX14_eat miX14_eat mvX14_eat (by decide +kernel) (by decide +kernel) rfl (by decide +kernel) rfl ⟨by decide, by decide, Nat.le_of_ble_eq_true rfl⟩ rfl (c_X14_eat_79 rd (am_up I 84 (I 79 9).toNatClampNeg x2) G x1) ?_
  rintro r9 I9 G9 P9 ⟨e0, e1, e2, e3⟩
  rw [e0, e1, e2, e3]
  show am_V X 0 0 _ _ ad (15, [(0, .ref 79), (1, .int x1), (2, .int x2)], [.int (f_X14_eat_79 (am_up I 84 (I 79 9).toNatClampNeg x2) G x1)], (g_X14_eat_79 (am_up I 84 (I 79 9).toNatClampNeg x2) G x1), G, (gP rd))
  refine am_iret hX hi rfl (by first | rfl | decide | (simp [narrow]; done)) (by decide +kernel) ?_
  exact ⟨by unfold f_X14_eatAs_79; rfl, by unfold g_X14_eatAs_79; rfl, rfl, rfl⟩
def f_X14_isPaper_79 (I : am_I) (G : am_G)  : Int32 := (if (f_X14_eatAs_79 (am_up I 79 9 ((I 79 9) + (1))) G (41) (1)) = 0 then (0) else (if (f_X14_eat_79 (g_X14_eatAs_79 (am_up I 79 9 ((I 79 9) + (1))) G (41) (1)) G (1)) = 0 then (0) else (if (f_X14_eatAs_79 (g_X14_eat_79 (g_X14_eatAs_79 (am_up I 79 9 ((I 79 9) + (1))) G (41) (1)) G (1)) G (41) (2)) = 0 then (0) else (1))))
def g_X14_isPaper_79 (I : am_I) (G : am_G)  : am_I := (if (f_X14_eatAs_79 (am_up I 79 9 ((I 79 9) + (1))) G (41) (1)) = 0 then (g_X14_eatAs_79 (am_up I 79 9 ((I 79 9) + (1))) G (41) (1)) else (if (f_X14_eat_79 (g_X14_eatAs_79 (am_up I 79 9 ((I 79 9) + (1))) G (41) (1)) G (1)) = 0 then (g_X14_eat_79 (g_X14_eatAs_79 (am_up I 79 9 ((I 79 9) + (1))) G (41) (1)) G (1)) else (g_X14_eatAs_79 (g_X14_eat_79 (g_X14_eatAs_79 (am_up I 79 9 ((I 79 9) + (1))) G (41) (1)) G (1)) G (41) (2))))
set_option maxRecDepth 20000 in
set_option maxHeartbeats 1000000 in
theorem c_X14_isPaper_79 (rd : Nat) (I : am_I) (G : am_G)  : am_Ct mX14_isPaper 4 gS [.ref 79] I G (gP rd) (pI (f_X14_isPaper_79 I G ) (g_X14_isPaper_79 I G ) G (gP rd)) := by
  refine am_ofF (by decide +kernel) rfl (by decide) (by decide) (Nat.le_of_ble_eq_true rfl) (fun X ad hX hi => ?_)
  have hi : am_info X 12 cX14_isPaper 1 false (Option.some Jvm.ClassFile.FieldType.boolean) 4 := hi
  show am_V X 0 0 _ _ ad (0, [(0, .ref 79)], [], I, G, (gP rd))
  refine am_blk 0 [(.aload_n 0, 1, 0, 0, .null), (.dup, 1, 0, 0, .null), (.getfield 122, 3, 12, 9, .null), (.iconst (1), 1, 0, 0, .int (1)), (.iadd, 1, 0, 0, .null), (.putfield 122, 3, 12, 9, .null), (.aload_n 0, 1, 0, 0, .null), (.bipush (41), 2, 0, 0, .int (41)), (.iconst (1), 1, 0, 0, .int (1))] (14, [(0, .ref 79)], [.int (1), .int (41), .ref 79], (am_up I 79 9 ((I 79 9) + (1))), G, (gP rd)) (True) hX hi (by decide +kernel) rfl trivial ?_
  refine am_callV hX hi (M := mX14_eatAs) (idx := 155) (d' := 3) (b := 79) (ci := 12) (As := [.int (41), .int (1)]) (rest := []) mkX14_eatAs miX14_eatAs mvX14_eatAs (by decide +kernel) (by decide +kernel) rfl (by decide +kernel) rfl ⟨by decide, by decide, Nat.le_of_ble_eq_true rfl⟩ rfl (c_X14_eatAs_79 rd (am_up I 79 9 ((I 79 9) + (1))) G (41) (1)) ?_
  rintro r9 I9 G9 P9 ⟨e0, e1, e2, e3⟩
  rw [e0, e1, e2, e3]
  show am_V X 0 0 _ _ ad (17, [(0, .ref 79)], [.int (f_X14_eatAs_79 (am_up I 79 9 ((I 79 9) + (1))) G (41) (1))], (g_X14_eatAs_79 (am_up I 79 9 ((I 79 9) + (1))) G (41) (1)), G, (gP rd))
  refine am_if_eq (tgt := 42) hX hi (off := (25)) (by decide +kernel) (by decide) (fun c17 => ?_) (fun c17 => ?_)
  · refine am_blk 42 [(.iconst (0), 1, 0, 0, .int (0))] (43, [(0, .ref 79)], [.int (0)], (g_X14_eatAs_79 (am_up I 79 9 ((I 79 9) + (1))) G (41) (1)), G, (gP rd)) (True) hX hi (by decide +kernel) rfl trivial ?_
    refine am_iret hX hi rfl (by first | rfl | decide | (simp [narrow]; done)) (by decide +kernel) ?_
    exact ⟨by unfold f_X14_isPaper_79; rw [if_pos c17], by unfold g_X14_isPaper_79; rw [if_pos c17], rfl, rfl⟩
  · refine am_blk 20 [(.aload_n 0, 1, 0, 0, .null), (.iconst (1), 1, 0, 0, .int (1))] (22, [(0, .ref 79)], [.int (1), .ref 79], (g_X14_eatAs_79 (am_up I 79 9 ((I 79 9) + (1))) G (41) (1)), G, (gP rd)) (True) hX hi (by decide +kernel) rfl trivial ?_
    refine am_callV hX hi (M := mX14_eat) (idx := 128) (d' := 2) (b := 79) (ci := 12) (As := [.int (1)]) (rest := []) mkX14_eat miX14_eat mvX14_eat (by decide +kernel) (by decide +kernel) rfl (by decide +kernel) rfl ⟨by decide, by decide, Nat.le_of_ble_eq_true rfl⟩ rfl (c_X14_eat_79 rd (g_X14_eatAs_79 (am_up I 79 9 ((I 79 9) + (1))) G (41) (1)) G (1)) ?_
    rintro r9 I9 G9 P9 ⟨e0, e1, e2, e3⟩
    rw [e0, e1, e2, e3]
    show am_V X 0 0 _ _ ad (25, [(0, .ref 79)], [.int (f_X14_eat_79 (g_X14_eatAs_79 (am_up I 79 9 ((I 79 9) + (1))) G (41) (1)) G (1))], (g_X14_eat_79 (g_X14_eatAs_79 (am_up I 79 9 ((I 79 9) + (1))) G (41) (1)) G (1)), G, (gP rd))
    refine am_if_eq (tgt := 42) hX hi (off := (17)) (by decide +kernel) (by decide) (fun c25 => ?_) (fun c25 => ?_)
    · refine am_blk 42 [(.iconst (0), 1, 0, 0, .int (0))] (43, [(0, .ref 79)], [.int (0)], (g_X14_eat_79 (g_X14_eatAs_79 (am_up I 79 9 ((I 79 9) + (1))) G (41) (1)) G (1)), G, (gP rd)) (True) hX hi (by decide +kernel) rfl trivial ?_
      refine am_iret hX hi rfl (by first | rfl | decide | (simp [narrow]; done)) (by decide +kernel) ?_
      exact ⟨by unfold f_X14_isPaper_79; rw [if_neg c17, if_pos c25], by unfold g_X14_isPaper_79; rw [if_neg c17, if_pos c25], rfl, rfl⟩
    · refine am_blk 28 [(.aload_n 0, 1, 0, 0, .null), (.bipush (41), 2, 0, 0, .int (41)), (.iconst (2), 1, 0, 0, .int (2))] (32, [(0, .ref 79)], [.int (2), .int (41), .ref 79], (g_X14_eat_79 (g_X14_eatAs_79 (am_up I 79 9 ((I 79 9) + (1))) G (41) (1)) G (1)), G, (gP rd)) (True) hX hi (by decide +kernel) rfl trivial ?_
      refine am_callV hX hi (M := mX14_eatAs) (idx := 155) (d' := 3) (b := 79) (ci := 12) (As := [.int (41), .int (2)]) (rest := []) mkX14_eatAs miX14_eatAs mvX14_eatAs (by decide +kernel) (by decide +kernel) rfl (by decide +kernel) rfl ⟨by decide, by decide, Nat.le_of_ble_eq_true rfl⟩ rfl (c_X14_eatAs_79 rd (g_X14_eat_79 (g_X14_eatAs_79 (am_up I 79 9 ((I 79 9) + (1))) G (41) (1)) G (1)) G (41) (2)) ?_
      rintro r9 I9 G9 P9 ⟨e0, e1, e2, e3⟩
      rw [e0, e1, e2, e3]
      show am_V X 0 0 _ _ ad (35, [(0, .ref 79)], [.int (f_X14_eatAs_79 (g_X14_eat_79 (g_X14_eatAs_79 (am_up I 79 9 ((I 79 9) + (1))) G (41) (1)) G (1)) G (41) (2))], (g_X14_eatAs_79 (g_X14_eat_79 (g_X14_eatAs_79 (am_up I 79 9 ((I 79 9) + (1))) G (41) (1)) G (1)) G (41) (2)), G, (gP rd))
      refine am_if_eq (tgt := 42) hX hi (off := (7)) (by decide +kernel) (by decide) (fun c35 => ?_) (fun c35 => ?_)
      · refine am_blk 42 [(.iconst (0), 1, 0, 0, .int (0))] (43, [(0, .ref 79)], [.int (0)], (g_X14_eatAs_79 (g_X14_eat_79 (g_X14_eatAs_79 (am_up I 79 9 ((I 79 9) + (1))) G (41) (1)) G (1)) G (41) (2)), G, (gP rd)) (True) hX hi (by decide +kernel) rfl trivial ?_
        refine am_iret hX hi rfl (by first | rfl | decide | (simp [narrow]; done)) (by decide +kernel) ?_
        exact ⟨by unfold f_X14_isPaper_79; rw [if_neg c17, if_neg c25, if_pos c35], by unfold g_X14_isPaper_79; rw [if_neg c17, if_neg c25], rfl, rfl⟩
      · refine am_blk 38 [(.iconst (1), 1, 0, 0, .int (1)), (.goto (4), 3, 0, 43, .null)] (43, [(0, .ref 79)], [.int (1)], (g_X14_eatAs_79 (g_X14_eat_79 (g_X14_eatAs_79 (am_up I 79 9 ((I 79 9) + (1))) G (41) (1)) G (1)) G (41) (2)), G, (gP rd)) (True) hX hi (by decide +kernel) rfl trivial ?_
        refine am_iret hX hi rfl (by first | rfl | decide | (simp [narrow]; done)) (by decide +kernel) ?_
        exact ⟨by unfold f_X14_isPaper_79; rw [if_neg c17, if_neg c25, if_neg c35], by unfold g_X14_isPaper_79; rw [if_neg c17, if_neg c25], rfl, rfl⟩
def f_X14_isOctaveLine_79 (I : am_I) (G : am_G)  : Int32 := (if (f_X14_eatAs_79 (am_up I 79 9 ((I 79 9) + (1))) G (40) (3)) = 0 then (0) else (if (f_X14_eat_79 (g_X14_eatAs_79 (am_up I 79 9 ((I 79 9) + (1))) G (40) (3)) G (3)) = 0 then (0) else (if (f_X14_eatAs_79 (g_X14_eat_79 (g_X14_eatAs_79 (am_up I 79 9 ((I 79 9) + (1))) G (40) (3)) G (3)) G (41) (4)) = 0 then (0) else (if (f_X14_eat_79 (g_X14_eatAs_79 (g_X14_eat_79 (g_X14_eatAs_79 (am_up I 79 9 ((I 79 9) + (1))) G (40) (3)) G (3)) G (41) (4)) G (4)) = 0 then (0) else (if (f_X14_eatAs_79 (g_X14_eat_79 (g_X14_eatAs_79 (g_X14_eat_79 (g_X14_eatAs_79 (am_up I 79 9 ((I 79 9) + (1))) G (40) (3)) G (3)) G (41) (4)) G (4)) G (41) (5)) = 0 then (0) else (if (f_X14_eat_79 (g_X14_eatAs_79 (g_X14_eat_79 (g_X14_eatAs_79 (g_X14_eat_79 (g_X14_eatAs_79 (am_up I 79 9 ((I 79 9) + (1))) G (40) (3)) G (3)) G (41) (4)) G (4)) G (41) (5)) G (5)) = 0 then (0) else (if (f_X14_eatAs_79 (g_X14_eat_79 (g_X14_eatAs_79 (g_X14_eat_79 (g_X14_eatAs_79 (g_X14_eat_79 (g_X14_eatAs_79 (am_up I 79 9 ((I 79 9) + (1))) G (40) (3)) G (3)) G (41) (4)) G (4)) G (41) (5)) G (5)) G (41) (6)) = 0 then (0) else (if (f_X14_eat_79 (g_X14_eatAs_79 (g_X14_eat_79 (g_X14_eatAs_79 (g_X14_eat_79 (g_X14_eatAs_79 (g_X14_eat_79 (g_X14_eatAs_79 (am_up I 79 9 ((I 79 9) + (1))) G (40) (3)) G (3)) G (41) (4)) G (4)) G (41) (5)) G (5)) G (41) (6)) G (6)) = 0 then (0) else (if (f_X14_eatAs_79 (g_X14_eat_79 (g_X14_eatAs_79 (g_X14_eat_79 (g_X14_eatAs_79 (g_X14_eat_79 (g_X14_eatAs_79 (g_X14_eat_79 (g_X14_eatAs_79 (am_up I 79 9 ((I 79 9) + (1))) G (40) (3)) G (3)) G (41) (4)) G (4)) G (41) (5)) G (5)) G (41) (6)) G (6)) G (41) (7)) = 0 then (0) else (1))))))))))
def g_X14_isOctaveLine_79 (I : am_I) (G : am_G)  : am_I := (if (f_X14_eatAs_79 (am_up I 79 9 ((I 79 9) + (1))) G (40) (3)) = 0 then (g_X14_eatAs_79 (am_up I 79 9 ((I 79 9) + (1))) G (40) (3)) else (if (f_X14_eat_79 (g_X14_eatAs_79 (am_up I 79 9 ((I 79 9) + (1))) G (40) (3)) G (3)) = 0 then (g_X14_eat_79 (g_X14_eatAs_79 (am_up I 79 9 ((I 79 9) + (1))) G (40) (3)) G (3)) else (if (f_X14_eatAs_79 (g_X14_eat_79 (g_X14_eatAs_79 (am_up I 79 9 ((I 79 9) + (1))) G (40) (3)) G (3)) G (41) (4)) = 0 then (g_X14_eatAs_79 (g_X14_eat_79 (g_X14_eatAs_79 (am_up I 79 9 ((I 79 9) + (1))) G (40) (3)) G (3)) G (41) (4)) else (if (f_X14_eat_79 (g_X14_eatAs_79 (g_X14_eat_79 (g_X14_eatAs_79 (am_up I 79 9 ((I 79 9) + (1))) G (40) (3)) G (3)) G (41) (4)) G (4)) = 0 then (g_X14_eat_79 (g_X14_eatAs_79 (g_X14_eat_79 (g_X14_eatAs_79 (am_up I 79 9 ((I 79 9) + (1))) G (40) (3)) G (3)) G (41) (4)) G (4)) else (if (f_X14_eatAs_79 (g_X14_eat_79 (g_X14_eatAs_79 (g_X14_eat_79 (g_X14_eatAs_79 (am_up I 79 9 ((I 79 9) + (1))) G (40) (3)) G (3)) G (41) (4)) G (4)) G (41) (5)) = 0 then (g_X14_eatAs_79 (g_X14_eat_79 (g_X14_eatAs_79 (g_X14_eat_79 (g_X14_eatAs_79 (am_up I 79 9 ((I 79 9) + (1))) G (40) (3)) G (3)) G (41) (4)) G (4)) G (41) (5)) else (if (f_X14_eat_79 (g_X14_eatAs_79 (g_X14_eat_79 (g_X14_eatAs_79 (g_X14_eat_79 (g_X14_eatAs_79 (am_up I 79 9 ((I 79 9) + (1))) G (40) (3)) G (3)) G (41) (4)) G (4)) G (41) (5)) G (5)) = 0 then (g_X14_eat_79 (g_X14_eatAs_79 (g_X14_eat_79 (g_X14_eatAs_79 (g_X14_eat_79 (g_X14_eatAs_79 (am_up I 79 9 ((I 79 9) + (1))) G (40) (3)) G (3)) G (41) (4)) G (4)) G (41) (5)) G (5)) else (if (f_X14_eatAs_79 (g_X14_eat_79 (g_X14_eatAs_79 (g_X14_eat_79 (g_X14_eatAs_79 (g_X14_eat_79 (g_X14_eatAs_79 (am_up I 79 9 ((I 79 9) + (1))) G (40) (3)) G (3)) G (41) (4)) G (4)) G (41) (5)) G (5)) G (41) (6)) = 0 then (g_X14_eatAs_79 (g_X14_eat_79 (g_X14_eatAs_79 (g_X14_eat_79 (g_X14_eatAs_79 (g_X14_eat_79 (g_X14_eatAs_79 (am_up I 79 9 ((I 79 9) + (1))) G (40) (3)) G (3)) G (41) (4)) G (4)) G (41) (5)) G (5)) G (41) (6)) else (if (f_X14_eat_79 (g_X14_eatAs_79 (g_X14_eat_79 (g_X14_eatAs_79 (g_X14_eat_79 (g_X14_eatAs_79 (g_X14_eat_79 (g_X14_eatAs_79 (am_up I 79 9 ((I 79 9) + (1))) G (40) (3)) G (3)) G (41) (4)) G (4)) G (41) (5)) G (5)) G (41) (6)) G (6)) = 0 then (g_X14_eat_79 (g_X14_eatAs_79 (g_X14_eat_79 (g_X14_eatAs_79 (g_X14_eat_79 (g_X14_eatAs_79 (g_X14_eat_79 (g_X14_eatAs_79 (am_up I 79 9 ((I 79 9) + (1))) G (40) (3)) G (3)) G (41) (4)) G (4)) G (41) (5)) G (5)) G (41) (6)) G (6)) else (g_X14_eatAs_79 (g_X14_eat_79 (g_X14_eatAs_79 (g_X14_eat_79 (g_X14_eatAs_79 (g_X14_eat_79 (g_X14_eatAs_79 (g_X14_eat_79 (g_X14_eatAs_79 (am_up I 79 9 ((I 79 9) + (1))) G (40) (3)) G (3)) G (41) (4)) G (4)) G (41) (5)) G (5)) G (41) (6)) G (6)) G (41) (7))))))))))
set_option maxRecDepth 20000 in
set_option maxHeartbeats 1000000 in
theorem c_X14_isOctaveLine_79 (rd : Nat) (I : am_I) (G : am_G)  : am_Ct mX14_isOctaveLine 4 gS [.ref 79] I G (gP rd) (pI (f_X14_isOctaveLine_79 I G ) (g_X14_isOctaveLine_79 I G ) G (gP rd)) := by
  refine am_ofF (by decide +kernel) rfl (by decide) (by decide) (Nat.le_of_ble_eq_true rfl) (fun X ad hX hi => ?_)
  have hi : am_info X 12 cX14_isOctaveLine 1 false (Option.some Jvm.ClassFile.FieldType.boolean) 4 := hi
  show am_V X 0 0 _ _ ad (0, [(0, .ref 79)], [], I, G, (gP rd))
  refine am_blk 0 [(.aload_n 0, 1, 0, 0, .null), (.dup, 1, 0, 0, .null), (.getfield 122, 3, 12, 9, .null), (.iconst (1), 1, 0, 0, .int (1)), (.iadd, 1, 0, 0, .null), (.putfield 122, 3, 12, 9, .null), (.aload_n 0, 1, 0, 0, .null), (.bipush (40), 2, 0, 0, .int (40)), (.iconst (3), 1, 0, 0, .int (3))] (14, [(0, .ref 79)], [.int (3), .int (40), .ref 79], (am_up I 79 9 ((I 79 9) + (1))), G, (gP rd)) (True) hX hi (by decide +kernel) rfl trivial ?_
  refine am_callV hX hi (M := mX14_eatAs) (idx := 155) (d' := 3) (b := 79) (ci := 12) (As := [.int (40), .int (3)]) (rest := []) mkX14_eatAs miX14_eatAs mvX14_eatAs (by decide +kernel) (by decide +kernel) rfl (by decide +kernel) rfl ⟨by decide, by decide, Nat.le_of_ble_eq_true rfl⟩ rfl (c_X14_eatAs_79 rd (am_up I 79 9 ((I 79 9) + (1))) G (40) (3)) ?_
  rintro r9 I9 G9 P9 ⟨e0, e1, e2, e3⟩
  rw [e0, e1, e2, e3]
  show am_V X 0 0 _ _ ad (17, [(0, .ref 79)], [.int (f_X14_eatAs_79 (am_up I 79 9 ((I 79 9) + (1))) G (40) (3))], (g_X14_eatAs_79 (am_up I 79 9 ((I 79 9) + (1))) G (40) (3)), G, (gP rd))
  refine am_if_eq (tgt := 99) hX hi (off := (82)) (by decide +kernel) (by decide) (fun c17 => ?_) (fun c17 => ?_)
  · refine am_blk 99 [(.iconst (0), 1, 0, 0, .int (0))] (100, [(0, .ref 79)], [.int (0)], (g_X14_eatAs_79 (am_up I 79 9 ((I 79 9) + (1))) G (40) (3)), G, (gP rd)) (True) hX hi (by decide +kernel) rfl trivial ?_
    refine am_iret hX hi rfl (by first | rfl | decide | (simp [narrow]; done)) (by decide +kernel) ?_
    exact ⟨by unfold f_X14_isOctaveLine_79; rw [if_pos c17], by unfold g_X14_isOctaveLine_79; rw [if_pos c17], rfl, rfl⟩
  · refine am_blk 20 [(.aload_n 0, 1, 0, 0, .null), (.iconst (3), 1, 0, 0, .int (3))] (22, [(0, .ref 79)], [.int (3), .ref 79], (g_X14_eatAs_79 (am_up I 79 9 ((I 79 9) + (1))) G (40) (3)), G, (gP rd)) (True) hX hi (by decide +kernel) rfl trivial ?_
    refine am_callV hX hi (M := mX14_eat) (idx := 128) (d' := 2) (b := 79) (ci := 12) (As := [.int (3)]) (rest := []) mkX14_eat miX14_eat mvX14_eat (by decide +kernel) (by decide +kernel) rfl (by decide +kernel) rfl ⟨by decide, by decide, Nat.le_of_ble_eq_true rfl⟩ rfl (c_X14_eat_79 rd (g_X14_eatAs_79 (am_up I 79 9 ((I 79 9) + (1))) G (40) (3)) G (3)) ?_
    rintro r9 I9 G9 P9 ⟨e0, e1, e2, e3⟩
    rw [e0, e1, e2, e3]
    show am_V X 0 0 _ _ ad (25, [(0, .ref 79)], [.int (f_X14_eat_79 (g_X14_eatAs_79 (am_up I 79 9 ((I 79 9) + (1))) G (40) (3)) G (3))], (g_X14_eat_79 (g_X14_eatAs_79 (am_up I 79 9 ((I 79 9) + (1))) G (40) (3)) G (3)), G, (gP rd))
    refine am_if_eq (tgt := 99) hX hi (off := (74)) (by decide +kernel) (by decide) (fun c25 => ?_) (fun c25 => ?_)
    · refine am_blk 99 [(.iconst (0), 1, 0, 0, .int (0))] (100, [(0, .ref 79)], [.int (0)], (g_X14_eat_79 (g_X14_eatAs_79 (am_up I 79 9 ((I 79 9) + (1))) G (40) (3)) G (3)), G, (gP rd)) (True) hX hi (by decide +kernel) rfl trivial ?_
      refine am_iret hX hi rfl (by first | rfl | decide | (simp [narrow]; done)) (by decide +kernel) ?_
      exact ⟨by unfold f_X14_isOctaveLine_79; rw [if_neg c17, if_pos c25], by unfold g_X14_isOctaveLine_79; rw [if_neg c17, if_pos c25], rfl, rfl⟩
    · refine am_blk 28 [(.aload_n 0, 1, 0, 0, .null), (.bipush (41), 2, 0, 0, .int (41)), (.iconst (4), 1, 0, 0, .int (4))] (32, [(0, .ref 79)], [.int (4), .int (41), .ref 79], (g_X14_eat_79 (g_X14_eatAs_79 (am_up I 79 9 ((I 79 9) + (1))) G (40) (3)) G (3)), G, (gP rd)) (True) hX hi (by decide +kernel) rfl trivial ?_
      refine am_callV hX hi (M := mX14_eatAs) (idx := 155) (d' := 3) (b := 79) (ci := 12) (As := [.int (41), .int (4)]) (rest := []) mkX14_eatAs miX14_eatAs mvX14_eatAs (by decide +kernel) (by decide +kernel) rfl (by decide +kernel) rfl ⟨by decide, by decide, Nat.le_of_ble_eq_true rfl⟩ rfl (c_X14_eatAs_79 rd (g_X14_eat_79 (g_X14_eatAs_79 (am_up I 79 9 ((I 79 9) + (1))) G (40) (3)) G (3)) G (41) (4)) ?_
      rintro r9 I9 G9 P9 ⟨e0, e1, e2, e3⟩
      rw [e0, e1, e2, e3]
      show am_V X 0 0 _ _ ad (35, [(0, .ref 79)], [.int (f_X14_eatAs_79 (g_X14_eat_79 (g_X14_eatAs_79 (am_up I 79 9 ((I 79 9) + (1))) G (40) (3)) G (3)) G (41) (4))], (g_X14_eatAs_79 (g_X14_eat_79 (g_X14_eatAs_79 (am_up I 79 9 ((I 79 9) + (1))) G (40) (3)) G (3)) G (41) (4)), G, (gP rd))
      refine am_if_eq (tgt := 99) hX hi (off := (64)) (by decide +kernel) (by decide) (fun c35 => ?_) (fun c35 => ?_)
      · refine am_blk 99 [(.iconst (0), 1, 0, 0, .int (0))] (100, [(0, .ref 79)], [.int (0)], (g_X14_eatAs_79 (g_X14_eat_79 (g_X14_eatAs_79 (am_up I 79 9 ((I 79 9) + (1))) G (40) (3)) G (3)) G (41) (4)), G, (gP rd)) (True) hX hi (by decide +kernel) rfl trivial ?_
        refine am_iret hX hi rfl (by first | rfl | decide | (simp [narrow]; done)) (by decide +kernel) ?_
        exact ⟨by unfold f_X14_isOctaveLine_79; rw [if_neg c17, if_neg c25, if_pos c35], by unfold g_X14_isOctaveLine_79; rw [if_neg c17, if_neg c25, if_pos c35], rfl, rfl⟩
      · refine am_blk 38 [(.aload_n 0, 1, 0, 0, .null), (.iconst (4), 1, 0, 0, .int (4))] (40, [(0, .ref 79)], [.int (4), .ref 79], (g_X14_eatAs_79 (g_X14_eat_79 (g_X14_eatAs_79 (am_up I 79 9 ((I 79 9) + (1))) G (40) (3)) G (3)) G (41) (4)), G, (gP rd)) (True) hX hi (by decide +kernel) rfl trivial ?_
        refine am_callV hX hi (M := mX14_eat) (idx := 128) (d' := 2) (b := 79) (ci := 12) (As := [.int (4)]) (rest := []) mkX14_eat miX14_eat mvX14_eat (by decide +kernel) (by decide +kernel) rfl (by decide +kernel) rfl ⟨by decide, by decide, Nat.le_of_ble_eq_true rfl⟩ rfl (c_X14_eat_79 rd (g_X14_eatAs_79 (g_X14_eat_79 (g_X14_eatAs_79 (am_up I 79 9 ((I 79 9) + (1))) G (40) (3)) G (3)) G (41) (4)) G (4)) ?_
        rintro r9 I9 G9 P9 ⟨e0, e1, e2, e3⟩
        rw [e0, e1, e2, e3]
        show am_V X 0 0 _ _ ad (43, [(0, .ref 79)], [.int (f_X14_eat_79 (g_X14_eatAs_79 (g_X14_eat_79 (g_X14_eatAs_79 (am_up I 79 9 ((I 79 9) + (1))) G (40) (3)) G (3)) G (41) (4)) G (4))], (g_X14_eat_79 (g_X14_eatAs_79 (g_X14_eat_79 (g_X14_eatAs_79 (am_up I 79 9 ((I 79 9) + (1))) G (40) (3)) G (3)) G (41) (4)) G (4)), G, (gP rd))
        refine am_if_eq (tgt := 99) hX hi (off := (56)) (by decide +kernel) (by decide) (fun c43 => ?_) (fun c43 => ?_)
        · refine am_blk 99 [(.iconst (0), 1, 0, 0, .int (0))] (100, [(0, .ref 79)], [.int (0)], (g_X14_eat_79 (g_X14_eatAs_79 (g_X14_eat_79 (g_X14_eatAs_79 (am_up I 79 9 ((I 79 9) + (1))) G (40) (3)) G (3)) G (41) (4)) G (4)), G, (gP rd)) (True) hX hi (by decide +kernel) rfl trivial ?_
          refine am_iret hX hi rfl (by first | rfl | decide | (simp [narrow]; done)) (by decide +kernel) ?_
          exact ⟨by unfold f_X14_isOctaveLine_79; rw [if_neg c17, if_neg c25, if_neg c35, if_pos c43], by unfold g_X14_isOctaveLine_79; rw [if_neg c17, if_neg c25, if_neg c35, if_pos c43], rfl, rfl⟩
        · refine am_blk 46 [(.aload_n 0, 1, 0, 0, .null), (.bipush (41), 2, 0, 0, .int (41)), (.iconst (5), 1, 0, 0, .int (5))] (50, [(0, .ref 79)], [.int (5), .int (41), .ref 79], (g_X14_eat_79 (g_X14_eatAs_79 (g_X14_eat_79 (g_X14_eatAs_79 (am_up I 79 9 ((I 79 9) + (1))) G (40) (3)) G (3)) G (41) (4)) G (4)), G, (gP rd)) (True) hX hi (by decide +kernel) rfl trivial ?_
          refine am_callV hX hi (M := mX14_eatAs) (idx := 155) (d' := 3) (b := 79) (ci := 12) (As := [.int (41), .int (5)]) (rest := []) mkX14_eatAs miX14_eatAs mvX14_eatAs (by decide +kernel) (by decide +kernel) rfl (by decide +kernel) rfl ⟨by decide, by decide, Nat.le_of_ble_eq_true rfl⟩ rfl (c_X14_eatAs_79 rd (g_X14_eat_79 (g_X14_eatAs_79 (g_X14_eat_79 (g_X14_eatAs_79 (am_up I 79 9 ((I 79 9) + (1))) G (40) (3)) G (3)) G (41) (4)) G (4)) G (41) (5)) ?_
          rintro r9 I9 G9 P9 ⟨e0, e1, e2, e3⟩
          rw [e0, e1, e2, e3]
          show am_V X 0 0 _ _ ad (53, [(0, .ref 79)], [.int (f_X14_eatAs_79 (g_X14_eat_79 (g_X14_eatAs_79 (g_X14_eat_79 (g_X14_eatAs_79 (am_up I 79 9 ((I 79 9) + (1))) G (40) (3)) G (3)) G (41) (4)) G (4)) G (41) (5))], (g_X14_eatAs_79 (g_X14_eat_79 (g_X14_eatAs_79 (g_X14_eat_79 (g_X14_eatAs_79 (am_up I 79 9 ((I 79 9) + (1))) G (40) (3)) G (3)) G (41) (4)) G (4)) G (41) (5)), G, (gP rd))
          refine am_if_eq (tgt := 99) hX hi (off := (46)) (by decide +kernel) (by decide) (fun c53 => ?_) (fun c53 => ?_)
          · refine am_blk 99 [(.iconst (0), 1, 0, 0, .int (0))] (100, [(0, .ref 79)], [.int (0)], (g_X14_eatAs_79 (g_X14_eat_79 (g_X14_eatAs_79 (g_X14_eat_79 (g_X14_eatAs_79 (am_up I 79 9 ((I 79 9) + (1))) G (40) (3)) G (3)) G (41) (4)) G (4)) G (41) (5)), G, (gP rd)) (True) hX hi (by decide +kernel) rfl trivial ?_
            refine am_iret hX hi rfl (by first | rfl | decide | (simp [narrow]; done)) (by decide +kernel) ?_
            exact ⟨by unfold f_X14_isOctaveLine_79; rw [if_neg c17, if_neg c25, if_neg c35, if_neg c43, if_pos c53], by unfold g_X14_isOctaveLine_79; rw [if_neg c17, if_neg c25, if_neg c35, if_neg c43, if_pos c53], rfl, rfl⟩
          · refine am_blk 56 [(.aload_n 0, 1, 0, 0, .null), (.iconst (5), 1, 0, 0, .int (5))] (58, [(0, .ref 79)], [.int (5), .ref 79], (g_X14_eatAs_79 (g_X14_eat_79 (g_X14_eatAs_79 (g_X14_eat_79 (g_X14_eatAs_79 (am_up I 79 9 ((I 79 9) + (1))) G (40) (3)) G (3)) G (41) (4)) G (4)) G (41) (5)), G, (gP rd)) (True) hX hi (by decide +kernel) rfl trivial ?_
            refine am_callV hX hi (M := mX14_eat) (idx := 128) (d' := 2) (b := 79) (ci := 12) (As := [.int (5)]) (rest := []) mkX14_eat miX14_eat mvX14_eat (by decide +kernel) (by decide +kernel) rfl (by decide +kernel) rfl ⟨by decide, by decide, Nat.le_of_ble_eq_true rfl⟩ rfl (c_X14_eat_79 rd (g_X14_eatAs_79 (g_X14_eat_79 (g_X14_eatAs_79 (g_X14_eat_79 (g_X14_eatAs_79 (am_up I 79 9 ((I 79 9) + (1))) G (40) (3)) G (3)) G (41) (4)) G (4)) G (41) (5)) G (5)) ?_
            rintro r9 I9 G9 P9 ⟨e0, e1, e2, e3⟩
            rw [e0, e1, e2, e3]
            show am_V X 0 0 _ _ ad (61, [(0, .ref 79)], [.int (f_X14_eat_79 (g_X14_eatAs_79 (g_X14_eat_79 (g_X14_eatAs_79 (g_X14_eat_79 (g_X14_eatAs_79 (am_up I 79 9 ((I 79 9) + (1))) G (40) (3)) G (3)) G (41) (4)) G (4)) G (41) (5)) G (5))], (g_X14_eat_79 (g_X14_eatAs_79 (g_X14_eat_79 (g_X14_eatAs_79 (g_X14_eat_79 (g_X14_eatAs_79 (am_up I 79 9 ((I 79 9) + (1))) G (40) (3)) G (3)) G (41) (4)) G (4)) G (41) (5)) G (5)), G, (gP rd))
            refine am_if_eq (tgt := 99) hX hi (off := (38)) (by decide +kernel) (by decide) (fun c61 => ?_) (fun c61 => ?_)
            · refine am_blk 99 [(.iconst (0), 1, 0, 0, .int (0))] (100, [(0, .ref 79)], [.int (0)], (g_X14_eat_79 (g_X14_eatAs_79 (g_X14_eat_79 (g_X14_eatAs_79 (g_X14_eat_79 (g_X14_eatAs_79 (am_up I 79 9 ((I 79 9) + (1))) G (40) (3)) G (3)) G (41) (4)) G (4)) G (41) (5)) G (5)), G, (gP rd)) (True) hX hi (by decide +kernel) rfl trivial ?_
              refine am_iret hX hi rfl (by first | rfl | decide | (simp [narrow]; done)) (by decide +kernel) ?_
              exact ⟨by unfold f_X14_isOctaveLine_79; rw [if_neg c17, if_neg c25, if_neg c35, if_neg c43, if_neg c53, if_pos c61], by unfold g_X14_isOctaveLine_79; rw [if_neg c17, if_neg c25, if_neg c35, if_neg c43, if_neg c53, if_pos c61], rfl, rfl⟩
            · refine am_blk 64 [(.aload_n 0, 1, 0, 0, .null), (.bipush (41), 2, 0, 0, .int (41)), (.bipush (6), 2, 0, 0, .int (6))] (69, [(0, .ref 79)], [.int (6), .int (41), .ref 79], (g_X14_eat_79 (g_X14_eatAs_79 (g_X14_eat_79 (g_X14_eatAs_79 (g_X14_eat_79 (g_X14_eatAs_79 (am_up I 79 9 ((I 79 9) + (1))) G (40) (3)) G (3)) G (41) (4)) G (4)) G (41) (5)) G (5)), G, (gP rd)) (True) hX hi (by decide +kernel) rfl trivial ?_
              refine am_callV hX hi (M := mX14_eatAs) (idx := 155) (d' := 3) (b := 79) (ci := 12) (As := [.int (41), .int (6)]) (rest := []) mkX14_eatAs miX14_eatAs mvX14_eatAs (by decide +kernel) (by decide +kernel) rfl (by decide +kernel) rfl ⟨by decide, by decide, Nat.le_of_ble_eq_true rfl⟩ rfl (c_X14_eatAs_79 rd (g_X14_eat_79 (g_X14_eatAs_79 (g_X14_eat_79 (g_X14_eatAs_79 (g_X14_eat_79 (g_X14_eatAs_79 (am_up I 79 9 ((I 79 9) + (1))) G (40) (3)) G (3)) G (41) (4)) G (4)) G (41) (5)) G (5)) G (41) (6)) ?_
              rintro r9 I9 G9 P9 ⟨e0, e1, e2, e3⟩
              rw [e0, e1, e2, e3]
              show am_V X 0 0 _ _ ad (72, [(0, .ref 79)], [.int (f_X14_eatAs_79 (g_X14_eat_79 (g_X14_eatAs_79 (g_X14_eat_79 (g_X14_eatAs_79 (g_X14_eat_79 (g_X14_eatAs_79 (am_up I 79 9 ((I 79 9) + (1))) G (40) (3)) G (3)) G (41) (4)) G (4)) G (41) (5)) G (5)) G (41) (6))], (g_X14_eatAs_79 (g_X14_eat_79 (g_X14_eatAs_79 (g_X14_eat_79 (g_X14_eatAs_79 (g_X14_eat_79 (g_X14_eatAs_79 (am_up I 79 9 ((I 79 9) + (1))) G (40) (3)) G (3)) G (41) (4)) G (4)) G (41) (5)) G (5)) G (41) (6)), G, (gP rd))
              refine am_if_eq (tgt := 99) hX hi (off := (27)) (by decide +kernel) (by decide) (fun c72 => ?_) (fun c72 => ?_)
              · refine am_blk 99 [(.iconst (0), 1, 0, 0, .int (0))] (100, [(0, .ref 79)], [.int (0)], (g_X14_eatAs_79 (g_X14_eat_79 (g_X14_eatAs_79 (g_X14_eat_79 (g_X14_eatAs_79 (g_X14_eat_79 (g_X14_eatAs_79 (am_up I 79 9 ((I 79 9) + (1))) G (40) (3)) G (3)) G (41) (4)) G (4)) G (41) (5)) G (5)) G (41) (6)), G, (gP rd)) (True) hX hi (by decide +kernel) rfl trivial ?_
                refine am_iret hX hi rfl (by first | rfl | decide | (simp [narrow]; done)) (by decide +kernel) ?_
                exact ⟨by unfold f_X14_isOctaveLine_79; rw [if_neg c17, if_neg c25, if_neg c35, if_neg c43, if_neg c53, if_neg c61, if_pos c72], by unfold g_X14_isOctaveLine_79; rw [if_neg c17, if_neg c25, if_neg c35, if_neg c43, if_neg c53, if_neg c61, if_pos c72], rfl, rfl⟩
              · refine am_blk 75 [(.aload_n 0, 1, 0, 0, .null), (.bipush (6), 2, 0, 0, .int (6))] (78, [(0, .ref 79)], [.int (6), .ref 79], (g_X14_eatAs_79 (g_X14_eat_79 (g_X14_eatAs_79 (g_X14_eat_79 (g_X14_eatAs_79 (g_X14_eat_79 (g_X14_eatAs_79 (am_up I 79 9 ((I 79 9) + (1))) G (40) (3)) G (3)) G (41) (4)) G (4)) G (41) (5)) G (5)) G (41) (6)), G, (gP rd)) (True) hX hi (by decide +kernel) rfl trivial ?_
                refine am_callV hX hi (M := mX14_eat) (idx := 128) (d' := 2) (b := 79) (ci := 12) (As := [.int (6)]) (rest := []) mkX14_eat miX14_eat mvX14_eat (by decide +kernel) (by decide +kernel) rfl (by decide +kernel) rfl ⟨by decide, by decide, Nat.le_of_ble_eq_true rfl⟩ rfl (c_X14_eat_79 rd (g_X14_eatAs_79 (g_X14_eat_79 (g_X14_eatAs_79 (g_X14_eat_79 (g_X14_eatAs_79 (g_X14_eat_79 (g_X14_eatAs_79 (am_up I 79 9 ((I 79 9) + (1))) G (40) (3)) G (3)) G (41) (4)) G (4)) G (41) (5)) G (5)) G (41) (6)) G (6)) ?_
                rintro r9 I9 G9 P9 ⟨e0, e1, e2, e3⟩
                rw [e0, e1, e2, e3]
                show am_V X 0 0 _ _ ad (81, [(0, .ref 79)], [.int (f_X14_eat_79 (g_X14_eatAs_79 (g_X14_eat_79 (g_X14_eatAs_79 (g_X14_eat_79 (g_X14_eatAs_79 (g_X14_eat_79 (g_X14_eatAs_79 (am_up I 79 9 ((I 79 9) + (1))) G (40) (3)) G (3)) G (41) (4)) G (4)) G (41) (5)) G (5)) G (41) (6)) G (6))], (g_X14_eat_79 (g_X14_eatAs_79 (g_X14_eat_79 (g_X14_eatAs_79 (g_X14_eat_79 (g_X14_eatAs_79 (g_X14_eat_79 (g_X14_eatAs_79 (am_up I 79 9 ((I 79 9) + (1))) G (40) (3)) G (3)) G (41) (4)) G (4)) G (41) (5)) G (5)) G (41) (6)) G (6)), G, (gP rd))
                refine am_if_eq (tgt := 99) hX hi (off := (18)) (by decide +kernel) (by decide) (fun c81 => ?_) (fun c81 => ?_)
                · refine am_blk 99 [(.iconst (0), 1, 0, 0, .int (0))] (100, [(0, .ref 79)], [.int (0)], (g_X14_eat_79 (g_X14_eatAs_79 (g_X14_eat_79 (g_X14_eatAs_79 (g_X14_eat_79 (g_X14_eatAs_79 (g_X14_eat_79 (g_X14_eatAs_79 (am_up I 79 9 ((I 79 9) + (1))) G (40) (3)) G (3)) G (41) (4)) G (4)) G (41) (5)) G (5)) G (41) (6)) G (6)), G, (gP rd)) (True) hX hi (by decide +kernel) rfl trivial ?_
                  refine am_iret hX hi rfl (by first | rfl | decide | (simp [narrow]; done)) (by decide +kernel) ?_
                  exact ⟨by unfold f_X14_isOctaveLine_79; rw [if_neg c17, if_neg c25, if_neg c35, if_neg c43, if_neg c53, if_neg c61, if_neg c72, if_pos c81], by unfold g_X14_isOctaveLine_79; rw [if_neg c17, if_neg c25, if_neg c35, if_neg c43, if_neg c53, if_neg c61, if_neg c72, if_pos c81], rfl, rfl⟩
                · refine am_blk 84 [(.aload_n 0, 1, 0, 0, .null), (.bipush (41), 2, 0, 0, .int (41)), (.bipush (7), 2, 0, 0, .int (7))] (89, [(0, .ref 79)], [.int (7), .int (41), .ref 79], (g_X14_eat_79 (g_X14_eatAs_79 (g_X14_eat_79 (g_X14_eatAs_79 (g_X14_eat_79 (g_X14_eatAs_79 (g_X14_eat_79 (g_X14_eatAs_79 (am_up I 79 9 ((I 79 9) + (1))) G (40) (3)) G (3)) G (41) (4)) G (4)) G (41) (5)) G (5)) G (41) (6)) G (6)), G, (gP rd)) (True) hX hi (by decide +kernel) rfl trivial ?_
                  refine am_callV hX hi (M := mX14_eatAs) (idx := 155) (d' := 3) (b := 79) (ci := 12) (As := [.int (41), .int (7)]) (rest := []) mkX14_eatAs miX14_eatAs mvX14_eatAs (by decide +kernel) (by decide +kernel) rfl (by decide +kernel) rfl ⟨by decide, by decide, Nat.le_of_ble_eq_true rfl⟩ rfl (c_X14_eatAs_79 rd (g_X14_eat_79 (g_X14_eatAs_79 (g_X14_eat_79 (g_X14_eatAs_79 (g_X14_eat_79 (g_X14_eatAs_79 (g_X14_eat_79 (g_X14_eatAs_79 (am_up I 79 9 ((I 79 9) + (1))) G (40) (3)) G (3)) G (41) (4)) G (4)) G (41) (5)) G (5)) G (41) (6)) G (6)) G (41) (7)) ?_
                  rintro r9 I9 G9 P9 ⟨e0, e1, e2, e3⟩
                  rw [e0, e1, e2, e3]
                  show am_V X 0 0 _ _ ad (92, [(0, .ref 79)], [.int (f_X14_eatAs_79 (g_X14_eat_79 (g_X14_eatAs_79 (g_X14_eat_79 (g_X14_eatAs_79 (g_X14_eat_79 (g_X14_eatAs_79 (g_X14_eat_79 (g_X14_eatAs_79 (am_up I 79 9 ((I 79 9) + (1))) G (40) (3)) G (3)) G (41) (4)) G (4)) G (41) (5)) G (5)) G (41) (6)) G (6)) G (41) (7))], (g_X14_eatAs_79 (g_X14_eat_79 (g_X14_eatAs_79 (g_X14_eat_79 (g_X14_eatAs_79 (g_X14_eat_79 (g_X14_eatAs_79 (g_X14_eat_79 (g_X14_eatAs_79 (am_up I 79 9 ((I 79 9) + (1))) G (40) (3)) G (3)) G (41) (4)) G (4)) G (41) (5)) G (5)) G (41) (6)) G (6)) G (41) (7)), G, (gP rd))
                  refine am_if_eq (tgt := 99) hX hi (off := (7)) (by decide +kernel) (by decide) (fun c92 => ?_) (fun c92 => ?_)
                  · refine am_blk 99 [(.iconst (0), 1, 0, 0, .int (0))] (100, [(0, .ref 79)], [.int (0)], (g_X14_eatAs_79 (g_X14_eat_79 (g_X14_eatAs_79 (g_X14_eat_79 (g_X14_eatAs_79 (g_X14_eat_79 (g_X14_eatAs_79 (g_X14_eat_79 (g_X14_eatAs_79 (am_up I 79 9 ((I 79 9) + (1))) G (40) (3)) G (3)) G (41) (4)) G (4)) G (41) (5)) G (5)) G (41) (6)) G (6)) G (41) (7)), G, (gP rd)) (True) hX hi (by decide +kernel) rfl trivial ?_
                    refine am_iret hX hi rfl (by first | rfl | decide | (simp [narrow]; done)) (by decide +kernel) ?_
                    exact ⟨by unfold f_X14_isOctaveLine_79; rw [if_neg c17, if_neg c25, if_neg c35, if_neg c43, if_neg c53, if_neg c61, if_neg c72, if_neg c81, if_pos c92], by unfold g_X14_isOctaveLine_79; rw [if_neg c17, if_neg c25, if_neg c35, if_neg c43, if_neg c53, if_neg c61, if_neg c72, if_neg c81], rfl, rfl⟩
                  · refine am_blk 95 [(.iconst (1), 1, 0, 0, .int (1)), (.goto (4), 3, 0, 100, .null)] (100, [(0, .ref 79)], [.int (1)], (g_X14_eatAs_79 (g_X14_eat_79 (g_X14_eatAs_79 (g_X14_eat_79 (g_X14_eatAs_79 (g_X14_eat_79 (g_X14_eatAs_79 (g_X14_eat_79 (g_X14_eatAs_79 (am_up I 79 9 ((I 79 9) + (1))) G (40) (3)) G (3)) G (41) (4)) G (4)) G (41) (5)) G (5)) G (41) (6)) G (6)) G (41) (7)), G, (gP rd)) (True) hX hi (by decide +kernel) rfl trivial ?_
                    refine am_iret hX hi rfl (by first | rfl | decide | (simp [narrow]; done)) (by decide +kernel) ?_
                    exact ⟨by unfold f_X14_isOctaveLine_79; rw [if_neg c17, if_neg c25, if_neg c35, if_neg c43, if_neg c53, if_neg c61, if_neg c72, if_neg c81, if_neg c92], by unfold g_X14_isOctaveLine_79; rw [if_neg c17, if_neg c25, if_neg c35, if_neg c43, if_neg c53, if_neg c61, if_neg c72, if_neg c81], rfl, rfl⟩
def f_X14_isWay_79 (I : am_I) (G : am_G) (x1 : Int32) : Int32 := (if (f_X14_eat_79 (am_up I 84 (I 79 9).toNatClampNeg x1) G (3)) = 0 then (if (f_X14_eat_79 (g_X14_eat_79 (am_up I 84 (I 79 9).toNatClampNeg x1) G (3)) G (4)) = 0 then (0) else (1)) else (1))
def g_X14_isWay_79 (I : am_I) (G : am_G) (x1 : Int32) : am_I := (if (f_X14_eat_79 (am_up I 84 (I 79 9).toNatClampNeg x1) G (3)) = 0 then (g_X14_eat_79 (g_X14_eat_79 (am_up I 84 (I 79 9).toNatClampNeg x1) G (3)) G (4)) else (g_X14_eat_79 (am_up I 84 (I 79 9).toNatClampNeg x1) G (3)))
set_option maxRecDepth 20000 in
set_option maxHeartbeats 1000000 in
theorem c_X14_isWay_79 (rd : Nat) (I : am_I) (G : am_G) (x1 : Int32) : am_Ct mX14_isWay 3 gS [.ref 79, .int x1] I G (gP rd) (pI (f_X14_isWay_79 I G x1) (g_X14_isWay_79 I G x1) G (gP rd)) := by
  refine am_ofF (by decide +kernel) rfl (by decide) (by decide) (Nat.le_of_ble_eq_true rfl) (fun X ad hX hi => ?_)
  have hi : am_info X 12 cX14_isWay 2 false (Option.some Jvm.ClassFile.FieldType.boolean) 3 := hi
  show am_V X 0 0 _ _ ad (0, [(0, .ref 79), (1, .int x1)], [], I, G, (gP rd))
  refine am_blk 0 [(.aload_n 0, 1, 0, 0, .null), (.getfield 26, 3, 12, 7, .null), (.aload_n 0, 1, 0, 0, .null), (.getfield 122, 3, 12, 9, .null), (.iload_n 1, 1, 1, 0, .null), (.iastore, 1, 0, 0, .null), (.aload_n 0, 1, 0, 0, .null), (.iconst (3), 1, 0, 0, .int (3))] (12, [(0, .ref 79), (1, .int x1)], [.int (3), .ref 79], (am_up I 84 (I 79 9).toNatClampNeg x1), G, (gP rd)) (vp_in (I 79 9) 401 ∧ True) hX hi (by decide +kernel) rfl ?_ ?_
  · exact ⟨(by first | assumption | (refine (i_in _ _).mpr ?_; simp only [i_lt, i_le, i_eq, i_0, i_of, am_n] at *; omega)), trivial⟩
  refine am_callV hX hi (M := mX14_eat) (idx := 128) (d' := 2) (b := 79) (ci := 12) (As := [.int (3)]) (rest := []) mkX14_eat miX14_eat mvX14_eat (by decide +kernel) (by decide +kernel) rfl (by decide +kernel) rfl ⟨by decide, by decide, Nat.le_of_ble_eq_true rfl⟩ rfl (c_X14_eat_79 rd (am_up I 84 (I 79 9).toNatClampNeg x1) G (3)) ?_
  rintro r9 I9 G9 P9 ⟨e0, e1, e2, e3⟩
  rw [e0, e1, e2, e3]
  show am_V X 0 0 _ _ ad (15, [(0, .ref 79), (1, .int x1)], [.int (f_X14_eat_79 (am_up I 84 (I 79 9).toNatClampNeg x1) G (3))], (g_X14_eat_79 (am_up I 84 (I 79 9).toNatClampNeg x1) G (3)), G, (gP rd))
  refine am_if_ne (tgt := 26) hX hi (off := (11)) (by decide +kernel) (by decide) (fun c15 => ?_) (fun c15 => ?_)
  · refine am_blk 26 [(.iconst (1), 1, 0, 0, .int (1)), (.goto (4), 3, 0, 31, .null)] (31, [(0, .ref 79), (1, .int x1)], [.int (1)], (g_X14_eat_79 (am_up I 84 (I 79 9).toNatClampNeg x1) G (3)), G, (gP rd)) (True) hX hi (by decide +kernel) rfl trivial ?_
    refine am_iret hX hi rfl (by first | rfl | decide | (simp [narrow]; done)) (by decide +kernel) ?_
    exact ⟨by unfold f_X14_isWay_79; rw [if_neg c15], by unfold g_X14_isWay_79; rw [if_neg c15], rfl, rfl⟩
  · refine am_blk 18 [(.aload_n 0, 1, 0, 0, .null), (.iconst (4), 1, 0, 0, .int (4))] (20, [(0, .ref 79), (1, .int x1)], [.int (4), .ref 79], (g_X14_eat_79 (am_up I 84 (I 79 9).toNatClampNeg x1) G (3)), G, (gP rd)) (True) hX hi (by decide +kernel) rfl trivial ?_
    refine am_callV hX hi (M := mX14_eat) (idx := 128) (d' := 2) (b := 79) (ci := 12) (As := [.int (4)]) (rest := []) mkX14_eat miX14_eat mvX14_eat (by decide +kernel) (by decide +kernel) rfl (by decide +kernel) rfl ⟨by decide, by decide, Nat.le_of_ble_eq_true rfl⟩ rfl (c_X14_eat_79 rd (g_X14_eat_79 (am_up I 84 (I 79 9).toNatClampNeg x1) G (3)) G (4)) ?_
    rintro r9 I9 G9 P9 ⟨e0, e1, e2, e3⟩
    rw [e0, e1, e2, e3]
    show am_V X 0 0 _ _ ad (23, [(0, .ref 79), (1, .int x1)], [.int (f_X14_eat_79 (g_X14_eat_79 (am_up I 84 (I 79 9).toNatClampNeg x1) G (3)) G (4))], (g_X14_eat_79 (g_X14_eat_79 (am_up I 84 (I 79 9).toNatClampNeg x1) G (3)) G (4)), G, (gP rd))
    refine am_if_eq (tgt := 30) hX hi (off := (7)) (by decide +kernel) (by decide) (fun c23 => ?_) (fun c23 => ?_)
    · refine am_blk 30 [(.iconst (0), 1, 0, 0, .int (0))] (31, [(0, .ref 79), (1, .int x1)], [.int (0)], (g_X14_eat_79 (g_X14_eat_79 (am_up I 84 (I 79 9).toNatClampNeg x1) G (3)) G (4)), G, (gP rd)) (True) hX hi (by decide +kernel) rfl trivial ?_
      refine am_iret hX hi rfl (by first | rfl | decide | (simp [narrow]; done)) (by decide +kernel) ?_
      exact ⟨by unfold f_X14_isWay_79; rw [if_pos c15, if_pos c23], by unfold g_X14_isWay_79; rw [if_pos c15], rfl, rfl⟩
    · refine am_blk 26 [(.iconst (1), 1, 0, 0, .int (1)), (.goto (4), 3, 0, 31, .null)] (31, [(0, .ref 79), (1, .int x1)], [.int (1)], (g_X14_eat_79 (g_X14_eat_79 (am_up I 84 (I 79 9).toNatClampNeg x1) G (3)) G (4)), G, (gP rd)) (True) hX hi (by decide +kernel) rfl trivial ?_
      refine am_iret hX hi rfl (by first | rfl | decide | (simp [narrow]; done)) (by decide +kernel) ?_
      exact ⟨by unfold f_X14_isWay_79; rw [if_pos c15, if_neg c23], by unfold g_X14_isWay_79; rw [if_pos c15], rfl, rfl⟩
def f_X14_isCombLine_79 (I : am_I) (G : am_G)  : Int32 := (if (f_X14_eatAs_79 (am_up I 79 9 ((I 79 9) + (1))) G (40) (8)) = 0 then (0) else (if (f_X14_isWay_79 (g_X14_eatAs_79 (am_up I 79 9 ((I 79 9) + (1))) G (40) (8)) G (9)) = 0 then (0) else (if (f_X14_eat_79 (g_X14_isWay_79 (g_X14_eatAs_79 (am_up I 79 9 ((I 79 9) + (1))) G (40) (8)) G (9)) G (8)) = 0 then (0) else (if (f_X14_eatAs_79 (g_X14_eat_79 (g_X14_isWay_79 (g_X14_eatAs_79 (am_up I 79 9 ((I 79 9) + (1))) G (40) (8)) G (9)) G (8)) G (41) (10)) = 0 then (0) else (if (f_X14_eat_79 (g_X14_eatAs_79 (g_X14_eat_79 (g_X14_isWay_79 (g_X14_eatAs_79 (am_up I 79 9 ((I 79 9) + (1))) G (40) (8)) G (9)) G (8)) G (41) (10)) G (9)) = 0 then (0) else (if (f_X14_eatAs_79 (g_X14_eat_79 (g_X14_eatAs_79 (g_X14_eat_79 (g_X14_isWay_79 (g_X14_eatAs_79 (am_up I 79 9 ((I 79 9) + (1))) G (40) (8)) G (9)) G (8)) G (41) (10)) G (9)) G (41) (11)) = 0 then (0) else (1)))))))
def g_X14_isCombLine_79 (I : am_I) (G : am_G)  : am_I := (if (f_X14_eatAs_79 (am_up I 79 9 ((I 79 9) + (1))) G (40) (8)) = 0 then (g_X14_eatAs_79 (am_up I 79 9 ((I 79 9) + (1))) G (40) (8)) else (if (f_X14_isWay_79 (g_X14_eatAs_79 (am_up I 79 9 ((I 79 9) + (1))) G (40) (8)) G (9)) = 0 then (g_X14_isWay_79 (g_X14_eatAs_79 (am_up I 79 9 ((I 79 9) + (1))) G (40) (8)) G (9)) else (if (f_X14_eat_79 (g_X14_isWay_79 (g_X14_eatAs_79 (am_up I 79 9 ((I 79 9) + (1))) G (40) (8)) G (9)) G (8)) = 0 then (g_X14_eat_79 (g_X14_isWay_79 (g_X14_eatAs_79 (am_up I 79 9 ((I 79 9) + (1))) G (40) (8)) G (9)) G (8)) else (if (f_X14_eatAs_79 (g_X14_eat_79 (g_X14_isWay_79 (g_X14_eatAs_79 (am_up I 79 9 ((I 79 9) + (1))) G (40) (8)) G (9)) G (8)) G (41) (10)) = 0 then (g_X14_eatAs_79 (g_X14_eat_79 (g_X14_isWay_79 (g_X14_eatAs_79 (am_up I 79 9 ((I 79 9) + (1))) G (40) (8)) G (9)) G (8)) G (41) (10)) else (if (f_X14_eat_79 (g_X14_eatAs_79 (g_X14_eat_79 (g_X14_isWay_79 (g_X14_eatAs_79 (am_up I 79 9 ((I 79 9) + (1))) G (40) (8)) G (9)) G (8)) G (41) (10)) G (9)) = 0 then (g_X14_eat_79 (g_X14_eatAs_79 (g_X14_eat_79 (g_X14_isWay_79 (g_X14_eatAs_79 (am_up I 79 9 ((I 79 9) + (1))) G (40) (8)) G (9)) G (8)) G (41) (10)) G (9)) else (g_X14_eatAs_79 (g_X14_eat_79 (g_X14_eatAs_79 (g_X14_eat_79 (g_X14_isWay_79 (g_X14_eatAs_79 (am_up I 79 9 ((I 79 9) + (1))) G (40) (8)) G (9)) G (8)) G (41) (10)) G (9)) G (41) (11)))))))
set_option maxRecDepth 20000 in
set_option maxHeartbeats 1000000 in
theorem c_X14_isCombLine_79 (rd : Nat) (I : am_I) (G : am_G)  : am_Ct mX14_isCombLine 4 gS [.ref 79] I G (gP rd) (pI (f_X14_isCombLine_79 I G ) (g_X14_isCombLine_79 I G ) G (gP rd)) := by
  refine am_ofF (by decide +kernel) rfl (by decide) (by decide) (Nat.le_of_ble_eq_true rfl) (fun X ad hX hi => ?_)
  have hi : am_info X 12 cX14_isCombLine 1 false (Option.some Jvm.ClassFile.FieldType.boolean) 4 := hi
  show am_V X 0 0 _ _ ad (0, [(0, .ref 79)], [], I, G, (gP rd))
  refine am_blk 0 [(.aload_n 0, 1, 0, 0, .null), (.dup, 1, 0, 0, .null), (.getfield 122, 3, 12, 9, .null), (.iconst (1), 1, 0, 0, .int (1)), (.iadd, 1, 0, 0, .null), (.putfield 122, 3, 12, 9, .null), (.aload_n 0, 1, 0, 0, .null), (.bipush (40), 2, 0, 0, .int (40)), (.bipush (8), 2, 0, 0, .int (8))] (15, [(0, .ref 79)], [.int (8), .int (40), .ref 79], (am_up I 79 9 ((I 79 9) + (1))), G, (gP rd)) (True) hX hi (by decide +kernel) rfl trivial ?_
  refine am_callV hX hi (M := mX14_eatAs) (idx := 155) (d' := 3) (b := 79) (ci := 12) (As := [.int (40), .int (8)]) (rest := []) mkX14_eatAs miX14_eatAs mvX14_eatAs (by decide +kernel) (by decide +kernel) rfl (by decide +kernel) rfl ⟨by decide, by decide, Nat.le_of_ble_eq_true rfl⟩ rfl (c_X14_eatAs_79 rd (am_up I 79 9 ((I 79 9) + (1))) G (40) (8)) ?_
  rintro r9 I9 G9 P9 ⟨e0, e1, e2, e3⟩
  rw [e0, e1, e2, e3]
  show am_V X 0 0 _ _ ad (18, [(0, .ref 79)], [.int (f_X14_eatAs_79 (am_up I 79 9 ((I 79 9) + (1))) G (40) (8))], (g_X14_eatAs_79 (am_up I 79 9 ((I 79 9) + (1))) G (40) (8)), G, (gP rd))
  refine am_if_eq (tgt := 74) hX hi (off := (56)) (by decide +kernel) (by decide) (fun c18 => ?_) (fun c18 => ?_)
  · refine am_blk 74 [(.iconst (0), 1, 0, 0, .int (0))] (75, [(0, .ref 79)], [.int (0)], (g_X14_eatAs_79 (am_up I 79 9 ((I 79 9) + (1))) G (40) (8)), G, (gP rd)) (True) hX hi (by decide +kernel) rfl trivial ?_
    refine am_iret hX hi rfl (by first | rfl | decide | (simp [narrow]; done)) (by decide +kernel) ?_
    exact ⟨by unfold f_X14_isCombLine_79; rw [if_pos c18], by unfold g_X14_isCombLine_79; rw [if_pos c18], rfl, rfl⟩
  · refine am_blk 21 [(.aload_n 0, 1, 0, 0, .null), (.bipush (9), 2, 0, 0, .int (9))] (24, [(0, .ref 79)], [.int (9), .ref 79], (g_X14_eatAs_79 (am_up I 79 9 ((I 79 9) + (1))) G (40) (8)), G, (gP rd)) (True) hX hi (by decide +kernel) rfl trivial ?_
    refine am_callV hX hi (M := mX14_isWay) (idx := 159) (d' := 3) (b := 79) (ci := 12) (As := [.int (9)]) (rest := []) mkX14_isWay miX14_isWay mvX14_isWay (by decide +kernel) (by decide +kernel) rfl (by decide +kernel) rfl ⟨by decide, by decide, Nat.le_of_ble_eq_true rfl⟩ rfl (c_X14_isWay_79 rd (g_X14_eatAs_79 (am_up I 79 9 ((I 79 9) + (1))) G (40) (8)) G (9)) ?_
    rintro r9 I9 G9 P9 ⟨e0, e1, e2, e3⟩
    rw [e0, e1, e2, e3]
    show am_V X 0 0 _ _ ad (27, [(0, .ref 79)], [.int (f_X14_isWay_79 (g_X14_eatAs_79 (am_up I 79 9 ((I 79 9) + (1))) G (40) (8)) G (9))], (g_X14_isWay_79 (g_X14_eatAs_79 (am_up I 79 9 ((I 79 9) + (1))) G (40) (8)) G (9)), G, (gP rd))
    refine am_if_eq (tgt := 74) hX hi (off := (47)) (by decide +kernel) (by decide) (fun c27 => ?_) (fun c27 => ?_)
    · refine am_blk 74 [(.iconst (0), 1, 0, 0, .int (0))] (75, [(0, .ref 79)], [.int (0)], (g_X14_isWay_79 (g_X14_eatAs_79 (am_up I 79 9 ((I 79 9) + (1))) G (40) (8)) G (9)), G, (gP rd)) (True) hX hi (by decide +kernel) rfl trivial ?_
      refine am_iret hX hi rfl (by first | rfl | decide | (simp [narrow]; done)) (by decide +kernel) ?_
      exact ⟨by unfold f_X14_isCombLine_79; rw [if_neg c18, if_pos c27], by unfold g_X14_isCombLine_79; rw [if_neg c18, if_pos c27], rfl, rfl⟩
    · refine am_blk 30 [(.aload_n 0, 1, 0, 0, .null), (.bipush (8), 2, 0, 0, .int (8))] (33, [(0, .ref 79)], [.int (8), .ref 79], (g_X14_isWay_79 (g_X14_eatAs_79 (am_up I 79 9 ((I 79 9) + (1))) G (40) (8)) G (9)), G, (gP rd)) (True) hX hi (by decide +kernel) rfl trivial ?_
      refine am_callV hX hi (M := mX14_eat) (idx := 128) (d' := 2) (b := 79) (ci := 12) (As := [.int (8)]) (rest := []) mkX14_eat miX14_eat mvX14_eat (by decide +kernel) (by decide +kernel) rfl (by decide +kernel) rfl ⟨by decide, by decide, Nat.le_of_ble_eq_true rfl⟩ rfl (c_X14_eat_79 rd (g_X14_isWay_79 (g_X14_eatAs_79 (am_up I 79 9 ((I 79 9) + (1))) G (40) (8)) G (9)) G (8)) ?_
      rintro r9 I9 G9 P9 ⟨e0, e1, e2, e3⟩
      rw [e0, e1, e2, e3]
      show am_V X 0 0 _ _ ad (36, [(0, .ref 79)], [.int (f_X14_eat_79 (g_X14_isWay_79 (g_X14_eatAs_79 (am_up I 79 9 ((I 79 9) + (1))) G (40) (8)) G (9)) G (8))], (g_X14_eat_79 (g_X14_isWay_79 (g_X14_eatAs_79 (am_up I 79 9 ((I 79 9) + (1))) G (40) (8)) G (9)) G (8)), G, (gP rd))
      refine am_if_eq (tgt := 74) hX hi (off := (38)) (by decide +kernel) (by decide) (fun c36 => ?_) (fun c36 => ?_)
      · refine am_blk 74 [(.iconst (0), 1, 0, 0, .int (0))] (75, [(0, .ref 79)], [.int (0)], (g_X14_eat_79 (g_X14_isWay_79 (g_X14_eatAs_79 (am_up I 79 9 ((I 79 9) + (1))) G (40) (8)) G (9)) G (8)), G, (gP rd)) (True) hX hi (by decide +kernel) rfl trivial ?_
        refine am_iret hX hi rfl (by first | rfl | decide | (simp [narrow]; done)) (by decide +kernel) ?_
        exact ⟨by unfold f_X14_isCombLine_79; rw [if_neg c18, if_neg c27, if_pos c36], by unfold g_X14_isCombLine_79; rw [if_neg c18, if_neg c27, if_pos c36], rfl, rfl⟩
      · refine am_blk 39 [(.aload_n 0, 1, 0, 0, .null), (.bipush (41), 2, 0, 0, .int (41)), (.bipush (10), 2, 0, 0, .int (10))] (44, [(0, .ref 79)], [.int (10), .int (41), .ref 79], (g_X14_eat_79 (g_X14_isWay_79 (g_X14_eatAs_79 (am_up I 79 9 ((I 79 9) + (1))) G (40) (8)) G (9)) G (8)), G, (gP rd)) (True) hX hi (by decide +kernel) rfl trivial ?_
        refine am_callV hX hi (M := mX14_eatAs) (idx := 155) (d' := 3) (b := 79) (ci := 12) (As := [.int (41), .int (10)]) (rest := []) mkX14_eatAs miX14_eatAs mvX14_eatAs (by decide +kernel) (by decide +kernel) rfl (by decide +kernel) rfl ⟨by decide, by decide, Nat.le_of_ble_eq_true rfl⟩ rfl (c_X14_eatAs_79 rd (g_X14_eat_79 (g_X14_isWay_79 (g_X14_eatAs_79 (am_up I 79 9 ((I 79 9) + (1))) G (40) (8)) G (9)) G (8)) G (41) (10)) ?_
        rintro r9 I9 G9 P9 ⟨e0, e1, e2, e3⟩
        rw [e0, e1, e2, e3]
        show am_V X 0 0 _ _ ad (47, [(0, .ref 79)], [.int (f_X14_eatAs_79 (g_X14_eat_79 (g_X14_isWay_79 (g_X14_eatAs_79 (am_up I 79 9 ((I 79 9) + (1))) G (40) (8)) G (9)) G (8)) G (41) (10))], (g_X14_eatAs_79 (g_X14_eat_79 (g_X14_isWay_79 (g_X14_eatAs_79 (am_up I 79 9 ((I 79 9) + (1))) G (40) (8)) G (9)) G (8)) G (41) (10)), G, (gP rd))
        refine am_if_eq (tgt := 74) hX hi (off := (27)) (by decide +kernel) (by decide) (fun c47 => ?_) (fun c47 => ?_)
        · refine am_blk 74 [(.iconst (0), 1, 0, 0, .int (0))] (75, [(0, .ref 79)], [.int (0)], (g_X14_eatAs_79 (g_X14_eat_79 (g_X14_isWay_79 (g_X14_eatAs_79 (am_up I 79 9 ((I 79 9) + (1))) G (40) (8)) G (9)) G (8)) G (41) (10)), G, (gP rd)) (True) hX hi (by decide +kernel) rfl trivial ?_
          refine am_iret hX hi rfl (by first | rfl | decide | (simp [narrow]; done)) (by decide +kernel) ?_
          exact ⟨by unfold f_X14_isCombLine_79; rw [if_neg c18, if_neg c27, if_neg c36, if_pos c47], by unfold g_X14_isCombLine_79; rw [if_neg c18, if_neg c27, if_neg c36, if_pos c47], rfl, rfl⟩
        · refine am_blk 50 [(.aload_n 0, 1, 0, 0, .null), (.bipush (9), 2, 0, 0, .int (9))] (53, [(0, .ref 79)], [.int (9), .ref 79], (g_X14_eatAs_79 (g_X14_eat_79 (g_X14_isWay_79 (g_X14_eatAs_79 (am_up I 79 9 ((I 79 9) + (1))) G (40) (8)) G (9)) G (8)) G (41) (10)), G, (gP rd)) (True) hX hi (by decide +kernel) rfl trivial ?_
          refine am_callV hX hi (M := mX14_eat) (idx := 128) (d' := 2) (b := 79) (ci := 12) (As := [.int (9)]) (rest := []) mkX14_eat miX14_eat mvX14_eat (by decide +kernel) (by decide +kernel) rfl (by decide +kernel) rfl ⟨by decide, by decide, Nat.le_of_ble_eq_true rfl⟩ rfl (c_X14_eat_79 rd (g_X14_eatAs_79 (g_X14_eat_79 (g_X14_isWay_79 (g_X14_eatAs_79 (am_up I 79 9 ((I 79 9) + (1))) G (40) (8)) G (9)) G (8)) G (41) (10)) G (9)) ?_
          rintro r9 I9 G9 P9 ⟨e0, e1, e2, e3⟩
          rw [e0, e1, e2, e3]
          show am_V X 0 0 _ _ ad (56, [(0, .ref 79)], [.int (f_X14_eat_79 (g_X14_eatAs_79 (g_X14_eat_79 (g_X14_isWay_79 (g_X14_eatAs_79 (am_up I 79 9 ((I 79 9) + (1))) G (40) (8)) G (9)) G (8)) G (41) (10)) G (9))], (g_X14_eat_79 (g_X14_eatAs_79 (g_X14_eat_79 (g_X14_isWay_79 (g_X14_eatAs_79 (am_up I 79 9 ((I 79 9) + (1))) G (40) (8)) G (9)) G (8)) G (41) (10)) G (9)), G, (gP rd))
          refine am_if_eq (tgt := 74) hX hi (off := (18)) (by decide +kernel) (by decide) (fun c56 => ?_) (fun c56 => ?_)
          · refine am_blk 74 [(.iconst (0), 1, 0, 0, .int (0))] (75, [(0, .ref 79)], [.int (0)], (g_X14_eat_79 (g_X14_eatAs_79 (g_X14_eat_79 (g_X14_isWay_79 (g_X14_eatAs_79 (am_up I 79 9 ((I 79 9) + (1))) G (40) (8)) G (9)) G (8)) G (41) (10)) G (9)), G, (gP rd)) (True) hX hi (by decide +kernel) rfl trivial ?_
            refine am_iret hX hi rfl (by first | rfl | decide | (simp [narrow]; done)) (by decide +kernel) ?_
            exact ⟨by unfold f_X14_isCombLine_79; rw [if_neg c18, if_neg c27, if_neg c36, if_neg c47, if_pos c56], by unfold g_X14_isCombLine_79; rw [if_neg c18, if_neg c27, if_neg c36, if_neg c47, if_pos c56], rfl, rfl⟩
          · refine am_blk 59 [(.aload_n 0, 1, 0, 0, .null), (.bipush (41), 2, 0, 0, .int (41)), (.bipush (11), 2, 0, 0, .int (11))] (64, [(0, .ref 79)], [.int (11), .int (41), .ref 79], (g_X14_eat_79 (g_X14_eatAs_79 (g_X14_eat_79 (g_X14_isWay_79 (g_X14_eatAs_79 (am_up I 79 9 ((I 79 9) + (1))) G (40) (8)) G (9)) G (8)) G (41) (10)) G (9)), G, (gP rd)) (True) hX hi (by decide +kernel) rfl trivial ?_
            refine am_callV hX hi (M := mX14_eatAs) (idx := 155) (d' := 3) (b := 79) (ci := 12) (As := [.int (41), .int (11)]) (rest := []) mkX14_eatAs miX14_eatAs mvX14_eatAs (by decide +kernel) (by decide +kernel) rfl (by decide +kernel) rfl ⟨by decide, by decide, Nat.le_of_ble_eq_true rfl⟩ rfl (c_X14_eatAs_79 rd (g_X14_eat_79 (g_X14_eatAs_79 (g_X14_eat_79 (g_X14_isWay_79 (g_X14_eatAs_79 (am_up I 79 9 ((I 79 9) + (1))) G (40) (8)) G (9)) G (8)) G (41) (10)) G (9)) G (41) (11)) ?_
            rintro r9 I9 G9 P9 ⟨e0, e1, e2, e3⟩
            rw [e0, e1, e2, e3]
            show am_V X 0 0 _ _ ad (67, [(0, .ref 79)], [.int (f_X14_eatAs_79 (g_X14_eat_79 (g_X14_eatAs_79 (g_X14_eat_79 (g_X14_isWay_79 (g_X14_eatAs_79 (am_up I 79 9 ((I 79 9) + (1))) G (40) (8)) G (9)) G (8)) G (41) (10)) G (9)) G (41) (11))], (g_X14_eatAs_79 (g_X14_eat_79 (g_X14_eatAs_79 (g_X14_eat_79 (g_X14_isWay_79 (g_X14_eatAs_79 (am_up I 79 9 ((I 79 9) + (1))) G (40) (8)) G (9)) G (8)) G (41) (10)) G (9)) G (41) (11)), G, (gP rd))
            refine am_if_eq (tgt := 74) hX hi (off := (7)) (by decide +kernel) (by decide) (fun c67 => ?_) (fun c67 => ?_)
            · refine am_blk 74 [(.iconst (0), 1, 0, 0, .int (0))] (75, [(0, .ref 79)], [.int (0)], (g_X14_eatAs_79 (g_X14_eat_79 (g_X14_eatAs_79 (g_X14_eat_79 (g_X14_isWay_79 (g_X14_eatAs_79 (am_up I 79 9 ((I 79 9) + (1))) G (40) (8)) G (9)) G (8)) G (41) (10)) G (9)) G (41) (11)), G, (gP rd)) (True) hX hi (by decide +kernel) rfl trivial ?_
              refine am_iret hX hi rfl (by first | rfl | decide | (simp [narrow]; done)) (by decide +kernel) ?_
              exact ⟨by unfold f_X14_isCombLine_79; rw [if_neg c18, if_neg c27, if_neg c36, if_neg c47, if_neg c56, if_pos c67], by unfold g_X14_isCombLine_79; rw [if_neg c18, if_neg c27, if_neg c36, if_neg c47, if_neg c56], rfl, rfl⟩
            · refine am_blk 70 [(.iconst (1), 1, 0, 0, .int (1)), (.goto (4), 3, 0, 75, .null)] (75, [(0, .ref 79)], [.int (1)], (g_X14_eatAs_79 (g_X14_eat_79 (g_X14_eatAs_79 (g_X14_eat_79 (g_X14_isWay_79 (g_X14_eatAs_79 (am_up I 79 9 ((I 79 9) + (1))) G (40) (8)) G (9)) G (8)) G (41) (10)) G (9)) G (41) (11)), G, (gP rd)) (True) hX hi (by decide +kernel) rfl trivial ?_
              refine am_iret hX hi rfl (by first | rfl | decide | (simp [narrow]; done)) (by decide +kernel) ?_
              exact ⟨by unfold f_X14_isCombLine_79; rw [if_neg c18, if_neg c27, if_neg c36, if_neg c47, if_neg c56, if_neg c67], by unfold g_X14_isCombLine_79; rw [if_neg c18, if_neg c27, if_neg c36, if_neg c47, if_neg c56], rfl, rfl⟩
def f_X14_isInkLine_79 (I : am_I) (G : am_G)  : Int32 := (if (f_X14_eatAs_79 (am_up I 79 9 ((I 79 9) + (1))) G (40) (12)) = 0 then (0) else (if (f_X14_eat_79 (g_X14_eatAs_79 (am_up I 79 9 ((I 79 9) + (1))) G (40) (12)) G (11)) = 0 then (0) else (if (f_X14_eatAs_79 (g_X14_eat_79 (g_X14_eatAs_79 (am_up I 79 9 ((I 79 9) + (1))) G (40) (12)) G (11)) G (41) (13)) = 0 then (0) else (1))))
def g_X14_isInkLine_79 (I : am_I) (G : am_G)  : am_I := (if (f_X14_eatAs_79 (am_up I 79 9 ((I 79 9) + (1))) G (40) (12)) = 0 then (g_X14_eatAs_79 (am_up I 79 9 ((I 79 9) + (1))) G (40) (12)) else (if (f_X14_eat_79 (g_X14_eatAs_79 (am_up I 79 9 ((I 79 9) + (1))) G (40) (12)) G (11)) = 0 then (g_X14_eat_79 (g_X14_eatAs_79 (am_up I 79 9 ((I 79 9) + (1))) G (40) (12)) G (11)) else (g_X14_eatAs_79 (g_X14_eat_79 (g_X14_eatAs_79 (am_up I 79 9 ((I 79 9) + (1))) G (40) (12)) G (11)) G (41) (13))))
set_option maxRecDepth 20000 in
set_option maxHeartbeats 1000000 in
theorem c_X14_isInkLine_79 (rd : Nat) (I : am_I) (G : am_G)  : am_Ct mX14_isInkLine 4 gS [.ref 79] I G (gP rd) (pI (f_X14_isInkLine_79 I G ) (g_X14_isInkLine_79 I G ) G (gP rd)) := by
  refine am_ofF (by decide +kernel) rfl (by decide) (by decide) (Nat.le_of_ble_eq_true rfl) (fun X ad hX hi => ?_)
  have hi : am_info X 12 cX14_isInkLine 1 false (Option.some Jvm.ClassFile.FieldType.boolean) 4 := hi
  show am_V X 0 0 _ _ ad (0, [(0, .ref 79)], [], I, G, (gP rd))
  refine am_blk 0 [(.aload_n 0, 1, 0, 0, .null), (.dup, 1, 0, 0, .null), (.getfield 122, 3, 12, 9, .null), (.iconst (1), 1, 0, 0, .int (1)), (.iadd, 1, 0, 0, .null), (.putfield 122, 3, 12, 9, .null), (.aload_n 0, 1, 0, 0, .null), (.bipush (40), 2, 0, 0, .int (40)), (.bipush (12), 2, 0, 0, .int (12))] (15, [(0, .ref 79)], [.int (12), .int (40), .ref 79], (am_up I 79 9 ((I 79 9) + (1))), G, (gP rd)) (True) hX hi (by decide +kernel) rfl trivial ?_
  refine am_callV hX hi (M := mX14_eatAs) (idx := 155) (d' := 3) (b := 79) (ci := 12) (As := [.int (40), .int (12)]) (rest := []) mkX14_eatAs miX14_eatAs mvX14_eatAs (by decide +kernel) (by decide +kernel) rfl (by decide +kernel) rfl ⟨by decide, by decide, Nat.le_of_ble_eq_true rfl⟩ rfl (c_X14_eatAs_79 rd (am_up I 79 9 ((I 79 9) + (1))) G (40) (12)) ?_
  rintro r9 I9 G9 P9 ⟨e0, e1, e2, e3⟩
  rw [e0, e1, e2, e3]
  show am_V X 0 0 _ _ ad (18, [(0, .ref 79)], [.int (f_X14_eatAs_79 (am_up I 79 9 ((I 79 9) + (1))) G (40) (12))], (g_X14_eatAs_79 (am_up I 79 9 ((I 79 9) + (1))) G (40) (12)), G, (gP rd))
  refine am_if_eq (tgt := 45) hX hi (off := (27)) (by decide +kernel) (by decide) (fun c18 => ?_) (fun c18 => ?_)
  · refine am_blk 45 [(.iconst (0), 1, 0, 0, .int (0))] (46, [(0, .ref 79)], [.int (0)], (g_X14_eatAs_79 (am_up I 79 9 ((I 79 9) + (1))) G (40) (12)), G, (gP rd)) (True) hX hi (by decide +kernel) rfl trivial ?_
    refine am_iret hX hi rfl (by first | rfl | decide | (simp [narrow]; done)) (by decide +kernel) ?_
    exact ⟨by unfold f_X14_isInkLine_79; rw [if_pos c18], by unfold g_X14_isInkLine_79; rw [if_pos c18], rfl, rfl⟩
  · refine am_blk 21 [(.aload_n 0, 1, 0, 0, .null), (.bipush (11), 2, 0, 0, .int (11))] (24, [(0, .ref 79)], [.int (11), .ref 79], (g_X14_eatAs_79 (am_up I 79 9 ((I 79 9) + (1))) G (40) (12)), G, (gP rd)) (True) hX hi (by decide +kernel) rfl trivial ?_
    refine am_callV hX hi (M := mX14_eat) (idx := 128) (d' := 2) (b := 79) (ci := 12) (As := [.int (11)]) (rest := []) mkX14_eat miX14_eat mvX14_eat (by decide +kernel) (by decide +kernel) rfl (by decide +kernel) rfl ⟨by decide, by decide, Nat.le_of_ble_eq_true rfl⟩ rfl (c_X14_eat_79 rd (g_X14_eatAs_79 (am_up I 79 9 ((I 79 9) + (1))) G (40) (12)) G (11)) ?_
    rintro r9 I9 G9 P9 ⟨e0, e1, e2, e3⟩
    rw [e0, e1, e2, e3]
    show am_V X 0 0 _ _ ad (27, [(0, .ref 79)], [.int (f_X14_eat_79 (g_X14_eatAs_79 (am_up I 79 9 ((I 79 9) + (1))) G (40) (12)) G (11))], (g_X14_eat_79 (g_X14_eatAs_79 (am_up I 79 9 ((I 79 9) + (1))) G (40) (12)) G (11)), G, (gP rd))
    refine am_if_eq (tgt := 45) hX hi (off := (18)) (by decide +kernel) (by decide) (fun c27 => ?_) (fun c27 => ?_)
    · refine am_blk 45 [(.iconst (0), 1, 0, 0, .int (0))] (46, [(0, .ref 79)], [.int (0)], (g_X14_eat_79 (g_X14_eatAs_79 (am_up I 79 9 ((I 79 9) + (1))) G (40) (12)) G (11)), G, (gP rd)) (True) hX hi (by decide +kernel) rfl trivial ?_
      refine am_iret hX hi rfl (by first | rfl | decide | (simp [narrow]; done)) (by decide +kernel) ?_
      exact ⟨by unfold f_X14_isInkLine_79; rw [if_neg c18, if_pos c27], by unfold g_X14_isInkLine_79; rw [if_neg c18, if_pos c27], rfl, rfl⟩
    · refine am_blk 30 [(.aload_n 0, 1, 0, 0, .null), (.bipush (41), 2, 0, 0, .int (41)), (.bipush (13), 2, 0, 0, .int (13))] (35, [(0, .ref 79)], [.int (13), .int (41), .ref 79], (g_X14_eat_79 (g_X14_eatAs_79 (am_up I 79 9 ((I 79 9) + (1))) G (40) (12)) G (11)), G, (gP rd)) (True) hX hi (by decide +kernel) rfl trivial ?_
      refine am_callV hX hi (M := mX14_eatAs) (idx := 155) (d' := 3) (b := 79) (ci := 12) (As := [.int (41), .int (13)]) (rest := []) mkX14_eatAs miX14_eatAs mvX14_eatAs (by decide +kernel) (by decide +kernel) rfl (by decide +kernel) rfl ⟨by decide, by decide, Nat.le_of_ble_eq_true rfl⟩ rfl (c_X14_eatAs_79 rd (g_X14_eat_79 (g_X14_eatAs_79 (am_up I 79 9 ((I 79 9) + (1))) G (40) (12)) G (11)) G (41) (13)) ?_
      rintro r9 I9 G9 P9 ⟨e0, e1, e2, e3⟩
      rw [e0, e1, e2, e3]
      show am_V X 0 0 _ _ ad (38, [(0, .ref 79)], [.int (f_X14_eatAs_79 (g_X14_eat_79 (g_X14_eatAs_79 (am_up I 79 9 ((I 79 9) + (1))) G (40) (12)) G (11)) G (41) (13))], (g_X14_eatAs_79 (g_X14_eat_79 (g_X14_eatAs_79 (am_up I 79 9 ((I 79 9) + (1))) G (40) (12)) G (11)) G (41) (13)), G, (gP rd))
      refine am_if_eq (tgt := 45) hX hi (off := (7)) (by decide +kernel) (by decide) (fun c38 => ?_) (fun c38 => ?_)
      · refine am_blk 45 [(.iconst (0), 1, 0, 0, .int (0))] (46, [(0, .ref 79)], [.int (0)], (g_X14_eatAs_79 (g_X14_eat_79 (g_X14_eatAs_79 (am_up I 79 9 ((I 79 9) + (1))) G (40) (12)) G (11)) G (41) (13)), G, (gP rd)) (True) hX hi (by decide +kernel) rfl trivial ?_
        refine am_iret hX hi rfl (by first | rfl | decide | (simp [narrow]; done)) (by decide +kernel) ?_
        exact ⟨by unfold f_X14_isInkLine_79; rw [if_neg c18, if_neg c27, if_pos c38], by unfold g_X14_isInkLine_79; rw [if_neg c18, if_neg c27], rfl, rfl⟩
      · refine am_blk 41 [(.iconst (1), 1, 0, 0, .int (1)), (.goto (4), 3, 0, 46, .null)] (46, [(0, .ref 79)], [.int (1)], (g_X14_eatAs_79 (g_X14_eat_79 (g_X14_eatAs_79 (am_up I 79 9 ((I 79 9) + (1))) G (40) (12)) G (11)) G (41) (13)), G, (gP rd)) (True) hX hi (by decide +kernel) rfl trivial ?_
        refine am_iret hX hi rfl (by first | rfl | decide | (simp [narrow]; done)) (by decide +kernel) ?_
        exact ⟨by unfold f_X14_isInkLine_79; rw [if_neg c18, if_neg c27, if_neg c38], by unfold g_X14_isInkLine_79; rw [if_neg c18, if_neg c27], rfl, rfl⟩
def f_X14_isDeeper_79 (I : am_I) (G : am_G)  : Int32 := (if (I 79 10) = (8) then (0) else (1))
def g_X14_isDeeper_79 (I : am_I) (G : am_G)  : am_I := (if (I 79 10) = (8) then I else (am_up (am_up I 79 10 ((I 79 10) + (1))) 79 9 ((I 79 9) + (1))))
set_option maxRecDepth 20000 in
set_option maxHeartbeats 1000000 in
theorem c_X14_isDeeper_79 (rd : Nat) (I : am_I) (G : am_G)  : am_Ct mX14_isDeeper 1 gS [.ref 79] I G (gP rd) (pI (f_X14_isDeeper_79 I G ) (g_X14_isDeeper_79 I G ) G (gP rd)) := by
  refine am_ofF (by decide +kernel) rfl (by decide) (by decide) (Nat.le_of_ble_eq_true rfl) (fun X ad hX hi => ?_)
  have hi : am_info X 12 cX14_isDeeper 1 false (Option.some Jvm.ClassFile.FieldType.boolean) 1 := hi
  show am_V X 0 0 _ _ ad (0, [(0, .ref 79)], [], I, G, (gP rd))
  refine am_blk 0 [(.aload_n 0, 1, 0, 0, .null), (.getfield 190, 3, 12, 10, .null), (.bipush (8), 2, 0, 0, .int (8))] (6, [(0, .ref 79)], [.int (8), .int (I 79 10)], I, G, (gP rd)) (True) hX hi (by decide +kernel) rfl trivial ?_
  refine am_icmp_ne (tgt := 11) hX hi (off := (5)) (by decide +kernel) (by decide) (fun c6 => ?_) (fun c6 => ?_)
  · refine am_blk 11 [(.aload_n 0, 1, 0, 0, .null), (.dup, 1, 0, 0, .null), (.getfield 190, 3, 12, 10, .null), (.iconst (1), 1, 0, 0, .int (1)), (.iadd, 1, 0, 0, .null), (.putfield 190, 3, 12, 10, .null), (.aload_n 0, 1, 0, 0, .null), (.dup, 1, 0, 0, .null), (.getfield 122, 3, 12, 9, .null), (.iconst (1), 1, 0, 0, .int (1)), (.iadd, 1, 0, 0, .null), (.putfield 122, 3, 12, 9, .null), (.iconst (1), 1, 0, 0, .int (1))] (32, [(0, .ref 79)], [.int (1)], (am_up (am_up I 79 10 ((I 79 10) + (1))) 79 9 ((I 79 9) + (1))), G, (gP rd)) (True) hX hi (by decide +kernel) rfl trivial ?_
    refine am_iret hX hi rfl (by first | rfl | decide | (simp [narrow]; done)) (by decide +kernel) ?_
    exact ⟨by unfold f_X14_isDeeper_79; rw [if_neg c6], by unfold g_X14_isDeeper_79; rw [if_neg c6], rfl, rfl⟩
  · refine am_blk 9 [(.iconst (0), 1, 0, 0, .int (0))] (10, [(0, .ref 79)], [.int (0)], I, G, (gP rd)) (True) hX hi (by decide +kernel) rfl trivial ?_
    refine am_iret hX hi rfl (by first | rfl | decide | (simp [narrow]; done)) (by decide +kernel) ?_
    exact ⟨by unfold f_X14_isDeeper_79; rw [if_pos c6], by unfold g_X14_isDeeper_79; rw [if_pos c6], rfl, rfl⟩
def f_X14_trim_79 (I : am_I) (G : am_G) (x1 : Int32) : Int32 := (if (f_X14_isIn (am_up I 79 0 (0)) G x1 (0) (I 79 2)) = 0 then (f_X14_no_79 (am_up I 79 0 (0)) G (1)) else x1)
def g_X14_trim_79 (I : am_I) (G : am_G) (x1 : Int32) : am_I := (if (f_X14_isIn (am_up I 79 0 (0)) G x1 (0) (I 79 2)) = 0 then (g_X14_no_79 (am_up I 79 0 (0)) G (1)) else (am_up (am_up I 79 0 (0)) 79 2 x1))
set_option maxRecDepth 20000 in
set_option maxHeartbeats 1000000 in
theorem c_X14_trim_79 (rd : Nat) (I : am_I) (G : am_G) (x1 : Int32) : am_Ct mX14_trim 2 gS [.ref 79, .int x1] I G (gP rd) (pI (f_X14_trim_79 I G x1) (g_X14_trim_79 I G x1) G (gP rd)) := by
  refine am_ofF (by decide +kernel) rfl (by decide) (by decide) (Nat.le_of_ble_eq_true rfl) (fun X ad hX hi => ?_)
  have hi : am_info X 12 cX14_trim 2 false (Option.some Jvm.ClassFile.FieldType.int) 2 := hi
  show am_V X 0 0 _ _ ad (0, [(0, .ref 79), (1, .int x1)], [], I, G, (gP rd))
  refine am_blk 0 [(.aload_n 0, 1, 0, 0, .null), (.iconst (0), 1, 0, 0, .int (0)), (.putfield 57, 3, 12, 0, .null), (.iload_n 1, 1, 1, 0, .null), (.iconst (0), 1, 0, 0, .int (0)), (.aload_n 0, 1, 0, 0, .null), (.getfield 83, 3, 12, 2, .null)] (11, [(0, .ref 79), (1, .int x1)], [.int (I 79 2), .int (0), .int x1], (am_up I 79 0 (0)), G, (gP rd)) (True) hX hi (by decide +kernel) rfl trivial ?_
  refine am_callS hX hi (M := mX14_isIn) (idx := 63) (d' := 1) (As := [.int x1, .int (0), .int (I 79 2)]) (rest := []) mkX14_isIn msX14_isIn (by decide +kernel) (by decide +kernel) rfl ⟨by decide, by decide, Nat.le_of_ble_eq_true rfl⟩ rfl (c_X14_isIn (am_up I 79 0 (0)) G x1 (0) (I 79 2)) ?_
  rintro r9 I9 G9 P9 ⟨e0, e1, e2, e3⟩
  rw [e0, e1, e2, e3]
  show am_V X 0 0 _ _ ad (14, [(0, .ref 79), (1, .int x1)], [.int (f_X14_isIn (am_up I 79 0 (0)) G x1 (0) (I 79 2))], (am_up I 79 0 (0)), G, (gP rd))
  refine am_if_ne (tgt := 23) hX hi (off := (9)) (by decide +kernel) (by decide) (fun c14 => ?_) (fun c14 => ?_)
  · refine am_blk 23 [(.aload_n 0, 1, 0, 0, .null), (.iload_n 1, 1, 1, 0, .null), (.putfield 83, 3, 12, 2, .null), (.iload_n 1, 1, 1, 0, .null)] (29, [(0, .ref 79), (1, .int x1)], [.int x1], (am_up (am_up I 79 0 (0)) 79 2 x1), G, (gP rd)) (True) hX hi (by decide +kernel) rfl trivial ?_
    refine am_iret hX hi rfl rfl (by decide +kernel) ?_
    exact ⟨by unfold f_X14_trim_79; rw [if_neg c14], by unfold g_X14_trim_79; rw [if_neg c14], rfl, rfl⟩
  · refine am_blk 17 [(.aload_n 0, 1, 0, 0, .null), (.iconst (1), 1, 0, 0, .int (1))] (19, [(0, .ref 79), (1, .int x1)], [.int (1), .ref 79], (am_up I 79 0 (0)), G, (gP rd)) (True) hX hi (by decide +kernel) rfl trivial ?_
    refine am_callV hX hi (M := mX14_no) (idx := 316) (d' := 1) (b := 79) (ci := 12) (As := [.int (1)]) (rest := []) mkX14_no miX14_no mvX14_no (by decide +kernel) (by decide +kernel) rfl (by decide +kernel) rfl ⟨by decide, by decide, Nat.le_of_ble_eq_true rfl⟩ rfl (c_X14_no_79 rd (am_up I 79 0 (0)) G (1)) ?_
    rintro r9 I9 G9 P9 ⟨e0, e1, e2, e3⟩
    rw [e0, e1, e2, e3]
    show am_V X 0 0 _ _ ad (22, [(0, .ref 79), (1, .int x1)], [.int (f_X14_no_79 (am_up I 79 0 (0)) G (1))], (g_X14_no_79 (am_up I 79 0 (0)) G (1)), G, (gP rd))
    refine am_iret hX hi rfl rfl (by decide +kernel) ?_
    exact ⟨by unfold f_X14_trim_79; rw [if_pos c14], by unfold g_X14_trim_79; rw [if_pos c14], rfl, rfl⟩
def f_X14_errorAt_79 (I : am_I) (G : am_G)  : Int32 := (I 79 3)
def g_X14_errorAt_79 (I : am_I) (G : am_G)  : am_I := (am_up I 79 0 (0))
set_option maxRecDepth 20000 in
set_option maxHeartbeats 1000000 in
theorem c_X14_errorAt_79 (rd : Nat) (I : am_I) (G : am_G)  : am_Ct mX14_errorAt 1 gS [.ref 79] I G (gP rd) (pI (f_X14_errorAt_79 I G ) (g_X14_errorAt_79 I G ) G (gP rd)) := by
  refine am_ofF (by decide +kernel) rfl (by decide) (by decide) (Nat.le_of_ble_eq_true rfl) (fun X ad hX hi => ?_)
  have hi : am_info X 12 cX14_errorAt 1 false (Option.some Jvm.ClassFile.FieldType.int) 1 := hi
  show am_V X 0 0 _ _ ad (0, [(0, .ref 79)], [], I, G, (gP rd))
  refine am_blk 0 [(.aload_n 0, 1, 0, 0, .null), (.iconst (0), 1, 0, 0, .int (0)), (.putfield 57, 3, 12, 0, .null), (.aload_n 0, 1, 0, 0, .null), (.getfield 13, 3, 12, 3, .null)] (9, [(0, .ref 79)], [.int (I 79 3)], (am_up I 79 0 (0)), G, (gP rd)) (True) hX hi (by decide +kernel) rfl trivial ?_
  refine am_iret hX hi rfl rfl (by decide +kernel) ?_
  exact ⟨by unfold f_X14_errorAt_79; rfl, by unfold g_X14_errorAt_79; rfl, rfl, rfl⟩
def f_X14_gradient_79 (I : am_I) (G : am_G) (x1 : Int32) (x2 : Int32) (x3 : Int32) : Int32 := (if (f_X14_isOctave_79 (am_up I 79 0 (0)) G x1) = 0 then (f_X14_no_79 (am_up I 79 0 (0)) G (1)) else (if (f_X14_isIn (am_up I 79 0 (0)) G x2 (0) (8)) = 0 then (f_X14_no_79 (am_up I 79 0 (0)) G (1)) else (if (f_X14_isIn (am_up I 79 0 (0)) G x3 (0) (8)) = 0 then (f_X14_no_79 (am_up I 79 0 (0)) G (1)) else (f_X12_gradient_86 (am_up I 79 0 (0)) G x1 (I 103 x1.toNatClampNeg) x2 x3))))
def g_X14_gradient_79 (I : am_I) (G : am_G) (x1 : Int32) (x2 : Int32) (x3 : Int32) : am_I := (if (f_X14_isOctave_79 (am_up I 79 0 (0)) G x1) = 0 then (g_X14_no_79 (am_up I 79 0 (0)) G (1)) else (if (f_X14_isIn (am_up I 79 0 (0)) G x2 (0) (8)) = 0 then (g_X14_no_79 (am_up I 79 0 (0)) G (1)) else (if (f_X14_isIn (am_up I 79 0 (0)) G x3 (0) (8)) = 0 then (g_X14_no_79 (am_up I 79 0 (0)) G (1)) else (am_up I 79 0 (0)))))
set_option maxRecDepth 20000 in
set_option maxHeartbeats 1000000 in
theorem c_X14_gradient_79 (rd : Nat) (I : am_I) (G : am_G) (x1 : Int32) (x2 : Int32) (x3 : Int32) : am_Ct mX14_gradient 3 gS [.ref 79, .int x1, .int x2, .int x3] I G (gP rd) (pI (f_X14_gradient_79 I G x1 x2 x3) (g_X14_gradient_79 I G x1 x2 x3) G (gP rd)) := by
  refine am_ofF (by decide +kernel) rfl (by decide) (by decide) (Nat.le_of_ble_eq_true rfl) (fun X ad hX hi => ?_)
  have hi : am_info X 12 cX14_gradient 4 false (Option.some Jvm.ClassFile.FieldType.int) 3 := hi
  show am_V X 0 0 _ _ ad (0, [(0, .ref 79), (1, .int x1), (2, .int x2), (3, .int x3)], [], I, G, (gP rd))
  refine am_blk 0 [(.aload_n 0, 1, 0, 0, .null), (.iconst (0), 1, 0, 0, .int (0)), (.putfield 57, 3, 12, 0, .null), (.aload_n 0, 1, 0, 0, .null), (.iload_n 1, 1, 1, 0, .null)] (7, [(0, .ref 79), (1, .int x1), (2, .int x2), (3, .int x3)], [.int x1, .ref 79], (am_up I 79 0 (0)), G, (gP rd)) (True) hX hi (by decide +kernel) rfl trivial ?_
  refine am_callV hX hi (M := mX14_isOctave) (idx := 351) (d' := 2) (b := 79) (ci := 12) (As := [.int x1]) (rest := []) mkX14_isOctave miX14_isOctave mvX14_isOctave (by decide +kernel) (by decide +kernel) rfl (by decide +kernel) rfl ⟨by decide, by decide, Nat.le_of_ble_eq_true rfl⟩ rfl (c_X14_isOctave_79 rd (am_up I 79 0 (0)) G x1) ?_
  rintro r9 I9 G9 P9 ⟨e0, e1, e2, e3⟩
  rw [e0, e1, e2, e3]
  show am_V X 0 0 _ _ ad (10, [(0, .ref 79), (1, .int x1), (2, .int x2), (3, .int x3)], [.int (f_X14_isOctave_79 (am_up I 79 0 (0)) G x1)], (am_up I 79 0 (0)), G, (gP rd))
  refine am_if_eq (tgt := 55) hX hi (off := (45)) (by decide +kernel) (by decide) (fun c10 => ?_) (fun c10 => ?_)
  · refine am_blk 55 [(.aload_n 0, 1, 0, 0, .null), (.iconst (1), 1, 0, 0, .int (1))] (57, [(0, .ref 79), (1, .int x1), (2, .int x2), (3, .int x3)], [.int (1), .ref 79], (am_up I 79 0 (0)), G, (gP rd)) (True) hX hi (by decide +kernel) rfl trivial ?_
    refine am_callV hX hi (M := mX14_no) (idx := 316) (d' := 1) (b := 79) (ci := 12) (As := [.int (1)]) (rest := []) mkX14_no miX14_no mvX14_no (by decide +kernel) (by decide +kernel) rfl (by decide +kernel) rfl ⟨by decide, by decide, Nat.le_of_ble_eq_true rfl⟩ rfl (c_X14_no_79 rd (am_up I 79 0 (0)) G (1)) ?_
    rintro r9 I9 G9 P9 ⟨e0, e1, e2, e3⟩
    rw [e0, e1, e2, e3]
    show am_V X 0 0 _ _ ad (60, [(0, .ref 79), (1, .int x1), (2, .int x2), (3, .int x3)], [.int (f_X14_no_79 (am_up I 79 0 (0)) G (1))], (g_X14_no_79 (am_up I 79 0 (0)) G (1)), G, (gP rd))
    refine am_iret hX hi rfl rfl (by decide +kernel) ?_
    exact ⟨by unfold f_X14_gradient_79; rw [if_pos c10], by unfold g_X14_gradient_79; rw [if_pos c10], rfl, rfl⟩
  · refine am_blk 13 [(.iload_n 2, 1, 2, 0, .null), (.iconst (0), 1, 0, 0, .int (0)), (.bipush (8), 2, 0, 0, .int (8))] (17, [(0, .ref 79), (1, .int x1), (2, .int x2), (3, .int x3)], [.int (8), .int (0), .int x2], (am_up I 79 0 (0)), G, (gP rd)) (True) hX hi (by decide +kernel) rfl trivial ?_
    refine am_callS hX hi (M := mX14_isIn) (idx := 63) (d' := 1) (As := [.int x2, .int (0), .int (8)]) (rest := []) mkX14_isIn msX14_isIn (by decide +kernel) (by decide +kernel) rfl ⟨by decide, by decide, Nat.le_of_ble_eq_true rfl⟩ rfl (c_X14_isIn (am_up I 79 0 (0)) G x2 (0) (8)) ?_
    rintro r9 I9 G9 P9 ⟨e0, e1, e2, e3⟩
    rw [e0, e1, e2, e3]
    show am_V X 0 0 _ _ ad (20, [(0, .ref 79), (1, .int x1), (2, .int x2), (3, .int x3)], [.int (f_X14_isIn (am_up I 79 0 (0)) G x2 (0) (8))], (am_up I 79 0 (0)), G, (gP rd))
    refine am_if_eq (tgt := 55) hX hi (off := (35)) (by decide +kernel) (by decide) (fun c20 => ?_) (fun c20 => ?_)
    · refine am_blk 55 [(.aload_n 0, 1, 0, 0, .null), (.iconst (1), 1, 0, 0, .int (1))] (57, [(0, .ref 79), (1, .int x1), (2, .int x2), (3, .int x3)], [.int (1), .ref 79], (am_up I 79 0 (0)), G, (gP rd)) (True) hX hi (by decide +kernel) rfl trivial ?_
      refine am_callV hX hi (M := mX14_no) (idx := 316) (d' := 1) (b := 79) (ci := 12) (As := [.int (1)]) (rest := []) mkX14_no miX14_no mvX14_no (by decide +kernel) (by decide +kernel) rfl (by decide +kernel) rfl ⟨by decide, by decide, Nat.le_of_ble_eq_true rfl⟩ rfl (c_X14_no_79 rd (am_up I 79 0 (0)) G (1)) ?_
      rintro r9 I9 G9 P9 ⟨e0, e1, e2, e3⟩
      rw [e0, e1, e2, e3]
      show am_V X 0 0 _ _ ad (60, [(0, .ref 79), (1, .int x1), (2, .int x2), (3, .int x3)], [.int (f_X14_no_79 (am_up I 79 0 (0)) G (1))], (g_X14_no_79 (am_up I 79 0 (0)) G (1)), G, (gP rd))
      refine am_iret hX hi rfl rfl (by decide +kernel) ?_
      exact ⟨by unfold f_X14_gradient_79; rw [if_neg c10, if_pos c20], by unfold g_X14_gradient_79; rw [if_neg c10, if_pos c20], rfl, rfl⟩
    · refine am_blk 23 [(.iload_n 3, 1, 3, 0, .null), (.iconst (0), 1, 0, 0, .int (0)), (.bipush (8), 2, 0, 0, .int (8))] (27, [(0, .ref 79), (1, .int x1), (2, .int x2), (3, .int x3)], [.int (8), .int (0), .int x3], (am_up I 79 0 (0)), G, (gP rd)) (True) hX hi (by decide +kernel) rfl trivial ?_
      refine am_callS hX hi (M := mX14_isIn) (idx := 63) (d' := 1) (As := [.int x3, .int (0), .int (8)]) (rest := []) mkX14_isIn msX14_isIn (by decide +kernel) (by decide +kernel) rfl ⟨by decide, by decide, Nat.le_of_ble_eq_true rfl⟩ rfl (c_X14_isIn (am_up I 79 0 (0)) G x3 (0) (8)) ?_
      rintro r9 I9 G9 P9 ⟨e0, e1, e2, e3⟩
      rw [e0, e1, e2, e3]
      show am_V X 0 0 _ _ ad (30, [(0, .ref 79), (1, .int x1), (2, .int x2), (3, .int x3)], [.int (f_X14_isIn (am_up I 79 0 (0)) G x3 (0) (8))], (am_up I 79 0 (0)), G, (gP rd))
      refine am_if_eq (tgt := 55) hX hi (off := (25)) (by decide +kernel) (by decide) (fun c30 => ?_) (fun c30 => ?_)
      · refine am_blk 55 [(.aload_n 0, 1, 0, 0, .null), (.iconst (1), 1, 0, 0, .int (1))] (57, [(0, .ref 79), (1, .int x1), (2, .int x2), (3, .int x3)], [.int (1), .ref 79], (am_up I 79 0 (0)), G, (gP rd)) (True) hX hi (by decide +kernel) rfl trivial ?_
        refine am_callV hX hi (M := mX14_no) (idx := 316) (d' := 1) (b := 79) (ci := 12) (As := [.int (1)]) (rest := []) mkX14_no miX14_no mvX14_no (by decide +kernel) (by decide +kernel) rfl (by decide +kernel) rfl ⟨by decide, by decide, Nat.le_of_ble_eq_true rfl⟩ rfl (c_X14_no_79 rd (am_up I 79 0 (0)) G (1)) ?_
        rintro r9 I9 G9 P9 ⟨e0, e1, e2, e3⟩
        rw [e0, e1, e2, e3]
        show am_V X 0 0 _ _ ad (60, [(0, .ref 79), (1, .int x1), (2, .int x2), (3, .int x3)], [.int (f_X14_no_79 (am_up I 79 0 (0)) G (1))], (g_X14_no_79 (am_up I 79 0 (0)) G (1)), G, (gP rd))
        refine am_iret hX hi rfl rfl (by decide +kernel) ?_
        exact ⟨by unfold f_X14_gradient_79; rw [if_neg c10, if_neg c20, if_pos c30], by unfold g_X14_gradient_79; rw [if_neg c10, if_neg c20, if_pos c30], rfl, rfl⟩
      · refine am_blk 33 [(.aload_n 0, 1, 0, 0, .null), (.getfield 35, 3, 12, 11, .null), (.iload_n 1, 1, 1, 0, .null), (.aload_n 0, 1, 0, 0, .null), (.getfield 47, 3, 12, 13, .null), (.getfield 350, 3, 11, 4, .null), (.iload_n 1, 1, 1, 0, .null), (.iaload, 1, 0, 0, .null), (.iload_n 2, 1, 2, 0, .null), (.iload_n 3, 1, 3, 0, .null)] (49, [(0, .ref 79), (1, .int x1), (2, .int x2), (3, .int x3)], [.int x3, .int x2, .int (I 103 x1.toNatClampNeg), .int x1, .ref 86], (am_up I 79 0 (0)), G, (gP rd)) (vp_in x1 4 ∧ True) hX hi (by decide +kernel) rfl ?_ ?_
        · exact ⟨(by first | assumption | (refine (i_in _ _).mpr ?_; simp only [i_lt, i_le, i_eq, i_0, i_of, am_n] at *; omega)), trivial⟩
        refine am_callV hX hi (M := mX12_gradient) (idx := 357) (d' := 1) (b := 86) (ci := 10) (As := [.int x1, .int (I 103 x1.toNatClampNeg), .int x2, .int x3]) (rest := []) mkX12_gradient miX12_gradient mvX12_gradient (by decide +kernel) (by decide +kernel) rfl (by decide +kernel) rfl ⟨by decide, by decide, Nat.le_of_ble_eq_true rfl⟩ rfl (c_X12_gradient_86 rd (am_up I 79 0 (0)) G x1 (I 103 x1.toNatClampNeg) x2 x3) ?_
        rintro r9 I9 G9 P9 ⟨e0, e1, e2, e3⟩
        rw [e0, e1, e2, e3]
        show am_V X 0 0 _ _ ad (52, [(0, .ref 79), (1, .int x1), (2, .int x2), (3, .int x3)], [.int (f_X12_gradient_86 (am_up I 79 0 (0)) G x1 (I 103 x1.toNatClampNeg) x2 x3)], (am_up I 79 0 (0)), G, (gP rd))
        refine am_blk 52 [(.goto (8), 3, 0, 60, .null)] (60, [(0, .ref 79), (1, .int x1), (2, .int x2), (3, .int x3)], [.int (f_X12_gradient_86 (am_up I 79 0 (0)) G x1 (I 103 x1.toNatClampNeg) x2 x3)], (am_up I 79 0 (0)), G, (gP rd)) (True) hX hi (by decide +kernel) rfl trivial ?_
        refine am_iret hX hi rfl rfl (by decide +kernel) ?_
        exact ⟨by unfold f_X14_gradient_79; rw [if_neg c10, if_neg c20, if_neg c30], by unfold g_X14_gradient_79; rw [if_neg c10, if_neg c20, if_neg c30], rfl, rfl⟩
def f_X14_combTold_79 (I : am_I) (G : am_G) (x1 : Int32) (x2 : Int32) : Int32 := (if x2 = 0 then (I 91 x1.toNatClampNeg) else (if x2 = (1) then (I 92 x1.toNatClampNeg) else (I 104 x1.toNatClampNeg)))
set_option maxRecDepth 20000 in
set_option maxHeartbeats 1000000 in
theorem c_X14_combTold_79 (rd : Nat) (I : am_I) (G : am_G) (x1 : Int32) (x2 : Int32) : am_Ct mX14_combTold 1 gS [.ref 79, .int x1, .int x2] I G (gP rd) (pI (f_X14_combTold_79 I G x1 x2) I G (gP rd)) := by
  refine am_ofF (by decide +kernel) rfl (by decide) (by decide) (Nat.le_of_ble_eq_true rfl) (fun X ad hX hi => ?_)
  have hi : am_info X 12 cX14_combTold 3 false (Option.some Jvm.ClassFile.FieldType.int) 1 := hi
  show am_V X 0 0 _ _ ad (0, [(0, .ref 79), (1, .int x1), (2, .int x2)], [], I, G, (gP rd))
  refine am_blk 0 [(.iload_n 2, 1, 2, 0, .null)] (1, [(0, .ref 79), (1, .int x1), (2, .int x2)], [.int x2], I, G, (gP rd)) (True) hX hi (by decide +kernel) rfl trivial ?_
  refine am_if_ne (tgt := 16) hX hi (off := (15)) (by decide +kernel) (by decide) (fun c1 => ?_) (fun c1 => ?_)
  · refine am_blk 16 [(.iload_n 2, 1, 2, 0, .null), (.iconst (1), 1, 0, 0, .int (1))] (18, [(0, .ref 79), (1, .int x1), (2, .int x2)], [.int (1), .int x2], I, G, (gP rd)) (True) hX hi (by decide +kernel) rfl trivial ?_
    refine am_icmp_ne (tgt := 33) hX hi (off := (15)) (by decide +kernel) (by decide) (fun c18 => ?_) (fun c18 => ?_)
    · refine am_blk 33 [(.aload_n 0, 1, 0, 0, .null), (.getfield 47, 3, 12, 13, .null), (.getfield 364, 3, 11, 5, .null), (.iload_n 1, 1, 1, 0, .null), (.iaload, 1, 0, 0, .null)] (42, [(0, .ref 79), (1, .int x1), (2, .int x2)], [.int (I 104 x1.toNatClampNeg)], I, G, (gP rd)) (vp_in x1 4 ∧ True) hX hi (by decide +kernel) rfl ?_ ?_
      · exact ⟨(by first | assumption | (refine (i_in _ _).mpr ?_; simp only [i_lt, i_le, i_eq, i_0, i_of, am_n] at *; omega)), trivial⟩
      refine am_iret hX hi rfl rfl (by decide +kernel) ?_
      exact ⟨by unfold f_X14_combTold_79; rw [if_neg c1, if_neg c18], rfl, rfl, rfl⟩
    · refine am_blk 21 [(.aload_n 0, 1, 0, 0, .null), (.getfield 35, 3, 12, 11, .null), (.getfield 290, 3, 10, 10, .null), (.iload_n 1, 1, 1, 0, .null), (.iaload, 1, 0, 0, .null), (.goto (12), 3, 0, 42, .null)] (42, [(0, .ref 79), (1, .int x1), (2, .int x2)], [.int (I 92 x1.toNatClampNeg)], I, G, (gP rd)) (vp_in x1 4 ∧ True) hX hi (by decide +kernel) rfl ?_ ?_
      · exact ⟨(by first | assumption | (refine (i_in _ _).mpr ?_; simp only [i_lt, i_le, i_eq, i_0, i_of, am_n] at *; omega)), trivial⟩
      refine am_iret hX hi rfl rfl (by decide +kernel) ?_
      exact ⟨by unfold f_X14_combTold_79; rw [if_neg c1, if_pos c18], rfl, rfl, rfl⟩
  · refine am_blk 4 [(.aload_n 0, 1, 0, 0, .null), (.getfield 35, 3, 12, 11, .null), (.getfield 262, 3, 10, 9, .null), (.iload_n 1, 1, 1, 0, .null), (.iaload, 1, 0, 0, .null), (.goto (29), 3, 0, 42, .null)] (42, [(0, .ref 79), (1, .int x1), (2, .int x2)], [.int (I 91 x1.toNatClampNeg)], I, G, (gP rd)) (vp_in x1 4 ∧ True) hX hi (by decide +kernel) rfl ?_ ?_
    · exact ⟨(by first | assumption | (refine (i_in _ _).mpr ?_; simp only [i_lt, i_le, i_eq, i_0, i_of, am_n] at *; omega)), trivial⟩
    refine am_iret hX hi rfl rfl (by decide +kernel) ?_
    exact ⟨by unfold f_X14_combTold_79; rw [if_pos c1], rfl, rfl, rfl⟩
def f_X14_comb_79 (I : am_I) (G : am_G) (x1 : Int32) (x2 : Int32) : Int32 := (if (f_X14_isComb_79 (am_up I 79 0 (0)) G x1) = 0 then (f_X14_no_79 (am_up I 79 0 (0)) G (1)) else (if (f_X14_isIn (am_up I 79 0 (0)) G x2 (0) (2)) = 0 then (f_X14_no_79 (am_up I 79 0 (0)) G (1)) else (f_X14_combTold_79 (am_up I 79 0 (0)) G x1 x2)))
def g_X14_comb_79 (I : am_I) (G : am_G) (x1 : Int32) (x2 : Int32) : am_I := (if (f_X14_isComb_79 (am_up I 79 0 (0)) G x1) = 0 then (g_X14_no_79 (am_up I 79 0 (0)) G (1)) else (if (f_X14_isIn (am_up I 79 0 (0)) G x2 (0) (2)) = 0 then (g_X14_no_79 (am_up I 79 0 (0)) G (1)) else (am_up I 79 0 (0))))
set_option maxRecDepth 20000 in
set_option maxHeartbeats 1000000 in
theorem c_X14_comb_79 (rd : Nat) (I : am_I) (G : am_G) (x1 : Int32) (x2 : Int32) : am_Ct mX14_comb 3 gS [.ref 79, .int x1, .int x2] I G (gP rd) (pI (f_X14_comb_79 I G x1 x2) (g_X14_comb_79 I G x1 x2) G (gP rd)) := by
  refine am_ofF (by decide +kernel) rfl (by decide) (by decide) (Nat.le_of_ble_eq_true rfl) (fun X ad hX hi => ?_)
  have hi : am_info X 12 cX14_comb 3 false (Option.some Jvm.ClassFile.FieldType.int) 3 := hi
  show am_V X 0 0 _ _ ad (0, [(0, .ref 79), (1, .int x1), (2, .int x2)], [], I, G, (gP rd))
  refine am_blk 0 [(.aload_n 0, 1, 0, 0, .null), (.iconst (0), 1, 0, 0, .int (0)), (.putfield 57, 3, 12, 0, .null), (.aload_n 0, 1, 0, 0, .null), (.iload_n 1, 1, 1, 0, .null)] (7, [(0, .ref 79), (1, .int x1), (2, .int x2)], [.int x1, .ref 79], (am_up I 79 0 (0)), G, (gP rd)) (True) hX hi (by decide +kernel) rfl trivial ?_
  refine am_callV hX hi (M := mX14_isComb) (idx := 365) (d' := 2) (b := 79) (ci := 12) (As := [.int x1]) (rest := []) mkX14_isComb miX14_isComb mvX14_isComb (by decide +kernel) (by decide +kernel) rfl (by decide +kernel) rfl ⟨by decide, by decide, Nat.le_of_ble_eq_true rfl⟩ rfl (c_X14_isComb_79 rd (am_up I 79 0 (0)) G x1) ?_
  rintro r9 I9 G9 P9 ⟨e0, e1, e2, e3⟩
  rw [e0, e1, e2, e3]
  show am_V X 0 0 _ _ ad (10, [(0, .ref 79), (1, .int x1), (2, .int x2)], [.int (f_X14_isComb_79 (am_up I 79 0 (0)) G x1)], (am_up I 79 0 (0)), G, (gP rd))
  refine am_if_eq (tgt := 31) hX hi (off := (21)) (by decide +kernel) (by decide) (fun c10 => ?_) (fun c10 => ?_)
  · refine am_blk 31 [(.aload_n 0, 1, 0, 0, .null), (.iconst (1), 1, 0, 0, .int (1))] (33, [(0, .ref 79), (1, .int x1), (2, .int x2)], [.int (1), .ref 79], (am_up I 79 0 (0)), G, (gP rd)) (True) hX hi (by decide +kernel) rfl trivial ?_
    refine am_callV hX hi (M := mX14_no) (idx := 316) (d' := 1) (b := 79) (ci := 12) (As := [.int (1)]) (rest := []) mkX14_no miX14_no mvX14_no (by decide +kernel) (by decide +kernel) rfl (by decide +kernel) rfl ⟨by decide, by decide, Nat.le_of_ble_eq_true rfl⟩ rfl (c_X14_no_79 rd (am_up I 79 0 (0)) G (1)) ?_
    rintro r9 I9 G9 P9 ⟨e0, e1, e2, e3⟩
    rw [e0, e1, e2, e3]
    show am_V X 0 0 _ _ ad (36, [(0, .ref 79), (1, .int x1), (2, .int x2)], [.int (f_X14_no_79 (am_up I 79 0 (0)) G (1))], (g_X14_no_79 (am_up I 79 0 (0)) G (1)), G, (gP rd))
    refine am_iret hX hi rfl rfl (by decide +kernel) ?_
    exact ⟨by unfold f_X14_comb_79; rw [if_pos c10], by unfold g_X14_comb_79; rw [if_pos c10], rfl, rfl⟩
  · refine am_blk 13 [(.iload_n 2, 1, 2, 0, .null), (.iconst (0), 1, 0, 0, .int (0)), (.iconst (2), 1, 0, 0, .int (2))] (16, [(0, .ref 79), (1, .int x1), (2, .int x2)], [.int (2), .int (0), .int x2], (am_up I 79 0 (0)), G, (gP rd)) (True) hX hi (by decide +kernel) rfl trivial ?_
    refine am_callS hX hi (M := mX14_isIn) (idx := 63) (d' := 1) (As := [.int x2, .int (0), .int (2)]) (rest := []) mkX14_isIn msX14_isIn (by decide +kernel) (by decide +kernel) rfl ⟨by decide, by decide, Nat.le_of_ble_eq_true rfl⟩ rfl (c_X14_isIn (am_up I 79 0 (0)) G x2 (0) (2)) ?_
    rintro r9 I9 G9 P9 ⟨e0, e1, e2, e3⟩
    rw [e0, e1, e2, e3]
    show am_V X 0 0 _ _ ad (19, [(0, .ref 79), (1, .int x1), (2, .int x2)], [.int (f_X14_isIn (am_up I 79 0 (0)) G x2 (0) (2))], (am_up I 79 0 (0)), G, (gP rd))
    refine am_if_eq (tgt := 31) hX hi (off := (12)) (by decide +kernel) (by decide) (fun c19 => ?_) (fun c19 => ?_)
    · refine am_blk 31 [(.aload_n 0, 1, 0, 0, .null), (.iconst (1), 1, 0, 0, .int (1))] (33, [(0, .ref 79), (1, .int x1), (2, .int x2)], [.int (1), .ref 79], (am_up I 79 0 (0)), G, (gP rd)) (True) hX hi (by decide +kernel) rfl trivial ?_
      refine am_callV hX hi (M := mX14_no) (idx := 316) (d' := 1) (b := 79) (ci := 12) (As := [.int (1)]) (rest := []) mkX14_no miX14_no mvX14_no (by decide +kernel) (by decide +kernel) rfl (by decide +kernel) rfl ⟨by decide, by decide, Nat.le_of_ble_eq_true rfl⟩ rfl (c_X14_no_79 rd (am_up I 79 0 (0)) G (1)) ?_
      rintro r9 I9 G9 P9 ⟨e0, e1, e2, e3⟩
      rw [e0, e1, e2, e3]
      show am_V X 0 0 _ _ ad (36, [(0, .ref 79), (1, .int x1), (2, .int x2)], [.int (f_X14_no_79 (am_up I 79 0 (0)) G (1))], (g_X14_no_79 (am_up I 79 0 (0)) G (1)), G, (gP rd))
      refine am_iret hX hi rfl rfl (by decide +kernel) ?_
      exact ⟨by unfold f_X14_comb_79; rw [if_neg c10, if_pos c19], by unfold g_X14_comb_79; rw [if_neg c10, if_pos c19], rfl, rfl⟩
    · refine am_blk 22 [(.aload_n 0, 1, 0, 0, .null), (.iload_n 1, 1, 1, 0, .null), (.iload_n 2, 1, 2, 0, .null)] (25, [(0, .ref 79), (1, .int x1), (2, .int x2)], [.int x2, .int x1, .ref 79], (am_up I 79 0 (0)), G, (gP rd)) (True) hX hi (by decide +kernel) rfl trivial ?_
      refine am_callV hX hi (M := mX14_combTold) (idx := 368) (d' := 1) (b := 79) (ci := 12) (As := [.int x1, .int x2]) (rest := []) mkX14_combTold miX14_combTold mvX14_combTold (by decide +kernel) (by decide +kernel) rfl (by decide +kernel) rfl ⟨by decide, by decide, Nat.le_of_ble_eq_true rfl⟩ rfl (c_X14_combTold_79 rd (am_up I 79 0 (0)) G x1 x2) ?_
      rintro r9 I9 G9 P9 ⟨e0, e1, e2, e3⟩
      rw [e0, e1, e2, e3]
      show am_V X 0 0 _ _ ad (28, [(0, .ref 79), (1, .int x1), (2, .int x2)], [.int (f_X14_combTold_79 (am_up I 79 0 (0)) G x1 x2)], (am_up I 79 0 (0)), G, (gP rd))
      refine am_blk 28 [(.goto (8), 3, 0, 36, .null)] (36, [(0, .ref 79), (1, .int x1), (2, .int x2)], [.int (f_X14_combTold_79 (am_up I 79 0 (0)) G x1 x2)], (am_up I 79 0 (0)), G, (gP rd)) (True) hX hi (by decide +kernel) rfl trivial ?_
      refine am_iret hX hi rfl rfl (by decide +kernel) ?_
      exact ⟨by unfold f_X14_comb_79; rw [if_neg c10, if_neg c19], by unfold g_X14_comb_79; rw [if_neg c10, if_neg c19], rfl, rfl⟩
def f_X14_setPull_79 (I : am_I) (G : am_G) (x1 : Int32) (x2 : Int32) : Int32 := (if (f_X14_isComb_79 (am_up I 79 0 (0)) G x1) = 0 then (f_X14_no_79 (am_up I 79 0 (0)) G (1)) else (if (f_X14_isIn (am_up I 79 0 (0)) G x2 (0) (16)) = 0 then (f_X14_no_79 (am_up I 79 0 (0)) G (2)) else (I 104 x1.toNatClampNeg)))
def g_X14_setPull_79 (I : am_I) (G : am_G) (x1 : Int32) (x2 : Int32) : am_I := (if (f_X14_isComb_79 (am_up I 79 0 (0)) G x1) = 0 then (g_X14_no_79 (am_up I 79 0 (0)) G (1)) else (if (f_X14_isIn (am_up I 79 0 (0)) G x2 (0) (16)) = 0 then (g_X14_no_79 (am_up I 79 0 (0)) G (2)) else (g_X13_letPull_102 (am_up I 79 0 (0)) G x1 x2)))
set_option maxRecDepth 20000 in
set_option maxHeartbeats 1000000 in
theorem c_X14_setPull_79 (rd : Nat) (I : am_I) (G : am_G) (x1 : Int32) (x2 : Int32) : am_Ct mX14_setPull 3 gS [.ref 79, .int x1, .int x2] I G (gP rd) (pI (f_X14_setPull_79 I G x1 x2) (g_X14_setPull_79 I G x1 x2) G (gP rd)) := by
  refine am_ofF (by decide +kernel) rfl (by decide) (by decide) (Nat.le_of_ble_eq_true rfl) (fun X ad hX hi => ?_)
  have hi : am_info X 12 cX14_setPull 4 false (Option.some Jvm.ClassFile.FieldType.int) 3 := hi
  show am_V X 0 0 _ _ ad (0, [(0, .ref 79), (1, .int x1), (2, .int x2)], [], I, G, (gP rd))
  refine am_blk 0 [(.aload_n 0, 1, 0, 0, .null), (.iconst (0), 1, 0, 0, .int (0)), (.putfield 57, 3, 12, 0, .null), (.aload_n 0, 1, 0, 0, .null), (.iload_n 1, 1, 1, 0, .null)] (7, [(0, .ref 79), (1, .int x1), (2, .int x2)], [.int x1, .ref 79], (am_up I 79 0 (0)), G, (gP rd)) (True) hX hi (by decide +kernel) rfl trivial ?_
  refine am_callV hX hi (M := mX14_isComb) (idx := 365) (d' := 2) (b := 79) (ci := 12) (As := [.int x1]) (rest := []) mkX14_isComb miX14_isComb mvX14_isComb (by decide +kernel) (by decide +kernel) rfl (by decide +kernel) rfl ⟨by decide, by decide, Nat.le_of_ble_eq_true rfl⟩ rfl (c_X14_isComb_79 rd (am_up I 79 0 (0)) G x1) ?_
  rintro r9 I9 G9 P9 ⟨e0, e1, e2, e3⟩
  rw [e0, e1, e2, e3]
  show am_V X 0 0 _ _ ad (10, [(0, .ref 79), (1, .int x1), (2, .int x2)], [.int (f_X14_isComb_79 (am_up I 79 0 (0)) G x1)], (am_up I 79 0 (0)), G, (gP rd))
  refine am_if_ne (tgt := 19) hX hi (off := (9)) (by decide +kernel) (by decide) (fun c10 => ?_) (fun c10 => ?_)
  · refine am_blk 19 [(.iload_n 2, 1, 2, 0, .null), (.iconst (0), 1, 0, 0, .int (0)), (.bipush (16), 2, 0, 0, .int (16))] (23, [(0, .ref 79), (1, .int x1), (2, .int x2)], [.int (16), .int (0), .int x2], (am_up I 79 0 (0)), G, (gP rd)) (True) hX hi (by decide +kernel) rfl trivial ?_
    refine am_callS hX hi (M := mX14_isIn) (idx := 63) (d' := 1) (As := [.int x2, .int (0), .int (16)]) (rest := []) mkX14_isIn msX14_isIn (by decide +kernel) (by decide +kernel) rfl ⟨by decide, by decide, Nat.le_of_ble_eq_true rfl⟩ rfl (c_X14_isIn (am_up I 79 0 (0)) G x2 (0) (16)) ?_
    rintro r9 I9 G9 P9 ⟨e0, e1, e2, e3⟩
    rw [e0, e1, e2, e3]
    show am_V X 0 0 _ _ ad (26, [(0, .ref 79), (1, .int x1), (2, .int x2)], [.int (f_X14_isIn (am_up I 79 0 (0)) G x2 (0) (16))], (am_up I 79 0 (0)), G, (gP rd))
    refine am_if_ne (tgt := 35) hX hi (off := (9)) (by decide +kernel) (by decide) (fun c26 => ?_) (fun c26 => ?_)
    · refine am_blk 35 [(.aload_n 0, 1, 0, 0, .null), (.getfield 47, 3, 12, 13, .null), (.getfield 364, 3, 11, 5, .null), (.iload_n 1, 1, 1, 0, .null), (.iaload, 1, 0, 0, .null), (.istore_n 3, 1, 3, 0, .null), (.aload_n 0, 1, 0, 0, .null), (.getfield 47, 3, 12, 13, .null), (.iload_n 1, 1, 1, 0, .null), (.iload_n 2, 1, 2, 0, .null)] (51, [(0, .ref 79), (1, .int x1), (2, .int x2), (3, .int (I 104 x1.toNatClampNeg))], [.int x2, .int x1, .ref 102], (am_up I 79 0 (0)), G, (gP rd)) (vp_in x1 4 ∧ True) hX hi (by decide +kernel) rfl ?_ ?_
      · exact ⟨(by first | assumption | (refine (i_in _ _).mpr ?_; simp only [i_lt, i_le, i_eq, i_0, i_of, am_n] at *; omega)), trivial⟩
      refine am_callV hX hi (M := mX13_letPull) (idx := 374) (d' := 1) (b := 102) (ci := 11) (As := [.int x1, .int x2]) (rest := []) mkX13_letPull miX13_letPull mvX13_letPull (by decide +kernel) (by decide +kernel) rfl (by decide +kernel) rfl ⟨by decide, by decide, Nat.le_of_ble_eq_true rfl⟩ rfl (c_X13_letPull_102 rd (am_up I 79 0 (0)) G x1 x2) ?_
      rintro r9 I9 G9 P9 ⟨e0, e1, e2, e3⟩
      rw [e0, e1, e2, e3]
      show am_V X 0 0 _ _ ad (54, [(0, .ref 79), (1, .int x1), (2, .int x2), (3, .int (I 104 x1.toNatClampNeg))], [.int (f_X13_letPull_102 (am_up I 79 0 (0)) G x1 x2)], (g_X13_letPull_102 (am_up I 79 0 (0)) G x1 x2), G, (gP rd))
      refine am_blk 54 [(.pop, 1, 0, 0, .null), (.iload_n 3, 1, 3, 0, .null)] (56, [(0, .ref 79), (1, .int x1), (2, .int x2), (3, .int (I 104 x1.toNatClampNeg))], [.int (I 104 x1.toNatClampNeg)], (g_X13_letPull_102 (am_up I 79 0 (0)) G x1 x2), G, (gP rd)) (True) hX hi (by decide +kernel) rfl trivial ?_
      refine am_iret hX hi rfl rfl (by decide +kernel) ?_
      exact ⟨by unfold f_X14_setPull_79; rw [if_neg c10, if_neg c26], by unfold g_X14_setPull_79; rw [if_neg c10, if_neg c26], rfl, rfl⟩
    · refine am_blk 29 [(.aload_n 0, 1, 0, 0, .null), (.iconst (2), 1, 0, 0, .int (2))] (31, [(0, .ref 79), (1, .int x1), (2, .int x2)], [.int (2), .ref 79], (am_up I 79 0 (0)), G, (gP rd)) (True) hX hi (by decide +kernel) rfl trivial ?_
      refine am_callV hX hi (M := mX14_no) (idx := 316) (d' := 1) (b := 79) (ci := 12) (As := [.int (2)]) (rest := []) mkX14_no miX14_no mvX14_no (by decide +kernel) (by decide +kernel) rfl (by decide +kernel) rfl ⟨by decide, by decide, Nat.le_of_ble_eq_true rfl⟩ rfl (c_X14_no_79 rd (am_up I 79 0 (0)) G (2)) ?_
      rintro r9 I9 G9 P9 ⟨e0, e1, e2, e3⟩
      rw [e0, e1, e2, e3]
      show am_V X 0 0 _ _ ad (34, [(0, .ref 79), (1, .int x1), (2, .int x2)], [.int (f_X14_no_79 (am_up I 79 0 (0)) G (2))], (g_X14_no_79 (am_up I 79 0 (0)) G (2)), G, (gP rd))
      refine am_iret hX hi rfl rfl (by decide +kernel) ?_
      exact ⟨by unfold f_X14_setPull_79; rw [if_neg c10, if_pos c26], by unfold g_X14_setPull_79; rw [if_neg c10, if_pos c26], rfl, rfl⟩
  · refine am_blk 13 [(.aload_n 0, 1, 0, 0, .null), (.iconst (1), 1, 0, 0, .int (1))] (15, [(0, .ref 79), (1, .int x1), (2, .int x2)], [.int (1), .ref 79], (am_up I 79 0 (0)), G, (gP rd)) (True) hX hi (by decide +kernel) rfl trivial ?_
    refine am_callV hX hi (M := mX14_no) (idx := 316) (d' := 1) (b := 79) (ci := 12) (As := [.int (1)]) (rest := []) mkX14_no miX14_no mvX14_no (by decide +kernel) (by decide +kernel) rfl (by decide +kernel) rfl ⟨by decide, by decide, Nat.le_of_ble_eq_true rfl⟩ rfl (c_X14_no_79 rd (am_up I 79 0 (0)) G (1)) ?_
    rintro r9 I9 G9 P9 ⟨e0, e1, e2, e3⟩
    rw [e0, e1, e2, e3]
    show am_V X 0 0 _ _ ad (18, [(0, .ref 79), (1, .int x1), (2, .int x2)], [.int (f_X14_no_79 (am_up I 79 0 (0)) G (1))], (g_X14_no_79 (am_up I 79 0 (0)) G (1)), G, (gP rd))
    refine am_iret hX hi rfl rfl (by decide +kernel) ?_
    exact ⟨by unfold f_X14_setPull_79; rw [if_pos c10], by unfold g_X14_setPull_79; rw [if_pos c10], rfl, rfl⟩
def f_X14_setSeed_79 (I : am_I) (G : am_G) (x1 : Int32) (x2 : Int32) : Int32 := (if (f_X14_isOctave_79 (am_up I 79 0 (0)) G x1) = 0 then (f_X14_no_79 (am_up I 79 0 (0)) G (1)) else (if (f_X14_isIn (am_up I 79 0 (0)) G x2 (0) (999)) = 0 then (f_X14_no_79 (am_up I 79 0 (0)) G (2)) else (I 103 x1.toNatClampNeg)))
def g_X14_setSeed_79 (I : am_I) (G : am_G) (x1 : Int32) (x2 : Int32) : am_I := (if (f_X14_isOctave_79 (am_up I 79 0 (0)) G x1) = 0 then (g_X14_no_79 (am_up I 79 0 (0)) G (1)) else (if (f_X14_isIn (am_up I 79 0 (0)) G x2 (0) (999)) = 0 then (g_X14_no_79 (am_up I 79 0 (0)) G (2)) else (g_X13_letSeed_102 (am_up I 79 0 (0)) G x1 x2)))
set_option maxRecDepth 20000 in
set_option maxHeartbeats 1000000 in
theorem c_X14_setSeed_79 (rd : Nat) (I : am_I) (G : am_G) (x1 : Int32) (x2 : Int32) : am_Ct mX14_setSeed 3 gS [.ref 79, .int x1, .int x2] I G (gP rd) (pI (f_X14_setSeed_79 I G x1 x2) (g_X14_setSeed_79 I G x1 x2) G (gP rd)) := by
  refine am_ofF (by decide +kernel) rfl (by decide) (by decide) (Nat.le_of_ble_eq_true rfl) (fun X ad hX hi => ?_)
  have hi : am_info X 12 cX14_setSeed 4 false (Option.some Jvm.ClassFile.FieldType.int) 3 := hi
  show am_V X 0 0 _ _ ad (0, [(0, .ref 79), (1, .int x1), (2, .int x2)], [], I, G, (gP rd))
  refine am_blk 0 [(.aload_n 0, 1, 0, 0, .null), (.iconst (0), 1, 0, 0, .int (0)), (.putfield 57, 3, 12, 0, .null), (.aload_n 0, 1, 0, 0, .null), (.iload_n 1, 1, 1, 0, .null)] (7, [(0, .ref 79), (1, .int x1), (2, .int x2)], [.int x1, .ref 79], (am_up I 79 0 (0)), G, (gP rd)) (True) hX hi (by decide +kernel) rfl trivial ?_
  refine am_callV hX hi (M := mX14_isOctave) (idx := 351) (d' := 2) (b := 79) (ci := 12) (As := [.int x1]) (rest := []) mkX14_isOctave miX14_isOctave mvX14_isOctave (by decide +kernel) (by decide +kernel) rfl (by decide +kernel) rfl ⟨by decide, by decide, Nat.le_of_ble_eq_true rfl⟩ rfl (c_X14_isOctave_79 rd (am_up I 79 0 (0)) G x1) ?_
  rintro r9 I9 G9 P9 ⟨e0, e1, e2, e3⟩
  rw [e0, e1, e2, e3]
  show am_V X 0 0 _ _ ad (10, [(0, .ref 79), (1, .int x1), (2, .int x2)], [.int (f_X14_isOctave_79 (am_up I 79 0 (0)) G x1)], (am_up I 79 0 (0)), G, (gP rd))
  refine am_if_ne (tgt := 19) hX hi (off := (9)) (by decide +kernel) (by decide) (fun c10 => ?_) (fun c10 => ?_)
  · refine am_blk 19 [(.iload_n 2, 1, 2, 0, .null), (.iconst (0), 1, 0, 0, .int (0)), (.sipush (999), 3, 0, 0, .int (999))] (24, [(0, .ref 79), (1, .int x1), (2, .int x2)], [.int (999), .int (0), .int x2], (am_up I 79 0 (0)), G, (gP rd)) (True) hX hi (by decide +kernel) rfl trivial ?_
    refine am_callS hX hi (M := mX14_isIn) (idx := 63) (d' := 1) (As := [.int x2, .int (0), .int (999)]) (rest := []) mkX14_isIn msX14_isIn (by decide +kernel) (by decide +kernel) rfl ⟨by decide, by decide, Nat.le_of_ble_eq_true rfl⟩ rfl (c_X14_isIn (am_up I 79 0 (0)) G x2 (0) (999)) ?_
    rintro r9 I9 G9 P9 ⟨e0, e1, e2, e3⟩
    rw [e0, e1, e2, e3]
    show am_V X 0 0 _ _ ad (27, [(0, .ref 79), (1, .int x1), (2, .int x2)], [.int (f_X14_isIn (am_up I 79 0 (0)) G x2 (0) (999))], (am_up I 79 0 (0)), G, (gP rd))
    refine am_if_ne (tgt := 36) hX hi (off := (9)) (by decide +kernel) (by decide) (fun c27 => ?_) (fun c27 => ?_)
    · refine am_blk 36 [(.aload_n 0, 1, 0, 0, .null), (.getfield 47, 3, 12, 13, .null), (.getfield 350, 3, 11, 4, .null), (.iload_n 1, 1, 1, 0, .null), (.iaload, 1, 0, 0, .null), (.istore_n 3, 1, 3, 0, .null), (.aload_n 0, 1, 0, 0, .null), (.getfield 47, 3, 12, 13, .null), (.iload_n 1, 1, 1, 0, .null), (.iload_n 2, 1, 2, 0, .null)] (52, [(0, .ref 79), (1, .int x1), (2, .int x2), (3, .int (I 103 x1.toNatClampNeg))], [.int x2, .int x1, .ref 102], (am_up I 79 0 (0)), G, (gP rd)) (vp_in x1 4 ∧ True) hX hi (by decide +kernel) rfl ?_ ?_
      · exact ⟨(by first | assumption | (refine (i_in _ _).mpr ?_; simp only [i_lt, i_le, i_eq, i_0, i_of, am_n] at *; omega)), trivial⟩
      refine am_callV hX hi (M := mX13_letSeed) (idx := 377) (d' := 1) (b := 102) (ci := 11) (As := [.int x1, .int x2]) (rest := []) mkX13_letSeed miX13_letSeed mvX13_letSeed (by decide +kernel) (by decide +kernel) rfl (by decide +kernel) rfl ⟨by decide, by decide, Nat.le_of_ble_eq_true rfl⟩ rfl (c_X13_letSeed_102 rd (am_up I 79 0 (0)) G x1 x2) ?_
      rintro r9 I9 G9 P9 ⟨e0, e1, e2, e3⟩
      rw [e0, e1, e2, e3]
      show am_V X 0 0 _ _ ad (55, [(0, .ref 79), (1, .int x1), (2, .int x2), (3, .int (I 103 x1.toNatClampNeg))], [.int (f_X13_letSeed_102 (am_up I 79 0 (0)) G x1 x2)], (g_X13_letSeed_102 (am_up I 79 0 (0)) G x1 x2), G, (gP rd))
      refine am_blk 55 [(.pop, 1, 0, 0, .null), (.iload_n 3, 1, 3, 0, .null)] (57, [(0, .ref 79), (1, .int x1), (2, .int x2), (3, .int (I 103 x1.toNatClampNeg))], [.int (I 103 x1.toNatClampNeg)], (g_X13_letSeed_102 (am_up I 79 0 (0)) G x1 x2), G, (gP rd)) (True) hX hi (by decide +kernel) rfl trivial ?_
      refine am_iret hX hi rfl rfl (by decide +kernel) ?_
      exact ⟨by unfold f_X14_setSeed_79; rw [if_neg c10, if_neg c27], by unfold g_X14_setSeed_79; rw [if_neg c10, if_neg c27], rfl, rfl⟩
    · refine am_blk 30 [(.aload_n 0, 1, 0, 0, .null), (.iconst (2), 1, 0, 0, .int (2))] (32, [(0, .ref 79), (1, .int x1), (2, .int x2)], [.int (2), .ref 79], (am_up I 79 0 (0)), G, (gP rd)) (True) hX hi (by decide +kernel) rfl trivial ?_
      refine am_callV hX hi (M := mX14_no) (idx := 316) (d' := 1) (b := 79) (ci := 12) (As := [.int (2)]) (rest := []) mkX14_no miX14_no mvX14_no (by decide +kernel) (by decide +kernel) rfl (by decide +kernel) rfl ⟨by decide, by decide, Nat.le_of_ble_eq_true rfl⟩ rfl (c_X14_no_79 rd (am_up I 79 0 (0)) G (2)) ?_
      rintro r9 I9 G9 P9 ⟨e0, e1, e2, e3⟩
      rw [e0, e1, e2, e3]
      show am_V X 0 0 _ _ ad (35, [(0, .ref 79), (1, .int x1), (2, .int x2)], [.int (f_X14_no_79 (am_up I 79 0 (0)) G (2))], (g_X14_no_79 (am_up I 79 0 (0)) G (2)), G, (gP rd))
      refine am_iret hX hi rfl rfl (by decide +kernel) ?_
      exact ⟨by unfold f_X14_setSeed_79; rw [if_neg c10, if_pos c27], by unfold g_X14_setSeed_79; rw [if_neg c10, if_pos c27], rfl, rfl⟩
  · refine am_blk 13 [(.aload_n 0, 1, 0, 0, .null), (.iconst (1), 1, 0, 0, .int (1))] (15, [(0, .ref 79), (1, .int x1), (2, .int x2)], [.int (1), .ref 79], (am_up I 79 0 (0)), G, (gP rd)) (True) hX hi (by decide +kernel) rfl trivial ?_
    refine am_callV hX hi (M := mX14_no) (idx := 316) (d' := 1) (b := 79) (ci := 12) (As := [.int (1)]) (rest := []) mkX14_no miX14_no mvX14_no (by decide +kernel) (by decide +kernel) rfl (by decide +kernel) rfl ⟨by decide, by decide, Nat.le_of_ble_eq_true rfl⟩ rfl (c_X14_no_79 rd (am_up I 79 0 (0)) G (1)) ?_
    rintro r9 I9 G9 P9 ⟨e0, e1, e2, e3⟩
    rw [e0, e1, e2, e3]
    show am_V X 0 0 _ _ ad (18, [(0, .ref 79), (1, .int x1), (2, .int x2)], [.int (f_X14_no_79 (am_up I 79 0 (0)) G (1))], (g_X14_no_79 (am_up I 79 0 (0)) G (1)), G, (gP rd))
    refine am_iret hX hi rfl rfl (by decide +kernel) ?_
    exact ⟨by unfold f_X14_setSeed_79; rw [if_pos c10], by unfold g_X14_setSeed_79; rw [if_pos c10], rfl, rfl⟩
def g_X6_advance_28 (I : am_I) (G : am_G)  : am_I := (if (I 28 6) = (41) then I else (if (I 28 6) = (42) then I else (am_up (am_up I 28 5 ((I 28 5) + (1))) 28 6 (f_X9_kindAt_1 (am_up I 28 5 ((I 28 5) + (1))) G ((I 28 5) + (1))))))
set_option maxRecDepth 20000 in
set_option maxHeartbeats 1000000 in
theorem c_X6_advance_28 (rd : Nat) (I : am_I) (G : am_G)  : am_Ct mX6_advance 2 gS [.ref 28] I G (gP rd) (pV (g_X6_advance_28 I G ) G (gP rd)) := by
  refine am_ofF (by decide +kernel) rfl (by decide) (by decide) (Nat.le_of_ble_eq_true rfl) (fun X ad hX hi => ?_)
  have hi : am_info X 4 cX6_advance 1 false none 2 := hi
  show am_V X 0 0 _ _ ad (0, [(0, .ref 28)], [], I, G, (gP rd))
  refine am_blk 0 [(.aload_n 0, 1, 0, 0, .null), (.getfield 62, 3, 4, 6, .null), (.bipush (41), 2, 0, 0, .int (41))] (6, [(0, .ref 28)], [.int (41), .int (I 28 6)], I, G, (gP rd)) (True) hX hi (by decide +kernel) rfl trivial ?_
  refine am_icmp_eq (tgt := 43) hX hi (off := (37)) (by decide +kernel) (by decide) (fun c6 => ?_) (fun c6 => ?_)
  · refine am_vret hX hi rfl (by decide +kernel) ?_
    exact ⟨rfl, by unfold g_X6_advance_28; rw [if_pos c6], rfl, rfl⟩
  · refine am_blk 9 [(.aload_n 0, 1, 0, 0, .null), (.getfield 62, 3, 4, 6, .null), (.bipush (42), 2, 0, 0, .int (42))] (15, [(0, .ref 28)], [.int (42), .int (I 28 6)], I, G, (gP rd)) (True) hX hi (by decide +kernel) rfl trivial ?_
    refine am_icmp_eq (tgt := 43) hX hi (off := (28)) (by decide +kernel) (by decide) (fun c15 => ?_) (fun c15 => ?_)
    · refine am_vret hX hi rfl (by decide +kernel) ?_
      exact ⟨rfl, by unfold g_X6_advance_28; rw [if_neg c6, if_pos c15], rfl, rfl⟩
    · refine am_blk 18 [(.aload_n 0, 1, 0, 0, .null), (.dup, 1, 0, 0, .null), (.getfield 55, 3, 4, 5, .null), (.iconst (1), 1, 0, 0, .int (1)), (.iadd, 1, 0, 0, .null), (.putfield 55, 3, 4, 5, .null), (.aload_n 0, 1, 0, 0, .null), (.aload_n 0, 1, 0, 0, .null), (.getfield 33, 3, 4, 0, .null), (.aload_n 0, 1, 0, 0, .null), (.getfield 55, 3, 4, 5, .null)] (37, [(0, .ref 28)], [.int ((I 28 5) + (1)), .ref 1, .ref 28], (am_up I 28 5 ((I 28 5) + (1))), G, (gP rd)) (True) hX hi (by decide +kernel) rfl trivial ?_
      refine am_callV hX hi (M := mX9_kindAt) (idx := 58) (d' := 1) (b := 1) (ci := 7) (As := [.int ((I 28 5) + (1))]) (rest := [.ref 28]) mkX9_kindAt miX9_kindAt mvX9_kindAt (by decide +kernel) (by decide +kernel) rfl (by decide +kernel) rfl ⟨by decide, by decide, Nat.le_of_ble_eq_true rfl⟩ rfl (c_X9_kindAt_1 rd (am_up I 28 5 ((I 28 5) + (1))) G ((I 28 5) + (1))) ?_
      rintro r9 I9 G9 P9 ⟨e0, e1, e2, e3⟩
      rw [e0, e1, e2, e3]
      show am_V X 0 0 _ _ ad (40, [(0, .ref 28)], [.int (f_X9_kindAt_1 (am_up I 28 5 ((I 28 5) + (1))) G ((I 28 5) + (1))), .ref 28], (am_up I 28 5 ((I 28 5) + (1))), G, (gP rd))
      refine am_blk 40 [(.putfield 62, 3, 4, 6, .null)] (43, [(0, .ref 28)], [], (am_up (am_up I 28 5 ((I 28 5) + (1))) 28 6 (f_X9_kindAt_1 (am_up I 28 5 ((I 28 5) + (1))) G ((I 28 5) + (1)))), G, (gP rd)) (True) hX hi (by decide +kernel) rfl trivial ?_
      refine am_vret hX hi rfl (by decide +kernel) ?_
      exact ⟨rfl, by unfold g_X6_advance_28; rw [if_neg c6, if_neg c15], rfl, rfl⟩
def g_X6_refuse_28 (I : am_I) (G : am_G)  : am_I := (if (I 28 7) = (1) then (am_up I 28 6 (42)) else (am_up (am_up (am_up I 28 7 (1)) 28 8 (f_X9_startAt_1 (am_up I 28 7 (1)) G (I 28 5))) 28 6 (42)))
set_option maxRecDepth 20000 in
set_option maxHeartbeats 1000000 in
theorem c_X6_refuse_28 (rd : Nat) (I : am_I) (G : am_G)  : am_Ct mX6_refuse 3 gS [.ref 28] I G (gP rd) (pV (g_X6_refuse_28 I G ) G (gP rd)) := by
  refine am_ofF (by decide +kernel) rfl (by decide) (by decide) (Nat.le_of_ble_eq_true rfl) (fun X ad hX hi => ?_)
  have hi : am_info X 4 cX6_refuse 1 false none 3 := hi
  show am_V X 0 0 _ _ ad (0, [(0, .ref 28)], [], I, G, (gP rd))
  refine am_blk 0 [(.aload_n 0, 1, 0, 0, .null), (.getfield 48, 3, 4, 7, .null), (.iconst (1), 1, 0, 0, .int (1))] (5, [(0, .ref 28)], [.int (1), .int (I 28 7)], I, G, (gP rd)) (True) hX hi (by decide +kernel) rfl trivial ?_
  refine am_icmp_eq (tgt := 28) hX hi (off := (23)) (by decide +kernel) (by decide) (fun c5 => ?_) (fun c5 => ?_)
  · refine am_blk 28 [(.aload_n 0, 1, 0, 0, .null), (.bipush (42), 2, 0, 0, .int (42)), (.putfield 62, 3, 4, 6, .null)] (34, [(0, .ref 28)], [], (am_up I 28 6 (42)), G, (gP rd)) (True) hX hi (by decide +kernel) rfl trivial ?_
    refine am_vret hX hi rfl (by decide +kernel) ?_
    exact ⟨rfl, by unfold g_X6_refuse_28; rw [if_pos c5], rfl, rfl⟩
  · refine am_blk 8 [(.aload_n 0, 1, 0, 0, .null), (.iconst (1), 1, 0, 0, .int (1)), (.putfield 48, 3, 4, 7, .null), (.aload_n 0, 1, 0, 0, .null), (.aload_n 0, 1, 0, 0, .null), (.getfield 33, 3, 4, 0, .null), (.aload_n 0, 1, 0, 0, .null), (.getfield 55, 3, 4, 5, .null)] (22, [(0, .ref 28)], [.int (I 28 5), .ref 1, .ref 28], (am_up I 28 7 (1)), G, (gP rd)) (True) hX hi (by decide +kernel) rfl trivial ?_
    refine am_callV hX hi (M := mX9_startAt) (idx := 198) (d' := 2) (b := 1) (ci := 7) (As := [.int (I 28 5)]) (rest := [.ref 28]) mkX9_startAt miX9_startAt mvX9_startAt (by decide +kernel) (by decide +kernel) rfl (by decide +kernel) rfl ⟨by decide, by decide, Nat.le_of_ble_eq_true rfl⟩ rfl (c_X9_startAt_1 rd (am_up I 28 7 (1)) G (I 28 5)) ?_
    rintro r9 I9 G9 P9 ⟨e0, e1, e2, e3⟩
    rw [e0, e1, e2, e3]
    show am_V X 0 0 _ _ ad (25, [(0, .ref 28)], [.int (f_X9_startAt_1 (am_up I 28 7 (1)) G (I 28 5)), .ref 28], (am_up I 28 7 (1)), G, (gP rd))
    refine am_blk 25 [(.putfield 52, 3, 4, 8, .null), (.aload_n 0, 1, 0, 0, .null), (.bipush (42), 2, 0, 0, .int (42)), (.putfield 62, 3, 4, 6, .null)] (34, [(0, .ref 28)], [], (am_up (am_up (am_up I 28 7 (1)) 28 8 (f_X9_startAt_1 (am_up I 28 7 (1)) G (I 28 5))) 28 6 (42)), G, (gP rd)) (True) hX hi (by decide +kernel) rfl trivial ?_
    refine am_vret hX hi rfl (by decide +kernel) ?_
    exact ⟨rfl, by unfold g_X6_refuse_28; rw [if_neg c5], rfl, rfl⟩
def g_X6_fault_28 (I : am_I) (G : am_G) (x1 : Int32) : am_I := (if (I 28 7) = 0 then (am_up (am_up I 28 7 x1) 28 8 (f_X9_startAt_1 (am_up I 28 7 x1) G (I 28 5))) else I)
set_option maxRecDepth 20000 in
set_option maxHeartbeats 1000000 in
theorem c_X6_fault_28 (rd : Nat) (I : am_I) (G : am_G) (x1 : Int32) : am_Ct mX6_fault 3 gS [.ref 28, .int x1] I G (gP rd) (pV (g_X6_fault_28 I G x1) G (gP rd)) := by
  refine am_ofF (by decide +kernel) rfl (by decide) (by decide) (Nat.le_of_ble_eq_true rfl) (fun X ad hX hi => ?_)
  have hi : am_info X 4 cX6_fault 2 false none 3 := hi
  show am_V X 0 0 _ _ ad (0, [(0, .ref 28), (1, .int x1)], [], I, G, (gP rd))
  refine am_blk 0 [(.aload_n 0, 1, 0, 0, .null), (.getfield 48, 3, 4, 7, .null)] (4, [(0, .ref 28), (1, .int x1)], [.int (I 28 7)], I, G, (gP rd)) (True) hX hi (by decide +kernel) rfl trivial ?_
  refine am_if_ne (tgt := 27) hX hi (off := (23)) (by decide +kernel) (by decide) (fun c4 => ?_) (fun c4 => ?_)
  · refine am_vret hX hi rfl (by decide +kernel) ?_
    exact ⟨rfl, by unfold g_X6_fault_28; rw [if_neg c4], rfl, rfl⟩
  · refine am_blk 7 [(.aload_n 0, 1, 0, 0, .null), (.iload_n 1, 1, 1, 0, .null), (.putfield 48, 3, 4, 7, .null), (.aload_n 0, 1, 0, 0, .null), (.aload_n 0, 1, 0, 0, .null), (.getfield 33, 3, 4, 0, .null), (.aload_n 0, 1, 0, 0, .null), (.getfield 55, 3, 4, 5, .null)] (21, [(0, .ref 28), (1, .int x1)], [.int (I 28 5), .ref 1, .ref 28], (am_up I 28 7 x1), G, (gP rd)) (True) hX hi (by decide +kernel) rfl trivial ?_
    refine am_callV hX hi (M := mX9_startAt) (idx := 198) (d' := 2) (b := 1) (ci := 7) (As := [.int (I 28 5)]) (rest := [.ref 28]) mkX9_startAt miX9_startAt mvX9_startAt (by decide +kernel) (by decide +kernel) rfl (by decide +kernel) rfl ⟨by decide, by decide, Nat.le_of_ble_eq_true rfl⟩ rfl (c_X9_startAt_1 rd (am_up I 28 7 x1) G (I 28 5)) ?_
    rintro r9 I9 G9 P9 ⟨e0, e1, e2, e3⟩
    rw [e0, e1, e2, e3]
    show am_V X 0 0 _ _ ad (24, [(0, .ref 28), (1, .int x1)], [.int (f_X9_startAt_1 (am_up I 28 7 x1) G (I 28 5)), .ref 28], (am_up I 28 7 x1), G, (gP rd))
    refine am_blk 24 [(.putfield 52, 3, 4, 8, .null)] (27, [(0, .ref 28), (1, .int x1)], [], (am_up (am_up I 28 7 x1) 28 8 (f_X9_startAt_1 (am_up I 28 7 x1) G (I 28 5))), G, (gP rd)) (True) hX hi (by decide +kernel) rfl trivial ?_
    refine am_vret hX hi rfl (by decide +kernel) ?_
    exact ⟨rfl, by unfold g_X6_fault_28; rw [if_pos c4], rfl, rfl⟩
def f_X10_valueKept_25 (I : am_I) (G : am_G) (x1 : Int32) (x2 : Int32) (x3 : Int32) : Int32 := (gAt (I 26) 18432 (((f_X10_sheetOf I G x1 x2) * (576)) + x3))
set_option maxRecDepth 20000 in
set_option maxHeartbeats 1000000 in
theorem c_X10_valueKept_25 (rd : Nat) (I : am_I) (G : am_G) (x1 : Int32) (x2 : Int32) (x3 : Int32) : am_Ct mX10_valueKept 2 gS [.ref 25, .int x1, .int x2, .int x3] I G (gP rd) (pI (f_X10_valueKept_25 I G x1 x2 x3) I G (gP rd)) := by
  refine am_ofF (by decide +kernel) rfl (by decide) (by decide) (Nat.le_of_ble_eq_true rfl) (fun X ad hX hi => ?_)
  have hi : am_info X 8 cX10_valueKept 4 false (Option.some Jvm.ClassFile.FieldType.int) 2 := hi
  show am_V X 0 0 _ _ ad (0, [(0, .ref 25), (1, .int x1), (2, .int x2), (3, .int x3)], [], I, G, (gP rd))
  refine am_blk 0 [(.aload_n 0, 1, 0, 0, .null), (.getfield 9, 3, 8, 1, .null), (.iload_n 1, 1, 1, 0, .null), (.iload_n 2, 1, 2, 0, .null)] (6, [(0, .ref 25), (1, .int x1), (2, .int x2), (3, .int x3)], [.int x2, .int x1, .ref 26], I, G, (gP rd)) (True) hX hi (by decide +kernel) rfl trivial ?_
  refine am_callS hX hi (M := mX10_sheetOf) (idx := 22) (d' := 1) (As := [.int x1, .int x2]) (rest := [.ref 26]) mkX10_sheetOf msX10_sheetOf (by decide +kernel) (by decide +kernel) rfl ⟨by decide, by decide, Nat.le_of_ble_eq_true rfl⟩ rfl (c_X10_sheetOf I G x1 x2) ?_
  rintro r9 I9 G9 P9 ⟨e0, e1, e2, e3⟩
  rw [e0, e1, e2, e3]
  show am_V X 0 0 _ _ ad (9, [(0, .ref 25), (1, .int x1), (2, .int x2), (3, .int x3)], [.int (f_X10_sheetOf I G x1 x2), .ref 26], I, G, (gP rd))
  refine am_blk 9 [(.sipush (576), 3, 0, 0, .int (576)), (.imul, 1, 0, 0, .null), (.iload_n 3, 1, 3, 0, .null), (.iadd, 1, 0, 0, .null)] (15, [(0, .ref 25), (1, .int x1), (2, .int x2), (3, .int x3)], [.int (((f_X10_sheetOf I G x1 x2) * (576)) + x3), .ref 26], I, G, (gP rd)) (True) hX hi (by decide +kernel) rfl trivial ?_
  refine am_callS hX hi (M := mX0_at) (idx := 26) (d' := 1) (As := [.ref 26, .int (((f_X10_sheetOf I G x1 x2) * (576)) + x3)]) (rest := []) mkX0_at msX0_at (by decide +kernel) (by decide +kernel) rfl ⟨by decide, by decide, Nat.le_of_ble_eq_true rfl⟩ rfl (c_at rfl (by decide) (((f_X10_sheetOf I G x1 x2) * (576)) + x3)) ?_
  rintro r9 I9 G9 P9 ⟨e0, e1, e2, e3⟩
  rw [e0, e1, e2, e3]
  show am_V X 0 0 _ _ ad (18, [(0, .ref 25), (1, .int x1), (2, .int x2), (3, .int x3)], [.int (gAt (I 26) 18432 (((f_X10_sheetOf I G x1 x2) * (576)) + x3))], I, G, (gP rd))
  refine am_iret hX hi rfl rfl (by decide +kernel) ?_
  exact ⟨by unfold f_X10_valueKept_25; rfl, rfl, rfl, rfl⟩
def f_X6_readComparison_28 (I : am_I) (G : am_G)  : Int32 := (if (I 28 6) < (34) then (I 28 6) else (I 28 6))
def g_X6_readComparison_28 (I : am_I) (G : am_G)  : am_I := (if (I 28 6) < (34) then (g_X6_refuse_28 I G ) else (if (I 28 6) ≤ (38) then (g_X6_advance_28 I G ) else (g_X6_refuse_28 I G )))
set_option maxRecDepth 20000 in
set_option maxHeartbeats 1000000 in
theorem c_X6_readComparison_28 (rd : Nat) (I : am_I) (G : am_G)  : am_Ct mX6_readComparison 4 gS [.ref 28] I G (gP rd) (pI (f_X6_readComparison_28 I G ) (g_X6_readComparison_28 I G ) G (gP rd)) := by
  refine am_ofF (by decide +kernel) rfl (by decide) (by decide) (Nat.le_of_ble_eq_true rfl) (fun X ad hX hi => ?_)
  have hi : am_info X 4 cX6_readComparison 2 false (Option.some Jvm.ClassFile.FieldType.int) 4 := hi
  show am_V X 0 0 _ _ ad (0, [(0, .ref 28)], [], I, G, (gP rd))
  refine am_blk 0 [(.aload_n 0, 1, 0, 0, .null), (.getfield 62, 3, 4, 6, .null), (.istore_n 1, 1, 1, 0, .null), (.iload_n 1, 1, 1, 0, .null), (.bipush (34), 2, 0, 0, .int (34))] (8, [(0, .ref 28), (1, .int (I 28 6))], [.int (34), .int (I 28 6)], I, G, (gP rd)) (True) hX hi (by decide +kernel) rfl trivial ?_
  refine am_icmp_lt (tgt := 17) hX hi (off := (9)) (by decide +kernel) (by decide) (fun c8 => ?_) (fun c8 => ?_)
  · refine am_blk 17 [(.aload_n 0, 1, 0, 0, .null)] (18, [(0, .ref 28), (1, .int (I 28 6))], [.ref 28], I, G, (gP rd)) (True) hX hi (by decide +kernel) rfl trivial ?_
    refine am_callV hX hi (M := mX6_refuse) (idx := 70) (d' := 3) (b := 28) (ci := 4) (As := []) (rest := []) mkX6_refuse miX6_refuse mvX6_refuse (by decide +kernel) (by decide +kernel) rfl (by decide +kernel) rfl ⟨by decide, by decide, Nat.le_of_ble_eq_true rfl⟩ rfl (c_X6_refuse_28 rd I G ) ?_
    rintro r9 I9 G9 P9 ⟨e0, e1, e2, e3⟩
    rw [e0, e1, e2, e3]
    show am_V X 0 0 _ _ ad (21, [(0, .ref 28), (1, .int (I 28 6))], [], (g_X6_refuse_28 I G ), G, (gP rd))
    refine am_blk 21 [(.goto (7), 3, 0, 28, .null), (.iload_n 1, 1, 1, 0, .null)] (29, [(0, .ref 28), (1, .int (I 28 6))], [.int (I 28 6)], (g_X6_refuse_28 I G ), G, (gP rd)) (True) hX hi (by decide +kernel) rfl trivial ?_
    refine am_iret hX hi rfl rfl (by decide +kernel) ?_
    exact ⟨by unfold f_X6_readComparison_28; rw [if_pos c8], by unfold g_X6_readComparison_28; rw [if_pos c8], rfl, rfl⟩
  · refine am_blk 11 [(.iload_n 1, 1, 1, 0, .null), (.bipush (38), 2, 0, 0, .int (38))] (14, [(0, .ref 28), (1, .int (I 28 6))], [.int (38), .int (I 28 6)], I, G, (gP rd)) (True) hX hi (by decide +kernel) rfl trivial ?_
    refine am_icmp_le (tgt := 24) hX hi (off := (10)) (by decide +kernel) (by decide) (fun c14 => ?_) (fun c14 => ?_)
    · refine am_blk 24 [(.aload_n 0, 1, 0, 0, .null)] (25, [(0, .ref 28), (1, .int (I 28 6))], [.ref 28], I, G, (gP rd)) (True) hX hi (by decide +kernel) rfl trivial ?_
      refine am_callV hX hi (M := mX6_advance) (idx := 100) (d' := 2) (b := 28) (ci := 4) (As := []) (rest := []) mkX6_advance miX6_advance mvX6_advance (by decide +kernel) (by decide +kernel) rfl (by decide +kernel) rfl ⟨by decide, by decide, Nat.le_of_ble_eq_true rfl⟩ rfl (c_X6_advance_28 rd I G ) ?_
      rintro r9 I9 G9 P9 ⟨e0, e1, e2, e3⟩
      rw [e0, e1, e2, e3]
      show am_V X 0 0 _ _ ad (28, [(0, .ref 28), (1, .int (I 28 6))], [], (g_X6_advance_28 I G ), G, (gP rd))
      refine am_blk 28 [(.iload_n 1, 1, 1, 0, .null)] (29, [(0, .ref 28), (1, .int (I 28 6))], [.int (I 28 6)], (g_X6_advance_28 I G ), G, (gP rd)) (True) hX hi (by decide +kernel) rfl trivial ?_
      refine am_iret hX hi rfl rfl (by decide +kernel) ?_
      exact ⟨by unfold f_X6_readComparison_28; rw [if_neg c8], by unfold g_X6_readComparison_28; rw [if_neg c8, if_pos c14], rfl, rfl⟩
    · refine am_blk 17 [(.aload_n 0, 1, 0, 0, .null)] (18, [(0, .ref 28), (1, .int (I 28 6))], [.ref 28], I, G, (gP rd)) (True) hX hi (by decide +kernel) rfl trivial ?_
      refine am_callV hX hi (M := mX6_refuse) (idx := 70) (d' := 3) (b := 28) (ci := 4) (As := []) (rest := []) mkX6_refuse miX6_refuse mvX6_refuse (by decide +kernel) (by decide +kernel) rfl (by decide +kernel) rfl ⟨by decide, by decide, Nat.le_of_ble_eq_true rfl⟩ rfl (c_X6_refuse_28 rd I G ) ?_
      rintro r9 I9 G9 P9 ⟨e0, e1, e2, e3⟩
      rw [e0, e1, e2, e3]
      show am_V X 0 0 _ _ ad (21, [(0, .ref 28), (1, .int (I 28 6))], [], (g_X6_refuse_28 I G ), G, (gP rd))
      refine am_blk 21 [(.goto (7), 3, 0, 28, .null), (.iload_n 1, 1, 1, 0, .null)] (29, [(0, .ref 28), (1, .int (I 28 6))], [.int (I 28 6)], (g_X6_refuse_28 I G ), G, (gP rd)) (True) hX hi (by decide +kernel) rfl trivial ?_
      refine am_iret hX hi rfl rfl (by decide +kernel) ?_
      exact ⟨by unfold f_X6_readComparison_28; rw [if_neg c8], by unfold g_X6_readComparison_28; rw [if_neg c8, if_neg c14], rfl, rfl⟩
def f_X6_readNumber_28 (I : am_I) (G : am_G) (x1 : Int32) (x2 : Int32) : Int32 := (if (I 28 6) = (40) then (if (f_X9_contentAt_1 I G (I 28 5)).toInt32 < x1 then (f_X9_contentAt_1 I G (I 28 5)).toInt32 else (f_X9_contentAt_1 I G (I 28 5)).toInt32) else x1)
def g_X6_readNumber_28 (I : am_I) (G : am_G) (x1 : Int32) (x2 : Int32) : am_I := (if (I 28 6) = (40) then (if (f_X9_contentAt_1 I G (I 28 5)).toInt32 < x1 then (g_X6_advance_28 (g_X6_fault_28 I G (5)) G ) else (if (f_X9_contentAt_1 I G (I 28 5)).toInt32 ≤ x2 then (g_X6_advance_28 I G ) else (g_X6_advance_28 (g_X6_fault_28 I G (5)) G ))) else (g_X6_refuse_28 I G ))
set_option maxRecDepth 20000 in
set_option maxHeartbeats 1000000 in
theorem c_X6_readNumber_28 (rd : Nat) (I : am_I) (G : am_G) (x1 : Int32) (x2 : Int32) : am_Ct mX6_readNumber 4 gS [.ref 28, .int x1, .int x2] I G (gP rd) (pI (f_X6_readNumber_28 I G x1 x2) (g_X6_readNumber_28 I G x1 x2) G (gP rd)) := by
  refine am_ofF (by decide +kernel) rfl (by decide) (by decide) (Nat.le_of_ble_eq_true rfl) (fun X ad hX hi => ?_)
  have hi : am_info X 4 cX6_readNumber 4 false (Option.some Jvm.ClassFile.FieldType.int) 4 := hi
  show am_V X 0 0 _ _ ad (0, [(0, .ref 28), (1, .int x1), (2, .int x2)], [], I, G, (gP rd))
  refine am_blk 0 [(.aload_n 0, 1, 0, 0, .null), (.getfield 62, 3, 4, 6, .null), (.bipush (40), 2, 0, 0, .int (40))] (6, [(0, .ref 28), (1, .int x1), (2, .int x2)], [.int (40), .int (I 28 6)], I, G, (gP rd)) (True) hX hi (by decide +kernel) rfl trivial ?_
  refine am_icmp_eq (tgt := 15) hX hi (off := (9)) (by decide +kernel) (by decide) (fun c6 => ?_) (fun c6 => ?_)
  · refine am_blk 15 [(.aload_n 0, 1, 0, 0, .null), (.getfield 33, 3, 4, 0, .null), (.aload_n 0, 1, 0, 0, .null), (.getfield 55, 3, 4, 5, .null)] (23, [(0, .ref 28), (1, .int x1), (2, .int x2)], [.int (I 28 5), .ref 1], I, G, (gP rd)) (True) hX hi (by decide +kernel) rfl trivial ?_
    refine am_callV hX hi (M := mX9_contentAt) (idx := 176) (d' := 1) (b := 1) (ci := 7) (As := [.int (I 28 5)]) (rest := []) mkX9_contentAt miX9_contentAt mvX9_contentAt (by decide +kernel) (by decide +kernel) rfl (by decide +kernel) rfl ⟨by decide, by decide, Nat.le_of_ble_eq_true rfl⟩ rfl (c_X9_contentAt_1 rd I G (I 28 5)) ?_
    rintro r9 I9 G9 P9 ⟨e0, e1, e2, e3⟩
    rw [e0, e1, e2, e3]
    show am_V X 0 0 _ _ ad (26, [(0, .ref 28), (1, .int x1), (2, .int x2)], [.long (f_X9_contentAt_1 I G (I 28 5))], I, G, (gP rd))
    refine am_blk 26 [(.l2i, 1, 0, 0, .null), (.istore_n 3, 1, 3, 0, .null), (.iload_n 3, 1, 3, 0, .null), (.iload_n 1, 1, 1, 0, .null)] (30, [(0, .ref 28), (1, .int x1), (2, .int x2), (3, .int (f_X9_contentAt_1 I G (I 28 5)).toInt32)], [.int x1, .int (f_X9_contentAt_1 I G (I 28 5)).toInt32], I, G, (gP rd)) (True) hX hi (by decide +kernel) rfl trivial ?_
    refine am_icmp_lt (tgt := 38) hX hi (off := (8)) (by decide +kernel) (by decide) (fun c30 => ?_) (fun c30 => ?_)
    · refine am_blk 38 [(.aload_n 0, 1, 0, 0, .null), (.iconst (5), 1, 0, 0, .int (5))] (40, [(0, .ref 28), (1, .int x1), (2, .int x2), (3, .int (f_X9_contentAt_1 I G (I 28 5)).toInt32)], [.int (5), .ref 28], I, G, (gP rd)) (True) hX hi (by decide +kernel) rfl trivial ?_
      refine am_callV hX hi (M := mX6_fault) (idx := 147) (d' := 3) (b := 28) (ci := 4) (As := [.int (5)]) (rest := []) mkX6_fault miX6_fault mvX6_fault (by decide +kernel) (by decide +kernel) rfl (by decide +kernel) rfl ⟨by decide, by decide, Nat.le_of_ble_eq_true rfl⟩ rfl (c_X6_fault_28 rd I G (5)) ?_
      rintro r9 I9 G9 P9 ⟨e0, e1, e2, e3⟩
      rw [e0, e1, e2, e3]
      show am_V X 0 0 _ _ ad (43, [(0, .ref 28), (1, .int x1), (2, .int x2), (3, .int (f_X9_contentAt_1 I G (I 28 5)).toInt32)], [], (g_X6_fault_28 I G (5)), G, (gP rd))
      refine am_blk 43 [(.aload_n 0, 1, 0, 0, .null)] (44, [(0, .ref 28), (1, .int x1), (2, .int x2), (3, .int (f_X9_contentAt_1 I G (I 28 5)).toInt32)], [.ref 28], (g_X6_fault_28 I G (5)), G, (gP rd)) (True) hX hi (by decide +kernel) rfl trivial ?_
      refine am_callV hX hi (M := mX6_advance) (idx := 100) (d' := 2) (b := 28) (ci := 4) (As := []) (rest := []) mkX6_advance miX6_advance mvX6_advance (by decide +kernel) (by decide +kernel) rfl (by decide +kernel) rfl ⟨by decide, by decide, Nat.le_of_ble_eq_true rfl⟩ rfl (c_X6_advance_28 rd (g_X6_fault_28 I G (5)) G ) ?_
      rintro r9 I9 G9 P9 ⟨e0, e1, e2, e3⟩
      rw [e0, e1, e2, e3]
      show am_V X 0 0 _ _ ad (47, [(0, .ref 28), (1, .int x1), (2, .int x2), (3, .int (f_X9_contentAt_1 I G (I 28 5)).toInt32)], [], (g_X6_advance_28 (g_X6_fault_28 I G (5)) G ), G, (gP rd))
      refine am_blk 47 [(.iload_n 3, 1, 3, 0, .null)] (48, [(0, .ref 28), (1, .int x1), (2, .int x2), (3, .int (f_X9_contentAt_1 I G (I 28 5)).toInt32)], [.int (f_X9_contentAt_1 I G (I 28 5)).toInt32], (g_X6_advance_28 (g_X6_fault_28 I G (5)) G ), G, (gP rd)) (True) hX hi (by decide +kernel) rfl trivial ?_
      refine am_iret hX hi rfl rfl (by decide +kernel) ?_
      exact ⟨by unfold f_X6_readNumber_28; rw [if_pos c6, if_pos c30], by unfold g_X6_readNumber_28; rw [if_pos c6, if_pos c30], rfl, rfl⟩
    · refine am_blk 33 [(.iload_n 3, 1, 3, 0, .null), (.iload_n 2, 1, 2, 0, .null)] (35, [(0, .ref 28), (1, .int x1), (2, .int x2), (3, .int (f_X9_contentAt_1 I G (I 28 5)).toInt32)], [.int x2, .int (f_X9_contentAt_1 I G (I 28 5)).toInt32], I, G, (gP rd)) (True) hX hi (by decide +kernel) rfl trivial ?_
      refine am_icmp_le (tgt := 43) hX hi (off := (8)) (by decide +kernel) (by decide) (fun c35 => ?_) (fun c35 => ?_)
      · refine am_blk 43 [(.aload_n 0, 1, 0, 0, .null)] (44, [(0, .ref 28), (1, .int x1), (2, .int x2), (3, .int (f_X9_contentAt_1 I G (I 28 5)).toInt32)], [.ref 28], I, G, (gP rd)) (True) hX hi (by decide +kernel) rfl trivial ?_
        refine am_callV hX hi (M := mX6_advance) (idx := 100) (d' := 2) (b := 28) (ci := 4) (As := []) (rest := []) mkX6_advance miX6_advance mvX6_advance (by decide +kernel) (by decide +kernel) rfl (by decide +kernel) rfl ⟨by decide, by decide, Nat.le_of_ble_eq_true rfl⟩ rfl (c_X6_advance_28 rd I G ) ?_
        rintro r9 I9 G9 P9 ⟨e0, e1, e2, e3⟩
        rw [e0, e1, e2, e3]
        show am_V X 0 0 _ _ ad (47, [(0, .ref 28), (1, .int x1), (2, .int x2), (3, .int (f_X9_contentAt_1 I G (I 28 5)).toInt32)], [], (g_X6_advance_28 I G ), G, (gP rd))
        refine am_blk 47 [(.iload_n 3, 1, 3, 0, .null)] (48, [(0, .ref 28), (1, .int x1), (2, .int x2), (3, .int (f_X9_contentAt_1 I G (I 28 5)).toInt32)], [.int (f_X9_contentAt_1 I G (I 28 5)).toInt32], (g_X6_advance_28 I G ), G, (gP rd)) (True) hX hi (by decide +kernel) rfl trivial ?_
        refine am_iret hX hi rfl rfl (by decide +kernel) ?_
        exact ⟨by unfold f_X6_readNumber_28; rw [if_pos c6, if_neg c30], by unfold g_X6_readNumber_28; rw [if_pos c6, if_neg c30, if_pos c35], rfl, rfl⟩
      · refine am_blk 38 [(.aload_n 0, 1, 0, 0, .null), (.iconst (5), 1, 0, 0, .int (5))] (40, [(0, .ref 28), (1, .int x1), (2, .int x2), (3, .int (f_X9_contentAt_1 I G (I 28 5)).toInt32)], [.int (5), .ref 28], I, G, (gP rd)) (True) hX hi (by decide +kernel) rfl trivial ?_
        refine am_callV hX hi (M := mX6_fault) (idx := 147) (d' := 3) (b := 28) (ci := 4) (As := [.int (5)]) (rest := []) mkX6_fault miX6_fault mvX6_fault (by decide +kernel) (by decide +kernel) rfl (by decide +kernel) rfl ⟨by decide, by decide, Nat.le_of_ble_eq_true rfl⟩ rfl (c_X6_fault_28 rd I G (5)) ?_
        rintro r9 I9 G9 P9 ⟨e0, e1, e2, e3⟩
        rw [e0, e1, e2, e3]
        show am_V X 0 0 _ _ ad (43, [(0, .ref 28), (1, .int x1), (2, .int x2), (3, .int (f_X9_contentAt_1 I G (I 28 5)).toInt32)], [], (g_X6_fault_28 I G (5)), G, (gP rd))
        refine am_blk 43 [(.aload_n 0, 1, 0, 0, .null)] (44, [(0, .ref 28), (1, .int x1), (2, .int x2), (3, .int (f_X9_contentAt_1 I G (I 28 5)).toInt32)], [.ref 28], (g_X6_fault_28 I G (5)), G, (gP rd)) (True) hX hi (by decide +kernel) rfl trivial ?_
        refine am_callV hX hi (M := mX6_advance) (idx := 100) (d' := 2) (b := 28) (ci := 4) (As := []) (rest := []) mkX6_advance miX6_advance mvX6_advance (by decide +kernel) (by decide +kernel) rfl (by decide +kernel) rfl ⟨by decide, by decide, Nat.le_of_ble_eq_true rfl⟩ rfl (c_X6_advance_28 rd (g_X6_fault_28 I G (5)) G ) ?_
        rintro r9 I9 G9 P9 ⟨e0, e1, e2, e3⟩
        rw [e0, e1, e2, e3]
        show am_V X 0 0 _ _ ad (47, [(0, .ref 28), (1, .int x1), (2, .int x2), (3, .int (f_X9_contentAt_1 I G (I 28 5)).toInt32)], [], (g_X6_advance_28 (g_X6_fault_28 I G (5)) G ), G, (gP rd))
        refine am_blk 47 [(.iload_n 3, 1, 3, 0, .null)] (48, [(0, .ref 28), (1, .int x1), (2, .int x2), (3, .int (f_X9_contentAt_1 I G (I 28 5)).toInt32)], [.int (f_X9_contentAt_1 I G (I 28 5)).toInt32], (g_X6_advance_28 (g_X6_fault_28 I G (5)) G ), G, (gP rd)) (True) hX hi (by decide +kernel) rfl trivial ?_
        refine am_iret hX hi rfl rfl (by decide +kernel) ?_
        exact ⟨by unfold f_X6_readNumber_28; rw [if_pos c6, if_neg c30], by unfold g_X6_readNumber_28; rw [if_pos c6, if_neg c30, if_neg c35], rfl, rfl⟩
  · refine am_blk 9 [(.aload_n 0, 1, 0, 0, .null)] (10, [(0, .ref 28), (1, .int x1), (2, .int x2)], [.ref 28], I, G, (gP rd)) (True) hX hi (by decide +kernel) rfl trivial ?_
    refine am_callV hX hi (M := mX6_refuse) (idx := 70) (d' := 3) (b := 28) (ci := 4) (As := []) (rest := []) mkX6_refuse miX6_refuse mvX6_refuse (by decide +kernel) (by decide +kernel) rfl (by decide +kernel) rfl ⟨by decide, by decide, Nat.le_of_ble_eq_true rfl⟩ rfl (c_X6_refuse_28 rd I G ) ?_
    rintro r9 I9 G9 P9 ⟨e0, e1, e2, e3⟩
    rw [e0, e1, e2, e3]
    show am_V X 0 0 _ _ ad (13, [(0, .ref 28), (1, .int x1), (2, .int x2)], [], (g_X6_refuse_28 I G ), G, (gP rd))
    refine am_blk 13 [(.iload_n 1, 1, 1, 0, .null)] (14, [(0, .ref 28), (1, .int x1), (2, .int x2)], [.int x1], (g_X6_refuse_28 I G ), G, (gP rd)) (True) hX hi (by decide +kernel) rfl trivial ?_
    refine am_iret hX hi rfl rfl (by decide +kernel) ?_
    exact ⟨by unfold f_X6_readNumber_28; rw [if_neg c6], by unfold g_X6_readNumber_28; rw [if_neg c6], rfl, rfl⟩
def f_X6_readWay_28 (I : am_I) (G : am_G)  : Int32 := (if (I 28 6) = (4) then (if (I 28 6) = (3) then (1) else (1)) else (if (I 28 6) = (3) then (0) else (0)))
def g_X6_readWay_28 (I : am_I) (G : am_G)  : am_I := (if (I 28 6) = (4) then (if (I 28 6) = (3) then (g_X6_advance_28 I G ) else (if (I 28 6) = (4) then (g_X6_advance_28 I G ) else (g_X6_refuse_28 I G ))) else (if (I 28 6) = (3) then (g_X6_advance_28 I G ) else (if (I 28 6) = (4) then (g_X6_advance_28 I G ) else (g_X6_refuse_28 I G ))))
set_option maxRecDepth 20000 in
set_option maxHeartbeats 1000000 in
theorem c_X6_readWay_28 (rd : Nat) (I : am_I) (G : am_G)  : am_Ct mX6_readWay 4 gS [.ref 28] I G (gP rd) (pI (f_X6_readWay_28 I G ) (g_X6_readWay_28 I G ) G (gP rd)) := by
  refine am_ofF (by decide +kernel) rfl (by decide) (by decide) (Nat.le_of_ble_eq_true rfl) (fun X ad hX hi => ?_)
  have hi : am_info X 4 cX6_readWay 2 false (Option.some Jvm.ClassFile.FieldType.int) 4 := hi
  show am_V X 0 0 _ _ ad (0, [(0, .ref 28)], [], I, G, (gP rd))
  refine am_blk 0 [(.aload_n 0, 1, 0, 0, .null), (.getfield 62, 3, 4, 6, .null), (.iconst (4), 1, 0, 0, .int (4))] (5, [(0, .ref 28)], [.int (4), .int (I 28 6)], I, G, (gP rd)) (True) hX hi (by decide +kernel) rfl trivial ?_
  refine am_icmp_ne (tgt := 12) hX hi (off := (7)) (by decide +kernel) (by decide) (fun c5 => ?_) (fun c5 => ?_)
  · refine am_blk 12 [(.iconst (0), 1, 0, 0, .int (0)), (.istore_n 1, 1, 1, 0, .null), (.aload_n 0, 1, 0, 0, .null), (.getfield 62, 3, 4, 6, .null), (.iconst (3), 1, 0, 0, .int (3))] (19, [(0, .ref 28), (1, .int (0))], [.int (3), .int (I 28 6)], I, G, (gP rd)) (True) hX hi (by decide +kernel) rfl trivial ?_
    refine am_icmp_eq (tgt := 37) hX hi (off := (18)) (by decide +kernel) (by decide) (fun c19 => ?_) (fun c19 => ?_)
    · refine am_blk 37 [(.aload_n 0, 1, 0, 0, .null)] (38, [(0, .ref 28), (1, .int (0))], [.ref 28], I, G, (gP rd)) (True) hX hi (by decide +kernel) rfl trivial ?_
      refine am_callV hX hi (M := mX6_advance) (idx := 100) (d' := 2) (b := 28) (ci := 4) (As := []) (rest := []) mkX6_advance miX6_advance mvX6_advance (by decide +kernel) (by decide +kernel) rfl (by decide +kernel) rfl ⟨by decide, by decide, Nat.le_of_ble_eq_true rfl⟩ rfl (c_X6_advance_28 rd I G ) ?_
      rintro r9 I9 G9 P9 ⟨e0, e1, e2, e3⟩
      rw [e0, e1, e2, e3]
      show am_V X 0 0 _ _ ad (41, [(0, .ref 28), (1, .int (0))], [], (g_X6_advance_28 I G ), G, (gP rd))
      refine am_blk 41 [(.iload_n 1, 1, 1, 0, .null)] (42, [(0, .ref 28), (1, .int (0))], [.int (0)], (g_X6_advance_28 I G ), G, (gP rd)) (True) hX hi (by decide +kernel) rfl trivial ?_
      refine am_iret hX hi rfl rfl (by decide +kernel) ?_
      exact ⟨by unfold f_X6_readWay_28; rw [if_neg c5, if_pos c19], by unfold g_X6_readWay_28; rw [if_neg c5, if_pos c19], rfl, rfl⟩
    · refine am_blk 22 [(.aload_n 0, 1, 0, 0, .null), (.getfield 62, 3, 4, 6, .null), (.iconst (4), 1, 0, 0, .int (4))] (27, [(0, .ref 28), (1, .int (0))], [.int (4), .int (I 28 6)], I, G, (gP rd)) (True) hX hi (by decide +kernel) rfl trivial ?_
      refine am_icmp_eq (tgt := 37) hX hi (off := (10)) (by decide +kernel) (by decide) (fun c27 => ?_) (fun c27 => ?_)
      · refine am_blk 37 [(.aload_n 0, 1, 0, 0, .null)] (38, [(0, .ref 28), (1, .int (0))], [.ref 28], I, G, (gP rd)) (True) hX hi (by decide +kernel) rfl trivial ?_
        refine am_callV hX hi (M := mX6_advance) (idx := 100) (d' := 2) (b := 28) (ci := 4) (As := []) (rest := []) mkX6_advance miX6_advance mvX6_advance (by decide +kernel) (by decide +kernel) rfl (by decide +kernel) rfl ⟨by decide, by decide, Nat.le_of_ble_eq_true rfl⟩ rfl (c_X6_advance_28 rd I G ) ?_
        rintro r9 I9 G9 P9 ⟨e0, e1, e2, e3⟩
        rw [e0, e1, e2, e3]
        show am_V X 0 0 _ _ ad (41, [(0, .ref 28), (1, .int (0))], [], (g_X6_advance_28 I G ), G, (gP rd))
        refine am_blk 41 [(.iload_n 1, 1, 1, 0, .null)] (42, [(0, .ref 28), (1, .int (0))], [.int (0)], (g_X6_advance_28 I G ), G, (gP rd)) (True) hX hi (by decide +kernel) rfl trivial ?_
        refine am_iret hX hi rfl rfl (by decide +kernel) ?_
        exact ⟨by unfold f_X6_readWay_28; rw [if_neg c5, if_neg c19], by unfold g_X6_readWay_28; rw [if_neg c5, if_neg c19, if_pos c27], rfl, rfl⟩
      · refine am_blk 30 [(.aload_n 0, 1, 0, 0, .null)] (31, [(0, .ref 28), (1, .int (0))], [.ref 28], I, G, (gP rd)) (True) hX hi (by decide +kernel) rfl trivial ?_
        refine am_callV hX hi (M := mX6_refuse) (idx := 70) (d' := 3) (b := 28) (ci := 4) (As := []) (rest := []) mkX6_refuse miX6_refuse mvX6_refuse (by decide +kernel) (by decide +kernel) rfl (by decide +kernel) rfl ⟨by decide, by decide, Nat.le_of_ble_eq_true rfl⟩ rfl (c_X6_refuse_28 rd I G ) ?_
        rintro r9 I9 G9 P9 ⟨e0, e1, e2, e3⟩
        rw [e0, e1, e2, e3]
        show am_V X 0 0 _ _ ad (34, [(0, .ref 28), (1, .int (0))], [], (g_X6_refuse_28 I G ), G, (gP rd))
        refine am_blk 34 [(.goto (7), 3, 0, 41, .null), (.iload_n 1, 1, 1, 0, .null)] (42, [(0, .ref 28), (1, .int (0))], [.int (0)], (g_X6_refuse_28 I G ), G, (gP rd)) (True) hX hi (by decide +kernel) rfl trivial ?_
        refine am_iret hX hi rfl rfl (by decide +kernel) ?_
        exact ⟨by unfold f_X6_readWay_28; rw [if_neg c5, if_neg c19], by unfold g_X6_readWay_28; rw [if_neg c5, if_neg c19, if_neg c27], rfl, rfl⟩
  · refine am_blk 8 [(.iconst (1), 1, 0, 0, .int (1)), (.goto (4), 3, 0, 13, .null), (.istore_n 1, 1, 1, 0, .null), (.aload_n 0, 1, 0, 0, .null), (.getfield 62, 3, 4, 6, .null), (.iconst (3), 1, 0, 0, .int (3))] (19, [(0, .ref 28), (1, .int (1))], [.int (3), .int (I 28 6)], I, G, (gP rd)) (True) hX hi (by decide +kernel) rfl trivial ?_
    refine am_icmp_eq (tgt := 37) hX hi (off := (18)) (by decide +kernel) (by decide) (fun c19 => ?_) (fun c19 => ?_)
    · refine am_blk 37 [(.aload_n 0, 1, 0, 0, .null)] (38, [(0, .ref 28), (1, .int (1))], [.ref 28], I, G, (gP rd)) (True) hX hi (by decide +kernel) rfl trivial ?_
      refine am_callV hX hi (M := mX6_advance) (idx := 100) (d' := 2) (b := 28) (ci := 4) (As := []) (rest := []) mkX6_advance miX6_advance mvX6_advance (by decide +kernel) (by decide +kernel) rfl (by decide +kernel) rfl ⟨by decide, by decide, Nat.le_of_ble_eq_true rfl⟩ rfl (c_X6_advance_28 rd I G ) ?_
      rintro r9 I9 G9 P9 ⟨e0, e1, e2, e3⟩
      rw [e0, e1, e2, e3]
      show am_V X 0 0 _ _ ad (41, [(0, .ref 28), (1, .int (1))], [], (g_X6_advance_28 I G ), G, (gP rd))
      refine am_blk 41 [(.iload_n 1, 1, 1, 0, .null)] (42, [(0, .ref 28), (1, .int (1))], [.int (1)], (g_X6_advance_28 I G ), G, (gP rd)) (True) hX hi (by decide +kernel) rfl trivial ?_
      refine am_iret hX hi rfl rfl (by decide +kernel) ?_
      exact ⟨by unfold f_X6_readWay_28; rw [if_pos c5, if_pos c19], by unfold g_X6_readWay_28; rw [if_pos c5, if_pos c19], rfl, rfl⟩
    · refine am_blk 22 [(.aload_n 0, 1, 0, 0, .null), (.getfield 62, 3, 4, 6, .null), (.iconst (4), 1, 0, 0, .int (4))] (27, [(0, .ref 28), (1, .int (1))], [.int (4), .int (I 28 6)], I, G, (gP rd)) (True) hX hi (by decide +kernel) rfl trivial ?_
      refine am_icmp_eq (tgt := 37) hX hi (off := (10)) (by decide +kernel) (by decide) (fun c27 => ?_) (fun c27 => ?_)
      · refine am_blk 37 [(.aload_n 0, 1, 0, 0, .null)] (38, [(0, .ref 28), (1, .int (1))], [.ref 28], I, G, (gP rd)) (True) hX hi (by decide +kernel) rfl trivial ?_
        refine am_callV hX hi (M := mX6_advance) (idx := 100) (d' := 2) (b := 28) (ci := 4) (As := []) (rest := []) mkX6_advance miX6_advance mvX6_advance (by decide +kernel) (by decide +kernel) rfl (by decide +kernel) rfl ⟨by decide, by decide, Nat.le_of_ble_eq_true rfl⟩ rfl (c_X6_advance_28 rd I G ) ?_
        rintro r9 I9 G9 P9 ⟨e0, e1, e2, e3⟩
        rw [e0, e1, e2, e3]
        show am_V X 0 0 _ _ ad (41, [(0, .ref 28), (1, .int (1))], [], (g_X6_advance_28 I G ), G, (gP rd))
        refine am_blk 41 [(.iload_n 1, 1, 1, 0, .null)] (42, [(0, .ref 28), (1, .int (1))], [.int (1)], (g_X6_advance_28 I G ), G, (gP rd)) (True) hX hi (by decide +kernel) rfl trivial ?_
        refine am_iret hX hi rfl rfl (by decide +kernel) ?_
        exact ⟨by unfold f_X6_readWay_28; rw [if_pos c5, if_neg c19], by unfold g_X6_readWay_28; rw [if_pos c5, if_neg c19, if_pos c27], rfl, rfl⟩
      · refine am_blk 30 [(.aload_n 0, 1, 0, 0, .null)] (31, [(0, .ref 28), (1, .int (1))], [.ref 28], I, G, (gP rd)) (True) hX hi (by decide +kernel) rfl trivial ?_
        refine am_callV hX hi (M := mX6_refuse) (idx := 70) (d' := 3) (b := 28) (ci := 4) (As := []) (rest := []) mkX6_refuse miX6_refuse mvX6_refuse (by decide +kernel) (by decide +kernel) rfl (by decide +kernel) rfl ⟨by decide, by decide, Nat.le_of_ble_eq_true rfl⟩ rfl (c_X6_refuse_28 rd I G ) ?_
        rintro r9 I9 G9 P9 ⟨e0, e1, e2, e3⟩
        rw [e0, e1, e2, e3]
        show am_V X 0 0 _ _ ad (34, [(0, .ref 28), (1, .int (1))], [], (g_X6_refuse_28 I G ), G, (gP rd))
        refine am_blk 34 [(.goto (7), 3, 0, 41, .null), (.iload_n 1, 1, 1, 0, .null)] (42, [(0, .ref 28), (1, .int (1))], [.int (1)], (g_X6_refuse_28 I G ), G, (gP rd)) (True) hX hi (by decide +kernel) rfl trivial ?_
        refine am_iret hX hi rfl rfl (by decide +kernel) ?_
        exact ⟨by unfold f_X6_readWay_28; rw [if_pos c5, if_neg c19], by unfold g_X6_readWay_28; rw [if_pos c5, if_neg c19, if_neg c27], rfl, rfl⟩
def g_X6_expect_28 (I : am_I) (G : am_G) (x1 : Int32) : am_I := (if (I 28 6) = x1 then (g_X6_advance_28 I G ) else (g_X6_refuse_28 I G ))
set_option maxRecDepth 20000 in
set_option maxHeartbeats 1000000 in
theorem c_X6_expect_28 (rd : Nat) (I : am_I) (G : am_G) (x1 : Int32) : am_Ct mX6_expect 4 gS [.ref 28, .int x1] I G (gP rd) (pV (g_X6_expect_28 I G x1) G (gP rd)) := by
  refine am_ofF (by decide +kernel) rfl (by decide) (by decide) (Nat.le_of_ble_eq_true rfl) (fun X ad hX hi => ?_)
  have hi : am_info X 4 cX6_expect 2 false none 4 := hi
  show am_V X 0 0 _ _ ad (0, [(0, .ref 28), (1, .int x1)], [], I, G, (gP rd))
  refine am_blk 0 [(.aload_n 0, 1, 0, 0, .null), (.getfield 62, 3, 4, 6, .null), (.iload_n 1, 1, 1, 0, .null)] (5, [(0, .ref 28), (1, .int x1)], [.int x1, .int (I 28 6)], I, G, (gP rd)) (True) hX hi (by decide +kernel) rfl trivial ?_
  refine am_icmp_ne (tgt := 15) hX hi (off := (10)) (by decide +kernel) (by decide) (fun c5 => ?_) (fun c5 => ?_)
  · refine am_blk 15 [(.aload_n 0, 1, 0, 0, .null)] (16, [(0, .ref 28), (1, .int x1)], [.ref 28], I, G, (gP rd)) (True) hX hi (by decide +kernel) rfl trivial ?_
    refine am_callV hX hi (M := mX6_refuse) (idx := 70) (d' := 3) (b := 28) (ci := 4) (As := []) (rest := []) mkX6_refuse miX6_refuse mvX6_refuse (by decide +kernel) (by decide +kernel) rfl (by decide +kernel) rfl ⟨by decide, by decide, Nat.le_of_ble_eq_true rfl⟩ rfl (c_X6_refuse_28 rd I G ) ?_
    rintro r9 I9 G9 P9 ⟨e0, e1, e2, e3⟩
    rw [e0, e1, e2, e3]
    show am_V X 0 0 _ _ ad (19, [(0, .ref 28), (1, .int x1)], [], (g_X6_refuse_28 I G ), G, (gP rd))
    refine am_vret hX hi rfl (by decide +kernel) ?_
    exact ⟨rfl, by unfold g_X6_expect_28; rw [if_neg c5], rfl, rfl⟩
  · refine am_blk 8 [(.aload_n 0, 1, 0, 0, .null)] (9, [(0, .ref 28), (1, .int x1)], [.ref 28], I, G, (gP rd)) (True) hX hi (by decide +kernel) rfl trivial ?_
    refine am_callV hX hi (M := mX6_advance) (idx := 100) (d' := 2) (b := 28) (ci := 4) (As := []) (rest := []) mkX6_advance miX6_advance mvX6_advance (by decide +kernel) (by decide +kernel) rfl (by decide +kernel) rfl ⟨by decide, by decide, Nat.le_of_ble_eq_true rfl⟩ rfl (c_X6_advance_28 rd I G ) ?_
    rintro r9 I9 G9 P9 ⟨e0, e1, e2, e3⟩
    rw [e0, e1, e2, e3]
    show am_V X 0 0 _ _ ad (12, [(0, .ref 28), (1, .int x1)], [], (g_X6_advance_28 I G ), G, (gP rd))
    refine am_blk 12 [(.goto (7), 3, 0, 19, .null)] (19, [(0, .ref 28), (1, .int x1)], [], (g_X6_advance_28 I G ), G, (gP rd)) (True) hX hi (by decide +kernel) rfl trivial ?_
    refine am_vret hX hi rfl (by decide +kernel) ?_
    exact ⟨rfl, by unfold g_X6_expect_28; rw [if_pos c5], rfl, rfl⟩
def g_X6_readPaper_28 (I : am_I) (G : am_G)  : am_I := (am_up (g_X6_readNumber_28 (g_X6_expect_28 (am_up (g_X6_readNumber_28 (g_X6_advance_28 I G ) G (4) (24)) 29 9 (f_X6_readNumber_28 (g_X6_advance_28 I G ) G (4) (24))) G (1)) G (4) (24)) 29 10 (f_X6_readNumber_28 (g_X6_expect_28 (am_up (g_X6_readNumber_28 (g_X6_advance_28 I G ) G (4) (24)) 29 9 (f_X6_readNumber_28 (g_X6_advance_28 I G ) G (4) (24))) G (1)) G (4) (24)))
set_option maxRecDepth 20000 in
set_option maxHeartbeats 1000000 in
theorem c_X6_readPaper_28 (rd : Nat) (I : am_I) (G : am_G)  : am_Ct mX6_readPaper 5 gS [.ref 28] I G (gP rd) (pV (g_X6_readPaper_28 I G ) G (gP rd)) := by
  refine am_ofF (by decide +kernel) rfl (by decide) (by decide) (Nat.le_of_ble_eq_true rfl) (fun X ad hX hi => ?_)
  have hi : am_info X 4 cX6_readPaper 1 false none 5 := hi
  show am_V X 0 0 _ _ ad (0, [(0, .ref 28)], [], I, G, (gP rd))
  refine am_blk 0 [(.aload_n 0, 1, 0, 0, .null)] (1, [(0, .ref 28)], [.ref 28], I, G, (gP rd)) (True) hX hi (by decide +kernel) rfl trivial ?_
  refine am_callV hX hi (M := mX6_advance) (idx := 100) (d' := 2) (b := 28) (ci := 4) (As := []) (rest := []) mkX6_advance miX6_advance mvX6_advance (by decide +kernel) (by decide +kernel) rfl (by decide +kernel) rfl ⟨by decide, by decide, Nat.le_of_ble_eq_true rfl⟩ rfl (c_X6_advance_28 rd I G ) ?_
  rintro r9 I9 G9 P9 ⟨e0, e1, e2, e3⟩
  rw [e0, e1, e2, e3]
  show am_V X 0 0 _ _ ad (4, [(0, .ref 28)], [], (g_X6_advance_28 I G ), G, (gP rd))
  refine am_blk 4 [(.aload_n 0, 1, 0, 0, .null), (.getfield 12, 3, 4, 1, .null), (.aload_n 0, 1, 0, 0, .null), (.iconst (4), 1, 0, 0, .int (4)), (.bipush (24), 2, 0, 0, .int (24))] (12, [(0, .ref 28)], [.int (24), .int (4), .ref 28, .ref 29], (g_X6_advance_28 I G ), G, (gP rd)) (True) hX hi (by decide +kernel) rfl trivial ?_
  refine am_callV hX hi (M := mX6_readNumber) (idx := 112) (d' := 4) (b := 28) (ci := 4) (As := [.int (4), .int (24)]) (rest := [.ref 29]) mkX6_readNumber miX6_readNumber mvX6_readNumber (by decide +kernel) (by decide +kernel) rfl (by decide +kernel) rfl ⟨by decide, by decide, Nat.le_of_ble_eq_true rfl⟩ rfl (c_X6_readNumber_28 rd (g_X6_advance_28 I G ) G (4) (24)) ?_
  rintro r9 I9 G9 P9 ⟨e0, e1, e2, e3⟩
  rw [e0, e1, e2, e3]
  show am_V X 0 0 _ _ ad (15, [(0, .ref 28)], [.int (f_X6_readNumber_28 (g_X6_advance_28 I G ) G (4) (24)), .ref 29], (g_X6_readNumber_28 (g_X6_advance_28 I G ) G (4) (24)), G, (gP rd))
  refine am_blk 15 [(.putfield 116, 3, 3, 9, .null), (.aload_n 0, 1, 0, 0, .null), (.iconst (1), 1, 0, 0, .int (1))] (20, [(0, .ref 28)], [.int (1), .ref 28], (am_up (g_X6_readNumber_28 (g_X6_advance_28 I G ) G (4) (24)) 29 9 (f_X6_readNumber_28 (g_X6_advance_28 I G ) G (4) (24))), G, (gP rd)) (True) hX hi (by decide +kernel) rfl trivial ?_
  refine am_callV hX hi (M := mX6_expect) (idx := 109) (d' := 4) (b := 28) (ci := 4) (As := [.int (1)]) (rest := []) mkX6_expect miX6_expect mvX6_expect (by decide +kernel) (by decide +kernel) rfl (by decide +kernel) rfl ⟨by decide, by decide, Nat.le_of_ble_eq_true rfl⟩ rfl (c_X6_expect_28 rd (am_up (g_X6_readNumber_28 (g_X6_advance_28 I G ) G (4) (24)) 29 9 (f_X6_readNumber_28 (g_X6_advance_28 I G ) G (4) (24))) G (1)) ?_
  rintro r9 I9 G9 P9 ⟨e0, e1, e2, e3⟩
  rw [e0, e1, e2, e3]
  show am_V X 0 0 _ _ ad (23, [(0, .ref 28)], [], (g_X6_expect_28 (am_up (g_X6_readNumber_28 (g_X6_advance_28 I G ) G (4) (24)) 29 9 (f_X6_readNumber_28 (g_X6_advance_28 I G ) G (4) (24))) G (1)), G, (gP rd))
  refine am_blk 23 [(.aload_n 0, 1, 0, 0, .null), (.getfield 12, 3, 4, 1, .null), (.aload_n 0, 1, 0, 0, .null), (.iconst (4), 1, 0, 0, .int (4)), (.bipush (24), 2, 0, 0, .int (24))] (31, [(0, .ref 28)], [.int (24), .int (4), .ref 28, .ref 29], (g_X6_expect_28 (am_up (g_X6_readNumber_28 (g_X6_advance_28 I G ) G (4) (24)) 29 9 (f_X6_readNumber_28 (g_X6_advance_28 I G ) G (4) (24))) G (1)), G, (gP rd)) (True) hX hi (by decide +kernel) rfl trivial ?_
  refine am_callV hX hi (M := mX6_readNumber) (idx := 112) (d' := 4) (b := 28) (ci := 4) (As := [.int (4), .int (24)]) (rest := [.ref 29]) mkX6_readNumber miX6_readNumber mvX6_readNumber (by decide +kernel) (by decide +kernel) rfl (by decide +kernel) rfl ⟨by decide, by decide, Nat.le_of_ble_eq_true rfl⟩ rfl (c_X6_readNumber_28 rd (g_X6_expect_28 (am_up (g_X6_readNumber_28 (g_X6_advance_28 I G ) G (4) (24)) 29 9 (f_X6_readNumber_28 (g_X6_advance_28 I G ) G (4) (24))) G (1)) G (4) (24)) ?_
  rintro r9 I9 G9 P9 ⟨e0, e1, e2, e3⟩
  rw [e0, e1, e2, e3]
  show am_V X 0 0 _ _ ad (34, [(0, .ref 28)], [.int (f_X6_readNumber_28 (g_X6_expect_28 (am_up (g_X6_readNumber_28 (g_X6_advance_28 I G ) G (4) (24)) 29 9 (f_X6_readNumber_28 (g_X6_advance_28 I G ) G (4) (24))) G (1)) G (4) (24)), .ref 29], (g_X6_readNumber_28 (g_X6_expect_28 (am_up (g_X6_readNumber_28 (g_X6_advance_28 I G ) G (4) (24)) 29 9 (f_X6_readNumber_28 (g_X6_advance_28 I G ) G (4) (24))) G (1)) G (4) (24)), G, (gP rd))
  refine am_blk 34 [(.putfield 119, 3, 3, 10, .null)] (37, [(0, .ref 28)], [], (am_up (g_X6_readNumber_28 (g_X6_expect_28 (am_up (g_X6_readNumber_28 (g_X6_advance_28 I G ) G (4) (24)) 29 9 (f_X6_readNumber_28 (g_X6_advance_28 I G ) G (4) (24))) G (1)) G (4) (24)) 29 10 (f_X6_readNumber_28 (g_X6_expect_28 (am_up (g_X6_readNumber_28 (g_X6_advance_28 I G ) G (4) (24)) 29 9 (f_X6_readNumber_28 (g_X6_advance_28 I G ) G (4) (24))) G (1)) G (4) (24))), G, (gP rd)) (True) hX hi (by decide +kernel) rfl trivial ?_
  refine am_vret hX hi rfl (by decide +kernel) ?_
  exact ⟨rfl, by unfold g_X6_readPaper_28; rfl, rfl, rfl⟩
