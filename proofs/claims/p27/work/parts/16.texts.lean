theorem am_hd16 : (1 : Nat) = 1 := rfl  -- methods that look at texts
noncomputable def R_X9_readSymbol_1 (I : am_I) (G : am_G)  : Option (Int32 × am_I × am_G) := (if 0 ≤ (am_tix (am_tB.getD 1 (0, [])).2 ((f_X9_byteHere_1 I G ).toUInt32 % 65536).toInt32) then (if (f_X9_byteHere_1 (am_up I 1 7 ((I 1 7) + (1 : Int32))) G ) = (61 : Int32) then (if (f_X9_byteHere_1 I G ) = (60 : Int32) then (if (f_X9_byteHere_1 I G ) = (60 : Int32) then some ((37 : Int32), (am_up (am_up I 1 7 ((I 1 7) + (1 : Int32))) 1 7 (((I 1 7) + (1 : Int32)) + (1 : Int32))), G) else some ((38 : Int32), (am_up (am_up I 1 7 ((I 1 7) + (1 : Int32))) 1 7 (((I 1 7) + (1 : Int32)) + (1 : Int32))), G)) else (if (f_X9_byteHere_1 I G ) = (62 : Int32) then (if (f_X9_byteHere_1 I G ) = (60 : Int32) then some ((37 : Int32), (am_up (am_up I 1 7 ((I 1 7) + (1 : Int32))) 1 7 (((I 1 7) + (1 : Int32)) + (1 : Int32))), G) else some ((38 : Int32), (am_up (am_up I 1 7 ((I 1 7) + (1 : Int32))) 1 7 (((I 1 7) + (1 : Int32)) + (1 : Int32))), G)) else some (((24 : Int32) + (am_tix (am_tB.getD 1 (0, [])).2 ((f_X9_byteHere_1 I G ).toUInt32 % 65536).toInt32)), (am_up I 1 7 ((I 1 7) + (1 : Int32))), G))) else some (((24 : Int32) + (am_tix (am_tB.getD 1 (0, [])).2 ((f_X9_byteHere_1 I G ).toUInt32 % 65536).toInt32)), (am_up I 1 7 ((I 1 7) + (1 : Int32))), G)) else some ((42 : Int32), I, G))
set_option maxRecDepth 20000 in
set_option maxHeartbeats 4000000 in
theorem c_X9_readSymbol_1 (rd : Nat) (I : am_I) (G : am_G)  {out : Int32 × am_I × am_G} (h : R_X9_readSymbol_1 I G  = some out) : am_Ct mX9_readSymbol 5 gS [.ref 1] I G (gP rd) (pI out.1 out.2.1 out.2.2 (gP rd)) := by
  refine am_ofF (by decide +kernel) rfl (by decide) (by omega) (Nat.le_of_ble_eq_true rfl) (fun X ad hX hi => ?_)
  have hi : am_info X 9 cX9_readSymbol 3 false (Option.some Jvm.ClassFile.FieldType.int) 5 := hi
  show am_V X 0 0 _ _ ad (0, [(0, .ref 1)], [], I, G, (gP rd))
  unfold R_X9_readSymbol_1 at h
  refine am_blk 0 [(.aload_n 0, 1, 0, 0, .null)] (1, [(0, .ref 1)], [.ref 1], I, G, (gP rd)) (True) hX hi (by decide +kernel) rfl trivial ?_
  refine am_callV hX hi (M := mX9_byteHere) (idx := 57) (d' := 1) (b := 1) (ci := 9) (As := []) (rest := []) mkX9_byteHere miX9_byteHere mvX9_byteHere (by decide +kernel) (by decide +kernel) rfl (by decide +kernel) rfl ⟨by omega, by decide, Nat.le_of_ble_eq_true rfl⟩ rfl (c_X9_byteHere_1 _ I G ) ?_
  rintro r9 I9 G9 P9 ⟨e0, e1, e2, e3⟩
  rw [e0, e1, e2, e3]
  show am_V X 0 0 _ _ ad (4, [(0, .ref 1)], [.int (f_X9_byteHere_1 I G )], I, G, (gP rd))
  refine am_blk 4 [(.istore_n 1, 1, 1, 0, .null)] (5, [(0, .ref 1), (1, .int (f_X9_byteHere_1 I G ))], [], I, G, (gP rd)) (True) hX hi (by decide +kernel) rfl trivial ?_
  refine am_ldcS hX hi (i := 10) (idx := 85) rfl rfl rfl (by decide +kernel) ?_
  show am_V X 0 0 _ _ ad (7, [(0, .ref 1), (1, .int (f_X9_byteHere_1 I G ))], [.ref 2010], I, G, (gP rd))
  refine am_blk 7 [(.iload_n 1, 1, 1, 0, .null), (.i2c, 1, 0, 0, .null)] (9, [(0, .ref 1), (1, .int (f_X9_byteHere_1 I G ))], [.int ((f_X9_byteHere_1 I G ).toUInt32 % 65536).toInt32, .ref 2010], I, G, (gP rd)) (True) hX hi (by decide +kernel) rfl trivial ?_
  refine am_callT hX hi (M := mJ0_indexOf_0f7a4) (idx := 87) (d' := 4) (As := [.int ((f_X9_byteHere_1 I G ).toUInt32 % 65536).toInt32]) (rest := []) mkJ0_indexOf_0f7a4 miJ0_indexOf_0f7a4 mvJ0_indexOf_0f7a4 (by decide +kernel) (by decide +kernel) (show am_tB[1]? = some (am_tB.getD 1 (0, [])) from rfl) rfl rfl ⟨by omega, by decide, Nat.le_of_ble_eq_true rfl⟩ rfl (c_sindexOf (show am_tB[1]? = some (am_tB.getD 1 (0, [])) from rfl) (by decide +kernel) ((f_X9_byteHere_1 I G ).toUInt32 % 65536).toInt32) ?_
  rintro r9 I9 G9 P9 ⟨e0, e1, e2, e3⟩
  rw [e0, e1, e2, e3]
  show am_V X 0 0 _ _ ad (12, [(0, .ref 1), (1, .int (f_X9_byteHere_1 I G ))], [.int (am_tix (am_tB.getD 1 (0, [])).2 ((f_X9_byteHere_1 I G ).toUInt32 % 65536).toInt32)], I, G, (gP rd))
  refine am_blk 12 [(.istore_n 2, 1, 2, 0, .null), (.iload_n 2, 1, 2, 0, .null)] (14, [(0, .ref 1), (1, .int (f_X9_byteHere_1 I G )), (2, .int (am_tix (am_tB.getD 1 (0, [])).2 ((f_X9_byteHere_1 I G ).toUInt32 % 65536).toInt32))], [.int (am_tix (am_tB.getD 1 (0, [])).2 ((f_X9_byteHere_1 I G ).toUInt32 % 65536).toInt32)], I, G, (gP rd)) (True) hX hi (by decide +kernel) rfl trivial ?_
  refine am_if_ge (tgt := 20) hX hi (off := (6)) (by decide +kernel) (by decide) (fun c14 => ?_) (fun c14 => ?_)
  · rw [if_pos c14] at h
    refine am_blk 20 [(.aload_n 0, 1, 0, 0, .null), (.dup, 1, 0, 0, .null), (.getfield 47, 3, 9, 7, .null), (.iconst (1), 1, 0, 0, .int (1 : Int32)), (.iadd, 1, 0, 0, .null), (.putfield 47, 3, 9, 7, .null), (.aload_n 0, 1, 0, 0, .null)] (31, [(0, .ref 1), (1, .int (f_X9_byteHere_1 I G )), (2, .int (am_tix (am_tB.getD 1 (0, [])).2 ((f_X9_byteHere_1 I G ).toUInt32 % 65536).toInt32))], [.ref 1], (am_up I 1 7 ((I 1 7) + (1 : Int32))), G, (gP rd)) (True) hX hi (by decide +kernel) rfl trivial ?_
    refine am_callV hX hi (M := mX9_byteHere) (idx := 57) (d' := 1) (b := 1) (ci := 9) (As := []) (rest := []) mkX9_byteHere miX9_byteHere mvX9_byteHere (by decide +kernel) (by decide +kernel) rfl (by decide +kernel) rfl ⟨by omega, by decide, Nat.le_of_ble_eq_true rfl⟩ rfl (c_X9_byteHere_1 _ (am_up I 1 7 ((I 1 7) + (1 : Int32))) G ) ?_
    rintro r9 I9 G9 P9 ⟨e0, e1, e2, e3⟩
    rw [e0, e1, e2, e3]
    show am_V X 0 0 _ _ ad (34, [(0, .ref 1), (1, .int (f_X9_byteHere_1 I G )), (2, .int (am_tix (am_tB.getD 1 (0, [])).2 ((f_X9_byteHere_1 I G ).toUInt32 % 65536).toInt32))], [.int (f_X9_byteHere_1 (am_up I 1 7 ((I 1 7) + (1 : Int32))) G )], (am_up I 1 7 ((I 1 7) + (1 : Int32))), G, (gP rd))
    refine am_blk 34 [(.bipush (61), 2, 0, 0, .int (61 : Int32))] (36, [(0, .ref 1), (1, .int (f_X9_byteHere_1 I G )), (2, .int (am_tix (am_tB.getD 1 (0, [])).2 ((f_X9_byteHere_1 I G ).toUInt32 % 65536).toInt32))], [.int (61 : Int32), .int (f_X9_byteHere_1 (am_up I 1 7 ((I 1 7) + (1 : Int32))) G )], (am_up I 1 7 ((I 1 7) + (1 : Int32))), G, (gP rd)) (True) hX hi (by decide +kernel) rfl trivial ?_
    refine am_icmp_ne (tgt := 75) hX hi (off := (39)) (by decide +kernel) (by decide) (fun c36 => ?_) (fun c36 => ?_)
    · rw [if_neg c36] at h
      refine am_blk 75 [(.bipush (24), 2, 0, 0, .int (24 : Int32)), (.iload_n 2, 1, 2, 0, .null), (.iadd, 1, 0, 0, .null)] (79, [(0, .ref 1), (1, .int (f_X9_byteHere_1 I G )), (2, .int (am_tix (am_tB.getD 1 (0, [])).2 ((f_X9_byteHere_1 I G ).toUInt32 % 65536).toInt32))], [.int ((24 : Int32) + (am_tix (am_tB.getD 1 (0, [])).2 ((f_X9_byteHere_1 I G ).toUInt32 % 65536).toInt32))], (am_up I 1 7 ((I 1 7) + (1 : Int32))), G, (gP rd)) (True) hX hi (by decide +kernel) rfl trivial ?_
      cases h
      refine am_iret hX hi rfl rfl (by decide +kernel) ?_
      exact ⟨rfl, rfl, rfl, rfl⟩
    · rw [if_pos c36] at h
      refine am_blk 39 [(.iload_n 1, 1, 1, 0, .null), (.bipush (60), 2, 0, 0, .int (60 : Int32))] (42, [(0, .ref 1), (1, .int (f_X9_byteHere_1 I G )), (2, .int (am_tix (am_tB.getD 1 (0, [])).2 ((f_X9_byteHere_1 I G ).toUInt32 % 65536).toInt32))], [.int (60 : Int32), .int (f_X9_byteHere_1 I G )], (am_up I 1 7 ((I 1 7) + (1 : Int32))), G, (gP rd)) (True) hX hi (by decide +kernel) rfl trivial ?_
      refine am_icmp_eq (tgt := 51) hX hi (off := (9)) (by decide +kernel) (by decide) (fun c42 => ?_) (fun c42 => ?_)
      · rw [if_pos c42] at h
        refine am_blk 51 [(.aload_n 0, 1, 0, 0, .null), (.dup, 1, 0, 0, .null), (.getfield 47, 3, 9, 7, .null), (.iconst (1), 1, 0, 0, .int (1 : Int32)), (.iadd, 1, 0, 0, .null), (.putfield 47, 3, 9, 7, .null), (.iload_n 1, 1, 1, 0, .null), (.bipush (60), 2, 0, 0, .int (60 : Int32))] (64, [(0, .ref 1), (1, .int (f_X9_byteHere_1 I G )), (2, .int (am_tix (am_tB.getD 1 (0, [])).2 ((f_X9_byteHere_1 I G ).toUInt32 % 65536).toInt32))], [.int (60 : Int32), .int (f_X9_byteHere_1 I G )], (am_up (am_up I 1 7 ((I 1 7) + (1 : Int32))) 1 7 (((I 1 7) + (1 : Int32)) + (1 : Int32))), G, (gP rd)) (True) hX hi (by decide +kernel) rfl trivial ?_
        refine am_icmp_ne (tgt := 72) hX hi (off := (8)) (by decide +kernel) (by decide) (fun c64 => ?_) (fun c64 => ?_)
        · rw [if_neg c64] at h
          refine am_blk 72 [(.bipush (38), 2, 0, 0, .int (38 : Int32))] (74, [(0, .ref 1), (1, .int (f_X9_byteHere_1 I G )), (2, .int (am_tix (am_tB.getD 1 (0, [])).2 ((f_X9_byteHere_1 I G ).toUInt32 % 65536).toInt32))], [.int (38 : Int32)], (am_up (am_up I 1 7 ((I 1 7) + (1 : Int32))) 1 7 (((I 1 7) + (1 : Int32)) + (1 : Int32))), G, (gP rd)) (True) hX hi (by decide +kernel) rfl trivial ?_
          cases h
          refine am_iret hX hi rfl rfl (by decide +kernel) ?_
          exact ⟨rfl, rfl, rfl, rfl⟩
        · rw [if_pos c64] at h
          refine am_blk 67 [(.bipush (37), 2, 0, 0, .int (37 : Int32)), (.goto (5), 3, 0, 74, .null)] (74, [(0, .ref 1), (1, .int (f_X9_byteHere_1 I G )), (2, .int (am_tix (am_tB.getD 1 (0, [])).2 ((f_X9_byteHere_1 I G ).toUInt32 % 65536).toInt32))], [.int (37 : Int32)], (am_up (am_up I 1 7 ((I 1 7) + (1 : Int32))) 1 7 (((I 1 7) + (1 : Int32)) + (1 : Int32))), G, (gP rd)) (True) hX hi (by decide +kernel) rfl trivial ?_
          cases h
          refine am_iret hX hi rfl rfl (by decide +kernel) ?_
          exact ⟨rfl, rfl, rfl, rfl⟩
      · rw [if_neg c42] at h
        refine am_blk 45 [(.iload_n 1, 1, 1, 0, .null), (.bipush (62), 2, 0, 0, .int (62 : Int32))] (48, [(0, .ref 1), (1, .int (f_X9_byteHere_1 I G )), (2, .int (am_tix (am_tB.getD 1 (0, [])).2 ((f_X9_byteHere_1 I G ).toUInt32 % 65536).toInt32))], [.int (62 : Int32), .int (f_X9_byteHere_1 I G )], (am_up I 1 7 ((I 1 7) + (1 : Int32))), G, (gP rd)) (True) hX hi (by decide +kernel) rfl trivial ?_
        refine am_icmp_ne (tgt := 75) hX hi (off := (27)) (by decide +kernel) (by decide) (fun c48 => ?_) (fun c48 => ?_)
        · rw [if_neg c48] at h
          refine am_blk 75 [(.bipush (24), 2, 0, 0, .int (24 : Int32)), (.iload_n 2, 1, 2, 0, .null), (.iadd, 1, 0, 0, .null)] (79, [(0, .ref 1), (1, .int (f_X9_byteHere_1 I G )), (2, .int (am_tix (am_tB.getD 1 (0, [])).2 ((f_X9_byteHere_1 I G ).toUInt32 % 65536).toInt32))], [.int ((24 : Int32) + (am_tix (am_tB.getD 1 (0, [])).2 ((f_X9_byteHere_1 I G ).toUInt32 % 65536).toInt32))], (am_up I 1 7 ((I 1 7) + (1 : Int32))), G, (gP rd)) (True) hX hi (by decide +kernel) rfl trivial ?_
          cases h
          refine am_iret hX hi rfl rfl (by decide +kernel) ?_
          exact ⟨rfl, rfl, rfl, rfl⟩
        · rw [if_pos c48] at h
          refine am_blk 51 [(.aload_n 0, 1, 0, 0, .null), (.dup, 1, 0, 0, .null), (.getfield 47, 3, 9, 7, .null), (.iconst (1), 1, 0, 0, .int (1 : Int32)), (.iadd, 1, 0, 0, .null), (.putfield 47, 3, 9, 7, .null), (.iload_n 1, 1, 1, 0, .null), (.bipush (60), 2, 0, 0, .int (60 : Int32))] (64, [(0, .ref 1), (1, .int (f_X9_byteHere_1 I G )), (2, .int (am_tix (am_tB.getD 1 (0, [])).2 ((f_X9_byteHere_1 I G ).toUInt32 % 65536).toInt32))], [.int (60 : Int32), .int (f_X9_byteHere_1 I G )], (am_up (am_up I 1 7 ((I 1 7) + (1 : Int32))) 1 7 (((I 1 7) + (1 : Int32)) + (1 : Int32))), G, (gP rd)) (True) hX hi (by decide +kernel) rfl trivial ?_
          refine am_icmp_ne (tgt := 72) hX hi (off := (8)) (by decide +kernel) (by decide) (fun c64 => ?_) (fun c64 => ?_)
          · rw [if_neg c64] at h
            refine am_blk 72 [(.bipush (38), 2, 0, 0, .int (38 : Int32))] (74, [(0, .ref 1), (1, .int (f_X9_byteHere_1 I G )), (2, .int (am_tix (am_tB.getD 1 (0, [])).2 ((f_X9_byteHere_1 I G ).toUInt32 % 65536).toInt32))], [.int (38 : Int32)], (am_up (am_up I 1 7 ((I 1 7) + (1 : Int32))) 1 7 (((I 1 7) + (1 : Int32)) + (1 : Int32))), G, (gP rd)) (True) hX hi (by decide +kernel) rfl trivial ?_
            cases h
            refine am_iret hX hi rfl rfl (by decide +kernel) ?_
            exact ⟨rfl, rfl, rfl, rfl⟩
          · rw [if_pos c64] at h
            refine am_blk 67 [(.bipush (37), 2, 0, 0, .int (37 : Int32)), (.goto (5), 3, 0, 74, .null)] (74, [(0, .ref 1), (1, .int (f_X9_byteHere_1 I G )), (2, .int (am_tix (am_tB.getD 1 (0, [])).2 ((f_X9_byteHere_1 I G ).toUInt32 % 65536).toInt32))], [.int (37 : Int32)], (am_up (am_up I 1 7 ((I 1 7) + (1 : Int32))) 1 7 (((I 1 7) + (1 : Int32)) + (1 : Int32))), G, (gP rd)) (True) hX hi (by decide +kernel) rfl trivial ?_
            cases h
            refine am_iret hX hi rfl rfl (by decide +kernel) ?_
            exact ⟨rfl, rfl, rfl, rfl⟩
  · rw [if_neg c14] at h
    refine am_blk 17 [(.bipush (42), 2, 0, 0, .int (42 : Int32))] (19, [(0, .ref 1), (1, .int (f_X9_byteHere_1 I G )), (2, .int (am_tix (am_tB.getD 1 (0, [])).2 ((f_X9_byteHere_1 I G ).toUInt32 % 65536).toInt32))], [.int (42 : Int32)], I, G, (gP rd)) (True) hX hi (by decide +kernel) rfl trivial ?_
    cases h
    refine am_iret hX hi rfl rfl (by decide +kernel) ?_
    exact ⟨rfl, rfl, rfl, rfl⟩
noncomputable def R_X9_readKind_1 (I : am_I) (G : am_G)  : Option (Int32 × am_I × am_G) := (if (I 1 7) < (I 1 5) then (if (I 1 6) < (400 : Int32) then (if (f_X9_isLetter I G (f_X9_byteHere_1 I G )) = 0 then (if (f_X9_isDigit I G (f_X9_byteHere_1 I G )) = 0 then rb (R_X9_readSymbol_1 I G ) (fun r1 I1 G1 => some (r1, I1, G1)) else rb (R_X9_readNumber_1 I G ) (fun r2 I2 G2 => some (r2, I2, G2))) else rb (R_X9_readWord_1 I G ) (fun r3 I3 G3 => some (r3, I3, G3))) else some ((42 : Int32), I, G)) else some ((41 : Int32), I, G))
set_option maxRecDepth 20000 in
set_option maxHeartbeats 4000000 in
theorem c_X9_readKind_1 (rd : Nat) (I : am_I) (G : am_G)  {out : Int32 × am_I × am_G} (h : R_X9_readKind_1 I G  = some out) : am_Ct mX9_readKind 6 gS [.ref 1] I G (gP rd) (pI out.1 out.2.1 out.2.2 (gP rd)) := by
  refine am_ofF (by decide +kernel) rfl (by decide) (by omega) (Nat.le_of_ble_eq_true rfl) (fun X ad hX hi => ?_)
  have hi : am_info X 9 cX9_readKind 1 false (Option.some Jvm.ClassFile.FieldType.int) 6 := hi
  show am_V X 0 0 _ _ ad (0, [(0, .ref 1)], [], I, G, (gP rd))
  unfold R_X9_readKind_1 at h
  refine am_blk 0 [(.aload_n 0, 1, 0, 0, .null), (.getfield 47, 3, 9, 7, .null), (.aload_n 0, 1, 0, 0, .null), (.getfield 44, 3, 9, 5, .null)] (8, [(0, .ref 1)], [.int (I 1 5), .int (I 1 7)], I, G, (gP rd)) (True) hX hi (by decide +kernel) rfl trivial ?_
  refine am_icmp_lt (tgt := 14) hX hi (off := (6)) (by decide +kernel) (by decide) (fun c8 => ?_) (fun c8 => ?_)
  · rw [if_pos c8] at h
    refine am_blk 14 [(.aload_n 0, 1, 0, 0, .null), (.getfield 50, 3, 9, 6, .null), (.sipush (400), 3, 0, 0, .int (400 : Int32))] (21, [(0, .ref 1)], [.int (400 : Int32), .int (I 1 6)], I, G, (gP rd)) (True) hX hi (by decide +kernel) rfl trivial ?_
    refine am_icmp_lt (tgt := 27) hX hi (off := (6)) (by decide +kernel) (by decide) (fun c21 => ?_) (fun c21 => ?_)
    · rw [if_pos c21] at h
      refine am_blk 27 [(.aload_n 0, 1, 0, 0, .null)] (28, [(0, .ref 1)], [.ref 1], I, G, (gP rd)) (True) hX hi (by decide +kernel) rfl trivial ?_
      refine am_callV hX hi (M := mX9_byteHere) (idx := 57) (d' := 1) (b := 1) (ci := 9) (As := []) (rest := []) mkX9_byteHere miX9_byteHere mvX9_byteHere (by decide +kernel) (by decide +kernel) rfl (by decide +kernel) rfl ⟨by omega, by decide, Nat.le_of_ble_eq_true rfl⟩ rfl (c_X9_byteHere_1 _ I G ) ?_
      rintro r9 I9 G9 P9 ⟨e0, e1, e2, e3⟩
      rw [e0, e1, e2, e3]
      show am_V X 0 0 _ _ ad (31, [(0, .ref 1)], [.int (f_X9_byteHere_1 I G )], I, G, (gP rd))
      refine am_callS hX hi (M := mX9_isLetter) (idx := 67) (d' := 1) (As := [.int (f_X9_byteHere_1 I G )]) (rest := []) mkX9_isLetter msX9_isLetter (by decide +kernel) (by decide +kernel) rfl ⟨by omega, by decide, Nat.le_of_ble_eq_true rfl⟩ rfl (c_X9_isLetter I G (f_X9_byteHere_1 I G )) ?_
      rintro r9 I9 G9 P9 ⟨e0, e1, e2, e3⟩
      rw [e0, e1, e2, e3]
      show am_V X 0 0 _ _ ad (34, [(0, .ref 1)], [.int (f_X9_isLetter I G (f_X9_byteHere_1 I G ))], I, G, (gP rd))
      refine am_if_eq (tgt := 42) hX hi (off := (8)) (by decide +kernel) (by decide) (fun c34 => ?_) (fun c34 => ?_)
      · rw [if_pos c34] at h
        refine am_blk 42 [(.aload_n 0, 1, 0, 0, .null)] (43, [(0, .ref 1)], [.ref 1], I, G, (gP rd)) (True) hX hi (by decide +kernel) rfl trivial ?_
        refine am_callV hX hi (M := mX9_byteHere) (idx := 57) (d' := 1) (b := 1) (ci := 9) (As := []) (rest := []) mkX9_byteHere miX9_byteHere mvX9_byteHere (by decide +kernel) (by decide +kernel) rfl (by decide +kernel) rfl ⟨by omega, by decide, Nat.le_of_ble_eq_true rfl⟩ rfl (c_X9_byteHere_1 _ I G ) ?_
        rintro r9 I9 G9 P9 ⟨e0, e1, e2, e3⟩
        rw [e0, e1, e2, e3]
        show am_V X 0 0 _ _ ad (46, [(0, .ref 1)], [.int (f_X9_byteHere_1 I G )], I, G, (gP rd))
        refine am_callS hX hi (M := mX9_isDigit) (idx := 74) (d' := 1) (As := [.int (f_X9_byteHere_1 I G )]) (rest := []) mkX9_isDigit msX9_isDigit (by decide +kernel) (by decide +kernel) rfl ⟨by omega, by decide, Nat.le_of_ble_eq_true rfl⟩ rfl (c_X9_isDigit I G (f_X9_byteHere_1 I G )) ?_
        rintro r9 I9 G9 P9 ⟨e0, e1, e2, e3⟩
        rw [e0, e1, e2, e3]
        show am_V X 0 0 _ _ ad (49, [(0, .ref 1)], [.int (f_X9_isDigit I G (f_X9_byteHere_1 I G ))], I, G, (gP rd))
        refine am_if_eq (tgt := 59) hX hi (off := (10)) (by decide +kernel) (by decide) (fun c49 => ?_) (fun c49 => ?_)
        · rw [if_pos c49] at h
          refine am_blk 59 [(.aload_n 0, 1, 0, 0, .null)] (60, [(0, .ref 1)], [.ref 1], I, G, (gP rd)) (True) hX hi (by decide +kernel) rfl trivial ?_
          obtain ⟨r1, I1, G1, hc, h⟩ := rb_some h
          refine am_callV hX hi (M := mX9_readSymbol) (idx := 80) (d' := 5) (b := 1) (ci := 9) (As := []) (rest := []) mkX9_readSymbol miX9_readSymbol mvX9_readSymbol (by decide +kernel) (by decide +kernel) rfl (by decide +kernel) rfl ⟨by omega, by decide, Nat.le_of_ble_eq_true rfl⟩ rfl (c_X9_readSymbol_1 _ I G  hc) ?_
          rintro r9 I9 G9 P9 ⟨e0, e1, e2, e3⟩
          rw [e0, e1, e2, e3]
          show am_V X 0 0 _ _ ad (63, [(0, .ref 1)], [.int r1], I1, G1, (gP rd))
          cases h
          refine am_iret hX hi rfl rfl (by decide +kernel) ?_
          exact ⟨rfl, rfl, rfl, rfl⟩
        · rw [if_neg c49] at h
          refine am_blk 52 [(.aload_n 0, 1, 0, 0, .null)] (53, [(0, .ref 1)], [.ref 1], I, G, (gP rd)) (True) hX hi (by decide +kernel) rfl trivial ?_
          obtain ⟨r2, I2, G2, hc, h⟩ := rb_some h
          refine am_callV hX hi (M := mX9_readNumber) (idx := 77) (d' := 2) (b := 1) (ci := 9) (As := []) (rest := []) mkX9_readNumber miX9_readNumber mvX9_readNumber (by decide +kernel) (by decide +kernel) rfl (by decide +kernel) rfl ⟨by omega, by decide, Nat.le_of_ble_eq_true rfl⟩ rfl (c_X9_readNumber_1 _ I G  hc) ?_
          rintro r9 I9 G9 P9 ⟨e0, e1, e2, e3⟩
          rw [e0, e1, e2, e3]
          show am_V X 0 0 _ _ ad (56, [(0, .ref 1)], [.int r2], I2, G2, (gP rd))
          refine am_blk 56 [(.goto (7), 3, 0, 63, .null)] (63, [(0, .ref 1)], [.int r2], I2, G2, (gP rd)) (True) hX hi (by decide +kernel) rfl trivial ?_
          cases h
          refine am_iret hX hi rfl rfl (by decide +kernel) ?_
          exact ⟨rfl, rfl, rfl, rfl⟩
      · rw [if_neg c34] at h
        refine am_blk 37 [(.aload_n 0, 1, 0, 0, .null)] (38, [(0, .ref 1)], [.ref 1], I, G, (gP rd)) (True) hX hi (by decide +kernel) rfl trivial ?_
        obtain ⟨r3, I3, G3, hc, h⟩ := rb_some h
        refine am_callV hX hi (M := mX9_readWord) (idx := 71) (d' := 2) (b := 1) (ci := 9) (As := []) (rest := []) mkX9_readWord miX9_readWord mvX9_readWord (by decide +kernel) (by decide +kernel) rfl (by decide +kernel) rfl ⟨by omega, by decide, Nat.le_of_ble_eq_true rfl⟩ rfl (c_X9_readWord_1 _ I G  hc) ?_
        rintro r9 I9 G9 P9 ⟨e0, e1, e2, e3⟩
        rw [e0, e1, e2, e3]
        show am_V X 0 0 _ _ ad (41, [(0, .ref 1)], [.int r3], I3, G3, (gP rd))
        cases h
        refine am_iret hX hi rfl rfl (by decide +kernel) ?_
        exact ⟨rfl, rfl, rfl, rfl⟩
    · rw [if_neg c21] at h
      refine am_blk 24 [(.bipush (42), 2, 0, 0, .int (42 : Int32))] (26, [(0, .ref 1)], [.int (42 : Int32)], I, G, (gP rd)) (True) hX hi (by decide +kernel) rfl trivial ?_
      cases h
      refine am_iret hX hi rfl rfl (by decide +kernel) ?_
      exact ⟨rfl, rfl, rfl, rfl⟩
  · rw [if_neg c8] at h
    refine am_blk 11 [(.bipush (41), 2, 0, 0, .int (41 : Int32))] (13, [(0, .ref 1)], [.int (41 : Int32)], I, G, (gP rd)) (True) hX hi (by decide +kernel) rfl trivial ?_
    cases h
    refine am_iret hX hi rfl rfl (by decide +kernel) ?_
    exact ⟨rfl, rfl, rfl, rfl⟩
noncomputable def L_X9_readToken_1 (n0 : Nat) (hd : Nat) (I : am_I) (G : am_G)  : Option (Int32 × am_I × am_G) := match n0 with
  | 0 => none
  | n + 1 => match hd with
    | _ => (if (I 1 5) ≤ (I 1 7) then rb (R_X9_readKind_1 I (am_up G 1 8 (0)) ) (fun r101 I101 G101 => (if (I101 1 6) < 0 then (if r101 = (41 : Int32) then some ((0 : Int32), I101, G101) else (if r101 = (42 : Int32) then some ((0 : Int32), I101, G101) else some ((1 : Int32), I101, G101))) else (if (Int32.ofNat 401) ≤ (I101 1 6) then (if r101 = (41 : Int32) then some ((0 : Int32), I101, G101) else (if r101 = (42 : Int32) then some ((0 : Int32), I101, G101) else some ((1 : Int32), I101, G101))) else (if (Int32.ofNat 401) ≤ (I101 1 6) then (if r101 = (41 : Int32) then some ((0 : Int32), I101, G101) else (if r101 = (42 : Int32) then some ((0 : Int32), I101, G101) else some ((1 : Int32), I101, G101))) else (if (Int32.ofNat 401) ≤ (I101 1 6) then (if r101 = (41 : Int32) then some ((0 : Int32), I101, G101) else (if r101 = (42 : Int32) then some ((0 : Int32), I101, G101) else some ((1 : Int32), I101, G101))) else rg (vp_in (I101 1 6) 401) (rg (vp_in (I101 1 6) 401) (rg (vp_in (I101 1 6) 401) ((if r101 = (41 : Int32) then some ((0 : Int32), (am_up (am_up (am_up I101 4 (I101 1 6).toNatClampNeg r101) 5 (I101 1 6).toNatClampNeg (I 1 7)) 1 6 ((I101 1 6) + (1 : Int32))), (am_up G101 6 (I101 1 6).toNatClampNeg (G101 1 8))) else (if r101 = (42 : Int32) then some ((0 : Int32), (am_up (am_up (am_up I101 4 (I101 1 6).toNatClampNeg r101) 5 (I101 1 6).toNatClampNeg (I 1 7)) 1 6 ((I101 1 6) + (1 : Int32))), (am_up G101 6 (I101 1 6).toNatClampNeg (G101 1 8))) else some ((1 : Int32), (am_up (am_up (am_up I101 4 (I101 1 6).toNatClampNeg r101) 5 (I101 1 6).toNatClampNeg (I 1 7)) 1 6 ((I101 1 6) + (1 : Int32))), (am_up G101 6 (I101 1 6).toNatClampNeg (G101 1 8))))))))))))) else (if (f_X9_byteHere_1 I G ) = (32 : Int32) then L_X9_readToken_1 n 0 (am_up I 1 7 ((I 1 7) + (1 : Int32))) G  else (if (f_X9_byteHere_1 I G ) = (10 : Int32) then L_X9_readToken_1 n 0 (am_up I 1 7 ((I 1 7) + (1 : Int32))) G  else rb (R_X9_readKind_1 I (am_up G 1 8 (0)) ) (fun r102 I102 G102 => (if (I102 1 6) < 0 then (if r102 = (41 : Int32) then some ((0 : Int32), I102, G102) else (if r102 = (42 : Int32) then some ((0 : Int32), I102, G102) else some ((1 : Int32), I102, G102))) else (if (Int32.ofNat 401) ≤ (I102 1 6) then (if r102 = (41 : Int32) then some ((0 : Int32), I102, G102) else (if r102 = (42 : Int32) then some ((0 : Int32), I102, G102) else some ((1 : Int32), I102, G102))) else (if (Int32.ofNat 401) ≤ (I102 1 6) then (if r102 = (41 : Int32) then some ((0 : Int32), I102, G102) else (if r102 = (42 : Int32) then some ((0 : Int32), I102, G102) else some ((1 : Int32), I102, G102))) else (if (Int32.ofNat 401) ≤ (I102 1 6) then (if r102 = (41 : Int32) then some ((0 : Int32), I102, G102) else (if r102 = (42 : Int32) then some ((0 : Int32), I102, G102) else some ((1 : Int32), I102, G102))) else rg (vp_in (I102 1 6) 401) (rg (vp_in (I102 1 6) 401) (rg (vp_in (I102 1 6) 401) ((if r102 = (41 : Int32) then some ((0 : Int32), (am_up (am_up (am_up I102 4 (I102 1 6).toNatClampNeg r102) 5 (I102 1 6).toNatClampNeg (I 1 7)) 1 6 ((I102 1 6) + (1 : Int32))), (am_up G102 6 (I102 1 6).toNatClampNeg (G102 1 8))) else (if r102 = (42 : Int32) then some ((0 : Int32), (am_up (am_up (am_up I102 4 (I102 1 6).toNatClampNeg r102) 5 (I102 1 6).toNatClampNeg (I 1 7)) 1 6 ((I102 1 6) + (1 : Int32))), (am_up G102 6 (I102 1 6).toNatClampNeg (G102 1 8))) else some ((1 : Int32), (am_up (am_up (am_up I102 4 (I102 1 6).toNatClampNeg r102) 5 (I102 1 6).toNatClampNeg (I 1 7)) 1 6 ((I102 1 6) + (1 : Int32))), (am_up G102 6 (I102 1 6).toNatClampNeg (G102 1 8))))))))))))))))
theorem L_X9_readToken_1_0 (n : Nat) (I : am_I) (G : am_G)  : L_X9_readToken_1 (n + 1) 0 I G  = (if (I 1 5) ≤ (I 1 7) then rb (R_X9_readKind_1 I (am_up G 1 8 (0)) ) (fun r101 I101 G101 => (if (I101 1 6) < 0 then (if r101 = (41 : Int32) then some ((0 : Int32), I101, G101) else (if r101 = (42 : Int32) then some ((0 : Int32), I101, G101) else some ((1 : Int32), I101, G101))) else (if (Int32.ofNat 401) ≤ (I101 1 6) then (if r101 = (41 : Int32) then some ((0 : Int32), I101, G101) else (if r101 = (42 : Int32) then some ((0 : Int32), I101, G101) else some ((1 : Int32), I101, G101))) else (if (Int32.ofNat 401) ≤ (I101 1 6) then (if r101 = (41 : Int32) then some ((0 : Int32), I101, G101) else (if r101 = (42 : Int32) then some ((0 : Int32), I101, G101) else some ((1 : Int32), I101, G101))) else (if (Int32.ofNat 401) ≤ (I101 1 6) then (if r101 = (41 : Int32) then some ((0 : Int32), I101, G101) else (if r101 = (42 : Int32) then some ((0 : Int32), I101, G101) else some ((1 : Int32), I101, G101))) else rg (vp_in (I101 1 6) 401) (rg (vp_in (I101 1 6) 401) (rg (vp_in (I101 1 6) 401) ((if r101 = (41 : Int32) then some ((0 : Int32), (am_up (am_up (am_up I101 4 (I101 1 6).toNatClampNeg r101) 5 (I101 1 6).toNatClampNeg (I 1 7)) 1 6 ((I101 1 6) + (1 : Int32))), (am_up G101 6 (I101 1 6).toNatClampNeg (G101 1 8))) else (if r101 = (42 : Int32) then some ((0 : Int32), (am_up (am_up (am_up I101 4 (I101 1 6).toNatClampNeg r101) 5 (I101 1 6).toNatClampNeg (I 1 7)) 1 6 ((I101 1 6) + (1 : Int32))), (am_up G101 6 (I101 1 6).toNatClampNeg (G101 1 8))) else some ((1 : Int32), (am_up (am_up (am_up I101 4 (I101 1 6).toNatClampNeg r101) 5 (I101 1 6).toNatClampNeg (I 1 7)) 1 6 ((I101 1 6) + (1 : Int32))), (am_up G101 6 (I101 1 6).toNatClampNeg (G101 1 8))))))))))))) else (if (f_X9_byteHere_1 I G ) = (32 : Int32) then L_X9_readToken_1 n 0 (am_up I 1 7 ((I 1 7) + (1 : Int32))) G  else (if (f_X9_byteHere_1 I G ) = (10 : Int32) then L_X9_readToken_1 n 0 (am_up I 1 7 ((I 1 7) + (1 : Int32))) G  else rb (R_X9_readKind_1 I (am_up G 1 8 (0)) ) (fun r102 I102 G102 => (if (I102 1 6) < 0 then (if r102 = (41 : Int32) then some ((0 : Int32), I102, G102) else (if r102 = (42 : Int32) then some ((0 : Int32), I102, G102) else some ((1 : Int32), I102, G102))) else (if (Int32.ofNat 401) ≤ (I102 1 6) then (if r102 = (41 : Int32) then some ((0 : Int32), I102, G102) else (if r102 = (42 : Int32) then some ((0 : Int32), I102, G102) else some ((1 : Int32), I102, G102))) else (if (Int32.ofNat 401) ≤ (I102 1 6) then (if r102 = (41 : Int32) then some ((0 : Int32), I102, G102) else (if r102 = (42 : Int32) then some ((0 : Int32), I102, G102) else some ((1 : Int32), I102, G102))) else (if (Int32.ofNat 401) ≤ (I102 1 6) then (if r102 = (41 : Int32) then some ((0 : Int32), I102, G102) else (if r102 = (42 : Int32) then some ((0 : Int32), I102, G102) else some ((1 : Int32), I102, G102))) else rg (vp_in (I102 1 6) 401) (rg (vp_in (I102 1 6) 401) (rg (vp_in (I102 1 6) 401) ((if r102 = (41 : Int32) then some ((0 : Int32), (am_up (am_up (am_up I102 4 (I102 1 6).toNatClampNeg r102) 5 (I102 1 6).toNatClampNeg (I 1 7)) 1 6 ((I102 1 6) + (1 : Int32))), (am_up G102 6 (I102 1 6).toNatClampNeg (G102 1 8))) else (if r102 = (42 : Int32) then some ((0 : Int32), (am_up (am_up (am_up I102 4 (I102 1 6).toNatClampNeg r102) 5 (I102 1 6).toNatClampNeg (I 1 7)) 1 6 ((I102 1 6) + (1 : Int32))), (am_up G102 6 (I102 1 6).toNatClampNeg (G102 1 8))) else some ((1 : Int32), (am_up (am_up (am_up I102 4 (I102 1 6).toNatClampNeg r102) 5 (I102 1 6).toNatClampNeg (I 1 7)) 1 6 ((I102 1 6) + (1 : Int32))), (am_up G102 6 (I102 1 6).toNatClampNeg (G102 1 8)))))))))))))))) := rfl
theorem L_X9_readToken_1_z (h : Nat) (I : am_I) (G : am_G)  : L_X9_readToken_1 0 h I G  = none := rfl
noncomputable def R_X9_readToken_1 (I : am_I) (G : am_G)  : Option (Int32 × am_I × am_G) := L_X9_readToken_1 FU 0 I G 
set_option maxRecDepth 20000 in
set_option maxHeartbeats 4000000 in
theorem l_X9_readToken_1 (rd : Nat) {X : am_X} {ad : Nat → Nat} (hX : am_okz X ad) (hi : am_info X 9 cX9_readToken 3 false (Option.some Jvm.ClassFile.FieldType.boolean) 7) (n : Nat) : (∀ (I : am_I) (G : am_G)  (out : Int32 × am_I × am_G), L_X9_readToken_1 n 0 I G  = some out → am_V X 0 0 (am_Rt X gS ad (pI out.1 out.2.1 out.2.2 (gP rd))) gS ad (0, [(0, .ref 1)], [], I, G, (gP rd))) := by
  induction n with
  | zero => exact fun I G  out h => by rw [L_X9_readToken_1_z] at h; cases h
  | succ n ih =>
    · intro I G  out h
      rw [L_X9_readToken_1_0] at h
      refine am_blk 0 [(.aload_n 0, 1, 0, 0, .null), (.getfield 47, 3, 9, 7, .null), (.aload_n 0, 1, 0, 0, .null), (.getfield 44, 3, 9, 5, .null)] (8, [(0, .ref 1)], [.int (I 1 5), .int (I 1 7)], I, G, (gP rd)) (True) hX hi (by decide +kernel) rfl trivial ?_
      refine am_icmp_ge (tgt := 42) hX hi (off := (34)) (by decide +kernel) (by decide) (fun c8 => ?_) (fun c8 => ?_)
      · rw [if_pos c8] at h
        refine am_blk 42 [(.aload_n 0, 1, 0, 0, .null), (.getfield 47, 3, 9, 7, .null), (.istore_n 1, 1, 1, 0, .null), (.aload_n 0, 1, 0, 0, .null), (.lconst 0, 1, 0, 0, .long (0)), (.putfield 60, 3, 9, 8, .null), (.aload_n 0, 1, 0, 0, .null)] (53, [(0, .ref 1), (1, .int (I 1 7))], [.ref 1], I, (am_up G 1 8 (0)), (gP rd)) (True) hX hi (by decide +kernel) rfl trivial ?_
        obtain ⟨r101, I101, G101, hc, h⟩ := rb_some h
        refine am_callV hX hi (M := mX9_readKind) (idx := 64) (d' := 6) (b := 1) (ci := 9) (As := []) (rest := []) mkX9_readKind miX9_readKind mvX9_readKind (by decide +kernel) (by decide +kernel) rfl (by decide +kernel) rfl ⟨by omega, by decide, Nat.le_of_ble_eq_true rfl⟩ rfl (c_X9_readKind_1 _ I (am_up G 1 8 (0))  hc) ?_
        rintro r9 I9 G9 P9 ⟨e0, e1, e2, e3⟩
        rw [e0, e1, e2, e3]
        show am_V X 0 0 _ _ ad (56, [(0, .ref 1), (1, .int (I 1 7))], [.int r101], I101, G101, (gP rd))
        refine am_blk 56 [(.istore_n 2, 1, 2, 0, .null), (.aload_n 0, 1, 0, 0, .null), (.getfield 50, 3, 9, 6, .null)] (61, [(0, .ref 1), (1, .int (I 1 7)), (2, .int r101)], [.int (I101 1 6)], I101, G101, (gP rd)) (True) hX hi (by decide +kernel) rfl trivial ?_
        refine am_if_lt (tgt := 143) hX hi (off := (82)) (by decide +kernel) (by decide) (fun c61 => ?_) (fun c61 => ?_)
        · rw [if_pos c61] at h
          refine am_blk 143 [(.iload_n 2, 1, 2, 0, .null), (.bipush (41), 2, 0, 0, .int (41 : Int32))] (146, [(0, .ref 1), (1, .int (I 1 7)), (2, .int r101)], [.int (41 : Int32), .int r101], I101, G101, (gP rd)) (True) hX hi (by decide +kernel) rfl trivial ?_
          refine am_icmp_eq (tgt := 159) hX hi (off := (13)) (by decide +kernel) (by decide) (fun c146 => ?_) (fun c146 => ?_)
          · rw [if_pos c146] at h
            refine am_blk 159 [(.iconst (0), 1, 0, 0, .int (0 : Int32))] (160, [(0, .ref 1), (1, .int (I 1 7)), (2, .int r101)], [.int (0 : Int32)], I101, G101, (gP rd)) (True) hX hi (by decide +kernel) rfl trivial ?_
            cases h
            refine am_iret hX hi rfl (by first | rfl | decide | (simp [narrow]; done)) (by decide +kernel) ?_
            exact ⟨rfl, rfl, rfl, rfl⟩
          · rw [if_neg c146] at h
            refine am_blk 149 [(.iload_n 2, 1, 2, 0, .null), (.bipush (42), 2, 0, 0, .int (42 : Int32))] (152, [(0, .ref 1), (1, .int (I 1 7)), (2, .int r101)], [.int (42 : Int32), .int r101], I101, G101, (gP rd)) (True) hX hi (by decide +kernel) rfl trivial ?_
            refine am_icmp_eq (tgt := 159) hX hi (off := (7)) (by decide +kernel) (by decide) (fun c152 => ?_) (fun c152 => ?_)
            · rw [if_pos c152] at h
              refine am_blk 159 [(.iconst (0), 1, 0, 0, .int (0 : Int32))] (160, [(0, .ref 1), (1, .int (I 1 7)), (2, .int r101)], [.int (0 : Int32)], I101, G101, (gP rd)) (True) hX hi (by decide +kernel) rfl trivial ?_
              cases h
              refine am_iret hX hi rfl (by first | rfl | decide | (simp [narrow]; done)) (by decide +kernel) ?_
              exact ⟨rfl, rfl, rfl, rfl⟩
            · rw [if_neg c152] at h
              refine am_blk 155 [(.iconst (1), 1, 0, 0, .int (1 : Int32)), (.goto (4), 3, 0, 160, .null)] (160, [(0, .ref 1), (1, .int (I 1 7)), (2, .int r101)], [.int (1 : Int32)], I101, G101, (gP rd)) (True) hX hi (by decide +kernel) rfl trivial ?_
              cases h
              refine am_iret hX hi rfl (by first | rfl | decide | (simp [narrow]; done)) (by decide +kernel) ?_
              exact ⟨rfl, rfl, rfl, rfl⟩
        · rw [if_neg c61] at h
          refine am_blk 64 [(.aload_n 0, 1, 0, 0, .null), (.getfield 50, 3, 9, 6, .null), (.aload_n 0, 1, 0, 0, .null), (.getfield 21, 3, 9, 2, .null), (.arraylength, 1, 0, 0, .null)] (73, [(0, .ref 1), (1, .int (I 1 7)), (2, .int r101)], [.int (Int32.ofNat 401), .int (I101 1 6)], I101, G101, (gP rd)) (True) hX hi (by decide +kernel) rfl trivial ?_
          refine am_icmp_ge (tgt := 143) hX hi (off := (70)) (by decide +kernel) (by decide) (fun c73 => ?_) (fun c73 => ?_)
          · rw [if_pos c73] at h
            refine am_blk 143 [(.iload_n 2, 1, 2, 0, .null), (.bipush (41), 2, 0, 0, .int (41 : Int32))] (146, [(0, .ref 1), (1, .int (I 1 7)), (2, .int r101)], [.int (41 : Int32), .int r101], I101, G101, (gP rd)) (True) hX hi (by decide +kernel) rfl trivial ?_
            refine am_icmp_eq (tgt := 159) hX hi (off := (13)) (by decide +kernel) (by decide) (fun c146 => ?_) (fun c146 => ?_)
            · rw [if_pos c146] at h
              refine am_blk 159 [(.iconst (0), 1, 0, 0, .int (0 : Int32))] (160, [(0, .ref 1), (1, .int (I 1 7)), (2, .int r101)], [.int (0 : Int32)], I101, G101, (gP rd)) (True) hX hi (by decide +kernel) rfl trivial ?_
              cases h
              refine am_iret hX hi rfl (by first | rfl | decide | (simp [narrow]; done)) (by decide +kernel) ?_
              exact ⟨rfl, rfl, rfl, rfl⟩
            · rw [if_neg c146] at h
              refine am_blk 149 [(.iload_n 2, 1, 2, 0, .null), (.bipush (42), 2, 0, 0, .int (42 : Int32))] (152, [(0, .ref 1), (1, .int (I 1 7)), (2, .int r101)], [.int (42 : Int32), .int r101], I101, G101, (gP rd)) (True) hX hi (by decide +kernel) rfl trivial ?_
              refine am_icmp_eq (tgt := 159) hX hi (off := (7)) (by decide +kernel) (by decide) (fun c152 => ?_) (fun c152 => ?_)
              · rw [if_pos c152] at h
                refine am_blk 159 [(.iconst (0), 1, 0, 0, .int (0 : Int32))] (160, [(0, .ref 1), (1, .int (I 1 7)), (2, .int r101)], [.int (0 : Int32)], I101, G101, (gP rd)) (True) hX hi (by decide +kernel) rfl trivial ?_
                cases h
                refine am_iret hX hi rfl (by first | rfl | decide | (simp [narrow]; done)) (by decide +kernel) ?_
                exact ⟨rfl, rfl, rfl, rfl⟩
              · rw [if_neg c152] at h
                refine am_blk 155 [(.iconst (1), 1, 0, 0, .int (1 : Int32)), (.goto (4), 3, 0, 160, .null)] (160, [(0, .ref 1), (1, .int (I 1 7)), (2, .int r101)], [.int (1 : Int32)], I101, G101, (gP rd)) (True) hX hi (by decide +kernel) rfl trivial ?_
                cases h
                refine am_iret hX hi rfl (by first | rfl | decide | (simp [narrow]; done)) (by decide +kernel) ?_
                exact ⟨rfl, rfl, rfl, rfl⟩
          · rw [if_neg c73] at h
            refine am_blk 76 [(.aload_n 0, 1, 0, 0, .null), (.getfield 50, 3, 9, 6, .null), (.aload_n 0, 1, 0, 0, .null), (.getfield 24, 3, 9, 3, .null), (.arraylength, 1, 0, 0, .null)] (85, [(0, .ref 1), (1, .int (I 1 7)), (2, .int r101)], [.int (Int32.ofNat 401), .int (I101 1 6)], I101, G101, (gP rd)) (True) hX hi (by decide +kernel) rfl trivial ?_
            refine am_icmp_ge (tgt := 143) hX hi (off := (58)) (by decide +kernel) (by decide) (fun c85 => ?_) (fun c85 => ?_)
            · rw [if_pos c85] at h
              refine am_blk 143 [(.iload_n 2, 1, 2, 0, .null), (.bipush (41), 2, 0, 0, .int (41 : Int32))] (146, [(0, .ref 1), (1, .int (I 1 7)), (2, .int r101)], [.int (41 : Int32), .int r101], I101, G101, (gP rd)) (True) hX hi (by decide +kernel) rfl trivial ?_
              refine am_icmp_eq (tgt := 159) hX hi (off := (13)) (by decide +kernel) (by decide) (fun c146 => ?_) (fun c146 => ?_)
              · rw [if_pos c146] at h
                refine am_blk 159 [(.iconst (0), 1, 0, 0, .int (0 : Int32))] (160, [(0, .ref 1), (1, .int (I 1 7)), (2, .int r101)], [.int (0 : Int32)], I101, G101, (gP rd)) (True) hX hi (by decide +kernel) rfl trivial ?_
                cases h
                refine am_iret hX hi rfl (by first | rfl | decide | (simp [narrow]; done)) (by decide +kernel) ?_
                exact ⟨rfl, rfl, rfl, rfl⟩
              · rw [if_neg c146] at h
                refine am_blk 149 [(.iload_n 2, 1, 2, 0, .null), (.bipush (42), 2, 0, 0, .int (42 : Int32))] (152, [(0, .ref 1), (1, .int (I 1 7)), (2, .int r101)], [.int (42 : Int32), .int r101], I101, G101, (gP rd)) (True) hX hi (by decide +kernel) rfl trivial ?_
                refine am_icmp_eq (tgt := 159) hX hi (off := (7)) (by decide +kernel) (by decide) (fun c152 => ?_) (fun c152 => ?_)
                · rw [if_pos c152] at h
                  refine am_blk 159 [(.iconst (0), 1, 0, 0, .int (0 : Int32))] (160, [(0, .ref 1), (1, .int (I 1 7)), (2, .int r101)], [.int (0 : Int32)], I101, G101, (gP rd)) (True) hX hi (by decide +kernel) rfl trivial ?_
                  cases h
                  refine am_iret hX hi rfl (by first | rfl | decide | (simp [narrow]; done)) (by decide +kernel) ?_
                  exact ⟨rfl, rfl, rfl, rfl⟩
                · rw [if_neg c152] at h
                  refine am_blk 155 [(.iconst (1), 1, 0, 0, .int (1 : Int32)), (.goto (4), 3, 0, 160, .null)] (160, [(0, .ref 1), (1, .int (I 1 7)), (2, .int r101)], [.int (1 : Int32)], I101, G101, (gP rd)) (True) hX hi (by decide +kernel) rfl trivial ?_
                  cases h
                  refine am_iret hX hi rfl (by first | rfl | decide | (simp [narrow]; done)) (by decide +kernel) ?_
                  exact ⟨rfl, rfl, rfl, rfl⟩
            · rw [if_neg c85] at h
              refine am_blk 88 [(.aload_n 0, 1, 0, 0, .null), (.getfield 50, 3, 9, 6, .null), (.aload_n 0, 1, 0, 0, .null), (.getfield 27, 3, 9, 4, .null), (.arraylength, 1, 0, 0, .null)] (97, [(0, .ref 1), (1, .int (I 1 7)), (2, .int r101)], [.int (Int32.ofNat 401), .int (I101 1 6)], I101, G101, (gP rd)) (True) hX hi (by decide +kernel) rfl trivial ?_
              refine am_icmp_ge (tgt := 143) hX hi (off := (46)) (by decide +kernel) (by decide) (fun c97 => ?_) (fun c97 => ?_)
              · rw [if_pos c97] at h
                refine am_blk 143 [(.iload_n 2, 1, 2, 0, .null), (.bipush (41), 2, 0, 0, .int (41 : Int32))] (146, [(0, .ref 1), (1, .int (I 1 7)), (2, .int r101)], [.int (41 : Int32), .int r101], I101, G101, (gP rd)) (True) hX hi (by decide +kernel) rfl trivial ?_
                refine am_icmp_eq (tgt := 159) hX hi (off := (13)) (by decide +kernel) (by decide) (fun c146 => ?_) (fun c146 => ?_)
                · rw [if_pos c146] at h
                  refine am_blk 159 [(.iconst (0), 1, 0, 0, .int (0 : Int32))] (160, [(0, .ref 1), (1, .int (I 1 7)), (2, .int r101)], [.int (0 : Int32)], I101, G101, (gP rd)) (True) hX hi (by decide +kernel) rfl trivial ?_
                  cases h
                  refine am_iret hX hi rfl (by first | rfl | decide | (simp [narrow]; done)) (by decide +kernel) ?_
                  exact ⟨rfl, rfl, rfl, rfl⟩
                · rw [if_neg c146] at h
                  refine am_blk 149 [(.iload_n 2, 1, 2, 0, .null), (.bipush (42), 2, 0, 0, .int (42 : Int32))] (152, [(0, .ref 1), (1, .int (I 1 7)), (2, .int r101)], [.int (42 : Int32), .int r101], I101, G101, (gP rd)) (True) hX hi (by decide +kernel) rfl trivial ?_
                  refine am_icmp_eq (tgt := 159) hX hi (off := (7)) (by decide +kernel) (by decide) (fun c152 => ?_) (fun c152 => ?_)
                  · rw [if_pos c152] at h
                    refine am_blk 159 [(.iconst (0), 1, 0, 0, .int (0 : Int32))] (160, [(0, .ref 1), (1, .int (I 1 7)), (2, .int r101)], [.int (0 : Int32)], I101, G101, (gP rd)) (True) hX hi (by decide +kernel) rfl trivial ?_
                    cases h
                    refine am_iret hX hi rfl (by first | rfl | decide | (simp [narrow]; done)) (by decide +kernel) ?_
                    exact ⟨rfl, rfl, rfl, rfl⟩
                  · rw [if_neg c152] at h
                    refine am_blk 155 [(.iconst (1), 1, 0, 0, .int (1 : Int32)), (.goto (4), 3, 0, 160, .null)] (160, [(0, .ref 1), (1, .int (I 1 7)), (2, .int r101)], [.int (1 : Int32)], I101, G101, (gP rd)) (True) hX hi (by decide +kernel) rfl trivial ?_
                    cases h
                    refine am_iret hX hi rfl (by first | rfl | decide | (simp [narrow]; done)) (by decide +kernel) ?_
                    exact ⟨rfl, rfl, rfl, rfl⟩
              · rw [if_neg c97] at h
                obtain ⟨g0, h⟩ := rg_some h
                obtain ⟨g1, h⟩ := rg_some h
                obtain ⟨g2, h⟩ := rg_some h
                refine am_blk 100 [(.aload_n 0, 1, 0, 0, .null), (.getfield 21, 3, 9, 2, .null), (.aload_n 0, 1, 0, 0, .null), (.getfield 50, 3, 9, 6, .null), (.iload_n 2, 1, 2, 0, .null), (.iastore, 1, 0, 0, .null), (.aload_n 0, 1, 0, 0, .null), (.getfield 24, 3, 9, 3, .null), (.aload_n 0, 1, 0, 0, .null), (.getfield 50, 3, 9, 6, .null), (.iload_n 1, 1, 1, 0, .null), (.iastore, 1, 0, 0, .null), (.aload_n 0, 1, 0, 0, .null), (.getfield 27, 3, 9, 4, .null), (.aload_n 0, 1, 0, 0, .null), (.getfield 50, 3, 9, 6, .null), (.aload_n 0, 1, 0, 0, .null), (.getfield 60, 3, 9, 8, .null), (.lastore, 1, 0, 0, .null), (.aload_n 0, 1, 0, 0, .null), (.dup, 1, 0, 0, .null), (.getfield 50, 3, 9, 6, .null), (.iconst (1), 1, 0, 0, .int (1 : Int32)), (.iadd, 1, 0, 0, .null), (.putfield 50, 3, 9, 6, .null), (.iload_n 2, 1, 2, 0, .null), (.bipush (41), 2, 0, 0, .int (41 : Int32))] (146, [(0, .ref 1), (1, .int (I 1 7)), (2, .int r101)], [.int (41 : Int32), .int r101], (am_up (am_up (am_up I101 4 (I101 1 6).toNatClampNeg r101) 5 (I101 1 6).toNatClampNeg (I 1 7)) 1 6 ((I101 1 6) + (1 : Int32))), (am_up G101 6 (I101 1 6).toNatClampNeg (G101 1 8)), (gP rd)) (vp_in (I101 1 6) 401 ∧ vp_in (I101 1 6) 401 ∧ vp_in (I101 1 6) 401 ∧ True) hX hi (by decide +kernel) rfl ⟨g0, g1, g2, trivial⟩ ?_
                refine am_icmp_eq (tgt := 159) hX hi (off := (13)) (by decide +kernel) (by decide) (fun c146 => ?_) (fun c146 => ?_)
                · rw [if_pos c146] at h
                  refine am_blk 159 [(.iconst (0), 1, 0, 0, .int (0 : Int32))] (160, [(0, .ref 1), (1, .int (I 1 7)), (2, .int r101)], [.int (0 : Int32)], (am_up (am_up (am_up I101 4 (I101 1 6).toNatClampNeg r101) 5 (I101 1 6).toNatClampNeg (I 1 7)) 1 6 ((I101 1 6) + (1 : Int32))), (am_up G101 6 (I101 1 6).toNatClampNeg (G101 1 8)), (gP rd)) (True) hX hi (by decide +kernel) rfl trivial ?_
                  cases h
                  refine am_iret hX hi rfl (by first | rfl | decide | (simp [narrow]; done)) (by decide +kernel) ?_
                  exact ⟨rfl, rfl, rfl, rfl⟩
                · rw [if_neg c146] at h
                  refine am_blk 149 [(.iload_n 2, 1, 2, 0, .null), (.bipush (42), 2, 0, 0, .int (42 : Int32))] (152, [(0, .ref 1), (1, .int (I 1 7)), (2, .int r101)], [.int (42 : Int32), .int r101], (am_up (am_up (am_up I101 4 (I101 1 6).toNatClampNeg r101) 5 (I101 1 6).toNatClampNeg (I 1 7)) 1 6 ((I101 1 6) + (1 : Int32))), (am_up G101 6 (I101 1 6).toNatClampNeg (G101 1 8)), (gP rd)) (True) hX hi (by decide +kernel) rfl trivial ?_
                  refine am_icmp_eq (tgt := 159) hX hi (off := (7)) (by decide +kernel) (by decide) (fun c152 => ?_) (fun c152 => ?_)
                  · rw [if_pos c152] at h
                    refine am_blk 159 [(.iconst (0), 1, 0, 0, .int (0 : Int32))] (160, [(0, .ref 1), (1, .int (I 1 7)), (2, .int r101)], [.int (0 : Int32)], (am_up (am_up (am_up I101 4 (I101 1 6).toNatClampNeg r101) 5 (I101 1 6).toNatClampNeg (I 1 7)) 1 6 ((I101 1 6) + (1 : Int32))), (am_up G101 6 (I101 1 6).toNatClampNeg (G101 1 8)), (gP rd)) (True) hX hi (by decide +kernel) rfl trivial ?_
                    cases h
                    refine am_iret hX hi rfl (by first | rfl | decide | (simp [narrow]; done)) (by decide +kernel) ?_
                    exact ⟨rfl, rfl, rfl, rfl⟩
                  · rw [if_neg c152] at h
                    refine am_blk 155 [(.iconst (1), 1, 0, 0, .int (1 : Int32)), (.goto (4), 3, 0, 160, .null)] (160, [(0, .ref 1), (1, .int (I 1 7)), (2, .int r101)], [.int (1 : Int32)], (am_up (am_up (am_up I101 4 (I101 1 6).toNatClampNeg r101) 5 (I101 1 6).toNatClampNeg (I 1 7)) 1 6 ((I101 1 6) + (1 : Int32))), (am_up G101 6 (I101 1 6).toNatClampNeg (G101 1 8)), (gP rd)) (True) hX hi (by decide +kernel) rfl trivial ?_
                    cases h
                    refine am_iret hX hi rfl (by first | rfl | decide | (simp [narrow]; done)) (by decide +kernel) ?_
                    exact ⟨rfl, rfl, rfl, rfl⟩
      · rw [if_neg c8] at h
        refine am_blk 11 [(.aload_n 0, 1, 0, 0, .null)] (12, [(0, .ref 1)], [.ref 1], I, G, (gP rd)) (True) hX hi (by decide +kernel) rfl trivial ?_
        refine am_callV hX hi (M := mX9_byteHere) (idx := 57) (d' := 1) (b := 1) (ci := 9) (As := []) (rest := []) mkX9_byteHere miX9_byteHere mvX9_byteHere (by decide +kernel) (by decide +kernel) rfl (by decide +kernel) rfl ⟨by omega, by decide, Nat.le_of_ble_eq_true rfl⟩ rfl (c_X9_byteHere_1 _ I G ) ?_
        rintro r9 I9 G9 P9 ⟨e0, e1, e2, e3⟩
        rw [e0, e1, e2, e3]
        show am_V X 0 0 _ _ ad (15, [(0, .ref 1)], [.int (f_X9_byteHere_1 I G )], I, G, (gP rd))
        refine am_blk 15 [(.bipush (32), 2, 0, 0, .int (32 : Int32))] (17, [(0, .ref 1)], [.int (32 : Int32), .int (f_X9_byteHere_1 I G )], I, G, (gP rd)) (True) hX hi (by decide +kernel) rfl trivial ?_
        refine am_icmp_eq (tgt := 29) hX hi (off := (12)) (by decide +kernel) (by decide) (fun c17 => ?_) (fun c17 => ?_)
        · rw [if_pos c17] at h
          refine am_blk 29 [(.aload_n 0, 1, 0, 0, .null), (.dup, 1, 0, 0, .null), (.getfield 47, 3, 9, 7, .null), (.iconst (1), 1, 0, 0, .int (1 : Int32)), (.iadd, 1, 0, 0, .null), (.putfield 47, 3, 9, 7, .null), (.goto (-39), 3, 0, 0, .null)] (0, [(0, .ref 1)], [], (am_up I 1 7 ((I 1 7) + (1 : Int32))), G, (gP rd)) (True) hX hi (by decide +kernel) rfl trivial ?_
          exact ih _ _  _ h
        · rw [if_neg c17] at h
          refine am_blk 20 [(.aload_n 0, 1, 0, 0, .null)] (21, [(0, .ref 1)], [.ref 1], I, G, (gP rd)) (True) hX hi (by decide +kernel) rfl trivial ?_
          refine am_callV hX hi (M := mX9_byteHere) (idx := 57) (d' := 1) (b := 1) (ci := 9) (As := []) (rest := []) mkX9_byteHere miX9_byteHere mvX9_byteHere (by decide +kernel) (by decide +kernel) rfl (by decide +kernel) rfl ⟨by omega, by decide, Nat.le_of_ble_eq_true rfl⟩ rfl (c_X9_byteHere_1 _ I G ) ?_
          rintro r9 I9 G9 P9 ⟨e0, e1, e2, e3⟩
          rw [e0, e1, e2, e3]
          show am_V X 0 0 _ _ ad (24, [(0, .ref 1)], [.int (f_X9_byteHere_1 I G )], I, G, (gP rd))
          refine am_blk 24 [(.bipush (10), 2, 0, 0, .int (10 : Int32))] (26, [(0, .ref 1)], [.int (10 : Int32), .int (f_X9_byteHere_1 I G )], I, G, (gP rd)) (True) hX hi (by decide +kernel) rfl trivial ?_
          refine am_icmp_ne (tgt := 42) hX hi (off := (16)) (by decide +kernel) (by decide) (fun c26 => ?_) (fun c26 => ?_)
          · rw [if_neg c26] at h
            refine am_blk 42 [(.aload_n 0, 1, 0, 0, .null), (.getfield 47, 3, 9, 7, .null), (.istore_n 1, 1, 1, 0, .null), (.aload_n 0, 1, 0, 0, .null), (.lconst 0, 1, 0, 0, .long (0)), (.putfield 60, 3, 9, 8, .null), (.aload_n 0, 1, 0, 0, .null)] (53, [(0, .ref 1), (1, .int (I 1 7))], [.ref 1], I, (am_up G 1 8 (0)), (gP rd)) (True) hX hi (by decide +kernel) rfl trivial ?_
            obtain ⟨r102, I102, G102, hc, h⟩ := rb_some h
            refine am_callV hX hi (M := mX9_readKind) (idx := 64) (d' := 6) (b := 1) (ci := 9) (As := []) (rest := []) mkX9_readKind miX9_readKind mvX9_readKind (by decide +kernel) (by decide +kernel) rfl (by decide +kernel) rfl ⟨by omega, by decide, Nat.le_of_ble_eq_true rfl⟩ rfl (c_X9_readKind_1 _ I (am_up G 1 8 (0))  hc) ?_
            rintro r9 I9 G9 P9 ⟨e0, e1, e2, e3⟩
            rw [e0, e1, e2, e3]
            show am_V X 0 0 _ _ ad (56, [(0, .ref 1), (1, .int (I 1 7))], [.int r102], I102, G102, (gP rd))
            refine am_blk 56 [(.istore_n 2, 1, 2, 0, .null), (.aload_n 0, 1, 0, 0, .null), (.getfield 50, 3, 9, 6, .null)] (61, [(0, .ref 1), (1, .int (I 1 7)), (2, .int r102)], [.int (I102 1 6)], I102, G102, (gP rd)) (True) hX hi (by decide +kernel) rfl trivial ?_
            refine am_if_lt (tgt := 143) hX hi (off := (82)) (by decide +kernel) (by decide) (fun c61 => ?_) (fun c61 => ?_)
            · rw [if_pos c61] at h
              refine am_blk 143 [(.iload_n 2, 1, 2, 0, .null), (.bipush (41), 2, 0, 0, .int (41 : Int32))] (146, [(0, .ref 1), (1, .int (I 1 7)), (2, .int r102)], [.int (41 : Int32), .int r102], I102, G102, (gP rd)) (True) hX hi (by decide +kernel) rfl trivial ?_
              refine am_icmp_eq (tgt := 159) hX hi (off := (13)) (by decide +kernel) (by decide) (fun c146 => ?_) (fun c146 => ?_)
              · rw [if_pos c146] at h
                refine am_blk 159 [(.iconst (0), 1, 0, 0, .int (0 : Int32))] (160, [(0, .ref 1), (1, .int (I 1 7)), (2, .int r102)], [.int (0 : Int32)], I102, G102, (gP rd)) (True) hX hi (by decide +kernel) rfl trivial ?_
                cases h
                refine am_iret hX hi rfl (by first | rfl | decide | (simp [narrow]; done)) (by decide +kernel) ?_
                exact ⟨rfl, rfl, rfl, rfl⟩
              · rw [if_neg c146] at h
                refine am_blk 149 [(.iload_n 2, 1, 2, 0, .null), (.bipush (42), 2, 0, 0, .int (42 : Int32))] (152, [(0, .ref 1), (1, .int (I 1 7)), (2, .int r102)], [.int (42 : Int32), .int r102], I102, G102, (gP rd)) (True) hX hi (by decide +kernel) rfl trivial ?_
                refine am_icmp_eq (tgt := 159) hX hi (off := (7)) (by decide +kernel) (by decide) (fun c152 => ?_) (fun c152 => ?_)
                · rw [if_pos c152] at h
                  refine am_blk 159 [(.iconst (0), 1, 0, 0, .int (0 : Int32))] (160, [(0, .ref 1), (1, .int (I 1 7)), (2, .int r102)], [.int (0 : Int32)], I102, G102, (gP rd)) (True) hX hi (by decide +kernel) rfl trivial ?_
                  cases h
                  refine am_iret hX hi rfl (by first | rfl | decide | (simp [narrow]; done)) (by decide +kernel) ?_
                  exact ⟨rfl, rfl, rfl, rfl⟩
                · rw [if_neg c152] at h
                  refine am_blk 155 [(.iconst (1), 1, 0, 0, .int (1 : Int32)), (.goto (4), 3, 0, 160, .null)] (160, [(0, .ref 1), (1, .int (I 1 7)), (2, .int r102)], [.int (1 : Int32)], I102, G102, (gP rd)) (True) hX hi (by decide +kernel) rfl trivial ?_
                  cases h
                  refine am_iret hX hi rfl (by first | rfl | decide | (simp [narrow]; done)) (by decide +kernel) ?_
                  exact ⟨rfl, rfl, rfl, rfl⟩
            · rw [if_neg c61] at h
              refine am_blk 64 [(.aload_n 0, 1, 0, 0, .null), (.getfield 50, 3, 9, 6, .null), (.aload_n 0, 1, 0, 0, .null), (.getfield 21, 3, 9, 2, .null), (.arraylength, 1, 0, 0, .null)] (73, [(0, .ref 1), (1, .int (I 1 7)), (2, .int r102)], [.int (Int32.ofNat 401), .int (I102 1 6)], I102, G102, (gP rd)) (True) hX hi (by decide +kernel) rfl trivial ?_
              refine am_icmp_ge (tgt := 143) hX hi (off := (70)) (by decide +kernel) (by decide) (fun c73 => ?_) (fun c73 => ?_)
              · rw [if_pos c73] at h
                refine am_blk 143 [(.iload_n 2, 1, 2, 0, .null), (.bipush (41), 2, 0, 0, .int (41 : Int32))] (146, [(0, .ref 1), (1, .int (I 1 7)), (2, .int r102)], [.int (41 : Int32), .int r102], I102, G102, (gP rd)) (True) hX hi (by decide +kernel) rfl trivial ?_
                refine am_icmp_eq (tgt := 159) hX hi (off := (13)) (by decide +kernel) (by decide) (fun c146 => ?_) (fun c146 => ?_)
                · rw [if_pos c146] at h
                  refine am_blk 159 [(.iconst (0), 1, 0, 0, .int (0 : Int32))] (160, [(0, .ref 1), (1, .int (I 1 7)), (2, .int r102)], [.int (0 : Int32)], I102, G102, (gP rd)) (True) hX hi (by decide +kernel) rfl trivial ?_
                  cases h
                  refine am_iret hX hi rfl (by first | rfl | decide | (simp [narrow]; done)) (by decide +kernel) ?_
                  exact ⟨rfl, rfl, rfl, rfl⟩
                · rw [if_neg c146] at h
                  refine am_blk 149 [(.iload_n 2, 1, 2, 0, .null), (.bipush (42), 2, 0, 0, .int (42 : Int32))] (152, [(0, .ref 1), (1, .int (I 1 7)), (2, .int r102)], [.int (42 : Int32), .int r102], I102, G102, (gP rd)) (True) hX hi (by decide +kernel) rfl trivial ?_
                  refine am_icmp_eq (tgt := 159) hX hi (off := (7)) (by decide +kernel) (by decide) (fun c152 => ?_) (fun c152 => ?_)
                  · rw [if_pos c152] at h
                    refine am_blk 159 [(.iconst (0), 1, 0, 0, .int (0 : Int32))] (160, [(0, .ref 1), (1, .int (I 1 7)), (2, .int r102)], [.int (0 : Int32)], I102, G102, (gP rd)) (True) hX hi (by decide +kernel) rfl trivial ?_
                    cases h
                    refine am_iret hX hi rfl (by first | rfl | decide | (simp [narrow]; done)) (by decide +kernel) ?_
                    exact ⟨rfl, rfl, rfl, rfl⟩
                  · rw [if_neg c152] at h
                    refine am_blk 155 [(.iconst (1), 1, 0, 0, .int (1 : Int32)), (.goto (4), 3, 0, 160, .null)] (160, [(0, .ref 1), (1, .int (I 1 7)), (2, .int r102)], [.int (1 : Int32)], I102, G102, (gP rd)) (True) hX hi (by decide +kernel) rfl trivial ?_
                    cases h
                    refine am_iret hX hi rfl (by first | rfl | decide | (simp [narrow]; done)) (by decide +kernel) ?_
                    exact ⟨rfl, rfl, rfl, rfl⟩
              · rw [if_neg c73] at h
                refine am_blk 76 [(.aload_n 0, 1, 0, 0, .null), (.getfield 50, 3, 9, 6, .null), (.aload_n 0, 1, 0, 0, .null), (.getfield 24, 3, 9, 3, .null), (.arraylength, 1, 0, 0, .null)] (85, [(0, .ref 1), (1, .int (I 1 7)), (2, .int r102)], [.int (Int32.ofNat 401), .int (I102 1 6)], I102, G102, (gP rd)) (True) hX hi (by decide +kernel) rfl trivial ?_
                refine am_icmp_ge (tgt := 143) hX hi (off := (58)) (by decide +kernel) (by decide) (fun c85 => ?_) (fun c85 => ?_)
                · rw [if_pos c85] at h
                  refine am_blk 143 [(.iload_n 2, 1, 2, 0, .null), (.bipush (41), 2, 0, 0, .int (41 : Int32))] (146, [(0, .ref 1), (1, .int (I 1 7)), (2, .int r102)], [.int (41 : Int32), .int r102], I102, G102, (gP rd)) (True) hX hi (by decide +kernel) rfl trivial ?_
                  refine am_icmp_eq (tgt := 159) hX hi (off := (13)) (by decide +kernel) (by decide) (fun c146 => ?_) (fun c146 => ?_)
                  · rw [if_pos c146] at h
                    refine am_blk 159 [(.iconst (0), 1, 0, 0, .int (0 : Int32))] (160, [(0, .ref 1), (1, .int (I 1 7)), (2, .int r102)], [.int (0 : Int32)], I102, G102, (gP rd)) (True) hX hi (by decide +kernel) rfl trivial ?_
                    cases h
                    refine am_iret hX hi rfl (by first | rfl | decide | (simp [narrow]; done)) (by decide +kernel) ?_
                    exact ⟨rfl, rfl, rfl, rfl⟩
                  · rw [if_neg c146] at h
                    refine am_blk 149 [(.iload_n 2, 1, 2, 0, .null), (.bipush (42), 2, 0, 0, .int (42 : Int32))] (152, [(0, .ref 1), (1, .int (I 1 7)), (2, .int r102)], [.int (42 : Int32), .int r102], I102, G102, (gP rd)) (True) hX hi (by decide +kernel) rfl trivial ?_
                    refine am_icmp_eq (tgt := 159) hX hi (off := (7)) (by decide +kernel) (by decide) (fun c152 => ?_) (fun c152 => ?_)
                    · rw [if_pos c152] at h
                      refine am_blk 159 [(.iconst (0), 1, 0, 0, .int (0 : Int32))] (160, [(0, .ref 1), (1, .int (I 1 7)), (2, .int r102)], [.int (0 : Int32)], I102, G102, (gP rd)) (True) hX hi (by decide +kernel) rfl trivial ?_
                      cases h
                      refine am_iret hX hi rfl (by first | rfl | decide | (simp [narrow]; done)) (by decide +kernel) ?_
                      exact ⟨rfl, rfl, rfl, rfl⟩
                    · rw [if_neg c152] at h
                      refine am_blk 155 [(.iconst (1), 1, 0, 0, .int (1 : Int32)), (.goto (4), 3, 0, 160, .null)] (160, [(0, .ref 1), (1, .int (I 1 7)), (2, .int r102)], [.int (1 : Int32)], I102, G102, (gP rd)) (True) hX hi (by decide +kernel) rfl trivial ?_
                      cases h
                      refine am_iret hX hi rfl (by first | rfl | decide | (simp [narrow]; done)) (by decide +kernel) ?_
                      exact ⟨rfl, rfl, rfl, rfl⟩
                · rw [if_neg c85] at h
                  refine am_blk 88 [(.aload_n 0, 1, 0, 0, .null), (.getfield 50, 3, 9, 6, .null), (.aload_n 0, 1, 0, 0, .null), (.getfield 27, 3, 9, 4, .null), (.arraylength, 1, 0, 0, .null)] (97, [(0, .ref 1), (1, .int (I 1 7)), (2, .int r102)], [.int (Int32.ofNat 401), .int (I102 1 6)], I102, G102, (gP rd)) (True) hX hi (by decide +kernel) rfl trivial ?_
                  refine am_icmp_ge (tgt := 143) hX hi (off := (46)) (by decide +kernel) (by decide) (fun c97 => ?_) (fun c97 => ?_)
                  · rw [if_pos c97] at h
                    refine am_blk 143 [(.iload_n 2, 1, 2, 0, .null), (.bipush (41), 2, 0, 0, .int (41 : Int32))] (146, [(0, .ref 1), (1, .int (I 1 7)), (2, .int r102)], [.int (41 : Int32), .int r102], I102, G102, (gP rd)) (True) hX hi (by decide +kernel) rfl trivial ?_
                    refine am_icmp_eq (tgt := 159) hX hi (off := (13)) (by decide +kernel) (by decide) (fun c146 => ?_) (fun c146 => ?_)
                    · rw [if_pos c146] at h
                      refine am_blk 159 [(.iconst (0), 1, 0, 0, .int (0 : Int32))] (160, [(0, .ref 1), (1, .int (I 1 7)), (2, .int r102)], [.int (0 : Int32)], I102, G102, (gP rd)) (True) hX hi (by decide +kernel) rfl trivial ?_
                      cases h
                      refine am_iret hX hi rfl (by first | rfl | decide | (simp [narrow]; done)) (by decide +kernel) ?_
                      exact ⟨rfl, rfl, rfl, rfl⟩
                    · rw [if_neg c146] at h
                      refine am_blk 149 [(.iload_n 2, 1, 2, 0, .null), (.bipush (42), 2, 0, 0, .int (42 : Int32))] (152, [(0, .ref 1), (1, .int (I 1 7)), (2, .int r102)], [.int (42 : Int32), .int r102], I102, G102, (gP rd)) (True) hX hi (by decide +kernel) rfl trivial ?_
                      refine am_icmp_eq (tgt := 159) hX hi (off := (7)) (by decide +kernel) (by decide) (fun c152 => ?_) (fun c152 => ?_)
                      · rw [if_pos c152] at h
                        refine am_blk 159 [(.iconst (0), 1, 0, 0, .int (0 : Int32))] (160, [(0, .ref 1), (1, .int (I 1 7)), (2, .int r102)], [.int (0 : Int32)], I102, G102, (gP rd)) (True) hX hi (by decide +kernel) rfl trivial ?_
                        cases h
                        refine am_iret hX hi rfl (by first | rfl | decide | (simp [narrow]; done)) (by decide +kernel) ?_
                        exact ⟨rfl, rfl, rfl, rfl⟩
                      · rw [if_neg c152] at h
                        refine am_blk 155 [(.iconst (1), 1, 0, 0, .int (1 : Int32)), (.goto (4), 3, 0, 160, .null)] (160, [(0, .ref 1), (1, .int (I 1 7)), (2, .int r102)], [.int (1 : Int32)], I102, G102, (gP rd)) (True) hX hi (by decide +kernel) rfl trivial ?_
                        cases h
                        refine am_iret hX hi rfl (by first | rfl | decide | (simp [narrow]; done)) (by decide +kernel) ?_
                        exact ⟨rfl, rfl, rfl, rfl⟩
                  · rw [if_neg c97] at h
                    obtain ⟨g0, h⟩ := rg_some h
                    obtain ⟨g1, h⟩ := rg_some h
                    obtain ⟨g2, h⟩ := rg_some h
                    refine am_blk 100 [(.aload_n 0, 1, 0, 0, .null), (.getfield 21, 3, 9, 2, .null), (.aload_n 0, 1, 0, 0, .null), (.getfield 50, 3, 9, 6, .null), (.iload_n 2, 1, 2, 0, .null), (.iastore, 1, 0, 0, .null), (.aload_n 0, 1, 0, 0, .null), (.getfield 24, 3, 9, 3, .null), (.aload_n 0, 1, 0, 0, .null), (.getfield 50, 3, 9, 6, .null), (.iload_n 1, 1, 1, 0, .null), (.iastore, 1, 0, 0, .null), (.aload_n 0, 1, 0, 0, .null), (.getfield 27, 3, 9, 4, .null), (.aload_n 0, 1, 0, 0, .null), (.getfield 50, 3, 9, 6, .null), (.aload_n 0, 1, 0, 0, .null), (.getfield 60, 3, 9, 8, .null), (.lastore, 1, 0, 0, .null), (.aload_n 0, 1, 0, 0, .null), (.dup, 1, 0, 0, .null), (.getfield 50, 3, 9, 6, .null), (.iconst (1), 1, 0, 0, .int (1 : Int32)), (.iadd, 1, 0, 0, .null), (.putfield 50, 3, 9, 6, .null), (.iload_n 2, 1, 2, 0, .null), (.bipush (41), 2, 0, 0, .int (41 : Int32))] (146, [(0, .ref 1), (1, .int (I 1 7)), (2, .int r102)], [.int (41 : Int32), .int r102], (am_up (am_up (am_up I102 4 (I102 1 6).toNatClampNeg r102) 5 (I102 1 6).toNatClampNeg (I 1 7)) 1 6 ((I102 1 6) + (1 : Int32))), (am_up G102 6 (I102 1 6).toNatClampNeg (G102 1 8)), (gP rd)) (vp_in (I102 1 6) 401 ∧ vp_in (I102 1 6) 401 ∧ vp_in (I102 1 6) 401 ∧ True) hX hi (by decide +kernel) rfl ⟨g0, g1, g2, trivial⟩ ?_
                    refine am_icmp_eq (tgt := 159) hX hi (off := (13)) (by decide +kernel) (by decide) (fun c146 => ?_) (fun c146 => ?_)
                    · rw [if_pos c146] at h
                      refine am_blk 159 [(.iconst (0), 1, 0, 0, .int (0 : Int32))] (160, [(0, .ref 1), (1, .int (I 1 7)), (2, .int r102)], [.int (0 : Int32)], (am_up (am_up (am_up I102 4 (I102 1 6).toNatClampNeg r102) 5 (I102 1 6).toNatClampNeg (I 1 7)) 1 6 ((I102 1 6) + (1 : Int32))), (am_up G102 6 (I102 1 6).toNatClampNeg (G102 1 8)), (gP rd)) (True) hX hi (by decide +kernel) rfl trivial ?_
                      cases h
                      refine am_iret hX hi rfl (by first | rfl | decide | (simp [narrow]; done)) (by decide +kernel) ?_
                      exact ⟨rfl, rfl, rfl, rfl⟩
                    · rw [if_neg c146] at h
                      refine am_blk 149 [(.iload_n 2, 1, 2, 0, .null), (.bipush (42), 2, 0, 0, .int (42 : Int32))] (152, [(0, .ref 1), (1, .int (I 1 7)), (2, .int r102)], [.int (42 : Int32), .int r102], (am_up (am_up (am_up I102 4 (I102 1 6).toNatClampNeg r102) 5 (I102 1 6).toNatClampNeg (I 1 7)) 1 6 ((I102 1 6) + (1 : Int32))), (am_up G102 6 (I102 1 6).toNatClampNeg (G102 1 8)), (gP rd)) (True) hX hi (by decide +kernel) rfl trivial ?_
                      refine am_icmp_eq (tgt := 159) hX hi (off := (7)) (by decide +kernel) (by decide) (fun c152 => ?_) (fun c152 => ?_)
                      · rw [if_pos c152] at h
                        refine am_blk 159 [(.iconst (0), 1, 0, 0, .int (0 : Int32))] (160, [(0, .ref 1), (1, .int (I 1 7)), (2, .int r102)], [.int (0 : Int32)], (am_up (am_up (am_up I102 4 (I102 1 6).toNatClampNeg r102) 5 (I102 1 6).toNatClampNeg (I 1 7)) 1 6 ((I102 1 6) + (1 : Int32))), (am_up G102 6 (I102 1 6).toNatClampNeg (G102 1 8)), (gP rd)) (True) hX hi (by decide +kernel) rfl trivial ?_
                        cases h
                        refine am_iret hX hi rfl (by first | rfl | decide | (simp [narrow]; done)) (by decide +kernel) ?_
                        exact ⟨rfl, rfl, rfl, rfl⟩
                      · rw [if_neg c152] at h
                        refine am_blk 155 [(.iconst (1), 1, 0, 0, .int (1 : Int32)), (.goto (4), 3, 0, 160, .null)] (160, [(0, .ref 1), (1, .int (I 1 7)), (2, .int r102)], [.int (1 : Int32)], (am_up (am_up (am_up I102 4 (I102 1 6).toNatClampNeg r102) 5 (I102 1 6).toNatClampNeg (I 1 7)) 1 6 ((I102 1 6) + (1 : Int32))), (am_up G102 6 (I102 1 6).toNatClampNeg (G102 1 8)), (gP rd)) (True) hX hi (by decide +kernel) rfl trivial ?_
                        cases h
                        refine am_iret hX hi rfl (by first | rfl | decide | (simp [narrow]; done)) (by decide +kernel) ?_
                        exact ⟨rfl, rfl, rfl, rfl⟩
          · rw [if_pos c26] at h
            refine am_blk 29 [(.aload_n 0, 1, 0, 0, .null), (.dup, 1, 0, 0, .null), (.getfield 47, 3, 9, 7, .null), (.iconst (1), 1, 0, 0, .int (1 : Int32)), (.iadd, 1, 0, 0, .null), (.putfield 47, 3, 9, 7, .null), (.goto (-39), 3, 0, 0, .null)] (0, [(0, .ref 1)], [], (am_up I 1 7 ((I 1 7) + (1 : Int32))), G, (gP rd)) (True) hX hi (by decide +kernel) rfl trivial ?_
            exact ih _ _  _ h
set_option maxRecDepth 20000 in
set_option maxHeartbeats 4000000 in
theorem c_X9_readToken_1 (rd : Nat) (I : am_I) (G : am_G)  {out : Int32 × am_I × am_G} (h : R_X9_readToken_1 I G  = some out) : am_Ct mX9_readToken 7 gS [.ref 1] I G (gP rd) (pI out.1 out.2.1 out.2.2 (gP rd)) := by
  refine am_ofF (by decide +kernel) rfl (by decide) (by omega) (Nat.le_of_ble_eq_true rfl) (fun X ad hX hi => ?_)
  have hi : am_info X 9 cX9_readToken 3 false (Option.some Jvm.ClassFile.FieldType.boolean) 7 := hi
  show am_V X 0 0 _ _ ad (0, [(0, .ref 1)], [], I, G, (gP rd))
  unfold R_X9_readToken_1 at h
  exact (l_X9_readToken_1 rd hX hi FU) _ _  _ h
noncomputable def L_X9_scan_1 (n0 : Nat) (hd : Nat) (I : am_I) (G : am_G) (v1 : Int32) (v2 : Int32) : Option (Unit × am_I × am_G) := match n0 with
  | 0 => none
  | n + 1 => match hd with
    | _ => (if (400 : Int32) < v2 then some ((), I, G) else (if v1 = 0 then some ((), I, G) else rb (R_X9_readToken_1 I G ) (fun r101 I101 G101 => L_X9_scan_1 n 0 I101 G101 r101 (v2 + (1 : Int32)))))
theorem L_X9_scan_1_0 (n : Nat) (I : am_I) (G : am_G) (v1 : Int32) (v2 : Int32) : L_X9_scan_1 (n + 1) 0 I G v1 v2 = (if (400 : Int32) < v2 then some ((), I, G) else (if v1 = 0 then some ((), I, G) else rb (R_X9_readToken_1 I G ) (fun r101 I101 G101 => L_X9_scan_1 n 0 I101 G101 r101 (v2 + (1 : Int32))))) := rfl
theorem L_X9_scan_1_z (h : Nat) (I : am_I) (G : am_G) (v1 : Int32) (v2 : Int32) : L_X9_scan_1 0 h I G v1 v2 = none := rfl
noncomputable def R_X9_scan_1 (I : am_I) (G : am_G)  : Option (Unit × am_I × am_G) := L_X9_scan_1 FU 0 (am_up (am_up I 1 7 (0 : Int32)) 1 6 (0 : Int32)) G (1 : Int32) (0 : Int32)
set_option maxRecDepth 20000 in
set_option maxHeartbeats 4000000 in
theorem l_X9_scan_1 (rd : Nat) {X : am_X} {ad : Nat → Nat} (hX : am_okz X ad) (hi : am_info X 9 cX9_scan 3 false none 8) (n : Nat) : (∀ (I : am_I) (G : am_G) (v1 : Int32) (v2 : Int32) (out : Unit × am_I × am_G), L_X9_scan_1 n 0 I G v1 v2 = some out → am_V X 0 0 (am_Rt X gS ad (pV out.2.1 out.2.2 (gP rd))) gS ad (14, [(0, .ref 1), (1, .int v1), (2, .int v2)], [], I, G, (gP rd))) := by
  induction n with
  | zero => exact fun I G v1 v2 out h => by rw [L_X9_scan_1_z] at h; cases h
  | succ n ih =>
    · intro I G v1 v2 out h
      rw [L_X9_scan_1_0] at h
      refine am_blk 14 [(.iload_n 2, 1, 2, 0, .null), (.sipush (400), 3, 0, 0, .int (400 : Int32))] (18, [(0, .ref 1), (1, .int v1), (2, .int v2)], [.int (400 : Int32), .int v2], I, G, (gP rd)) (True) hX hi (by decide +kernel) rfl trivial ?_
      refine am_icmp_gt (tgt := 36) hX hi (off := (18)) (by decide +kernel) (by decide) (fun c18 => ?_) (fun c18 => ?_)
      · rw [if_pos c18] at h
        cases h
        refine am_vret hX hi rfl (by decide +kernel) ?_
        exact ⟨rfl, rfl, rfl, rfl⟩
      · rw [if_neg c18] at h
        refine am_blk 21 [(.iload_n 1, 1, 1, 0, .null)] (22, [(0, .ref 1), (1, .int v1), (2, .int v2)], [.int v1], I, G, (gP rd)) (True) hX hi (by decide +kernel) rfl trivial ?_
        refine am_if_eq (tgt := 36) hX hi (off := (14)) (by decide +kernel) (by decide) (fun c22 => ?_) (fun c22 => ?_)
        · rw [if_pos c22] at h
          cases h
          refine am_vret hX hi rfl (by decide +kernel) ?_
          exact ⟨rfl, rfl, rfl, rfl⟩
        · rw [if_neg c22] at h
          refine am_blk 25 [(.aload_n 0, 1, 0, 0, .null)] (26, [(0, .ref 1), (1, .int v1), (2, .int v2)], [.ref 1], I, G, (gP rd)) (True) hX hi (by decide +kernel) rfl trivial ?_
          obtain ⟨r101, I101, G101, hc, h⟩ := rb_some h
          refine am_callV hX hi (M := mX9_readToken) (idx := 53) (d' := 7) (b := 1) (ci := 9) (As := []) (rest := []) mkX9_readToken miX9_readToken mvX9_readToken (by decide +kernel) (by decide +kernel) rfl (by decide +kernel) rfl ⟨by omega, by decide, Nat.le_of_ble_eq_true rfl⟩ rfl (c_X9_readToken_1 _ I G  hc) ?_
          rintro r9 I9 G9 P9 ⟨e0, e1, e2, e3⟩
          rw [e0, e1, e2, e3]
          show am_V X 0 0 _ _ ad (29, [(0, .ref 1), (1, .int v1), (2, .int v2)], [.int r101], I101, G101, (gP rd))
          refine am_blk 29 [(.istore_n 1, 1, 1, 0, .null), (.iinc 2 (1), 3, 2, 0, .int (1 : Int32)), (.goto (-19), 3, 0, 14, .null)] (14, [(0, .ref 1), (1, .int r101), (2, .int (v2 + (1 : Int32)))], [], I101, G101, (gP rd)) (True) hX hi (by decide +kernel) rfl trivial ?_
          exact ih _ _ _ _ _ h
set_option maxRecDepth 20000 in
set_option maxHeartbeats 4000000 in
theorem c_X9_scan_1 (rd : Nat) (I : am_I) (G : am_G)  {out : Unit × am_I × am_G} (h : R_X9_scan_1 I G  = some out) : am_Ct mX9_scan 8 gS [.ref 1] I G (gP rd) (pV out.2.1 out.2.2 (gP rd)) := by
  refine am_ofF (by decide +kernel) rfl (by decide) (by omega) (Nat.le_of_ble_eq_true rfl) (fun X ad hX hi => ?_)
  have hi : am_info X 9 cX9_scan 3 false none 8 := hi
  show am_V X 0 0 _ _ ad (0, [(0, .ref 1)], [], I, G, (gP rd))
  unfold R_X9_scan_1 at h
  refine am_blk 0 [(.aload_n 0, 1, 0, 0, .null), (.iconst (0), 1, 0, 0, .int (0 : Int32)), (.putfield 47, 3, 9, 7, .null), (.aload_n 0, 1, 0, 0, .null), (.iconst (0), 1, 0, 0, .int (0 : Int32)), (.putfield 50, 3, 9, 6, .null), (.iconst (1), 1, 0, 0, .int (1 : Int32)), (.istore_n 1, 1, 1, 0, .null), (.iconst (0), 1, 0, 0, .int (0 : Int32)), (.istore_n 2, 1, 2, 0, .null)] (14, [(0, .ref 1), (1, .int (1 : Int32)), (2, .int (0 : Int32))], [], (am_up (am_up I 1 7 (0 : Int32)) 1 6 (0 : Int32)), G, (gP rd)) (True) hX hi (by decide +kernel) rfl trivial ?_
  exact (l_X9_scan_1 rd hX hi FU) _ _ _ _ _ h
noncomputable def L_X6_read_28 (n0 : Nat) (hd : Nat) (I : am_I) (G : am_G) (v1 : Int32) : Option (Int32 × am_I × am_G) := match n0 with
  | 0 => none
  | n + 1 => match hd with
    | _ => (if (400 : Int32) ≤ v1 then (if (I 28 6) = (41 : Int32) then some ((I 28 7), I, G) else some (((g_X6_refuse_28 I G ) 28 7), (g_X6_refuse_28 I G ), G)) else (if (I 28 6) = (41 : Int32) then (if (I 28 6) = (41 : Int32) then some ((I 28 7), I, G) else some (((g_X6_refuse_28 I G ) 28 7), (g_X6_refuse_28 I G ), G)) else (if (I 28 6) = (42 : Int32) then (if (I 28 6) = (41 : Int32) then some ((I 28 7), I, G) else some (((g_X6_refuse_28 I G ) 28 7), (g_X6_refuse_28 I G ), G)) else rb (R_X6_readLine_28 I G ) (fun r101 I101 G101 => L_X6_read_28 n 0 I101 G101 (v1 + (1 : Int32))))))
theorem L_X6_read_28_0 (n : Nat) (I : am_I) (G : am_G) (v1 : Int32) : L_X6_read_28 (n + 1) 0 I G v1 = (if (400 : Int32) ≤ v1 then (if (I 28 6) = (41 : Int32) then some ((I 28 7), I, G) else some (((g_X6_refuse_28 I G ) 28 7), (g_X6_refuse_28 I G ), G)) else (if (I 28 6) = (41 : Int32) then (if (I 28 6) = (41 : Int32) then some ((I 28 7), I, G) else some (((g_X6_refuse_28 I G ) 28 7), (g_X6_refuse_28 I G ), G)) else (if (I 28 6) = (42 : Int32) then (if (I 28 6) = (41 : Int32) then some ((I 28 7), I, G) else some (((g_X6_refuse_28 I G ) 28 7), (g_X6_refuse_28 I G ), G)) else rb (R_X6_readLine_28 I G ) (fun r101 I101 G101 => L_X6_read_28 n 0 I101 G101 (v1 + (1 : Int32)))))) := rfl
theorem L_X6_read_28_z (h : Nat) (I : am_I) (G : am_G) (v1 : Int32) : L_X6_read_28 0 h I G v1 = none := rfl
noncomputable def R_X6_read_28 (I : am_I) (G : am_G)  : Option (Int32 × am_I × am_G) := rb (R_X9_scan_1 I G ) (fun r1 I1 G1 => L_X6_read_28 FU 0 (am_up (am_up (am_up (am_up (g_X2_forget_51 (g_X2_forget_49 (g_X2_forget_47 (g_X5_clear_29 I1 G1 ) G1 ) G1 ) G1 ) 28 7 (0 : Int32)) 28 8 (-1 : Int32)) 28 5 (0 : Int32)) 28 6 (f_X9_kindAt_1 (am_up (am_up (am_up (g_X2_forget_51 (g_X2_forget_49 (g_X2_forget_47 (g_X5_clear_29 I1 G1 ) G1 ) G1 ) G1 ) 28 7 (0 : Int32)) 28 8 (-1 : Int32)) 28 5 (0 : Int32)) G1 (0 : Int32))) G1 (0 : Int32))
set_option maxRecDepth 20000 in
set_option maxHeartbeats 4000000 in
theorem l_X6_read_28 (rd : Nat) {X : am_X} {ad : Nat → Nat} (hX : am_okz X ad) (hi : am_info X 6 cX6_read 2 false (Option.some Jvm.ClassFile.FieldType.int) 50) (n : Nat) : (∀ (I : am_I) (G : am_G) (v1 : Int32) (out : Int32 × am_I × am_G), L_X6_read_28 n 0 I G v1 = some out → am_V X 0 0 (am_Rt X gS ad (pI out.1 out.2.1 out.2.2 (gP rd))) gS ad (64, [(0, .ref 28), (1, .int v1)], [], I, G, (gP rd))) := by
  induction n with
  | zero => exact fun I G v1 out h => by rw [L_X6_read_28_z] at h; cases h
  | succ n ih =>
    · intro I G v1 out h
      rw [L_X6_read_28_0] at h
      refine am_blk 64 [(.iload_n 1, 1, 1, 0, .null), (.sipush (400), 3, 0, 0, .int (400 : Int32))] (68, [(0, .ref 28), (1, .int v1)], [.int (400 : Int32), .int v1], I, G, (gP rd)) (True) hX hi (by decide +kernel) rfl trivial ?_
      refine am_icmp_ge (tgt := 99) hX hi (off := (31)) (by decide +kernel) (by decide) (fun c68 => ?_) (fun c68 => ?_)
      · rw [if_pos c68] at h
        refine am_blk 99 [(.aload_n 0, 1, 0, 0, .null), (.getfield 62, 3, 6, 6, .null), (.bipush (41), 2, 0, 0, .int (41 : Int32))] (105, [(0, .ref 28), (1, .int v1)], [.int (41 : Int32), .int (I 28 6)], I, G, (gP rd)) (True) hX hi (by decide +kernel) rfl trivial ?_
        refine am_icmp_eq (tgt := 112) hX hi (off := (7)) (by decide +kernel) (by decide) (fun c105 => ?_) (fun c105 => ?_)
        · rw [if_pos c105] at h
          refine am_blk 112 [(.aload_n 0, 1, 0, 0, .null), (.getfield 48, 3, 6, 7, .null)] (116, [(0, .ref 28), (1, .int v1)], [.int (I 28 7)], I, G, (gP rd)) (True) hX hi (by decide +kernel) rfl trivial ?_
          cases h
          refine am_iret hX hi rfl rfl (by decide +kernel) ?_
          exact ⟨rfl, rfl, rfl, rfl⟩
        · rw [if_neg c105] at h
          refine am_blk 108 [(.aload_n 0, 1, 0, 0, .null)] (109, [(0, .ref 28), (1, .int v1)], [.ref 28], I, G, (gP rd)) (True) hX hi (by decide +kernel) rfl trivial ?_
          refine am_callV hX hi (M := mX6_refuse) (idx := 70) (d' := 2) (b := 28) (ci := 6) (As := []) (rest := []) mkX6_refuse miX6_refuse mvX6_refuse (by decide +kernel) (by decide +kernel) rfl (by decide +kernel) rfl ⟨by omega, by decide, Nat.le_of_ble_eq_true rfl⟩ rfl (c_X6_refuse_28 _ I G ) ?_
          rintro r9 I9 G9 P9 ⟨e0, e1, e2, e3⟩
          rw [e0, e1, e2, e3]
          show am_V X 0 0 _ _ ad (112, [(0, .ref 28), (1, .int v1)], [], (g_X6_refuse_28 I G ), G, (gP rd))
          refine am_blk 112 [(.aload_n 0, 1, 0, 0, .null), (.getfield 48, 3, 6, 7, .null)] (116, [(0, .ref 28), (1, .int v1)], [.int ((g_X6_refuse_28 I G ) 28 7)], (g_X6_refuse_28 I G ), G, (gP rd)) (True) hX hi (by decide +kernel) rfl trivial ?_
          cases h
          refine am_iret hX hi rfl rfl (by decide +kernel) ?_
          exact ⟨rfl, rfl, rfl, rfl⟩
      · rw [if_neg c68] at h
        refine am_blk 71 [(.aload_n 0, 1, 0, 0, .null), (.getfield 62, 3, 6, 6, .null), (.bipush (41), 2, 0, 0, .int (41 : Int32))] (77, [(0, .ref 28), (1, .int v1)], [.int (41 : Int32), .int (I 28 6)], I, G, (gP rd)) (True) hX hi (by decide +kernel) rfl trivial ?_
        refine am_icmp_eq (tgt := 99) hX hi (off := (22)) (by decide +kernel) (by decide) (fun c77 => ?_) (fun c77 => ?_)
        · rw [if_pos c77] at h
          refine am_blk 99 [(.aload_n 0, 1, 0, 0, .null), (.getfield 62, 3, 6, 6, .null), (.bipush (41), 2, 0, 0, .int (41 : Int32))] (105, [(0, .ref 28), (1, .int v1)], [.int (41 : Int32), .int (I 28 6)], I, G, (gP rd)) (True) hX hi (by decide +kernel) rfl trivial ?_
          refine am_icmp_eq (tgt := 112) hX hi (off := (7)) (by decide +kernel) (by decide) (fun c105 => ?_) (fun c105 => ?_)
          · rw [if_pos c105] at h
            refine am_blk 112 [(.aload_n 0, 1, 0, 0, .null), (.getfield 48, 3, 6, 7, .null)] (116, [(0, .ref 28), (1, .int v1)], [.int (I 28 7)], I, G, (gP rd)) (True) hX hi (by decide +kernel) rfl trivial ?_
            cases h
            refine am_iret hX hi rfl rfl (by decide +kernel) ?_
            exact ⟨rfl, rfl, rfl, rfl⟩
          · rw [if_neg c105] at h
            refine am_blk 108 [(.aload_n 0, 1, 0, 0, .null)] (109, [(0, .ref 28), (1, .int v1)], [.ref 28], I, G, (gP rd)) (True) hX hi (by decide +kernel) rfl trivial ?_
            refine am_callV hX hi (M := mX6_refuse) (idx := 70) (d' := 2) (b := 28) (ci := 6) (As := []) (rest := []) mkX6_refuse miX6_refuse mvX6_refuse (by decide +kernel) (by decide +kernel) rfl (by decide +kernel) rfl ⟨by omega, by decide, Nat.le_of_ble_eq_true rfl⟩ rfl (c_X6_refuse_28 _ I G ) ?_
            rintro r9 I9 G9 P9 ⟨e0, e1, e2, e3⟩
            rw [e0, e1, e2, e3]
            show am_V X 0 0 _ _ ad (112, [(0, .ref 28), (1, .int v1)], [], (g_X6_refuse_28 I G ), G, (gP rd))
            refine am_blk 112 [(.aload_n 0, 1, 0, 0, .null), (.getfield 48, 3, 6, 7, .null)] (116, [(0, .ref 28), (1, .int v1)], [.int ((g_X6_refuse_28 I G ) 28 7)], (g_X6_refuse_28 I G ), G, (gP rd)) (True) hX hi (by decide +kernel) rfl trivial ?_
            cases h
            refine am_iret hX hi rfl rfl (by decide +kernel) ?_
            exact ⟨rfl, rfl, rfl, rfl⟩
        · rw [if_neg c77] at h
          refine am_blk 80 [(.aload_n 0, 1, 0, 0, .null), (.getfield 62, 3, 6, 6, .null), (.bipush (42), 2, 0, 0, .int (42 : Int32))] (86, [(0, .ref 28), (1, .int v1)], [.int (42 : Int32), .int (I 28 6)], I, G, (gP rd)) (True) hX hi (by decide +kernel) rfl trivial ?_
          refine am_icmp_eq (tgt := 99) hX hi (off := (13)) (by decide +kernel) (by decide) (fun c86 => ?_) (fun c86 => ?_)
          · rw [if_pos c86] at h
            refine am_blk 99 [(.aload_n 0, 1, 0, 0, .null), (.getfield 62, 3, 6, 6, .null), (.bipush (41), 2, 0, 0, .int (41 : Int32))] (105, [(0, .ref 28), (1, .int v1)], [.int (41 : Int32), .int (I 28 6)], I, G, (gP rd)) (True) hX hi (by decide +kernel) rfl trivial ?_
            refine am_icmp_eq (tgt := 112) hX hi (off := (7)) (by decide +kernel) (by decide) (fun c105 => ?_) (fun c105 => ?_)
            · rw [if_pos c105] at h
              refine am_blk 112 [(.aload_n 0, 1, 0, 0, .null), (.getfield 48, 3, 6, 7, .null)] (116, [(0, .ref 28), (1, .int v1)], [.int (I 28 7)], I, G, (gP rd)) (True) hX hi (by decide +kernel) rfl trivial ?_
              cases h
              refine am_iret hX hi rfl rfl (by decide +kernel) ?_
              exact ⟨rfl, rfl, rfl, rfl⟩
            · rw [if_neg c105] at h
              refine am_blk 108 [(.aload_n 0, 1, 0, 0, .null)] (109, [(0, .ref 28), (1, .int v1)], [.ref 28], I, G, (gP rd)) (True) hX hi (by decide +kernel) rfl trivial ?_
              refine am_callV hX hi (M := mX6_refuse) (idx := 70) (d' := 2) (b := 28) (ci := 6) (As := []) (rest := []) mkX6_refuse miX6_refuse mvX6_refuse (by decide +kernel) (by decide +kernel) rfl (by decide +kernel) rfl ⟨by omega, by decide, Nat.le_of_ble_eq_true rfl⟩ rfl (c_X6_refuse_28 _ I G ) ?_
              rintro r9 I9 G9 P9 ⟨e0, e1, e2, e3⟩
              rw [e0, e1, e2, e3]
              show am_V X 0 0 _ _ ad (112, [(0, .ref 28), (1, .int v1)], [], (g_X6_refuse_28 I G ), G, (gP rd))
              refine am_blk 112 [(.aload_n 0, 1, 0, 0, .null), (.getfield 48, 3, 6, 7, .null)] (116, [(0, .ref 28), (1, .int v1)], [.int ((g_X6_refuse_28 I G ) 28 7)], (g_X6_refuse_28 I G ), G, (gP rd)) (True) hX hi (by decide +kernel) rfl trivial ?_
              cases h
              refine am_iret hX hi rfl rfl (by decide +kernel) ?_
              exact ⟨rfl, rfl, rfl, rfl⟩
          · rw [if_neg c86] at h
            refine am_blk 89 [(.aload_n 0, 1, 0, 0, .null)] (90, [(0, .ref 28), (1, .int v1)], [.ref 28], I, G, (gP rd)) (True) hX hi (by decide +kernel) rfl trivial ?_
            obtain ⟨r101, I101, G101, hc, h⟩ := rb_some h
            refine am_callV hX hi (M := mX6_readLine) (idx := 67) (d' := 49) (b := 28) (ci := 6) (As := []) (rest := []) mkX6_readLine miX6_readLine mvX6_readLine (by decide +kernel) (by decide +kernel) rfl (by decide +kernel) rfl ⟨by omega, by decide, Nat.le_of_ble_eq_true rfl⟩ rfl (c_X6_readLine_28 _ I G  hc) ?_
            rintro r9 I9 G9 P9 ⟨e0, e1, e2, e3⟩
            rw [e0, e1, e2, e3]
            show am_V X 0 0 _ _ ad (93, [(0, .ref 28), (1, .int v1)], [], I101, G101, (gP rd))
            refine am_blk 93 [(.iinc 1 (1), 3, 1, 0, .int (1 : Int32)), (.goto (-32), 3, 0, 64, .null)] (64, [(0, .ref 28), (1, .int (v1 + (1 : Int32)))], [], I101, G101, (gP rd)) (True) hX hi (by decide +kernel) rfl trivial ?_
            exact ih _ _ _ _ h
set_option maxRecDepth 20000 in
set_option maxHeartbeats 4000000 in
theorem c_X6_read_28 (rd : Nat) (I : am_I) (G : am_G)  {out : Int32 × am_I × am_G} (h : R_X6_read_28 I G  = some out) : am_Ct mX6_read 50 gS [.ref 28] I G (gP rd) (pI out.1 out.2.1 out.2.2 (gP rd)) := by
  refine am_ofF (by decide +kernel) rfl (by decide) (by omega) (Nat.le_of_ble_eq_true rfl) (fun X ad hX hi => ?_)
  have hi : am_info X 6 cX6_read 2 false (Option.some Jvm.ClassFile.FieldType.int) 50 := hi
  show am_V X 0 0 _ _ ad (0, [(0, .ref 28)], [], I, G, (gP rd))
  unfold R_X6_read_28 at h
  refine am_blk 0 [(.aload_n 0, 1, 0, 0, .null), (.getfield 33, 3, 6, 0, .null)] (4, [(0, .ref 28)], [.ref 1], I, G, (gP rd)) (True) hX hi (by decide +kernel) rfl trivial ?_
  obtain ⟨r1, I1, G1, hc, h⟩ := rb_some h
  refine am_callV hX hi (M := mX9_scan) (idx := 37) (d' := 8) (b := 1) (ci := 9) (As := []) (rest := []) mkX9_scan miX9_scan mvX9_scan (by decide +kernel) (by decide +kernel) rfl (by decide +kernel) rfl ⟨by omega, by decide, Nat.le_of_ble_eq_true rfl⟩ rfl (c_X9_scan_1 _ I G  hc) ?_
  rintro r9 I9 G9 P9 ⟨e0, e1, e2, e3⟩
  rw [e0, e1, e2, e3]
  show am_V X 0 0 _ _ ad (7, [(0, .ref 28)], [], I1, G1, (gP rd))
  refine am_blk 7 [(.aload_n 0, 1, 0, 0, .null), (.getfield 12, 3, 6, 1, .null)] (11, [(0, .ref 28)], [.ref 29], I1, G1, (gP rd)) (True) hX hi (by decide +kernel) rfl trivial ?_
  refine am_callV hX hi (M := mX5_clear) (idx := 42) (d' := 2) (b := 29) (ci := 5) (As := []) (rest := []) mkX5_clear miX5_clear mvX5_clear (by decide +kernel) (by decide +kernel) rfl (by decide +kernel) rfl ⟨by omega, by decide, Nat.le_of_ble_eq_true rfl⟩ rfl (c_X5_clear_29 _ I1 G1 ) ?_
  rintro r9 I9 G9 P9 ⟨e0, e1, e2, e3⟩
  rw [e0, e1, e2, e3]
  show am_V X 0 0 _ _ ad (14, [(0, .ref 28)], [], (g_X5_clear_29 I1 G1 ), G1, (gP rd))
  refine am_blk 14 [(.aload_n 0, 1, 0, 0, .null), (.getfield 23, 3, 6, 2, .null)] (18, [(0, .ref 28)], [.ref 47], (g_X5_clear_29 I1 G1 ), G1, (gP rd)) (True) hX hi (by decide +kernel) rfl trivial ?_
  refine am_callV hX hi (M := mX2_forget) (idx := 45) (d' := 1) (b := 47) (ci := 2) (As := []) (rest := []) mkX2_forget miX2_forget mvX2_forget (by decide +kernel) (by decide +kernel) rfl (by decide +kernel) rfl ⟨by omega, by decide, Nat.le_of_ble_eq_true rfl⟩ rfl (c_X2_forget_47 _ (g_X5_clear_29 I1 G1 ) G1 ) ?_
  rintro r9 I9 G9 P9 ⟨e0, e1, e2, e3⟩
  rw [e0, e1, e2, e3]
  show am_V X 0 0 _ _ ad (21, [(0, .ref 28)], [], (g_X2_forget_47 (g_X5_clear_29 I1 G1 ) G1 ), G1, (gP rd))
  refine am_blk 21 [(.aload_n 0, 1, 0, 0, .null), (.getfield 27, 3, 6, 3, .null)] (25, [(0, .ref 28)], [.ref 49], (g_X2_forget_47 (g_X5_clear_29 I1 G1 ) G1 ), G1, (gP rd)) (True) hX hi (by decide +kernel) rfl trivial ?_
  refine am_callV hX hi (M := mX2_forget) (idx := 45) (d' := 1) (b := 49) (ci := 2) (As := []) (rest := []) mkX2_forget miX2_forget mvX2_forget (by decide +kernel) (by decide +kernel) rfl (by decide +kernel) rfl ⟨by omega, by decide, Nat.le_of_ble_eq_true rfl⟩ rfl (c_X2_forget_49 _ (g_X2_forget_47 (g_X5_clear_29 I1 G1 ) G1 ) G1 ) ?_
  rintro r9 I9 G9 P9 ⟨e0, e1, e2, e3⟩
  rw [e0, e1, e2, e3]
  show am_V X 0 0 _ _ ad (28, [(0, .ref 28)], [], (g_X2_forget_49 (g_X2_forget_47 (g_X5_clear_29 I1 G1 ) G1 ) G1 ), G1, (gP rd))
  refine am_blk 28 [(.aload_n 0, 1, 0, 0, .null), (.getfield 30, 3, 6, 4, .null)] (32, [(0, .ref 28)], [.ref 51], (g_X2_forget_49 (g_X2_forget_47 (g_X5_clear_29 I1 G1 ) G1 ) G1 ), G1, (gP rd)) (True) hX hi (by decide +kernel) rfl trivial ?_
  refine am_callV hX hi (M := mX2_forget) (idx := 45) (d' := 1) (b := 51) (ci := 2) (As := []) (rest := []) mkX2_forget miX2_forget mvX2_forget (by decide +kernel) (by decide +kernel) rfl (by decide +kernel) rfl ⟨by omega, by decide, Nat.le_of_ble_eq_true rfl⟩ rfl (c_X2_forget_51 _ (g_X2_forget_49 (g_X2_forget_47 (g_X5_clear_29 I1 G1 ) G1 ) G1 ) G1 ) ?_
  rintro r9 I9 G9 P9 ⟨e0, e1, e2, e3⟩
  rw [e0, e1, e2, e3]
  show am_V X 0 0 _ _ ad (35, [(0, .ref 28)], [], (g_X2_forget_51 (g_X2_forget_49 (g_X2_forget_47 (g_X5_clear_29 I1 G1 ) G1 ) G1 ) G1 ), G1, (gP rd))
  refine am_blk 35 [(.aload_n 0, 1, 0, 0, .null), (.iconst (0), 1, 0, 0, .int (0 : Int32)), (.putfield 48, 3, 6, 7, .null), (.aload_n 0, 1, 0, 0, .null), (.iconst (-1), 1, 0, 0, .int (-1 : Int32)), (.putfield 52, 3, 6, 8, .null), (.aload_n 0, 1, 0, 0, .null), (.iconst (0), 1, 0, 0, .int (0 : Int32)), (.putfield 55, 3, 6, 5, .null), (.aload_n 0, 1, 0, 0, .null), (.aload_n 0, 1, 0, 0, .null), (.getfield 33, 3, 6, 0, .null), (.iconst (0), 1, 0, 0, .int (0 : Int32))] (56, [(0, .ref 28)], [.int (0 : Int32), .ref 1, .ref 28], (am_up (am_up (am_up (g_X2_forget_51 (g_X2_forget_49 (g_X2_forget_47 (g_X5_clear_29 I1 G1 ) G1 ) G1 ) G1 ) 28 7 (0 : Int32)) 28 8 (-1 : Int32)) 28 5 (0 : Int32)), G1, (gP rd)) (True) hX hi (by decide +kernel) rfl trivial ?_
  refine am_callV hX hi (M := mX9_kindAt) (idx := 58) (d' := 1) (b := 1) (ci := 9) (As := [.int (0 : Int32)]) (rest := [.ref 28]) mkX9_kindAt miX9_kindAt mvX9_kindAt (by decide +kernel) (by decide +kernel) rfl (by decide +kernel) rfl ⟨by omega, by decide, Nat.le_of_ble_eq_true rfl⟩ rfl (c_X9_kindAt_1 _ (am_up (am_up (am_up (g_X2_forget_51 (g_X2_forget_49 (g_X2_forget_47 (g_X5_clear_29 I1 G1 ) G1 ) G1 ) G1 ) 28 7 (0 : Int32)) 28 8 (-1 : Int32)) 28 5 (0 : Int32)) G1 (0 : Int32)) ?_
  rintro r9 I9 G9 P9 ⟨e0, e1, e2, e3⟩
  rw [e0, e1, e2, e3]
  show am_V X 0 0 _ _ ad (59, [(0, .ref 28)], [.int (f_X9_kindAt_1 (am_up (am_up (am_up (g_X2_forget_51 (g_X2_forget_49 (g_X2_forget_47 (g_X5_clear_29 I1 G1 ) G1 ) G1 ) G1 ) 28 7 (0 : Int32)) 28 8 (-1 : Int32)) 28 5 (0 : Int32)) G1 (0 : Int32)), .ref 28], (am_up (am_up (am_up (g_X2_forget_51 (g_X2_forget_49 (g_X2_forget_47 (g_X5_clear_29 I1 G1 ) G1 ) G1 ) G1 ) 28 7 (0 : Int32)) 28 8 (-1 : Int32)) 28 5 (0 : Int32)), G1, (gP rd))
  refine am_blk 59 [(.putfield 62, 3, 6, 6, .null), (.iconst (0), 1, 0, 0, .int (0 : Int32)), (.istore_n 1, 1, 1, 0, .null)] (64, [(0, .ref 28), (1, .int (0 : Int32))], [], (am_up (am_up (am_up (am_up (g_X2_forget_51 (g_X2_forget_49 (g_X2_forget_47 (g_X5_clear_29 I1 G1 ) G1 ) G1 ) G1 ) 28 7 (0 : Int32)) 28 8 (-1 : Int32)) 28 5 (0 : Int32)) 28 6 (f_X9_kindAt_1 (am_up (am_up (am_up (g_X2_forget_51 (g_X2_forget_49 (g_X2_forget_47 (g_X5_clear_29 I1 G1 ) G1 ) G1 ) G1 ) 28 7 (0 : Int32)) 28 8 (-1 : Int32)) 28 5 (0 : Int32)) G1 (0 : Int32))), G1, (gP rd)) (True) hX hi (by decide +kernel) rfl trivial ?_
  exact (l_X6_read_28 rd hX hi FU) _ _ _ _ h
noncomputable def R_X11_teach_0 (I : am_I) (G : am_G)  : Option (Int32 × am_I × am_G) := rb (R_X6_read_28 I G ) (fun r1 I1 G1 => (if r1 = 0 then rb (R_X5_take_7_29 (am_up (am_up I1 0 6 (I1 28 8)) 1 5 (0 : Int32)) G1 ) (fun r2 I2 G2 => rb (R_X10_forget_25 I2 G2 ) (fun r3 I3 G3 => rb (R_X7_begin_53 I3 G3 ) (fun r4 I4 G4 => some (r1, I4, G4)))) else some (r1, (am_up (am_up I1 0 6 (I1 28 8)) 1 5 (0 : Int32)), G1)))
set_option maxRecDepth 20000 in
set_option maxHeartbeats 4000000 in
theorem c_X11_teach_0 (rd : Nat) (I : am_I) (G : am_G)  {out : Int32 × am_I × am_G} (h : R_X11_teach_0 I G  = some out) : am_Ct mX11_teach 51 gS [.ref 0] I G (gP rd) (pI out.1 out.2.1 out.2.2 (gP rd)) := by
  refine am_ofF (by decide +kernel) rfl (by decide) (by omega) (Nat.le_of_ble_eq_true rfl) (fun X ad hX hi => ?_)
  have hi : am_info X 11 cX11_teach 2 false (Option.some Jvm.ClassFile.FieldType.int) 51 := hi
  show am_V X 0 0 _ _ ad (0, [(0, .ref 0)], [], I, G, (gP rd))
  unfold R_X11_teach_0 at h
  refine am_blk 0 [(.aload_n 0, 1, 0, 0, .null), (.getfield 29, 3, 11, 1, .null)] (4, [(0, .ref 0)], [.ref 28], I, G, (gP rd)) (True) hX hi (by decide +kernel) rfl trivial ?_
  obtain ⟨r1, I1, G1, hc, h⟩ := rb_some h
  refine am_callV hX hi (M := mX6_read) (idx := 76) (d' := 50) (b := 28) (ci := 6) (As := []) (rest := []) mkX6_read miX6_read mvX6_read (by decide +kernel) (by decide +kernel) rfl (by decide +kernel) rfl ⟨by omega, by decide, Nat.le_of_ble_eq_true rfl⟩ rfl (c_X6_read_28 _ I G  hc) ?_
  rintro r9 I9 G9 P9 ⟨e0, e1, e2, e3⟩
  rw [e0, e1, e2, e3]
  show am_V X 0 0 _ _ ad (7, [(0, .ref 0)], [.int r1], I1, G1, (gP rd))
  refine am_blk 7 [(.istore_n 1, 1, 1, 0, .null), (.aload_n 0, 1, 0, 0, .null), (.aload_n 0, 1, 0, 0, .null), (.getfield 29, 3, 11, 1, .null), (.getfield 80, 3, 6, 8, .null), (.putfield 53, 3, 11, 6, .null), (.aload_n 0, 1, 0, 0, .null), (.getfield 20, 3, 11, 0, .null), (.iconst (0), 1, 0, 0, .int (0 : Int32)), (.putfield 57, 3, 9, 5, .null), (.iload_n 1, 1, 1, 0, .null)] (28, [(0, .ref 0), (1, .int r1)], [.int r1], (am_up (am_up I1 0 6 (I1 28 8)) 1 5 (0 : Int32)), G1, (gP rd)) (True) hX hi (by decide +kernel) rfl trivial ?_
  refine am_if_ne (tgt := 59) hX hi (off := (31)) (by decide +kernel) (by decide) (fun c28 => ?_) (fun c28 => ?_)
  · rw [if_neg c28] at h
    refine am_blk 59 [(.iload_n 1, 1, 1, 0, .null)] (60, [(0, .ref 0), (1, .int r1)], [.int r1], (am_up (am_up I1 0 6 (I1 28 8)) 1 5 (0 : Int32)), G1, (gP rd)) (True) hX hi (by decide +kernel) rfl trivial ?_
    cases h
    refine am_iret hX hi rfl rfl (by decide +kernel) ?_
    exact ⟨rfl, rfl, rfl, rfl⟩
  · rw [if_pos c28] at h
    refine am_blk 31 [(.aload_n 0, 1, 0, 0, .null), (.getfield 33, 3, 11, 2, .null), (.aload_n 0, 1, 0, 0, .null), (.getfield 29, 3, 11, 1, .null), (.getfield 81, 3, 6, 1, .null)] (42, [(0, .ref 0), (1, .int r1)], [.ref 29, .ref 7], (am_up (am_up I1 0 6 (I1 28 8)) 1 5 (0 : Int32)), G1, (gP rd)) (True) hX hi (by decide +kernel) rfl trivial ?_
    obtain ⟨r2, I2, G2, hc, h⟩ := rb_some h
    refine am_callV hX hi (M := mX5_take) (idx := 84) (d' := 4) (b := 7) (ci := 5) (As := [.ref 29]) (rest := []) mkX5_take miX5_take mvX5_take (by decide +kernel) (by decide +kernel) rfl (by decide +kernel) rfl ⟨by omega, by decide, Nat.le_of_ble_eq_true rfl⟩ rfl (c_X5_take_7_29 _ (am_up (am_up I1 0 6 (I1 28 8)) 1 5 (0 : Int32)) G1  hc) ?_
    rintro r9 I9 G9 P9 ⟨e0, e1, e2, e3⟩
    rw [e0, e1, e2, e3]
    show am_V X 0 0 _ _ ad (45, [(0, .ref 0), (1, .int r1)], [], I2, G2, (gP rd))
    refine am_blk 45 [(.aload_n 0, 1, 0, 0, .null), (.getfield 37, 3, 11, 3, .null)] (49, [(0, .ref 0), (1, .int r1)], [.ref 25], I2, G2, (gP rd)) (True) hX hi (by decide +kernel) rfl trivial ?_
    obtain ⟨r3, I3, G3, hc, h⟩ := rb_some h
    refine am_callV hX hi (M := mX10_forget) (idx := 87) (d' := 1) (b := 25) (ci := 10) (As := []) (rest := []) mkX10_forget miX10_forget mvX10_forget (by decide +kernel) (by decide +kernel) rfl (by decide +kernel) rfl ⟨by omega, by decide, Nat.le_of_ble_eq_true rfl⟩ rfl (c_X10_forget_25 _ I2 G2  hc) ?_
    rintro r9 I9 G9 P9 ⟨e0, e1, e2, e3⟩
    rw [e0, e1, e2, e3]
    show am_V X 0 0 _ _ ad (52, [(0, .ref 0), (1, .int r1)], [], I3, G3, (gP rd))
    refine am_blk 52 [(.aload_n 0, 1, 0, 0, .null), (.getfield 46, 3, 11, 4, .null)] (56, [(0, .ref 0), (1, .int r1)], [.ref 53], I3, G3, (gP rd)) (True) hX hi (by decide +kernel) rfl trivial ?_
    obtain ⟨r4, I4, G4, hc, h⟩ := rb_some h
    refine am_callV hX hi (M := mX7_begin) (idx := 90) (d' := 5) (b := 53) (ci := 7) (As := []) (rest := []) mkX7_begin miX7_begin mvX7_begin (by decide +kernel) (by decide +kernel) rfl (by decide +kernel) rfl ⟨by omega, by decide, Nat.le_of_ble_eq_true rfl⟩ rfl (c_X7_begin_53 _ I3 G3  hc) ?_
    rintro r9 I9 G9 P9 ⟨e0, e1, e2, e3⟩
    rw [e0, e1, e2, e3]
    show am_V X 0 0 _ _ ad (59, [(0, .ref 0), (1, .int r1)], [], I4, G4, (gP rd))
    refine am_blk 59 [(.iload_n 1, 1, 1, 0, .null)] (60, [(0, .ref 0), (1, .int r1)], [.int r1], I4, G4, (gP rd)) (True) hX hi (by decide +kernel) rfl trivial ?_
    cases h
    refine am_iret hX hi rfl rfl (by decide +kernel) ?_
    exact ⟨rfl, rfl, rfl, rfl⟩
