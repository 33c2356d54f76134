theorem am_tw {j : Int32} (h : vp_in j 24) : am_tB[3 + j.toNatClampNeg]? = some (am_wP.getD j.toNatClampNeg 0, (am_tB.getD (3 + j.toNatClampNeg) (0, [])).2) := by
  have h1 : (List.range 24).all (fun n => decide (am_tB[3 + n]? = some (am_wP.getD n 0, (am_tB.getD (3 + n) (0, [])).2))) = true := by decide +kernel
  have h2 := (i_in _ _).mp h
  exact of_decide_eq_true (List.all_eq_true.mp h1 j.toNatClampNeg (List.mem_range.mpr (by rw [i_cl]; omega)))
noncomputable def R_X9_readSymbol_1 (I : am_I) (G : am_G)  : Option (Int32 × am_I × am_G) := (if 0 ≤ (am_tix (am_tB.getD 1 (0, [])).2 ((f_X9_byteHere_1 I G ).toUInt32 % 65536).toInt32) then (if (f_X9_byteHere_1 (am_up I 1 7 ((I 1 7) + (1 : Int32))) G ) = (61 : Int32) then (if (f_X9_byteHere_1 I G ) = (60 : Int32) then (if (f_X9_byteHere_1 I G ) = (60 : Int32) then some ((37 : Int32), (am_up (am_up I 1 7 ((I 1 7) + (1 : Int32))) 1 7 (((I 1 7) + (1 : Int32)) + (1 : Int32))), G) else some ((38 : Int32), (am_up (am_up I 1 7 ((I 1 7) + (1 : Int32))) 1 7 (((I 1 7) + (1 : Int32)) + (1 : Int32))), G)) else (if (f_X9_byteHere_1 I G ) = (62 : Int32) then (if (f_X9_byteHere_1 I G ) = (60 : Int32) then some ((37 : Int32), (am_up (am_up I 1 7 ((I 1 7) + (1 : Int32))) 1 7 (((I 1 7) + (1 : Int32)) + (1 : Int32))), G) else some ((38 : Int32), (am_up (am_up I 1 7 ((I 1 7) + (1 : Int32))) 1 7 (((I 1 7) + (1 : Int32)) + (1 : Int32))), G)) else some (((24 : Int32) + (am_tix (am_tB.getD 1 (0, [])).2 ((f_X9_byteHere_1 I G ).toUInt32 % 65536).toInt32)), (am_up I 1 7 ((I 1 7) + (1 : Int32))), G))) else some (((24 : Int32) + (am_tix (am_tB.getD 1 (0, [])).2 ((f_X9_byteHere_1 I G ).toUInt32 % 65536).toInt32)), (am_up I 1 7 ((I 1 7) + (1 : Int32))), G)) else some ((42 : Int32), I, G))
set_option maxRecDepth 20000 in
set_option maxHeartbeats 4000000 in
theorem c_X9_readSymbol_1 (rd : Nat) (I : am_I) (G : am_G)  {out : Int32 × am_I × am_G} (h : R_X9_readSymbol_1 I G  = some out) : am_Ct mX9_readSymbol 5 gS [.ref 1] I G (gP rd) (pI out.1 out.2.1 out.2.2 (gP rd)) := by
  refine am_ofF (by decide +kernel) rfl (by decide) (by omega) (Nat.le_of_ble_eq_true rfl) (fun X ad hX hi => ?_)
  have hi : am_info X 7 cX9_readSymbol 3 false (Option.some Jvm.ClassFile.FieldType.int) 5 := hi
  show am_V X 0 0 _ _ ad (0, [(0, .ref 1)], [], I, G, (gP rd))
  unfold R_X9_readSymbol_1 at h
  refine am_blk 0 [(.aload_n 0, 1, 0, 0, .null)] (1, [(0, .ref 1)], [.ref 1], I, G, (gP rd)) (True) hX hi (by decide +kernel) rfl trivial ?_
  refine am_callV hX hi (M := mX9_byteHere) (idx := 57) (d' := 1) (b := 1) (ci := 7) (As := []) (rest := []) mkX9_byteHere miX9_byteHere mvX9_byteHere (by decide +kernel) (by decide +kernel) rfl (by decide +kernel) rfl ⟨by omega, by decide, Nat.le_of_ble_eq_true rfl⟩ rfl (c_X9_byteHere_1 _ I G ) ?_
  rintro r9 I9 G9 P9 ⟨e0, e1, e2, e3⟩
  rw [e0, e1, e2, e3]
  show am_V X 0 0 _ _ ad (4, [(0, .ref 1)], [.int (f_X9_byteHere_1 I G )], I, G, (gP rd))
  refine am_blk 4 [(.istore_n 1, 1, 1, 0, .null)] (5, [(0, .ref 1), (1, .int (f_X9_byteHere_1 I G ))], [], I, G, (gP rd)) (True) hX hi (by decide +kernel) rfl trivial ?_
  refine am_ldcS hX hi (i := 1) (idx := 85) rfl rfl rfl (by decide +kernel) ?_
  show am_V X 0 0 _ _ ad (7, [(0, .ref 1), (1, .int (f_X9_byteHere_1 I G ))], [.ref 2001], I, G, (gP rd))
  refine am_blk 7 [(.iload_n 1, 1, 1, 0, .null), (.i2c, 1, 0, 0, .null)] (9, [(0, .ref 1), (1, .int (f_X9_byteHere_1 I G ))], [.int ((f_X9_byteHere_1 I G ).toUInt32 % 65536).toInt32, .ref 2001], I, G, (gP rd)) (True) hX hi (by decide +kernel) rfl trivial ?_
  refine am_callT hX hi (M := mJ0_indexOf_0f7a4) (idx := 87) (d' := 4) (As := [.int ((f_X9_byteHere_1 I G ).toUInt32 % 65536).toInt32]) (rest := []) mkJ0_indexOf_0f7a4 miJ0_indexOf_0f7a4 mvJ0_indexOf_0f7a4 (by decide +kernel) (by decide +kernel) (show am_tB[1]? = some (am_tB.getD 1 (0, [])) from rfl) rfl rfl ⟨by omega, by decide, Nat.le_of_ble_eq_true rfl⟩ rfl (c_sindexOf (show am_tB[1]? = some (am_tB.getD 1 (0, [])) from rfl) ((f_X9_byteHere_1 I G ).toUInt32 % 65536).toInt32) ?_
  rintro r9 I9 G9 P9 ⟨e0, e1, e2, e3⟩
  rw [e0, e1, e2, e3]
  show am_V X 0 0 _ _ ad (12, [(0, .ref 1), (1, .int (f_X9_byteHere_1 I G ))], [.int (am_tix (am_tB.getD 1 (0, [])).2 ((f_X9_byteHere_1 I G ).toUInt32 % 65536).toInt32)], I, G, (gP rd))
  refine am_blk 12 [(.istore_n 2, 1, 2, 0, .null), (.iload_n 2, 1, 2, 0, .null)] (14, [(0, .ref 1), (1, .int (f_X9_byteHere_1 I G )), (2, .int (am_tix (am_tB.getD 1 (0, [])).2 ((f_X9_byteHere_1 I G ).toUInt32 % 65536).toInt32))], [.int (am_tix (am_tB.getD 1 (0, [])).2 ((f_X9_byteHere_1 I G ).toUInt32 % 65536).toInt32)], I, G, (gP rd)) (True) hX hi (by decide +kernel) rfl trivial ?_
  refine am_if_ge (tgt := 20) hX hi (off := (6)) (by decide +kernel) (by decide) (fun c14 => ?_) (fun c14 => ?_)
  · rw [if_pos c14] at h
    refine am_blk 20 [(.aload_n 0, 1, 0, 0, .null), (.dup, 1, 0, 0, .null), (.getfield 47, 3, 7, 7, .null), (.iconst (1), 1, 0, 0, .int (1 : Int32)), (.iadd, 1, 0, 0, .null), (.putfield 47, 3, 7, 7, .null), (.aload_n 0, 1, 0, 0, .null)] (31, [(0, .ref 1), (1, .int (f_X9_byteHere_1 I G )), (2, .int (am_tix (am_tB.getD 1 (0, [])).2 ((f_X9_byteHere_1 I G ).toUInt32 % 65536).toInt32))], [.ref 1], (am_up I 1 7 ((I 1 7) + (1 : Int32))), G, (gP rd)) (True) hX hi (by decide +kernel) rfl trivial ?_
    refine am_callV hX hi (M := mX9_byteHere) (idx := 57) (d' := 1) (b := 1) (ci := 7) (As := []) (rest := []) mkX9_byteHere miX9_byteHere mvX9_byteHere (by decide +kernel) (by decide +kernel) rfl (by decide +kernel) rfl ⟨by omega, by decide, Nat.le_of_ble_eq_true rfl⟩ rfl (c_X9_byteHere_1 _ (am_up I 1 7 ((I 1 7) + (1 : Int32))) G ) ?_
    rintro r9 I9 G9 P9 ⟨e0, e1, e2, e3⟩
    rw [e0, e1, e2, e3]
    show am_V X 0 0 _ _ ad (34, [(0, .ref 1), (1, .int (f_X9_byteHere_1 I G )), (2, .int (am_tix (am_tB.getD 1 (0, [])).2 ((f_X9_byteHere_1 I G ).toUInt32 % 65536).toInt32))], [.int (f_X9_byteHere_1 (am_up I 1 7 ((I 1 7) + (1 : Int32))) G )], (am_up I 1 7 ((I 1 7) + (1 : Int32))), G, (gP rd))
    refine am_blk 34 [(.bipush (61), 2, 0, 0, .int (61 : Int32))] (36, [(0, .ref 1), (1, .int (f_X9_byteHere_1 I G )), (2, .int (am_tix (am_tB.getD 1 (0, [])).2 ((f_X9_byteHere_1 I G ).toUInt32 % 65536).toInt32))], [.int (61 : Int32), .int (f_X9_byteHere_1 (am_up I 1 7 ((I 1 7) + (1 : Int32))) G )], (am_up I 1 7 ((I 1 7) + (1 : Int32))), G, (gP rd)) (True) hX hi (by decide +kernel) rfl trivial ?_
    refine am_icmp_ne (tgt := 75) hX hi (off := (39)) (by decide +kernel) (by decide) (fun c36 => ?_) (fun c36 => ?_)
    · rw [if_neg c36] at h
      refine am_blk 75 [(.bipush (24), 2, 0, 0, .int (24 : Int32)), (.iload_n 2, 1, 2, 0, .null), (.iadd, 1, 0, 0, .null)] (79, [(0, .ref 1), (1, .int (f_X9_byteHere_1 I G )), (2, .int (am_tix (am_tB.getD 1 (0, [])).2 ((f_X9_byteHere_1 I G ).toUInt32 % 65536).toInt32))], [.int ((24 : Int32) + (am_tix (am_tB.getD 1 (0, [])).2 ((f_X9_byteHere_1 I G ).toUInt32 % 65536).toInt32))], (am_up I 1 7 ((I 1 7) + (1 : Int32))), G, (gP rd)) (True) hX hi (by decide +kernel) rfl trivial ?_
      cases h
      refine am_iret hX hi rfl rfl (by decide +kernel) ?_
      exact ⟨rfl, rfl, rfl, rfl⟩
    · rw [if_pos c36] at h
      refine am_blk 39 [(.iload_n 1, 1, 1, 0, .null), (.bipush (60), 2, 0, 0, .int (60 : Int32))] (42, [(0, .ref 1), (1, .int (f_X9_byteHere_1 I G )), (2, .int (am_tix (am_tB.getD 1 (0, [])).2 ((f_X9_byteHere_1 I G ).toUInt32 % 65536).toInt32))], [.int (60 : Int32), .int (f_X9_byteHere_1 I G )], (am_up I 1 7 ((I 1 7) + (1 : Int32))), G, (gP rd)) (True) hX hi (by decide +kernel) rfl trivial ?_
      refine am_icmp_eq (tgt := 51) hX hi (off := (9)) (by decide +kernel) (by decide) (fun c42 => ?_) (fun c42 => ?_)
      · rw [if_pos c42] at h
        refine am_blk 51 [(.aload_n 0, 1, 0, 0, .null), (.dup, 1, 0, 0, .null), (.getfield 47, 3, 7, 7, .null), (.iconst (1), 1, 0, 0, .int (1 : Int32)), (.iadd, 1, 0, 0, .null), (.putfield 47, 3, 7, 7, .null), (.iload_n 1, 1, 1, 0, .null), (.bipush (60), 2, 0, 0, .int (60 : Int32))] (64, [(0, .ref 1), (1, .int (f_X9_byteHere_1 I G )), (2, .int (am_tix (am_tB.getD 1 (0, [])).2 ((f_X9_byteHere_1 I G ).toUInt32 % 65536).toInt32))], [.int (60 : Int32), .int (f_X9_byteHere_1 I G )], (am_up (am_up I 1 7 ((I 1 7) + (1 : Int32))) 1 7 (((I 1 7) + (1 : Int32)) + (1 : Int32))), G, (gP rd)) (True) hX hi (by decide +kernel) rfl trivial ?_
        refine am_icmp_ne (tgt := 72) hX hi (off := (8)) (by decide +kernel) (by decide) (fun c64 => ?_) (fun c64 => ?_)
        · rw [if_neg c64] at h
          refine am_blk 72 [(.bipush (38), 2, 0, 0, .int (38 : Int32))] (74, [(0, .ref 1), (1, .int (f_X9_byteHere_1 I G )), (2, .int (am_tix (am_tB.getD 1 (0, [])).2 ((f_X9_byteHere_1 I G ).toUInt32 % 65536).toInt32))], [.int (38 : Int32)], (am_up (am_up I 1 7 ((I 1 7) + (1 : Int32))) 1 7 (((I 1 7) + (1 : Int32)) + (1 : Int32))), G, (gP rd)) (True) hX hi (by decide +kernel) rfl trivial ?_
          cases h
          refine am_iret hX hi rfl rfl (by decide +kernel) ?_
          exact ⟨rfl, rfl, rfl, rfl⟩
        · rw [if_pos c64] at h
          refine am_blk 67 [(.bipush (37), 2, 0, 0, .int (37 : Int32)), (.goto (5), 3, 0, 74, .null)] (74, [(0, .ref 1), (1, .int (f_X9_byteHere_1 I G )), (2, .int (am_tix (am_tB.getD 1 (0, [])).2 ((f_X9_byteHere_1 I G ).toUInt32 % 65536).toInt32))], [.int (37 : Int32)], (am_up (am_up I 1 7 ((I 1 7) + (1 : Int32))) 1 7 (((I 1 7) + (1 : Int32)) + (1 : Int32))), G, (gP rd)) (True) hX hi (by decide +kernel) rfl trivial ?_
          cases h
          refine am_iret hX hi rfl rfl (by decide +kernel) ?_
          exact ⟨rfl, rfl, rfl, rfl⟩
      · rw [if_neg c42] at h
        refine am_blk 45 [(.iload_n 1, 1, 1, 0, .null), (.bipush (62), 2, 0, 0, .int (62 : Int32))] (48, [(0, .ref 1), (1, .int (f_X9_byteHere_1 I G )), (2, .int (am_tix (am_tB.getD 1 (0, [])).2 ((f_X9_byteHere_1 I G ).toUInt32 % 65536).toInt32))], [.int (62 : Int32), .int (f_X9_byteHere_1 I G )], (am_up I 1 7 ((I 1 7) + (1 : Int32))), G, (gP rd)) (True) hX hi (by decide +kernel) rfl trivial ?_
        refine am_icmp_ne (tgt := 75) hX hi (off := (27)) (by decide +kernel) (by decide) (fun c48 => ?_) (fun c48 => ?_)
        · rw [if_neg c48] at h
          refine am_blk 75 [(.bipush (24), 2, 0, 0, .int (24 : Int32)), (.iload_n 2, 1, 2, 0, .null), (.iadd, 1, 0, 0, .null)] (79, [(0, .ref 1), (1, .int (f_X9_byteHere_1 I G )), (2, .int (am_tix (am_tB.getD 1 (0, [])).2 ((f_X9_byteHere_1 I G ).toUInt32 % 65536).toInt32))], [.int ((24 : Int32) + (am_tix (am_tB.getD 1 (0, [])).2 ((f_X9_byteHere_1 I G ).toUInt32 % 65536).toInt32))], (am_up I 1 7 ((I 1 7) + (1 : Int32))), G, (gP rd)) (True) hX hi (by decide +kernel) rfl trivial ?_
          cases h
          refine am_iret hX hi rfl rfl (by decide +kernel) ?_
          exact ⟨rfl, rfl, rfl, rfl⟩
        · rw [if_pos c48] at h
          refine am_blk 51 [(.aload_n 0, 1, 0, 0, .null), (.dup, 1, 0, 0, .null), (.getfield 47, 3, 7, 7, .null), (.iconst (1), 1, 0, 0, .int (1 : Int32)), (.iadd, 1, 0, 0, .null), (.putfield 47, 3, 7, 7, .null), (.iload_n 1, 1, 1, 0, .null), (.bipush (60), 2, 0, 0, .int (60 : Int32))] (64, [(0, .ref 1), (1, .int (f_X9_byteHere_1 I G )), (2, .int (am_tix (am_tB.getD 1 (0, [])).2 ((f_X9_byteHere_1 I G ).toUInt32 % 65536).toInt32))], [.int (60 : Int32), .int (f_X9_byteHere_1 I G )], (am_up (am_up I 1 7 ((I 1 7) + (1 : Int32))) 1 7 (((I 1 7) + (1 : Int32)) + (1 : Int32))), G, (gP rd)) (True) hX hi (by decide +kernel) rfl trivial ?_
          refine am_icmp_ne (tgt := 72) hX hi (off := (8)) (by decide +kernel) (by decide) (fun c64 => ?_) (fun c64 => ?_)
          · rw [if_neg c64] at h
            refine am_blk 72 [(.bipush (38), 2, 0, 0, .int (38 : Int32))] (74, [(0, .ref 1), (1, .int (f_X9_byteHere_1 I G )), (2, .int (am_tix (am_tB.getD 1 (0, [])).2 ((f_X9_byteHere_1 I G ).toUInt32 % 65536).toInt32))], [.int (38 : Int32)], (am_up (am_up I 1 7 ((I 1 7) + (1 : Int32))) 1 7 (((I 1 7) + (1 : Int32)) + (1 : Int32))), G, (gP rd)) (True) hX hi (by decide +kernel) rfl trivial ?_
            cases h
            refine am_iret hX hi rfl rfl (by decide +kernel) ?_
            exact ⟨rfl, rfl, rfl, rfl⟩
          · rw [if_pos c64] at h
            refine am_blk 67 [(.bipush (37), 2, 0, 0, .int (37 : Int32)), (.goto (5), 3, 0, 74, .null)] (74, [(0, .ref 1), (1, .int (f_X9_byteHere_1 I G )), (2, .int (am_tix (am_tB.getD 1 (0, [])).2 ((f_X9_byteHere_1 I G ).toUInt32 % 65536).toInt32))], [.int (37 : Int32)], (am_up (am_up I 1 7 ((I 1 7) + (1 : Int32))) 1 7 (((I 1 7) + (1 : Int32)) + (1 : Int32))), G, (gP rd)) (True) hX hi (by decide +kernel) rfl trivial ?_
            cases h
            refine am_iret hX hi rfl rfl (by decide +kernel) ?_
            exact ⟨rfl, rfl, rfl, rfl⟩
  · rw [if_neg c14] at h
    refine am_blk 17 [(.bipush (42), 2, 0, 0, .int (42 : Int32))] (19, [(0, .ref 1), (1, .int (f_X9_byteHere_1 I G )), (2, .int (am_tix (am_tB.getD 1 (0, [])).2 ((f_X9_byteHere_1 I G ).toUInt32 % 65536).toInt32))], [.int (42 : Int32)], I, G, (gP rd)) (True) hX hi (by decide +kernel) rfl trivial ?_
    cases h
    refine am_iret hX hi rfl rfl (by decide +kernel) ?_
    exact ⟨rfl, rfl, rfl, rfl⟩
noncomputable def L_X14_word_79 (n0 : Nat) (hd : Nat) (I : am_I) (G : am_G) (v1 : Int32) (v2 : Int32) (v3 : Int32) (v4 : Int32) (v5 : Int32) : Option (Int32 × am_I × am_G) := match n0 with
  | 0 => none
  | n + 1 => match hd with
    | 0 => (if (Int32.ofNat 24) ≤ v3 then some ((40 : Int32), I, G) else rg (vp_in v3 24) ((if (Int32.ofNat (am_tB.getD (3 + v3.toNatClampNeg) (0, [])).2.length) = v2 then L_X14_word_79 n 1 I G v1 v2 v3 (1 : Int32) (0 : Int32) else L_X14_word_79 n 1 I G v1 v2 v3 (0 : Int32) (0 : Int32))))
    | _ => (if v4 = 0 then (if v4 = 0 then L_X14_word_79 n 0 I G v1 v2 (v3 + (1 : Int32)) 0 0 else some (v3, I, G)) else (if v2 ≤ v5 then (if v4 = 0 then L_X14_word_79 n 0 I G v1 v2 (v3 + (1 : Int32)) 0 0 else some (v3, I, G)) else rg (vp_in v3 24) (rg (0 ≤ v5.toInt ∧ v5.toInt < (am_tB.getD (3 + v3.toNatClampNeg) (0, [])).2.length) (rg (vp_in (v1 + v5) 2000) ((if ((am_tB.getD (3 + v3.toNatClampNeg) (0, [])).2.getD v5.toInt.toNat 0) = (I 80 (v1 + v5).toNatClampNeg) then L_X14_word_79 n 1 I G v1 v2 v3 (1 : Int32) (v5 + (1 : Int32)) else L_X14_word_79 n 1 I G v1 v2 v3 (0 : Int32) (v5 + (1 : Int32))))))))
theorem L_X14_word_79_0 (n : Nat) (I : am_I) (G : am_G) (v1 : Int32) (v2 : Int32) (v3 : Int32) (v4 : Int32) (v5 : Int32) : L_X14_word_79 (n + 1) 0 I G v1 v2 v3 v4 v5 = (if (Int32.ofNat 24) ≤ v3 then some ((40 : Int32), I, G) else rg (vp_in v3 24) ((if (Int32.ofNat (am_tB.getD (3 + v3.toNatClampNeg) (0, [])).2.length) = v2 then L_X14_word_79 n 1 I G v1 v2 v3 (1 : Int32) (0 : Int32) else L_X14_word_79 n 1 I G v1 v2 v3 (0 : Int32) (0 : Int32)))) := rfl
theorem L_X14_word_79_1 (n : Nat) (I : am_I) (G : am_G) (v1 : Int32) (v2 : Int32) (v3 : Int32) (v4 : Int32) (v5 : Int32) : L_X14_word_79 (n + 1) 1 I G v1 v2 v3 v4 v5 = (if v4 = 0 then (if v4 = 0 then L_X14_word_79 n 0 I G v1 v2 (v3 + (1 : Int32)) 0 0 else some (v3, I, G)) else (if v2 ≤ v5 then (if v4 = 0 then L_X14_word_79 n 0 I G v1 v2 (v3 + (1 : Int32)) 0 0 else some (v3, I, G)) else rg (vp_in v3 24) (rg (0 ≤ v5.toInt ∧ v5.toInt < (am_tB.getD (3 + v3.toNatClampNeg) (0, [])).2.length) (rg (vp_in (v1 + v5) 2000) ((if ((am_tB.getD (3 + v3.toNatClampNeg) (0, [])).2.getD v5.toInt.toNat 0) = (I 80 (v1 + v5).toNatClampNeg) then L_X14_word_79 n 1 I G v1 v2 v3 (1 : Int32) (v5 + (1 : Int32)) else L_X14_word_79 n 1 I G v1 v2 v3 (0 : Int32) (v5 + (1 : Int32)))))))) := rfl
theorem L_X14_word_79_z (h : Nat) (I : am_I) (G : am_G) (v1 : Int32) (v2 : Int32) (v3 : Int32) (v4 : Int32) (v5 : Int32) : L_X14_word_79 0 h I G v1 v2 v3 v4 v5 = none := rfl
noncomputable def R_X14_word_79 (I : am_I) (G : am_G) (x1 : Int32) (x2 : Int32) : Option (Int32 × am_I × am_G) := L_X14_word_79 FU 0 I G x1 x2 (0 : Int32) 0 0
set_option maxRecDepth 20000 in
set_option maxHeartbeats 4000000 in
theorem l_X14_word_79 {X : am_X} {ad : Nat → Nat} (hX : am_okz X ad) (hi : am_info X 12 cX14_word 6 false (Option.some Jvm.ClassFile.FieldType.int) 5) (n : Nat) : (∀ (I : am_I) (G : am_G) (v1 : Int32) (v2 : Int32) (v3 : Int32) (v4 : Int32) (v5 : Int32) (out : Int32 × am_I × am_G), L_X14_word_79 n 0 I G v1 v2 v3 v4 v5 = some out → am_V X 0 0 (am_Rt X gS2 ad (pI out.1 out.2.1 out.2.2 (gP 123))) gS2 ad (2, [(0, .ref 79), (1, .int v1), (2, .int v2), (3, .int v3)], [], I, G, (gP 123))) ∧ (∀ (I : am_I) (G : am_G) (v1 : Int32) (v2 : Int32) (v3 : Int32) (v4 : Int32) (v5 : Int32) (out : Int32 × am_I × am_G), L_X14_word_79 n 1 I G v1 v2 v3 v4 v5 = some out → am_V X 0 0 (am_Rt X gS2 ad (pI out.1 out.2.1 out.2.2 (gP 123))) gS2 ad (32, [(0, .ref 79), (1, .int v1), (2, .int v2), (3, .int v3), (4, .int v4), (5, .int v5)], [], I, G, (gP 123))) := by
  induction n with
  | zero => exact ⟨(fun I G v1 v2 v3 v4 v5 out h => by rw [L_X14_word_79_z] at h; cases h), (fun I G v1 v2 v3 v4 v5 out h => by rw [L_X14_word_79_z] at h; cases h)⟩
  | succ n ih =>
    refine ⟨?_, ?_⟩
    · intro I G v1 v2 v3 v4 v5 out h
      rw [L_X14_word_79_0] at h
      refine am_blk 2 [(.iload_n 3, 1, 3, 0, .null)] (3, [(0, .ref 79), (1, .int v1), (2, .int v2), (3, .int v3)], [.int v3], I, G, (gP 123)) (True) hX hi (by decide +kernel) rfl trivial ?_
      refine am_twd hX hi (by decide +kernel) ?_
      refine am_twl hX hi (by decide +kernel) ?_
      refine am_icmp_ge (tgt := 91) hX hi (off := (84)) (by decide +kernel) (by decide) (fun c7 => ?_) (fun c7 => ?_)
      · rw [if_pos c7] at h
        refine am_blk 91 [(.bipush (40), 2, 0, 0, .int (40 : Int32))] (93, [(0, .ref 79), (1, .int v1), (2, .int v2), (3, .int v3)], [.int (40 : Int32)], I, G, (gP 123)) (True) hX hi (by decide +kernel) rfl trivial ?_
        cases h
        refine am_iret hX hi rfl rfl (by decide +kernel) ?_
        exact ⟨rfl, rfl, rfl, rfl⟩
      · rw [if_neg c7] at h
        refine am_twd hX hi (by decide +kernel) ?_
        refine am_blk 13 [(.iload_n 3, 1, 3, 0, .null)] (14, [(0, .ref 79), (1, .int v1), (2, .int v2), (3, .int v3)], [.int v3, .ref 1006], I, G, (gP 123)) (True) hX hi (by decide +kernel) rfl trivial ?_
        obtain ⟨gw, h⟩ := rg_some h
        refine am_twe hX hi gw (by decide +kernel) ?_
        refine am_callT hX hi (M := mJ0_length_8abf5) (idx := 111) (d' := 2) (As := []) (rest := []) mkJ0_length_8abf5 miJ0_length_8abf5 mvJ0_length_8abf5 (by decide +kernel) (by decide +kernel) (am_tw gw) rfl rfl ⟨by omega, by decide, Nat.le_of_ble_eq_true rfl⟩ rfl (c_tlength (am_tw gw)) ?_
        rintro r9 I9 G9 P9 ⟨e0, e1, e2, e3⟩
        rw [e0, e1, e2, e3]
        show am_V X 0 0 _ _ ad (18, [(0, .ref 79), (1, .int v1), (2, .int v2), (3, .int v3)], [.int (Int32.ofNat (am_tB.getD (3 + v3.toNatClampNeg) (0, [])).2.length)], I, G, (gP 123))
        refine am_blk 18 [(.iload_n 2, 1, 2, 0, .null)] (19, [(0, .ref 79), (1, .int v1), (2, .int v2), (3, .int v3)], [.int v2, .int (Int32.ofNat (am_tB.getD (3 + v3.toNatClampNeg) (0, [])).2.length)], I, G, (gP 123)) (True) hX hi (by decide +kernel) rfl trivial ?_
        refine am_icmp_ne (tgt := 26) hX hi (off := (7)) (by decide +kernel) (by decide) (fun c19 => ?_) (fun c19 => ?_)
        · rw [if_neg c19] at h
          refine am_blk 26 [(.iconst (0), 1, 0, 0, .int (0 : Int32)), (.istore 4, 2, 4, 0, .null), (.iconst (0), 1, 0, 0, .int (0 : Int32)), (.istore 5, 2, 5, 0, .null)] (32, [(0, .ref 79), (1, .int v1), (2, .int v2), (3, .int v3), (4, .int (0 : Int32)), (5, .int (0 : Int32))], [], I, G, (gP 123)) (True) hX hi (by decide +kernel) rfl trivial ?_
          exact ih.2 _ _ _ _ _ _ _ _ h
        · rw [if_pos c19] at h
          refine am_blk 22 [(.iconst (1), 1, 0, 0, .int (1 : Int32)), (.goto (4), 3, 0, 27, .null), (.istore 4, 2, 4, 0, .null), (.iconst (0), 1, 0, 0, .int (0 : Int32)), (.istore 5, 2, 5, 0, .null)] (32, [(0, .ref 79), (1, .int v1), (2, .int v2), (3, .int v3), (4, .int (1 : Int32)), (5, .int (0 : Int32))], [], I, G, (gP 123)) (True) hX hi (by decide +kernel) rfl trivial ?_
          exact ih.2 _ _ _ _ _ _ _ _ h
    · intro I G v1 v2 v3 v4 v5 out h
      rw [L_X14_word_79_1] at h
      refine am_blk 32 [(.iload 4, 2, 4, 0, .null)] (34, [(0, .ref 79), (1, .int v1), (2, .int v2), (3, .int v3), (4, .int v4), (5, .int v5)], [.int v4], I, G, (gP 123)) (True) hX hi (by decide +kernel) rfl trivial ?_
      refine am_if_eq (tgt := 78) hX hi (off := (44)) (by decide +kernel) (by decide) (fun c34 => ?_) (fun c34 => ?_)
      · rw [if_pos c34] at h
        refine am_blk 78 [(.iload 4, 2, 4, 0, .null)] (80, [(0, .ref 79), (1, .int v1), (2, .int v2), (3, .int v3), (4, .int v4), (5, .int v5)], [.int v4], I, G, (gP 123)) (True) hX hi (by decide +kernel) rfl trivial ?_
        refine am_if_eq (tgt := 85) hX hi (off := (5)) (by decide +kernel) (by decide) (fun c80 => ?_) (fun c80 => ?_)
        · rw [if_pos c80] at h
          refine am_blk 85 [(.iinc 3 (1), 3, 3, 0, .int (1 : Int32)), (.goto (-86), 3, 0, 2, .null)] (2, [(0, .ref 79), (1, .int v1), (2, .int v2), (3, .int (v3 + (1 : Int32))), (4, .int v4), (5, .int v5)], [], I, G, (gP 123)) (True) hX hi (by decide +kernel) rfl trivial ?_
          refine am_sub (L' := [(0, .ref 79), (1, .int v1), (2, .int v2), (3, .int (v3 + (1 : Int32)))]) (by simp) ?_
          exact ih.1 _ _ _ _ _ _ _ _ h
        · rw [if_neg c80] at h
          refine am_blk 83 [(.iload_n 3, 1, 3, 0, .null)] (84, [(0, .ref 79), (1, .int v1), (2, .int v2), (3, .int v3), (4, .int v4), (5, .int v5)], [.int v3], I, G, (gP 123)) (True) hX hi (by decide +kernel) rfl trivial ?_
          cases h
          refine am_iret hX hi rfl rfl (by decide +kernel) ?_
          exact ⟨rfl, rfl, rfl, rfl⟩
      · rw [if_neg c34] at h
        refine am_blk 37 [(.iload 5, 2, 5, 0, .null), (.iload_n 2, 1, 2, 0, .null)] (40, [(0, .ref 79), (1, .int v1), (2, .int v2), (3, .int v3), (4, .int v4), (5, .int v5)], [.int v2, .int v5], I, G, (gP 123)) (True) hX hi (by decide +kernel) rfl trivial ?_
        refine am_icmp_ge (tgt := 78) hX hi (off := (38)) (by decide +kernel) (by decide) (fun c40 => ?_) (fun c40 => ?_)
        · rw [if_pos c40] at h
          refine am_blk 78 [(.iload 4, 2, 4, 0, .null)] (80, [(0, .ref 79), (1, .int v1), (2, .int v2), (3, .int v3), (4, .int v4), (5, .int v5)], [.int v4], I, G, (gP 123)) (True) hX hi (by decide +kernel) rfl trivial ?_
          refine am_if_eq (tgt := 85) hX hi (off := (5)) (by decide +kernel) (by decide) (fun c80 => ?_) (fun c80 => ?_)
          · rw [if_pos c80] at h
            refine am_blk 85 [(.iinc 3 (1), 3, 3, 0, .int (1 : Int32)), (.goto (-86), 3, 0, 2, .null)] (2, [(0, .ref 79), (1, .int v1), (2, .int v2), (3, .int (v3 + (1 : Int32))), (4, .int v4), (5, .int v5)], [], I, G, (gP 123)) (True) hX hi (by decide +kernel) rfl trivial ?_
            refine am_sub (L' := [(0, .ref 79), (1, .int v1), (2, .int v2), (3, .int (v3 + (1 : Int32)))]) (by simp) ?_
            exact ih.1 _ _ _ _ _ _ _ _ h
          · rw [if_neg c80] at h
            refine am_blk 83 [(.iload_n 3, 1, 3, 0, .null)] (84, [(0, .ref 79), (1, .int v1), (2, .int v2), (3, .int v3), (4, .int v4), (5, .int v5)], [.int v3], I, G, (gP 123)) (True) hX hi (by decide +kernel) rfl trivial ?_
            cases h
            refine am_iret hX hi rfl rfl (by decide +kernel) ?_
            exact ⟨rfl, rfl, rfl, rfl⟩
        · rw [if_neg c40] at h
          refine am_twd hX hi (by decide +kernel) ?_
          refine am_blk 46 [(.iload_n 3, 1, 3, 0, .null)] (47, [(0, .ref 79), (1, .int v1), (2, .int v2), (3, .int v3), (4, .int v4), (5, .int v5)], [.int v3, .ref 1006], I, G, (gP 123)) (True) hX hi (by decide +kernel) rfl trivial ?_
          obtain ⟨gw, h⟩ := rg_some h
          refine am_twe hX hi gw (by decide +kernel) ?_
          refine am_blk 48 [(.iload 5, 2, 5, 0, .null)] (50, [(0, .ref 79), (1, .int v1), (2, .int v2), (3, .int v3), (4, .int v4), (5, .int v5)], [.int v5, .ref (2000 + am_wP.getD v3.toNatClampNeg 0)], I, G, (gP 123)) (True) hX hi (by decide +kernel) rfl trivial ?_
          obtain ⟨hq1, h⟩ := rg_some h
          refine am_callT hX hi (M := mJ0_charAt_5068e) (idx := 115) (d' := 4) (As := [.int v5]) (rest := []) mkJ0_charAt_5068e miJ0_charAt_5068e mvJ0_charAt_5068e (by decide +kernel) (by decide +kernel) (am_tw gw) rfl rfl ⟨by omega, by decide, Nat.le_of_ble_eq_true rfl⟩ rfl (c_charAt (am_tw gw) hq1.1 hq1.2) ?_
          rintro r9 I9 G9 P9 ⟨e0, e1, e2, e3⟩
          rw [e0, e1, e2, e3]
          show am_V X 0 0 _ _ ad (53, [(0, .ref 79), (1, .int v1), (2, .int v2), (3, .int v3), (4, .int v4), (5, .int v5)], [.int ((am_tB.getD (3 + v3.toNatClampNeg) (0, [])).2.getD v5.toInt.toNat 0)], I, G, (gP 123))
          obtain ⟨g0, h⟩ := rg_some h
          refine am_blk 53 [(.aload_n 0, 1, 0, 0, .null), (.getfield 9, 3, 12, 1, .null), (.iload_n 1, 1, 1, 0, .null), (.iload 5, 2, 5, 0, .null), (.iadd, 1, 0, 0, .null), (.iaload, 1, 0, 0, .null)] (62, [(0, .ref 79), (1, .int v1), (2, .int v2), (3, .int v3), (4, .int v4), (5, .int v5)], [.int (I 80 (v1 + v5).toNatClampNeg), .int ((am_tB.getD (3 + v3.toNatClampNeg) (0, [])).2.getD v5.toInt.toNat 0)], I, G, (gP 123)) (vp_in (v1 + v5) 2000 ∧ True) hX hi (by decide +kernel) rfl ⟨g0, trivial⟩ ?_
          refine am_icmp_ne (tgt := 69) hX hi (off := (7)) (by decide +kernel) (by decide) (fun c62 => ?_) (fun c62 => ?_)
          · rw [if_neg c62] at h
            refine am_blk 69 [(.iconst (0), 1, 0, 0, .int (0 : Int32)), (.istore 4, 2, 4, 0, .null), (.iinc 5 (1), 3, 5, 0, .int (1 : Int32)), (.goto (-43), 3, 0, 32, .null)] (32, [(0, .ref 79), (1, .int v1), (2, .int v2), (3, .int v3), (4, .int (0 : Int32)), (5, .int (v5 + (1 : Int32)))], [], I, G, (gP 123)) (True) hX hi (by decide +kernel) rfl trivial ?_
            exact ih.2 _ _ _ _ _ _ _ _ h
          · rw [if_pos c62] at h
            refine am_blk 65 [(.iconst (1), 1, 0, 0, .int (1 : Int32)), (.goto (4), 3, 0, 70, .null), (.istore 4, 2, 4, 0, .null), (.iinc 5 (1), 3, 5, 0, .int (1 : Int32)), (.goto (-43), 3, 0, 32, .null)] (32, [(0, .ref 79), (1, .int v1), (2, .int v2), (3, .int v3), (4, .int (1 : Int32)), (5, .int (v5 + (1 : Int32)))], [], I, G, (gP 123)) (True) hX hi (by decide +kernel) rfl trivial ?_
            exact ih.2 _ _ _ _ _ _ _ _ h
set_option maxRecDepth 20000 in
set_option maxHeartbeats 4000000 in
theorem c_X14_word_79 (I : am_I) (G : am_G) (x1 : Int32) (x2 : Int32) {out : Int32 × am_I × am_G} (h : R_X14_word_79 I G x1 x2 = some out) : am_Ct mX14_word 5 gS2 [.ref 79, .int x1, .int x2] I G (gP 123) (pI out.1 out.2.1 out.2.2 (gP 123)) := by
  refine am_ofF (by decide +kernel) rfl (by decide) (by omega) (Nat.le_of_ble_eq_true rfl) (fun X ad hX hi => ?_)
  have hi : am_info X 12 cX14_word 6 false (Option.some Jvm.ClassFile.FieldType.int) 5 := hi
  show am_V X 0 0 _ _ ad (0, [(0, .ref 79), (1, .int x1), (2, .int x2)], [], I, G, (gP 123))
  unfold R_X14_word_79 at h
  refine am_blk 0 [(.iconst (0), 1, 0, 0, .int (0 : Int32)), (.istore_n 3, 1, 3, 0, .null)] (2, [(0, .ref 79), (1, .int x1), (2, .int x2), (3, .int (0 : Int32))], [], I, G, (gP 123)) (True) hX hi (by decide +kernel) rfl trivial ?_
  exact (l_X14_word_79 hX hi FU).1 _ _ _ _ _ _ _ _ h
noncomputable def R_X9_readKind_1 (I : am_I) (G : am_G)  : Option (Int32 × am_I × am_G) := (if (I 1 7) < (I 1 5) then (if (I 1 6) < (400 : Int32) then (if (f_X9_isLetter I G (f_X9_byteHere_1 I G )) = 0 then (if (f_X9_isDigit I G (f_X9_byteHere_1 I G )) = 0 then rb (R_X9_readSymbol_1 I G ) (fun r1 I1 G1 => some (r1, I1, G1)) else rb (R_X9_readNumber_1 I G ) (fun r2 I2 G2 => some (r2, I2, G2))) else rb (R_X9_readWord_1 I G ) (fun r3 I3 G3 => some (r3, I3, G3))) else some ((42 : Int32), I, G)) else some ((41 : Int32), I, G))
set_option maxRecDepth 20000 in
set_option maxHeartbeats 4000000 in
theorem c_X9_readKind_1 (rd : Nat) (I : am_I) (G : am_G)  {out : Int32 × am_I × am_G} (h : R_X9_readKind_1 I G  = some out) : am_Ct mX9_readKind 6 gS [.ref 1] I G (gP rd) (pI out.1 out.2.1 out.2.2 (gP rd)) := by
  refine am_ofF (by decide +kernel) rfl (by decide) (by omega) (Nat.le_of_ble_eq_true rfl) (fun X ad hX hi => ?_)
  have hi : am_info X 7 cX9_readKind 1 false (Option.some Jvm.ClassFile.FieldType.int) 6 := hi
  show am_V X 0 0 _ _ ad (0, [(0, .ref 1)], [], I, G, (gP rd))
  unfold R_X9_readKind_1 at h
  refine am_blk 0 [(.aload_n 0, 1, 0, 0, .null), (.getfield 47, 3, 7, 7, .null), (.aload_n 0, 1, 0, 0, .null), (.getfield 44, 3, 7, 5, .null)] (8, [(0, .ref 1)], [.int (I 1 5), .int (I 1 7)], I, G, (gP rd)) (True) hX hi (by decide +kernel) rfl trivial ?_
  refine am_icmp_lt (tgt := 14) hX hi (off := (6)) (by decide +kernel) (by decide) (fun c8 => ?_) (fun c8 => ?_)
  · rw [if_pos c8] at h
    refine am_blk 14 [(.aload_n 0, 1, 0, 0, .null), (.getfield 50, 3, 7, 6, .null), (.sipush (400), 3, 0, 0, .int (400 : Int32))] (21, [(0, .ref 1)], [.int (400 : Int32), .int (I 1 6)], I, G, (gP rd)) (True) hX hi (by decide +kernel) rfl trivial ?_
    refine am_icmp_lt (tgt := 27) hX hi (off := (6)) (by decide +kernel) (by decide) (fun c21 => ?_) (fun c21 => ?_)
    · rw [if_pos c21] at h
      refine am_blk 27 [(.aload_n 0, 1, 0, 0, .null)] (28, [(0, .ref 1)], [.ref 1], I, G, (gP rd)) (True) hX hi (by decide +kernel) rfl trivial ?_
      refine am_callV hX hi (M := mX9_byteHere) (idx := 57) (d' := 1) (b := 1) (ci := 7) (As := []) (rest := []) mkX9_byteHere miX9_byteHere mvX9_byteHere (by decide +kernel) (by decide +kernel) rfl (by decide +kernel) rfl ⟨by omega, by decide, Nat.le_of_ble_eq_true rfl⟩ rfl (c_X9_byteHere_1 _ I G ) ?_
      rintro r9 I9 G9 P9 ⟨e0, e1, e2, e3⟩
      rw [e0, e1, e2, e3]
      show am_V X 0 0 _ _ ad (31, [(0, .ref 1)], [.int (f_X9_byteHere_1 I G )], I, G, (gP rd))
      refine am_callS hX hi (M := mX9_isLetter) (idx := 67) (d' := 1) (As := [.int (f_X9_byteHere_1 I G )]) (rest := []) mkX9_isLetter msX9_isLetter (by decide +kernel) (by decide +kernel) rfl ⟨by omega, by decide, Nat.le_of_ble_eq_true rfl⟩ rfl (c_X9_isLetter I G (f_X9_byteHere_1 I G )) ?_
      rintro r9 I9 G9 P9 ⟨e0, e1, e2, e3⟩
      rw [e0, e1, e2, e3]
      show am_V X 0 0 _ _ ad (34, [(0, .ref 1)], [.int (f_X9_isLetter I G (f_X9_byteHere_1 I G ))], I, G, (gP rd))
      refine am_if_eq (tgt := 42) hX hi (off := (8)) (by decide +kernel) (by decide) (fun c34 => ?_) (fun c34 => ?_)
      · rw [if_pos c34] at h
        refine am_blk 42 [(.aload_n 0, 1, 0, 0, .null)] (43, [(0, .ref 1)], [.ref 1], I, G, (gP rd)) (True) hX hi (by decide +kernel) rfl trivial ?_
        refine am_callV hX hi (M := mX9_byteHere) (idx := 57) (d' := 1) (b := 1) (ci := 7) (As := []) (rest := []) mkX9_byteHere miX9_byteHere mvX9_byteHere (by decide +kernel) (by decide +kernel) rfl (by decide +kernel) rfl ⟨by omega, by decide, Nat.le_of_ble_eq_true rfl⟩ rfl (c_X9_byteHere_1 _ I G ) ?_
        rintro r9 I9 G9 P9 ⟨e0, e1, e2, e3⟩
        rw [e0, e1, e2, e3]
        show am_V X 0 0 _ _ ad (46, [(0, .ref 1)], [.int (f_X9_byteHere_1 I G )], I, G, (gP rd))
        refine am_callS hX hi (M := mX9_isDigit) (idx := 74) (d' := 1) (As := [.int (f_X9_byteHere_1 I G )]) (rest := []) mkX9_isDigit msX9_isDigit (by decide +kernel) (by decide +kernel) rfl ⟨by omega, by decide, Nat.le_of_ble_eq_true rfl⟩ rfl (c_X9_isDigit I G (f_X9_byteHere_1 I G )) ?_
        rintro r9 I9 G9 P9 ⟨e0, e1, e2, e3⟩
        rw [e0, e1, e2, e3]
        show am_V X 0 0 _ _ ad (49, [(0, .ref 1)], [.int (f_X9_isDigit I G (f_X9_byteHere_1 I G ))], I, G, (gP rd))
        refine am_if_eq (tgt := 59) hX hi (off := (10)) (by decide +kernel) (by decide) (fun c49 => ?_) (fun c49 => ?_)
        · rw [if_pos c49] at h
          refine am_blk 59 [(.aload_n 0, 1, 0, 0, .null)] (60, [(0, .ref 1)], [.ref 1], I, G, (gP rd)) (True) hX hi (by decide +kernel) rfl trivial ?_
          obtain ⟨r1, I1, G1, hc, h⟩ := rb_some h
          refine am_callV hX hi (M := mX9_readSymbol) (idx := 80) (d' := 5) (b := 1) (ci := 7) (As := []) (rest := []) mkX9_readSymbol miX9_readSymbol mvX9_readSymbol (by decide +kernel) (by decide +kernel) rfl (by decide +kernel) rfl ⟨by omega, by decide, Nat.le_of_ble_eq_true rfl⟩ rfl (c_X9_readSymbol_1 _ I G  hc) ?_
          rintro r9 I9 G9 P9 ⟨e0, e1, e2, e3⟩
          rw [e0, e1, e2, e3]
          show am_V X 0 0 _ _ ad (63, [(0, .ref 1)], [.int r1], I1, G1, (gP rd))
          cases h
          refine am_iret hX hi rfl rfl (by decide +kernel) ?_
          exact ⟨rfl, rfl, rfl, rfl⟩
        · rw [if_neg c49] at h
          refine am_blk 52 [(.aload_n 0, 1, 0, 0, .null)] (53, [(0, .ref 1)], [.ref 1], I, G, (gP rd)) (True) hX hi (by decide +kernel) rfl trivial ?_
          obtain ⟨r2, I2, G2, hc, h⟩ := rb_some h
          refine am_callV hX hi (M := mX9_readNumber) (idx := 77) (d' := 2) (b := 1) (ci := 7) (As := []) (rest := []) mkX9_readNumber miX9_readNumber mvX9_readNumber (by decide +kernel) (by decide +kernel) rfl (by decide +kernel) rfl ⟨by omega, by decide, Nat.le_of_ble_eq_true rfl⟩ rfl (c_X9_readNumber_1 _ I G  hc) ?_
          rintro r9 I9 G9 P9 ⟨e0, e1, e2, e3⟩
          rw [e0, e1, e2, e3]
          show am_V X 0 0 _ _ ad (56, [(0, .ref 1)], [.int r2], I2, G2, (gP rd))
          refine am_blk 56 [(.goto (7), 3, 0, 63, .null)] (63, [(0, .ref 1)], [.int r2], I2, G2, (gP rd)) (True) hX hi (by decide +kernel) rfl trivial ?_
          cases h
          refine am_iret hX hi rfl rfl (by decide +kernel) ?_
          exact ⟨rfl, rfl, rfl, rfl⟩
      · rw [if_neg c34] at h
        refine am_blk 37 [(.aload_n 0, 1, 0, 0, .null)] (38, [(0, .ref 1)], [.ref 1], I, G, (gP rd)) (True) hX hi (by decide +kernel) rfl trivial ?_
        obtain ⟨r3, I3, G3, hc, h⟩ := rb_some h
        refine am_callV hX hi (M := mX9_readWord) (idx := 71) (d' := 2) (b := 1) (ci := 7) (As := []) (rest := []) mkX9_readWord miX9_readWord mvX9_readWord (by decide +kernel) (by decide +kernel) rfl (by decide +kernel) rfl ⟨by omega, by decide, Nat.le_of_ble_eq_true rfl⟩ rfl (c_X9_readWord_1 _ I G  hc) ?_
        rintro r9 I9 G9 P9 ⟨e0, e1, e2, e3⟩
        rw [e0, e1, e2, e3]
        show am_V X 0 0 _ _ ad (41, [(0, .ref 1)], [.int r3], I3, G3, (gP rd))
        cases h
        refine am_iret hX hi rfl rfl (by decide +kernel) ?_
        exact ⟨rfl, rfl, rfl, rfl⟩
    · rw [if_neg c21] at h
      refine am_blk 24 [(.bipush (42), 2, 0, 0, .int (42 : Int32))] (26, [(0, .ref 1)], [.int (42 : Int32)], I, G, (gP rd)) (True) hX hi (by decide +kernel) rfl trivial ?_
      cases h
      refine am_iret hX hi rfl rfl (by decide +kernel) ?_
      exact ⟨rfl, rfl, rfl, rfl⟩
  · rw [if_neg c8] at h
    refine am_blk 11 [(.bipush (41), 2, 0, 0, .int (41 : Int32))] (13, [(0, .ref 1)], [.int (41 : Int32)], I, G, (gP rd)) (True) hX hi (by decide +kernel) rfl trivial ?_
    cases h
    refine am_iret hX hi rfl rfl (by decide +kernel) ?_
    exact ⟨rfl, rfl, rfl, rfl⟩
noncomputable def L_X14_kindAt_79 (n0 : Nat) (hd : Nat) (I : am_I) (G : am_G) (v1 : Int32) (v2 : Int32) (v3 : Int32) (v4 : Int32) (v5 : Int32) : Option (Int32 × am_I × am_G) := match n0 with
  | 0 => none
  | n + 1 => match hd with
    | 0 => rg (q_X14_byteOf_79 I G v4) ((if (f_X14_isDigit I G (f_X14_byteOf_79 I G v4)) = 0 then (if (f_X14_isLetter I G v3) = 0 then L_X14_kindAt_79 n 2 I G v1 v2 v3 v4 0 else rg (q_X14_byteOf_79 I G v4) ((if (f_X14_isLetter I G (f_X14_byteOf_79 I G v4)) = 0 then L_X14_kindAt_79 n 2 I G v1 v2 v3 v4 0 else L_X14_kindAt_79 n 1 I G v1 v2 v3 v4 0))) else L_X14_kindAt_79 n 1 I G v1 v2 v3 v4 0))
    | 1 => L_X14_kindAt_79 n 0 I G v1 v2 v3 (v4 + (1 : Int32)) 0
    | 2 => rg (vp_in v2 401) (L_X14_kindAt_79 n 3 (am_up I 83 v2.toNatClampNeg (v4 - v1)) G v1 v2 v3 v4 0)
    | 3 => (if (f_X14_isLetter I G v3) = 0 then (if (v4 - v1) ≤ (6 : Int32) then L_X14_kindAt_79 n 5 I G v1 v2 v3 v4 0 else L_X14_kindAt_79 n 4 I G v1 v2 v3 v4 0) else (if (v4 - v1) ≤ (10 : Int32) then L_X14_kindAt_79 n 5 I G v1 v2 v3 v4 0 else L_X14_kindAt_79 n 4 I G v1 v2 v3 v4 0))
    | 4 => some ((901 : Int32), I, G)
    | 5 => (if (f_X14_isLetter I G v3) = 0 then L_X14_kindAt_79 n 7 I G v1 v2 v3 v4 0 else L_X14_kindAt_79 n 6 I G v1 v2 v3 v4 0)
    | 6 => rb (R_X14_word_79 I G v1 (v4 - v1)) (fun r701 I701 G701 => some (r701, I701, G701))
    | 7 => some ((41 : Int32), I, G)
    | 8 => rg (q_X14_byteOf_79 I G v4) ((if (f_X14_byteOf_79 I G v4) = (61 : Int32) then L_X14_kindAt_79 n 9 I G v1 v2 v3 v4 0 else L_X14_kindAt_79 n 10 I G v1 v2 v3 v4 0))
    | 9 => L_X14_kindAt_79 n 11 I G v1 v2 v3 v4 (1 : Int32)
    | 10 => L_X14_kindAt_79 n 11 I G v1 v2 v3 v4 (0 : Int32)
    | 11 => (if v5 = 0 then rg (vp_in v2 401) (L_X14_kindAt_79 n 12 (am_up I 83 v2.toNatClampNeg (1 : Int32)) G v1 v2 v3 v4 v5) else rg (vp_in v2 401) (L_X14_kindAt_79 n 12 (am_up I 83 v2.toNatClampNeg (2 : Int32)) G v1 v2 v3 v4 v5))
    | 12 => (if v5 = 0 then L_X14_kindAt_79 n 16 I G v1 v2 v3 v4 v5 else L_X14_kindAt_79 n 13 I G v1 v2 v3 v4 v5)
    | 13 => (if v3 = (60 : Int32) then L_X14_kindAt_79 n 14 I G v1 v2 v3 v4 v5 else L_X14_kindAt_79 n 15 I G v1 v2 v3 v4 v5)
    | 14 => some ((300 : Int32), I, G)
    | 15 => some ((301 : Int32), I, G)
    | 16 => (if v3 ≤ 0 then L_X14_kindAt_79 n 20 I G v1 v2 v3 v4 v5 else L_X14_kindAt_79 n 17 I G v1 v2 v3 v4 v5)
    | 17 => (if (128 : Int32) ≤ v3 then L_X14_kindAt_79 n 20 I G v1 v2 v3 v4 v5 else L_X14_kindAt_79 n 18 I G v1 v2 v3 v4 v5)
    | 18 => (if (am_tix (am_tB.getD 2 (0, [])).2 (v3.toUInt32 % 65536).toInt32) < 0 then L_X14_kindAt_79 n 20 I G v1 v2 v3 v4 v5 else L_X14_kindAt_79 n 19 I G v1 v2 v3 v4 v5)
    | 19 => some (((50 : Int32) + v3), I, G)
    | _ => some ((901 : Int32), I, G)
theorem L_X14_kindAt_79_0 (n : Nat) (I : am_I) (G : am_G) (v1 : Int32) (v2 : Int32) (v3 : Int32) (v4 : Int32) (v5 : Int32) : L_X14_kindAt_79 (n + 1) 0 I G v1 v2 v3 v4 v5 = rg (q_X14_byteOf_79 I G v4) ((if (f_X14_isDigit I G (f_X14_byteOf_79 I G v4)) = 0 then (if (f_X14_isLetter I G v3) = 0 then L_X14_kindAt_79 n 2 I G v1 v2 v3 v4 0 else rg (q_X14_byteOf_79 I G v4) ((if (f_X14_isLetter I G (f_X14_byteOf_79 I G v4)) = 0 then L_X14_kindAt_79 n 2 I G v1 v2 v3 v4 0 else L_X14_kindAt_79 n 1 I G v1 v2 v3 v4 0))) else L_X14_kindAt_79 n 1 I G v1 v2 v3 v4 0)) := rfl
theorem L_X14_kindAt_79_1 (n : Nat) (I : am_I) (G : am_G) (v1 : Int32) (v2 : Int32) (v3 : Int32) (v4 : Int32) (v5 : Int32) : L_X14_kindAt_79 (n + 1) 1 I G v1 v2 v3 v4 v5 = L_X14_kindAt_79 n 0 I G v1 v2 v3 (v4 + (1 : Int32)) 0 := rfl
theorem L_X14_kindAt_79_2 (n : Nat) (I : am_I) (G : am_G) (v1 : Int32) (v2 : Int32) (v3 : Int32) (v4 : Int32) (v5 : Int32) : L_X14_kindAt_79 (n + 1) 2 I G v1 v2 v3 v4 v5 = rg (vp_in v2 401) (L_X14_kindAt_79 n 3 (am_up I 83 v2.toNatClampNeg (v4 - v1)) G v1 v2 v3 v4 0) := rfl
theorem L_X14_kindAt_79_3 (n : Nat) (I : am_I) (G : am_G) (v1 : Int32) (v2 : Int32) (v3 : Int32) (v4 : Int32) (v5 : Int32) : L_X14_kindAt_79 (n + 1) 3 I G v1 v2 v3 v4 v5 = (if (f_X14_isLetter I G v3) = 0 then (if (v4 - v1) ≤ (6 : Int32) then L_X14_kindAt_79 n 5 I G v1 v2 v3 v4 0 else L_X14_kindAt_79 n 4 I G v1 v2 v3 v4 0) else (if (v4 - v1) ≤ (10 : Int32) then L_X14_kindAt_79 n 5 I G v1 v2 v3 v4 0 else L_X14_kindAt_79 n 4 I G v1 v2 v3 v4 0)) := rfl
theorem L_X14_kindAt_79_4 (n : Nat) (I : am_I) (G : am_G) (v1 : Int32) (v2 : Int32) (v3 : Int32) (v4 : Int32) (v5 : Int32) : L_X14_kindAt_79 (n + 1) 4 I G v1 v2 v3 v4 v5 = some ((901 : Int32), I, G) := rfl
theorem L_X14_kindAt_79_5 (n : Nat) (I : am_I) (G : am_G) (v1 : Int32) (v2 : Int32) (v3 : Int32) (v4 : Int32) (v5 : Int32) : L_X14_kindAt_79 (n + 1) 5 I G v1 v2 v3 v4 v5 = (if (f_X14_isLetter I G v3) = 0 then L_X14_kindAt_79 n 7 I G v1 v2 v3 v4 0 else L_X14_kindAt_79 n 6 I G v1 v2 v3 v4 0) := rfl
theorem L_X14_kindAt_79_6 (n : Nat) (I : am_I) (G : am_G) (v1 : Int32) (v2 : Int32) (v3 : Int32) (v4 : Int32) (v5 : Int32) : L_X14_kindAt_79 (n + 1) 6 I G v1 v2 v3 v4 v5 = rb (R_X14_word_79 I G v1 (v4 - v1)) (fun r701 I701 G701 => some (r701, I701, G701)) := rfl
theorem L_X14_kindAt_79_7 (n : Nat) (I : am_I) (G : am_G) (v1 : Int32) (v2 : Int32) (v3 : Int32) (v4 : Int32) (v5 : Int32) : L_X14_kindAt_79 (n + 1) 7 I G v1 v2 v3 v4 v5 = some ((41 : Int32), I, G) := rfl
theorem L_X14_kindAt_79_8 (n : Nat) (I : am_I) (G : am_G) (v1 : Int32) (v2 : Int32) (v3 : Int32) (v4 : Int32) (v5 : Int32) : L_X14_kindAt_79 (n + 1) 8 I G v1 v2 v3 v4 v5 = rg (q_X14_byteOf_79 I G v4) ((if (f_X14_byteOf_79 I G v4) = (61 : Int32) then L_X14_kindAt_79 n 9 I G v1 v2 v3 v4 0 else L_X14_kindAt_79 n 10 I G v1 v2 v3 v4 0)) := rfl
theorem L_X14_kindAt_79_9 (n : Nat) (I : am_I) (G : am_G) (v1 : Int32) (v2 : Int32) (v3 : Int32) (v4 : Int32) (v5 : Int32) : L_X14_kindAt_79 (n + 1) 9 I G v1 v2 v3 v4 v5 = L_X14_kindAt_79 n 11 I G v1 v2 v3 v4 (1 : Int32) := rfl
theorem L_X14_kindAt_79_10 (n : Nat) (I : am_I) (G : am_G) (v1 : Int32) (v2 : Int32) (v3 : Int32) (v4 : Int32) (v5 : Int32) : L_X14_kindAt_79 (n + 1) 10 I G v1 v2 v3 v4 v5 = L_X14_kindAt_79 n 11 I G v1 v2 v3 v4 (0 : Int32) := rfl
theorem L_X14_kindAt_79_11 (n : Nat) (I : am_I) (G : am_G) (v1 : Int32) (v2 : Int32) (v3 : Int32) (v4 : Int32) (v5 : Int32) : L_X14_kindAt_79 (n + 1) 11 I G v1 v2 v3 v4 v5 = (if v5 = 0 then rg (vp_in v2 401) (L_X14_kindAt_79 n 12 (am_up I 83 v2.toNatClampNeg (1 : Int32)) G v1 v2 v3 v4 v5) else rg (vp_in v2 401) (L_X14_kindAt_79 n 12 (am_up I 83 v2.toNatClampNeg (2 : Int32)) G v1 v2 v3 v4 v5)) := rfl
theorem L_X14_kindAt_79_12 (n : Nat) (I : am_I) (G : am_G) (v1 : Int32) (v2 : Int32) (v3 : Int32) (v4 : Int32) (v5 : Int32) : L_X14_kindAt_79 (n + 1) 12 I G v1 v2 v3 v4 v5 = (if v5 = 0 then L_X14_kindAt_79 n 16 I G v1 v2 v3 v4 v5 else L_X14_kindAt_79 n 13 I G v1 v2 v3 v4 v5) := rfl
theorem L_X14_kindAt_79_13 (n : Nat) (I : am_I) (G : am_G) (v1 : Int32) (v2 : Int32) (v3 : Int32) (v4 : Int32) (v5 : Int32) : L_X14_kindAt_79 (n + 1) 13 I G v1 v2 v3 v4 v5 = (if v3 = (60 : Int32) then L_X14_kindAt_79 n 14 I G v1 v2 v3 v4 v5 else L_X14_kindAt_79 n 15 I G v1 v2 v3 v4 v5) := rfl
theorem L_X14_kindAt_79_14 (n : Nat) (I : am_I) (G : am_G) (v1 : Int32) (v2 : Int32) (v3 : Int32) (v4 : Int32) (v5 : Int32) : L_X14_kindAt_79 (n + 1) 14 I G v1 v2 v3 v4 v5 = some ((300 : Int32), I, G) := rfl
theorem L_X14_kindAt_79_15 (n : Nat) (I : am_I) (G : am_G) (v1 : Int32) (v2 : Int32) (v3 : Int32) (v4 : Int32) (v5 : Int32) : L_X14_kindAt_79 (n + 1) 15 I G v1 v2 v3 v4 v5 = some ((301 : Int32), I, G) := rfl
theorem L_X14_kindAt_79_16 (n : Nat) (I : am_I) (G : am_G) (v1 : Int32) (v2 : Int32) (v3 : Int32) (v4 : Int32) (v5 : Int32) : L_X14_kindAt_79 (n + 1) 16 I G v1 v2 v3 v4 v5 = (if v3 ≤ 0 then L_X14_kindAt_79 n 20 I G v1 v2 v3 v4 v5 else L_X14_kindAt_79 n 17 I G v1 v2 v3 v4 v5) := rfl
theorem L_X14_kindAt_79_17 (n : Nat) (I : am_I) (G : am_G) (v1 : Int32) (v2 : Int32) (v3 : Int32) (v4 : Int32) (v5 : Int32) : L_X14_kindAt_79 (n + 1) 17 I G v1 v2 v3 v4 v5 = (if (128 : Int32) ≤ v3 then L_X14_kindAt_79 n 20 I G v1 v2 v3 v4 v5 else L_X14_kindAt_79 n 18 I G v1 v2 v3 v4 v5) := rfl
theorem L_X14_kindAt_79_18 (n : Nat) (I : am_I) (G : am_G) (v1 : Int32) (v2 : Int32) (v3 : Int32) (v4 : Int32) (v5 : Int32) : L_X14_kindAt_79 (n + 1) 18 I G v1 v2 v3 v4 v5 = (if (am_tix (am_tB.getD 2 (0, [])).2 (v3.toUInt32 % 65536).toInt32) < 0 then L_X14_kindAt_79 n 20 I G v1 v2 v3 v4 v5 else L_X14_kindAt_79 n 19 I G v1 v2 v3 v4 v5) := rfl
theorem L_X14_kindAt_79_19 (n : Nat) (I : am_I) (G : am_G) (v1 : Int32) (v2 : Int32) (v3 : Int32) (v4 : Int32) (v5 : Int32) : L_X14_kindAt_79 (n + 1) 19 I G v1 v2 v3 v4 v5 = some (((50 : Int32) + v3), I, G) := rfl
theorem L_X14_kindAt_79_20 (n : Nat) (I : am_I) (G : am_G) (v1 : Int32) (v2 : Int32) (v3 : Int32) (v4 : Int32) (v5 : Int32) : L_X14_kindAt_79 (n + 1) 20 I G v1 v2 v3 v4 v5 = some ((901 : Int32), I, G) := rfl
theorem L_X14_kindAt_79_z (h : Nat) (I : am_I) (G : am_G) (v1 : Int32) (v2 : Int32) (v3 : Int32) (v4 : Int32) (v5 : Int32) : L_X14_kindAt_79 0 h I G v1 v2 v3 v4 v5 = none := rfl
noncomputable def R_X14_kindAt_79 (I : am_I) (G : am_G) (x1 : Int32) (x2 : Int32) : Option (Int32 × am_I × am_G) := rg (q_X14_byteOf_79 I G x1) ((if (f_X14_byteOf_79 I G x1) = (-1 : Int32) then some ((900 : Int32), I, G) else (if (f_X14_isLetter I G (f_X14_byteOf_79 I G x1)) = 0 then (if (f_X14_isDigit I G (f_X14_byteOf_79 I G x1)) = 0 then (if (f_X14_byteOf_79 I G x1) = (60 : Int32) then L_X14_kindAt_79 FU 8 I G x1 x2 (f_X14_byteOf_79 I G x1) (x1 + (1 : Int32)) 0 else (if (f_X14_byteOf_79 I G x1) = (62 : Int32) then L_X14_kindAt_79 FU 8 I G x1 x2 (f_X14_byteOf_79 I G x1) (x1 + (1 : Int32)) 0 else L_X14_kindAt_79 FU 10 I G x1 x2 (f_X14_byteOf_79 I G x1) (x1 + (1 : Int32)) 0)) else L_X14_kindAt_79 FU 0 I G x1 x2 (f_X14_byteOf_79 I G x1) (x1 + (1 : Int32)) 0) else L_X14_kindAt_79 FU 0 I G x1 x2 (f_X14_byteOf_79 I G x1) (x1 + (1 : Int32)) 0)))
set_option maxRecDepth 20000 in
set_option maxHeartbeats 4000000 in
theorem l_X14_kindAt_79 {X : am_X} {ad : Nat → Nat} (hX : am_okz X ad) (hi : am_info X 12 cX14_kindAt 6 false (Option.some Jvm.ClassFile.FieldType.int) 6) (n : Nat) : (∀ (I : am_I) (G : am_G) (v1 : Int32) (v2 : Int32) (v3 : Int32) (v4 : Int32) (v5 : Int32) (out : Int32 × am_I × am_G), L_X14_kindAt_79 n 0 I G v1 v2 v3 v4 v5 = some out → am_V X 0 0 (am_Rt X gS2 ad (pI out.1 out.2.1 out.2.2 (gP 123))) gS2 ad (34, [(0, .ref 79), (1, .int v1), (2, .int v2), (3, .int v3), (4, .int v4)], [], I, G, (gP 123))) ∧ (∀ (I : am_I) (G : am_G) (v1 : Int32) (v2 : Int32) (v3 : Int32) (v4 : Int32) (v5 : Int32) (out : Int32 × am_I × am_G), L_X14_kindAt_79 n 1 I G v1 v2 v3 v4 v5 = some out → am_V X 0 0 (am_Rt X gS2 ad (pI out.1 out.2.1 out.2.2 (gP 123))) gS2 ad (65, [(0, .ref 79), (1, .int v1), (2, .int v2), (3, .int v3), (4, .int v4)], [], I, G, (gP 123))) ∧ (∀ (I : am_I) (G : am_G) (v1 : Int32) (v2 : Int32) (v3 : Int32) (v4 : Int32) (v5 : Int32) (out : Int32 × am_I × am_G), L_X14_kindAt_79 n 2 I G v1 v2 v3 v4 v5 = some out → am_V X 0 0 (am_Rt X gS2 ad (pI out.1 out.2.1 out.2.2 (gP 123))) gS2 ad (71, [(0, .ref 79), (1, .int v1), (2, .int v2), (3, .int v3), (4, .int v4)], [], I, G, (gP 123))) ∧ (∀ (I : am_I) (G : am_G) (v1 : Int32) (v2 : Int32) (v3 : Int32) (v4 : Int32) (v5 : Int32) (out : Int32 × am_I × am_G), L_X14_kindAt_79 n 3 I G v1 v2 v3 v4 v5 = some out → am_V X 0 0 (am_Rt X gS2 ad (pI out.1 out.2.1 out.2.2 (gP 123))) gS2 ad (81, [(0, .ref 79), (1, .int v1), (2, .int v2), (3, .int v3), (4, .int v4)], [], I, G, (gP 123))) ∧ (∀ (I : am_I) (G : am_G) (v1 : Int32) (v2 : Int32) (v3 : Int32) (v4 : Int32) (v5 : Int32) (out : Int32 × am_I × am_G), L_X14_kindAt_79 n 4 I G v1 v2 v3 v4 v5 = some out → am_V X 0 0 (am_Rt X gS2 ad (pI out.1 out.2.1 out.2.2 (gP 123))) gS2 ad (102, [(0, .ref 79), (1, .int v1), (2, .int v2), (3, .int v3), (4, .int v4)], [], I, G, (gP 123))) ∧ (∀ (I : am_I) (G : am_G) (v1 : Int32) (v2 : Int32) (v3 : Int32) (v4 : Int32) (v5 : Int32) (out : Int32 × am_I × am_G), L_X14_kindAt_79 n 5 I G v1 v2 v3 v4 v5 = some out → am_V X 0 0 (am_Rt X gS2 ad (pI out.1 out.2.1 out.2.2 (gP 123))) gS2 ad (106, [(0, .ref 79), (1, .int v1), (2, .int v2), (3, .int v3), (4, .int v4)], [], I, G, (gP 123))) ∧ (∀ (I : am_I) (G : am_G) (v1 : Int32) (v2 : Int32) (v3 : Int32) (v4 : Int32) (v5 : Int32) (out : Int32 × am_I × am_G), L_X14_kindAt_79 n 6 I G v1 v2 v3 v4 v5 = some out → am_V X 0 0 (am_Rt X gS2 ad (pI out.1 out.2.1 out.2.2 (gP 123))) gS2 ad (113, [(0, .ref 79), (1, .int v1), (2, .int v2), (3, .int v3), (4, .int v4)], [], I, G, (gP 123))) ∧ (∀ (I : am_I) (G : am_G) (v1 : Int32) (v2 : Int32) (v3 : Int32) (v4 : Int32) (v5 : Int32) (out : Int32 × am_I × am_G), L_X14_kindAt_79 n 7 I G v1 v2 v3 v4 v5 = some out → am_V X 0 0 (am_Rt X gS2 ad (pI out.1 out.2.1 out.2.2 (gP 123))) gS2 ad (125, [(0, .ref 79), (1, .int v1), (2, .int v2), (3, .int v3), (4, .int v4)], [], I, G, (gP 123))) ∧ (∀ (I : am_I) (G : am_G) (v1 : Int32) (v2 : Int32) (v3 : Int32) (v4 : Int32) (v5 : Int32) (out : Int32 × am_I × am_G), L_X14_kindAt_79 n 8 I G v1 v2 v3 v4 v5 = some out → am_V X 0 0 (am_Rt X gS2 ad (pI out.1 out.2.1 out.2.2 (gP 123))) gS2 ad (140, [(0, .ref 79), (1, .int v1), (2, .int v2), (3, .int v3), (4, .int v4)], [], I, G, (gP 123))) ∧ (∀ (I : am_I) (G : am_G) (v1 : Int32) (v2 : Int32) (v3 : Int32) (v4 : Int32) (v5 : Int32) (out : Int32 × am_I × am_G), L_X14_kindAt_79 n 9 I G v1 v2 v3 v4 v5 = some out → am_V X 0 0 (am_Rt X gS2 ad (pI out.1 out.2.1 out.2.2 (gP 123))) gS2 ad (151, [(0, .ref 79), (1, .int v1), (2, .int v2), (3, .int v3), (4, .int v4)], [], I, G, (gP 123))) ∧ (∀ (I : am_I) (G : am_G) (v1 : Int32) (v2 : Int32) (v3 : Int32) (v4 : Int32) (v5 : Int32) (out : Int32 × am_I × am_G), L_X14_kindAt_79 n 10 I G v1 v2 v3 v4 v5 = some out → am_V X 0 0 (am_Rt X gS2 ad (pI out.1 out.2.1 out.2.2 (gP 123))) gS2 ad (155, [(0, .ref 79), (1, .int v1), (2, .int v2), (3, .int v3), (4, .int v4)], [], I, G, (gP 123))) ∧ (∀ (I : am_I) (G : am_G) (v1 : Int32) (v2 : Int32) (v3 : Int32) (v4 : Int32) (v5 : Int32) (out : Int32 × am_I × am_G), L_X14_kindAt_79 n 11 I G v1 v2 v3 v4 v5 = some out → am_V X 0 0 (am_Rt X gS2 ad (pI out.1 out.2.1 out.2.2 (gP 123))) gS2 ad (158, [(0, .ref 79), (1, .int v1), (2, .int v2), (3, .int v3), (4, .int v4), (5, .int v5)], [], I, G, (gP 123))) ∧ (∀ (I : am_I) (G : am_G) (v1 : Int32) (v2 : Int32) (v3 : Int32) (v4 : Int32) (v5 : Int32) (out : Int32 × am_I × am_G), L_X14_kindAt_79 n 12 I G v1 v2 v3 v4 v5 = some out → am_V X 0 0 (am_Rt X gS2 ad (pI out.1 out.2.1 out.2.2 (gP 123))) gS2 ad (174, [(0, .ref 79), (1, .int v1), (2, .int v2), (3, .int v3), (4, .int v4), (5, .int v5)], [], I, G, (gP 123))) ∧ (∀ (I : am_I) (G : am_G) (v1 : Int32) (v2 : Int32) (v3 : Int32) (v4 : Int32) (v5 : Int32) (out : Int32 × am_I × am_G), L_X14_kindAt_79 n 13 I G v1 v2 v3 v4 v5 = some out → am_V X 0 0 (am_Rt X gS2 ad (pI out.1 out.2.1 out.2.2 (gP 123))) gS2 ad (179, [(0, .ref 79), (1, .int v1), (2, .int v2), (3, .int v3), (4, .int v4), (5, .int v5)], [], I, G, (gP 123))) ∧ (∀ (I : am_I) (G : am_G) (v1 : Int32) (v2 : Int32) (v3 : Int32) (v4 : Int32) (v5 : Int32) (out : Int32 × am_I × am_G), L_X14_kindAt_79 n 14 I G v1 v2 v3 v4 v5 = some out → am_V X 0 0 (am_Rt X gS2 ad (pI out.1 out.2.1 out.2.2 (gP 123))) gS2 ad (185, [(0, .ref 79), (1, .int v1), (2, .int v2), (3, .int v3), (4, .int v4), (5, .int v5)], [], I, G, (gP 123))) ∧ (∀ (I : am_I) (G : am_G) (v1 : Int32) (v2 : Int32) (v3 : Int32) (v4 : Int32) (v5 : Int32) (out : Int32 × am_I × am_G), L_X14_kindAt_79 n 15 I G v1 v2 v3 v4 v5 = some out → am_V X 0 0 (am_Rt X gS2 ad (pI out.1 out.2.1 out.2.2 (gP 123))) gS2 ad (191, [(0, .ref 79), (1, .int v1), (2, .int v2), (3, .int v3), (4, .int v4), (5, .int v5)], [], I, G, (gP 123))) ∧ (∀ (I : am_I) (G : am_G) (v1 : Int32) (v2 : Int32) (v3 : Int32) (v4 : Int32) (v5 : Int32) (out : Int32 × am_I × am_G), L_X14_kindAt_79 n 16 I G v1 v2 v3 v4 v5 = some out → am_V X 0 0 (am_Rt X gS2 ad (pI out.1 out.2.1 out.2.2 (gP 123))) gS2 ad (195, [(0, .ref 79), (1, .int v1), (2, .int v2), (3, .int v3), (4, .int v4), (5, .int v5)], [], I, G, (gP 123))) ∧ (∀ (I : am_I) (G : am_G) (v1 : Int32) (v2 : Int32) (v3 : Int32) (v4 : Int32) (v5 : Int32) (out : Int32 × am_I × am_G), L_X14_kindAt_79 n 17 I G v1 v2 v3 v4 v5 = some out → am_V X 0 0 (am_Rt X gS2 ad (pI out.1 out.2.1 out.2.2 (gP 123))) gS2 ad (199, [(0, .ref 79), (1, .int v1), (2, .int v2), (3, .int v3), (4, .int v4), (5, .int v5)], [], I, G, (gP 123))) ∧ (∀ (I : am_I) (G : am_G) (v1 : Int32) (v2 : Int32) (v3 : Int32) (v4 : Int32) (v5 : Int32) (out : Int32 × am_I × am_G), L_X14_kindAt_79 n 18 I G v1 v2 v3 v4 v5 = some out → am_V X 0 0 (am_Rt X gS2 ad (pI out.1 out.2.1 out.2.2 (gP 123))) gS2 ad (206, [(0, .ref 79), (1, .int v1), (2, .int v2), (3, .int v3), (4, .int v4), (5, .int v5)], [], I, G, (gP 123))) ∧ (∀ (I : am_I) (G : am_G) (v1 : Int32) (v2 : Int32) (v3 : Int32) (v4 : Int32) (v5 : Int32) (out : Int32 × am_I × am_G), L_X14_kindAt_79 n 19 I G v1 v2 v3 v4 v5 = some out → am_V X 0 0 (am_Rt X gS2 ad (pI out.1 out.2.1 out.2.2 (gP 123))) gS2 ad (216, [(0, .ref 79), (1, .int v1), (2, .int v2), (3, .int v3), (4, .int v4), (5, .int v5)], [], I, G, (gP 123))) ∧ (∀ (I : am_I) (G : am_G) (v1 : Int32) (v2 : Int32) (v3 : Int32) (v4 : Int32) (v5 : Int32) (out : Int32 × am_I × am_G), L_X14_kindAt_79 n 20 I G v1 v2 v3 v4 v5 = some out → am_V X 0 0 (am_Rt X gS2 ad (pI out.1 out.2.1 out.2.2 (gP 123))) gS2 ad (223, [(0, .ref 79), (1, .int v1), (2, .int v2), (3, .int v3), (4, .int v4), (5, .int v5)], [], I, G, (gP 123))) := by
  induction n with
  | zero => exact ⟨(fun I G v1 v2 v3 v4 v5 out h => by rw [L_X14_kindAt_79_z] at h; cases h), (fun I G v1 v2 v3 v4 v5 out h => by rw [L_X14_kindAt_79_z] at h; cases h), (fun I G v1 v2 v3 v4 v5 out h => by rw [L_X14_kindAt_79_z] at h; cases h), (fun I G v1 v2 v3 v4 v5 out h => by rw [L_X14_kindAt_79_z] at h; cases h), (fun I G v1 v2 v3 v4 v5 out h => by rw [L_X14_kindAt_79_z] at h; cases h), (fun I G v1 v2 v3 v4 v5 out h => by rw [L_X14_kindAt_79_z] at h; cases h), (fun I G v1 v2 v3 v4 v5 out h => by rw [L_X14_kindAt_79_z] at h; cases h), (fun I G v1 v2 v3 v4 v5 out h => by rw [L_X14_kindAt_79_z] at h; cases h), (fun I G v1 v2 v3 v4 v5 out h => by rw [L_X14_kindAt_79_z] at h; cases h), (fun I G v1 v2 v3 v4 v5 out h => by rw [L_X14_kindAt_79_z] at h; cases h), (fun I G v1 v2 v3 v4 v5 out h => by rw [L_X14_kindAt_79_z] at h; cases h), (fun I G v1 v2 v3 v4 v5 out h => by rw [L_X14_kindAt_79_z] at h; cases h), (fun I G v1 v2 v3 v4 v5 out h => by rw [L_X14_kindAt_79_z] at h; cases h), (fun I G v1 v2 v3 v4 v5 out h => by rw [L_X14_kindAt_79_z] at h; cases h), (fun I G v1 v2 v3 v4 v5 out h => by rw [L_X14_kindAt_79_z] at h; cases h), (fun I G v1 v2 v3 v4 v5 out h => by rw [L_X14_kindAt_79_z] at h; cases h), (fun I G v1 v2 v3 v4 v5 out h => by rw [L_X14_kindAt_79_z] at h; cases h), (fun I G v1 v2 v3 v4 v5 out h => by rw [L_X14_kindAt_79_z] at h; cases h), (fun I G v1 v2 v3 v4 v5 out h => by rw [L_X14_kindAt_79_z] at h; cases h), (fun I G v1 v2 v3 v4 v5 out h => by rw [L_X14_kindAt_79_z] at h; cases h), (fun I G v1 v2 v3 v4 v5 out h => by rw [L_X14_kindAt_79_z] at h; cases h)⟩
  | succ n ih =>
    refine ⟨?_, ?_, ?_, ?_, ?_, ?_, ?_, ?_, ?_, ?_, ?_, ?_, ?_, ?_, ?_, ?_, ?_, ?_, ?_, ?_, ?_⟩
    · intro I G v1 v2 v3 v4 v5 out h
      rw [L_X14_kindAt_79_0] at h
      refine am_blk 34 [(.aload_n 0, 1, 0, 0, .null), (.iload 4, 2, 4, 0, .null)] (37, [(0, .ref 79), (1, .int v1), (2, .int v2), (3, .int v3), (4, .int v4)], [.int v4, .ref 79], I, G, (gP 123)) (True) hX hi (by decide +kernel) rfl trivial ?_
      obtain ⟨hq1, h⟩ := rg_some h
      refine am_callV hX hi (M := mX14_byteOf) (idx := 86) (d' := 1) (b := 79) (ci := 12) (As := [.int v4]) (rest := []) mkX14_byteOf miX14_byteOf mvX14_byteOf (by decide +kernel) (by decide +kernel) rfl (by decide +kernel) rfl ⟨by omega, by decide, Nat.le_of_ble_eq_true rfl⟩ rfl (c_X14_byteOf_79 I G v4 hq1) ?_
      rintro r9 I9 G9 P9 ⟨e0, e1, e2, e3⟩
      rw [e0, e1, e2, e3]
      show am_V X 0 0 _ _ ad (40, [(0, .ref 79), (1, .int v1), (2, .int v2), (3, .int v3), (4, .int v4)], [.int (f_X14_byteOf_79 I G v4)], I, G, (gP 123))
      refine am_callS hX hi (M := mX14_isDigit) (idx := 94) (d' := 1) (As := [.int (f_X14_byteOf_79 I G v4)]) (rest := []) mkX14_isDigit msX14_isDigit (by decide +kernel) (by decide +kernel) rfl ⟨by omega, by decide, Nat.le_of_ble_eq_true rfl⟩ rfl (c_X14_isDigit I G (f_X14_byteOf_79 I G v4)) ?_
      rintro r9 I9 G9 P9 ⟨e0, e1, e2, e3⟩
      rw [e0, e1, e2, e3]
      show am_V X 0 0 _ _ ad (43, [(0, .ref 79), (1, .int v1), (2, .int v2), (3, .int v3), (4, .int v4)], [.int (f_X14_isDigit I G (f_X14_byteOf_79 I G v4))], I, G, (gP 123))
      refine am_if_ne (tgt := 65) hX hi (off := (22)) (by decide +kernel) (by decide) (fun c43 => ?_) (fun c43 => ?_)
      · rw [if_neg c43] at h
        exact ih.2.1 _ _ _ _ _ _ _ _ h
      · rw [if_pos c43] at h
        refine am_blk 46 [(.iload_n 3, 1, 3, 0, .null)] (47, [(0, .ref 79), (1, .int v1), (2, .int v2), (3, .int v3), (4, .int v4)], [.int v3], I, G, (gP 123)) (True) hX hi (by decide +kernel) rfl trivial ?_
        refine am_callS hX hi (M := mX14_isLetter) (idx := 90) (d' := 1) (As := [.int v3]) (rest := []) mkX14_isLetter msX14_isLetter (by decide +kernel) (by decide +kernel) rfl ⟨by omega, by decide, Nat.le_of_ble_eq_true rfl⟩ rfl (c_X14_isLetter I G v3) ?_
        rintro r9 I9 G9 P9 ⟨e0, e1, e2, e3⟩
        rw [e0, e1, e2, e3]
        show am_V X 0 0 _ _ ad (50, [(0, .ref 79), (1, .int v1), (2, .int v2), (3, .int v3), (4, .int v4)], [.int (f_X14_isLetter I G v3)], I, G, (gP 123))
        refine am_if_eq (tgt := 71) hX hi (off := (21)) (by decide +kernel) (by decide) (fun c50 => ?_) (fun c50 => ?_)
        · rw [if_pos c50] at h
          exact ih.2.2.1 _ _ _ _ _ _ _ _ h
        · rw [if_neg c50] at h
          refine am_blk 53 [(.aload_n 0, 1, 0, 0, .null), (.iload 4, 2, 4, 0, .null)] (56, [(0, .ref 79), (1, .int v1), (2, .int v2), (3, .int v3), (4, .int v4)], [.int v4, .ref 79], I, G, (gP 123)) (True) hX hi (by decide +kernel) rfl trivial ?_
          obtain ⟨hq1, h⟩ := rg_some h
          refine am_callV hX hi (M := mX14_byteOf) (idx := 86) (d' := 1) (b := 79) (ci := 12) (As := [.int v4]) (rest := []) mkX14_byteOf miX14_byteOf mvX14_byteOf (by decide +kernel) (by decide +kernel) rfl (by decide +kernel) rfl ⟨by omega, by decide, Nat.le_of_ble_eq_true rfl⟩ rfl (c_X14_byteOf_79 I G v4 hq1) ?_
          rintro r9 I9 G9 P9 ⟨e0, e1, e2, e3⟩
          rw [e0, e1, e2, e3]
          show am_V X 0 0 _ _ ad (59, [(0, .ref 79), (1, .int v1), (2, .int v2), (3, .int v3), (4, .int v4)], [.int (f_X14_byteOf_79 I G v4)], I, G, (gP 123))
          refine am_callS hX hi (M := mX14_isLetter) (idx := 90) (d' := 1) (As := [.int (f_X14_byteOf_79 I G v4)]) (rest := []) mkX14_isLetter msX14_isLetter (by decide +kernel) (by decide +kernel) rfl ⟨by omega, by decide, Nat.le_of_ble_eq_true rfl⟩ rfl (c_X14_isLetter I G (f_X14_byteOf_79 I G v4)) ?_
          rintro r9 I9 G9 P9 ⟨e0, e1, e2, e3⟩
          rw [e0, e1, e2, e3]
          show am_V X 0 0 _ _ ad (62, [(0, .ref 79), (1, .int v1), (2, .int v2), (3, .int v3), (4, .int v4)], [.int (f_X14_isLetter I G (f_X14_byteOf_79 I G v4))], I, G, (gP 123))
          refine am_if_eq (tgt := 71) hX hi (off := (9)) (by decide +kernel) (by decide) (fun c62 => ?_) (fun c62 => ?_)
          · rw [if_pos c62] at h
            exact ih.2.2.1 _ _ _ _ _ _ _ _ h
          · rw [if_neg c62] at h
            exact ih.2.1 _ _ _ _ _ _ _ _ h
    · intro I G v1 v2 v3 v4 v5 out h
      rw [L_X14_kindAt_79_1] at h
      refine am_blk 65 [(.iinc 4 (1), 3, 4, 0, .int (1 : Int32)), (.goto (-34), 3, 0, 34, .null)] (34, [(0, .ref 79), (1, .int v1), (2, .int v2), (3, .int v3), (4, .int (v4 + (1 : Int32)))], [], I, G, (gP 123)) (True) hX hi (by decide +kernel) rfl trivial ?_
      exact ih.1 _ _ _ _ _ _ _ _ h
    · intro I G v1 v2 v3 v4 v5 out h
      rw [L_X14_kindAt_79_2] at h
      obtain ⟨g0, h⟩ := rg_some h
      refine am_blk 71 [(.aload_n 0, 1, 0, 0, .null), (.getfield 23, 3, 12, 6, .null), (.iload_n 2, 1, 2, 0, .null), (.iload 4, 2, 4, 0, .null), (.iload_n 1, 1, 1, 0, .null), (.isub, 1, 0, 0, .null), (.iastore, 1, 0, 0, .null)] (81, [(0, .ref 79), (1, .int v1), (2, .int v2), (3, .int v3), (4, .int v4)], [], (am_up I 83 v2.toNatClampNeg (v4 - v1)), G, (gP 123)) (vp_in v2 401 ∧ True) hX hi (by decide +kernel) rfl ⟨g0, trivial⟩ ?_
      exact ih.2.2.2.1 _ _ _ _ _ _ _ _ h
    · intro I G v1 v2 v3 v4 v5 out h
      rw [L_X14_kindAt_79_3] at h
      refine am_blk 81 [(.iload 4, 2, 4, 0, .null), (.iload_n 1, 1, 1, 0, .null), (.isub, 1, 0, 0, .null), (.iload_n 3, 1, 3, 0, .null)] (86, [(0, .ref 79), (1, .int v1), (2, .int v2), (3, .int v3), (4, .int v4)], [.int v3, .int (v4 - v1)], I, G, (gP 123)) (True) hX hi (by decide +kernel) rfl trivial ?_
      refine am_callS hX hi (M := mX14_isLetter) (idx := 90) (d' := 1) (As := [.int v3]) (rest := [.int (v4 - v1)]) mkX14_isLetter msX14_isLetter (by decide +kernel) (by decide +kernel) rfl ⟨by omega, by decide, Nat.le_of_ble_eq_true rfl⟩ rfl (c_X14_isLetter I G v3) ?_
      rintro r9 I9 G9 P9 ⟨e0, e1, e2, e3⟩
      rw [e0, e1, e2, e3]
      show am_V X 0 0 _ _ ad (89, [(0, .ref 79), (1, .int v1), (2, .int v2), (3, .int v3), (4, .int v4)], [.int (f_X14_isLetter I G v3), .int (v4 - v1)], I, G, (gP 123))
      refine am_if_eq (tgt := 97) hX hi (off := (8)) (by decide +kernel) (by decide) (fun c89 => ?_) (fun c89 => ?_)
      · rw [if_pos c89] at h
        refine am_blk 97 [(.bipush (6), 2, 0, 0, .int (6 : Int32))] (99, [(0, .ref 79), (1, .int v1), (2, .int v2), (3, .int v3), (4, .int v4)], [.int (6 : Int32), .int (v4 - v1)], I, G, (gP 123)) (True) hX hi (by decide +kernel) rfl trivial ?_
        refine am_icmp_le (tgt := 106) hX hi (off := (7)) (by decide +kernel) (by decide) (fun c99 => ?_) (fun c99 => ?_)
        · rw [if_pos c99] at h
          exact ih.2.2.2.2.2.1 _ _ _ _ _ _ _ _ h
        · rw [if_neg c99] at h
          exact ih.2.2.2.2.1 _ _ _ _ _ _ _ _ h
      · rw [if_neg c89] at h
        refine am_blk 92 [(.bipush (10), 2, 0, 0, .int (10 : Int32)), (.goto (5), 3, 0, 99, .null)] (99, [(0, .ref 79), (1, .int v1), (2, .int v2), (3, .int v3), (4, .int v4)], [.int (10 : Int32), .int (v4 - v1)], I, G, (gP 123)) (True) hX hi (by decide +kernel) rfl trivial ?_
        refine am_icmp_le (tgt := 106) hX hi (off := (7)) (by decide +kernel) (by decide) (fun c99 => ?_) (fun c99 => ?_)
        · rw [if_pos c99] at h
          exact ih.2.2.2.2.2.1 _ _ _ _ _ _ _ _ h
        · rw [if_neg c99] at h
          exact ih.2.2.2.2.1 _ _ _ _ _ _ _ _ h
    · intro I G v1 v2 v3 v4 v5 out h
      rw [L_X14_kindAt_79_4] at h
      refine am_blk 102 [(.sipush (901), 3, 0, 0, .int (901 : Int32))] (105, [(0, .ref 79), (1, .int v1), (2, .int v2), (3, .int v3), (4, .int v4)], [.int (901 : Int32)], I, G, (gP 123)) (True) hX hi (by decide +kernel) rfl trivial ?_
      cases h
      refine am_iret hX hi rfl rfl (by decide +kernel) ?_
      exact ⟨rfl, rfl, rfl, rfl⟩
    · intro I G v1 v2 v3 v4 v5 out h
      rw [L_X14_kindAt_79_5] at h
      refine am_blk 106 [(.iload_n 3, 1, 3, 0, .null)] (107, [(0, .ref 79), (1, .int v1), (2, .int v2), (3, .int v3), (4, .int v4)], [.int v3], I, G, (gP 123)) (True) hX hi (by decide +kernel) rfl trivial ?_
      refine am_callS hX hi (M := mX14_isLetter) (idx := 90) (d' := 1) (As := [.int v3]) (rest := []) mkX14_isLetter msX14_isLetter (by decide +kernel) (by decide +kernel) rfl ⟨by omega, by decide, Nat.le_of_ble_eq_true rfl⟩ rfl (c_X14_isLetter I G v3) ?_
      rintro r9 I9 G9 P9 ⟨e0, e1, e2, e3⟩
      rw [e0, e1, e2, e3]
      show am_V X 0 0 _ _ ad (110, [(0, .ref 79), (1, .int v1), (2, .int v2), (3, .int v3), (4, .int v4)], [.int (f_X14_isLetter I G v3)], I, G, (gP 123))
      refine am_if_eq (tgt := 125) hX hi (off := (15)) (by decide +kernel) (by decide) (fun c110 => ?_) (fun c110 => ?_)
      · rw [if_pos c110] at h
        exact ih.2.2.2.2.2.2.2.1 _ _ _ _ _ _ _ _ h
      · rw [if_neg c110] at h
        exact ih.2.2.2.2.2.2.1 _ _ _ _ _ _ _ _ h
    · intro I G v1 v2 v3 v4 v5 out h
      rw [L_X14_kindAt_79_6] at h
      refine am_blk 113 [(.aload_n 0, 1, 0, 0, .null), (.iload_n 1, 1, 1, 0, .null), (.iload 4, 2, 4, 0, .null), (.iload_n 1, 1, 1, 0, .null), (.isub, 1, 0, 0, .null)] (119, [(0, .ref 79), (1, .int v1), (2, .int v2), (3, .int v3), (4, .int v4)], [.int (v4 - v1), .int v1, .ref 79], I, G, (gP 123)) (True) hX hi (by decide +kernel) rfl trivial ?_
      obtain ⟨r701, I701, G701, hc, h⟩ := rb_some h
      refine am_callV hX hi (M := mX14_word) (idx := 97) (d' := 5) (b := 79) (ci := 12) (As := [.int v1, .int (v4 - v1)]) (rest := []) mkX14_word miX14_word mvX14_word (by decide +kernel) (by decide +kernel) rfl (by decide +kernel) rfl ⟨by omega, by decide, Nat.le_of_ble_eq_true rfl⟩ rfl (c_X14_word_79 I G v1 (v4 - v1) hc) ?_
      rintro r9 I9 G9 P9 ⟨e0, e1, e2, e3⟩
      rw [e0, e1, e2, e3]
      show am_V X 0 0 _ _ ad (122, [(0, .ref 79), (1, .int v1), (2, .int v2), (3, .int v3), (4, .int v4)], [.int r701], I701, G701, (gP 123))
      refine am_blk 122 [(.goto (5), 3, 0, 127, .null)] (127, [(0, .ref 79), (1, .int v1), (2, .int v2), (3, .int v3), (4, .int v4)], [.int r701], I701, G701, (gP 123)) (True) hX hi (by decide +kernel) rfl trivial ?_
      cases h
      refine am_iret hX hi rfl rfl (by decide +kernel) ?_
      exact ⟨rfl, rfl, rfl, rfl⟩
    · intro I G v1 v2 v3 v4 v5 out h
      rw [L_X14_kindAt_79_7] at h
      refine am_blk 125 [(.bipush (41), 2, 0, 0, .int (41 : Int32))] (127, [(0, .ref 79), (1, .int v1), (2, .int v2), (3, .int v3), (4, .int v4)], [.int (41 : Int32)], I, G, (gP 123)) (True) hX hi (by decide +kernel) rfl trivial ?_
      cases h
      refine am_iret hX hi rfl rfl (by decide +kernel) ?_
      exact ⟨rfl, rfl, rfl, rfl⟩
    · intro I G v1 v2 v3 v4 v5 out h
      rw [L_X14_kindAt_79_8] at h
      refine am_blk 140 [(.aload_n 0, 1, 0, 0, .null), (.iload 4, 2, 4, 0, .null)] (143, [(0, .ref 79), (1, .int v1), (2, .int v2), (3, .int v3), (4, .int v4)], [.int v4, .ref 79], I, G, (gP 123)) (True) hX hi (by decide +kernel) rfl trivial ?_
      obtain ⟨hq1, h⟩ := rg_some h
      refine am_callV hX hi (M := mX14_byteOf) (idx := 86) (d' := 1) (b := 79) (ci := 12) (As := [.int v4]) (rest := []) mkX14_byteOf miX14_byteOf mvX14_byteOf (by decide +kernel) (by decide +kernel) rfl (by decide +kernel) rfl ⟨by omega, by decide, Nat.le_of_ble_eq_true rfl⟩ rfl (c_X14_byteOf_79 I G v4 hq1) ?_
      rintro r9 I9 G9 P9 ⟨e0, e1, e2, e3⟩
      rw [e0, e1, e2, e3]
      show am_V X 0 0 _ _ ad (146, [(0, .ref 79), (1, .int v1), (2, .int v2), (3, .int v3), (4, .int v4)], [.int (f_X14_byteOf_79 I G v4)], I, G, (gP 123))
      refine am_blk 146 [(.bipush (61), 2, 0, 0, .int (61 : Int32))] (148, [(0, .ref 79), (1, .int v1), (2, .int v2), (3, .int v3), (4, .int v4)], [.int (61 : Int32), .int (f_X14_byteOf_79 I G v4)], I, G, (gP 123)) (True) hX hi (by decide +kernel) rfl trivial ?_
      refine am_icmp_ne (tgt := 155) hX hi (off := (7)) (by decide +kernel) (by decide) (fun c148 => ?_) (fun c148 => ?_)
      · rw [if_neg c148] at h
        exact ih.2.2.2.2.2.2.2.2.2.2.1 _ _ _ _ _ _ _ _ h
      · rw [if_pos c148] at h
        exact ih.2.2.2.2.2.2.2.2.2.1 _ _ _ _ _ _ _ _ h
    · intro I G v1 v2 v3 v4 v5 out h
      rw [L_X14_kindAt_79_9] at h
      refine am_blk 151 [(.iconst (1), 1, 0, 0, .int (1 : Int32)), (.goto (4), 3, 0, 156, .null), (.istore 5, 2, 5, 0, .null)] (158, [(0, .ref 79), (1, .int v1), (2, .int v2), (3, .int v3), (4, .int v4), (5, .int (1 : Int32))], [], I, G, (gP 123)) (True) hX hi (by decide +kernel) rfl trivial ?_
      exact ih.2.2.2.2.2.2.2.2.2.2.2.1 _ _ _ _ _ _ _ _ h
    · intro I G v1 v2 v3 v4 v5 out h
      rw [L_X14_kindAt_79_10] at h
      refine am_blk 155 [(.iconst (0), 1, 0, 0, .int (0 : Int32)), (.istore 5, 2, 5, 0, .null)] (158, [(0, .ref 79), (1, .int v1), (2, .int v2), (3, .int v3), (4, .int v4), (5, .int (0 : Int32))], [], I, G, (gP 123)) (True) hX hi (by decide +kernel) rfl trivial ?_
      exact ih.2.2.2.2.2.2.2.2.2.2.2.1 _ _ _ _ _ _ _ _ h
    · intro I G v1 v2 v3 v4 v5 out h
      rw [L_X14_kindAt_79_11] at h
      refine am_blk 158 [(.aload_n 0, 1, 0, 0, .null), (.getfield 23, 3, 12, 6, .null), (.iload_n 2, 1, 2, 0, .null), (.iload 5, 2, 5, 0, .null)] (165, [(0, .ref 79), (1, .int v1), (2, .int v2), (3, .int v3), (4, .int v4), (5, .int v5)], [.int v5, .int v2, .ref 83], I, G, (gP 123)) (True) hX hi (by decide +kernel) rfl trivial ?_
      refine am_if_eq (tgt := 172) hX hi (off := (7)) (by decide +kernel) (by decide) (fun c165 => ?_) (fun c165 => ?_)
      · rw [if_pos c165] at h
        obtain ⟨g0, h⟩ := rg_some h
        refine am_blk 172 [(.iconst (1), 1, 0, 0, .int (1 : Int32)), (.iastore, 1, 0, 0, .null)] (174, [(0, .ref 79), (1, .int v1), (2, .int v2), (3, .int v3), (4, .int v4), (5, .int v5)], [], (am_up I 83 v2.toNatClampNeg (1 : Int32)), G, (gP 123)) (vp_in v2 401 ∧ True) hX hi (by decide +kernel) rfl ⟨g0, trivial⟩ ?_
        exact ih.2.2.2.2.2.2.2.2.2.2.2.2.1 _ _ _ _ _ _ _ _ h
      · rw [if_neg c165] at h
        obtain ⟨g0, h⟩ := rg_some h
        refine am_blk 168 [(.iconst (2), 1, 0, 0, .int (2 : Int32)), (.goto (4), 3, 0, 173, .null), (.iastore, 1, 0, 0, .null)] (174, [(0, .ref 79), (1, .int v1), (2, .int v2), (3, .int v3), (4, .int v4), (5, .int v5)], [], (am_up I 83 v2.toNatClampNeg (2 : Int32)), G, (gP 123)) (vp_in v2 401 ∧ True) hX hi (by decide +kernel) rfl ⟨g0, trivial⟩ ?_
        exact ih.2.2.2.2.2.2.2.2.2.2.2.2.1 _ _ _ _ _ _ _ _ h
    · intro I G v1 v2 v3 v4 v5 out h
      rw [L_X14_kindAt_79_12] at h
      refine am_blk 174 [(.iload 5, 2, 5, 0, .null)] (176, [(0, .ref 79), (1, .int v1), (2, .int v2), (3, .int v3), (4, .int v4), (5, .int v5)], [.int v5], I, G, (gP 123)) (True) hX hi (by decide +kernel) rfl trivial ?_
      refine am_if_eq (tgt := 195) hX hi (off := (19)) (by decide +kernel) (by decide) (fun c176 => ?_) (fun c176 => ?_)
      · rw [if_pos c176] at h
        exact ih.2.2.2.2.2.2.2.2.2.2.2.2.2.2.2.2.1 _ _ _ _ _ _ _ _ h
      · rw [if_neg c176] at h
        exact ih.2.2.2.2.2.2.2.2.2.2.2.2.2.1 _ _ _ _ _ _ _ _ h
    · intro I G v1 v2 v3 v4 v5 out h
      rw [L_X14_kindAt_79_13] at h
      refine am_blk 179 [(.iload_n 3, 1, 3, 0, .null), (.bipush (60), 2, 0, 0, .int (60 : Int32))] (182, [(0, .ref 79), (1, .int v1), (2, .int v2), (3, .int v3), (4, .int v4), (5, .int v5)], [.int (60 : Int32), .int v3], I, G, (gP 123)) (True) hX hi (by decide +kernel) rfl trivial ?_
      refine am_icmp_ne (tgt := 191) hX hi (off := (9)) (by decide +kernel) (by decide) (fun c182 => ?_) (fun c182 => ?_)
      · rw [if_neg c182] at h
        exact ih.2.2.2.2.2.2.2.2.2.2.2.2.2.2.2.1 _ _ _ _ _ _ _ _ h
      · rw [if_pos c182] at h
        exact ih.2.2.2.2.2.2.2.2.2.2.2.2.2.2.1 _ _ _ _ _ _ _ _ h
    · intro I G v1 v2 v3 v4 v5 out h
      rw [L_X14_kindAt_79_14] at h
      refine am_blk 185 [(.sipush (300), 3, 0, 0, .int (300 : Int32)), (.goto (6), 3, 0, 194, .null)] (194, [(0, .ref 79), (1, .int v1), (2, .int v2), (3, .int v3), (4, .int v4), (5, .int v5)], [.int (300 : Int32)], I, G, (gP 123)) (True) hX hi (by decide +kernel) rfl trivial ?_
      cases h
      refine am_iret hX hi rfl rfl (by decide +kernel) ?_
      exact ⟨rfl, rfl, rfl, rfl⟩
    · intro I G v1 v2 v3 v4 v5 out h
      rw [L_X14_kindAt_79_15] at h
      refine am_blk 191 [(.sipush (301), 3, 0, 0, .int (301 : Int32))] (194, [(0, .ref 79), (1, .int v1), (2, .int v2), (3, .int v3), (4, .int v4), (5, .int v5)], [.int (301 : Int32)], I, G, (gP 123)) (True) hX hi (by decide +kernel) rfl trivial ?_
      cases h
      refine am_iret hX hi rfl rfl (by decide +kernel) ?_
      exact ⟨rfl, rfl, rfl, rfl⟩
    · intro I G v1 v2 v3 v4 v5 out h
      rw [L_X14_kindAt_79_16] at h
      refine am_blk 195 [(.iload_n 3, 1, 3, 0, .null)] (196, [(0, .ref 79), (1, .int v1), (2, .int v2), (3, .int v3), (4, .int v4), (5, .int v5)], [.int v3], I, G, (gP 123)) (True) hX hi (by decide +kernel) rfl trivial ?_
      refine am_if_le (tgt := 223) hX hi (off := (27)) (by decide +kernel) (by decide) (fun c196 => ?_) (fun c196 => ?_)
      · rw [if_pos c196] at h
        exact ih.2.2.2.2.2.2.2.2.2.2.2.2.2.2.2.2.2.2.2.2 _ _ _ _ _ _ _ _ h
      · rw [if_neg c196] at h
        exact ih.2.2.2.2.2.2.2.2.2.2.2.2.2.2.2.2.2.1 _ _ _ _ _ _ _ _ h
    · intro I G v1 v2 v3 v4 v5 out h
      rw [L_X14_kindAt_79_17] at h
      refine am_blk 199 [(.iload_n 3, 1, 3, 0, .null), (.sipush (128), 3, 0, 0, .int (128 : Int32))] (203, [(0, .ref 79), (1, .int v1), (2, .int v2), (3, .int v3), (4, .int v4), (5, .int v5)], [.int (128 : Int32), .int v3], I, G, (gP 123)) (True) hX hi (by decide +kernel) rfl trivial ?_
      refine am_icmp_ge (tgt := 223) hX hi (off := (20)) (by decide +kernel) (by decide) (fun c203 => ?_) (fun c203 => ?_)
      · rw [if_pos c203] at h
        exact ih.2.2.2.2.2.2.2.2.2.2.2.2.2.2.2.2.2.2.2.2 _ _ _ _ _ _ _ _ h
      · rw [if_neg c203] at h
        exact ih.2.2.2.2.2.2.2.2.2.2.2.2.2.2.2.2.2.2.1 _ _ _ _ _ _ _ _ h
    · intro I G v1 v2 v3 v4 v5 out h
      rw [L_X14_kindAt_79_18] at h
      refine am_ldcS hX hi (i := 16) (idx := 100) rfl rfl rfl (by decide +kernel) ?_
      show am_V X 0 0 _ _ ad (208, [(0, .ref 79), (1, .int v1), (2, .int v2), (3, .int v3), (4, .int v4), (5, .int v5)], [.ref 2016], I, G, (gP 123))
      refine am_blk 208 [(.iload_n 3, 1, 3, 0, .null), (.i2c, 1, 0, 0, .null)] (210, [(0, .ref 79), (1, .int v1), (2, .int v2), (3, .int v3), (4, .int v4), (5, .int v5)], [.int (v3.toUInt32 % 65536).toInt32, .ref 2016], I, G, (gP 123)) (True) hX hi (by decide +kernel) rfl trivial ?_
      refine am_callT hX hi (M := mJ0_indexOf_0f7a4) (idx := 102) (d' := 4) (As := [.int (v3.toUInt32 % 65536).toInt32]) (rest := []) mkJ0_indexOf_0f7a4 miJ0_indexOf_0f7a4 mvJ0_indexOf_0f7a4 (by decide +kernel) (by decide +kernel) (show am_tB[2]? = some (am_tB.getD 2 (0, [])) from rfl) rfl rfl ⟨by omega, by decide, Nat.le_of_ble_eq_true rfl⟩ rfl (c_sindexOf (show am_tB[2]? = some (am_tB.getD 2 (0, [])) from rfl) (v3.toUInt32 % 65536).toInt32) ?_
      rintro r9 I9 G9 P9 ⟨e0, e1, e2, e3⟩
      rw [e0, e1, e2, e3]
      show am_V X 0 0 _ _ ad (213, [(0, .ref 79), (1, .int v1), (2, .int v2), (3, .int v3), (4, .int v4), (5, .int v5)], [.int (am_tix (am_tB.getD 2 (0, [])).2 (v3.toUInt32 % 65536).toInt32)], I, G, (gP 123))
      refine am_if_lt (tgt := 223) hX hi (off := (10)) (by decide +kernel) (by decide) (fun c213 => ?_) (fun c213 => ?_)
      · rw [if_pos c213] at h
        exact ih.2.2.2.2.2.2.2.2.2.2.2.2.2.2.2.2.2.2.2.2 _ _ _ _ _ _ _ _ h
      · rw [if_neg c213] at h
        exact ih.2.2.2.2.2.2.2.2.2.2.2.2.2.2.2.2.2.2.2.1 _ _ _ _ _ _ _ _ h
    · intro I G v1 v2 v3 v4 v5 out h
      rw [L_X14_kindAt_79_19] at h
      refine am_blk 216 [(.bipush (50), 2, 0, 0, .int (50 : Int32)), (.iload_n 3, 1, 3, 0, .null), (.iadd, 1, 0, 0, .null), (.goto (6), 3, 0, 226, .null)] (226, [(0, .ref 79), (1, .int v1), (2, .int v2), (3, .int v3), (4, .int v4), (5, .int v5)], [.int ((50 : Int32) + v3)], I, G, (gP 123)) (True) hX hi (by decide +kernel) rfl trivial ?_
      cases h
      refine am_iret hX hi rfl rfl (by decide +kernel) ?_
      exact ⟨rfl, rfl, rfl, rfl⟩
    · intro I G v1 v2 v3 v4 v5 out h
      rw [L_X14_kindAt_79_20] at h
      refine am_blk 223 [(.sipush (901), 3, 0, 0, .int (901 : Int32))] (226, [(0, .ref 79), (1, .int v1), (2, .int v2), (3, .int v3), (4, .int v4), (5, .int v5)], [.int (901 : Int32)], I, G, (gP 123)) (True) hX hi (by decide +kernel) rfl trivial ?_
      cases h
      refine am_iret hX hi rfl rfl (by decide +kernel) ?_
      exact ⟨rfl, rfl, rfl, rfl⟩
set_option maxRecDepth 20000 in
set_option maxHeartbeats 4000000 in
theorem c_X14_kindAt_79 (I : am_I) (G : am_G) (x1 : Int32) (x2 : Int32) {out : Int32 × am_I × am_G} (h : R_X14_kindAt_79 I G x1 x2 = some out) : am_Ct mX14_kindAt 6 gS2 [.ref 79, .int x1, .int x2] I G (gP 123) (pI out.1 out.2.1 out.2.2 (gP 123)) := by
  refine am_ofF (by decide +kernel) rfl (by decide) (by omega) (Nat.le_of_ble_eq_true rfl) (fun X ad hX hi => ?_)
  have hi : am_info X 12 cX14_kindAt 6 false (Option.some Jvm.ClassFile.FieldType.int) 6 := hi
  show am_V X 0 0 _ _ ad (0, [(0, .ref 79), (1, .int x1), (2, .int x2)], [], I, G, (gP 123))
  unfold R_X14_kindAt_79 at h
  refine am_blk 0 [(.aload_n 0, 1, 0, 0, .null), (.iload_n 1, 1, 1, 0, .null)] (2, [(0, .ref 79), (1, .int x1), (2, .int x2)], [.int x1, .ref 79], I, G, (gP 123)) (True) hX hi (by decide +kernel) rfl trivial ?_
  obtain ⟨hq1, h⟩ := rg_some h
  refine am_callV hX hi (M := mX14_byteOf) (idx := 86) (d' := 1) (b := 79) (ci := 12) (As := [.int x1]) (rest := []) mkX14_byteOf miX14_byteOf mvX14_byteOf (by decide +kernel) (by decide +kernel) rfl (by decide +kernel) rfl ⟨by omega, by decide, Nat.le_of_ble_eq_true rfl⟩ rfl (c_X14_byteOf_79 I G x1 hq1) ?_
  rintro r9 I9 G9 P9 ⟨e0, e1, e2, e3⟩
  rw [e0, e1, e2, e3]
  show am_V X 0 0 _ _ ad (5, [(0, .ref 79), (1, .int x1), (2, .int x2)], [.int (f_X14_byteOf_79 I G x1)], I, G, (gP 123))
  refine am_blk 5 [(.istore_n 3, 1, 3, 0, .null), (.iload_n 1, 1, 1, 0, .null), (.iconst (1), 1, 0, 0, .int (1 : Int32)), (.iadd, 1, 0, 0, .null), (.istore 4, 2, 4, 0, .null), (.iload_n 3, 1, 3, 0, .null), (.iconst (-1), 1, 0, 0, .int (-1 : Int32))] (13, [(0, .ref 79), (1, .int x1), (2, .int x2), (3, .int (f_X14_byteOf_79 I G x1)), (4, .int (x1 + (1 : Int32)))], [.int (-1 : Int32), .int (f_X14_byteOf_79 I G x1)], I, G, (gP 123)) (True) hX hi (by decide +kernel) rfl trivial ?_
  refine am_icmp_ne (tgt := 20) hX hi (off := (7)) (by decide +kernel) (by decide) (fun c13 => ?_) (fun c13 => ?_)
  · rw [if_neg c13] at h
    refine am_blk 20 [(.iload_n 3, 1, 3, 0, .null)] (21, [(0, .ref 79), (1, .int x1), (2, .int x2), (3, .int (f_X14_byteOf_79 I G x1)), (4, .int (x1 + (1 : Int32)))], [.int (f_X14_byteOf_79 I G x1)], I, G, (gP 123)) (True) hX hi (by decide +kernel) rfl trivial ?_
    refine am_callS hX hi (M := mX14_isLetter) (idx := 90) (d' := 1) (As := [.int (f_X14_byteOf_79 I G x1)]) (rest := []) mkX14_isLetter msX14_isLetter (by decide +kernel) (by decide +kernel) rfl ⟨by omega, by decide, Nat.le_of_ble_eq_true rfl⟩ rfl (c_X14_isLetter I G (f_X14_byteOf_79 I G x1)) ?_
    rintro r9 I9 G9 P9 ⟨e0, e1, e2, e3⟩
    rw [e0, e1, e2, e3]
    show am_V X 0 0 _ _ ad (24, [(0, .ref 79), (1, .int x1), (2, .int x2), (3, .int (f_X14_byteOf_79 I G x1)), (4, .int (x1 + (1 : Int32)))], [.int (f_X14_isLetter I G (f_X14_byteOf_79 I G x1))], I, G, (gP 123))
    refine am_if_ne (tgt := 34) hX hi (off := (10)) (by decide +kernel) (by decide) (fun c24 => ?_) (fun c24 => ?_)
    · rw [if_neg c24] at h
      exact (l_X14_kindAt_79 hX hi FU).1 _ _ _ _ _ _ _ _ h
    · rw [if_pos c24] at h
      refine am_blk 27 [(.iload_n 3, 1, 3, 0, .null)] (28, [(0, .ref 79), (1, .int x1), (2, .int x2), (3, .int (f_X14_byteOf_79 I G x1)), (4, .int (x1 + (1 : Int32)))], [.int (f_X14_byteOf_79 I G x1)], I, G, (gP 123)) (True) hX hi (by decide +kernel) rfl trivial ?_
      refine am_callS hX hi (M := mX14_isDigit) (idx := 94) (d' := 1) (As := [.int (f_X14_byteOf_79 I G x1)]) (rest := []) mkX14_isDigit msX14_isDigit (by decide +kernel) (by decide +kernel) rfl ⟨by omega, by decide, Nat.le_of_ble_eq_true rfl⟩ rfl (c_X14_isDigit I G (f_X14_byteOf_79 I G x1)) ?_
      rintro r9 I9 G9 P9 ⟨e0, e1, e2, e3⟩
      rw [e0, e1, e2, e3]
      show am_V X 0 0 _ _ ad (31, [(0, .ref 79), (1, .int x1), (2, .int x2), (3, .int (f_X14_byteOf_79 I G x1)), (4, .int (x1 + (1 : Int32)))], [.int (f_X14_isDigit I G (f_X14_byteOf_79 I G x1))], I, G, (gP 123))
      refine am_if_eq (tgt := 128) hX hi (off := (97)) (by decide +kernel) (by decide) (fun c31 => ?_) (fun c31 => ?_)
      · rw [if_pos c31] at h
        refine am_blk 128 [(.iload_n 3, 1, 3, 0, .null), (.bipush (60), 2, 0, 0, .int (60 : Int32))] (131, [(0, .ref 79), (1, .int x1), (2, .int x2), (3, .int (f_X14_byteOf_79 I G x1)), (4, .int (x1 + (1 : Int32)))], [.int (60 : Int32), .int (f_X14_byteOf_79 I G x1)], I, G, (gP 123)) (True) hX hi (by decide +kernel) rfl trivial ?_
        refine am_icmp_eq (tgt := 140) hX hi (off := (9)) (by decide +kernel) (by decide) (fun c131 => ?_) (fun c131 => ?_)
        · rw [if_pos c131] at h
          exact (l_X14_kindAt_79 hX hi FU).2.2.2.2.2.2.2.2.1 _ _ _ _ _ _ _ _ h
        · rw [if_neg c131] at h
          refine am_blk 134 [(.iload_n 3, 1, 3, 0, .null), (.bipush (62), 2, 0, 0, .int (62 : Int32))] (137, [(0, .ref 79), (1, .int x1), (2, .int x2), (3, .int (f_X14_byteOf_79 I G x1)), (4, .int (x1 + (1 : Int32)))], [.int (62 : Int32), .int (f_X14_byteOf_79 I G x1)], I, G, (gP 123)) (True) hX hi (by decide +kernel) rfl trivial ?_
          refine am_icmp_ne (tgt := 155) hX hi (off := (18)) (by decide +kernel) (by decide) (fun c137 => ?_) (fun c137 => ?_)
          · rw [if_neg c137] at h
            exact (l_X14_kindAt_79 hX hi FU).2.2.2.2.2.2.2.2.2.2.1 _ _ _ _ _ _ _ _ h
          · rw [if_pos c137] at h
            exact (l_X14_kindAt_79 hX hi FU).2.2.2.2.2.2.2.2.1 _ _ _ _ _ _ _ _ h
      · rw [if_neg c31] at h
        exact (l_X14_kindAt_79 hX hi FU).1 _ _ _ _ _ _ _ _ h
  · rw [if_pos c13] at h
    refine am_blk 16 [(.sipush (900), 3, 0, 0, .int (900 : Int32))] (19, [(0, .ref 79), (1, .int x1), (2, .int x2), (3, .int (f_X14_byteOf_79 I G x1)), (4, .int (x1 + (1 : Int32)))], [.int (900 : Int32)], I, G, (gP 123)) (True) hX hi (by decide +kernel) rfl trivial ?_
    cases h
    refine am_iret hX hi rfl rfl (by decide +kernel) ?_
    exact ⟨rfl, rfl, rfl, rfl⟩
noncomputable def L_X9_readToken_1 (n0 : Nat) (hd : Nat) (I : am_I) (G : am_G)  : Option (Int32 × am_I × am_G) := match n0 with
  | 0 => none
  | n + 1 => match hd with
    | _ => (if (I 1 5) ≤ (I 1 7) then rb (R_X9_readKind_1 I (am_up G 1 8 (0)) ) (fun r101 I101 G101 => (if (I101 1 6) < 0 then (if r101 = (41 : Int32) then some ((0 : Int32), I101, G101) else (if r101 = (42 : Int32) then some ((0 : Int32), I101, G101) else some ((1 : Int32), I101, G101))) else (if (Int32.ofNat 401) ≤ (I101 1 6) then (if r101 = (41 : Int32) then some ((0 : Int32), I101, G101) else (if r101 = (42 : Int32) then some ((0 : Int32), I101, G101) else some ((1 : Int32), I101, G101))) else (if (Int32.ofNat 401) ≤ (I101 1 6) then (if r101 = (41 : Int32) then some ((0 : Int32), I101, G101) else (if r101 = (42 : Int32) then some ((0 : Int32), I101, G101) else some ((1 : Int32), I101, G101))) else (if (Int32.ofNat 401) ≤ (I101 1 6) then (if r101 = (41 : Int32) then some ((0 : Int32), I101, G101) else (if r101 = (42 : Int32) then some ((0 : Int32), I101, G101) else some ((1 : Int32), I101, G101))) else rg (vp_in (I101 1 6) 401) (rg (vp_in (I101 1 6) 401) (rg (vp_in (I101 1 6) 401) ((if r101 = (41 : Int32) then some ((0 : Int32), (am_up (am_up (am_up I101 4 (I101 1 6).toNatClampNeg r101) 5 (I101 1 6).toNatClampNeg (I 1 7)) 1 6 ((I101 1 6) + (1 : Int32))), (am_up G101 6 (I101 1 6).toNatClampNeg (G101 1 8))) else (if r101 = (42 : Int32) then some ((0 : Int32), (am_up (am_up (am_up I101 4 (I101 1 6).toNatClampNeg r101) 5 (I101 1 6).toNatClampNeg (I 1 7)) 1 6 ((I101 1 6) + (1 : Int32))), (am_up G101 6 (I101 1 6).toNatClampNeg (G101 1 8))) else some ((1 : Int32), (am_up (am_up (am_up I101 4 (I101 1 6).toNatClampNeg r101) 5 (I101 1 6).toNatClampNeg (I 1 7)) 1 6 ((I101 1 6) + (1 : Int32))), (am_up G101 6 (I101 1 6).toNatClampNeg (G101 1 8))))))))))))) else (if (f_X9_byteHere_1 I G ) = (32 : Int32) then L_X9_readToken_1 n 0 (am_up I 1 7 ((I 1 7) + (1 : Int32))) G  else (if (f_X9_byteHere_1 I G ) = (10 : Int32) then L_X9_readToken_1 n 0 (am_up I 1 7 ((I 1 7) + (1 : Int32))) G  else rb (R_X9_readKind_1 I (am_up G 1 8 (0)) ) (fun r102 I102 G102 => (if (I102 1 6) < 0 then (if r102 = (41 : Int32) then some ((0 : Int32), I102, G102) else (if r102 = (42 : Int32) then some ((0 : Int32), I102, G102) else some ((1 : Int32), I102, G102))) else (if (Int32.ofNat 401) ≤ (I102 1 6) then (if r102 = (41 : Int32) then some ((0 : Int32), I102, G102) else (if r102 = (42 : Int32) then some ((0 : Int32), I102, G102) else some ((1 : Int32), I102, G102))) else (if (Int32.ofNat 401) ≤ (I102 1 6) then (if r102 = (41 : Int32) then some ((0 : Int32), I102, G102) else (if r102 = (42 : Int32) then some ((0 : Int32), I102, G102) else some ((1 : Int32), I102, G102))) else (if (Int32.ofNat 401) ≤ (I102 1 6) then (if r102 = (41 : Int32) then some ((0 : Int32), I102, G102) else (if r102 = (42 : Int32) then some ((0 : Int32), I102, G102) else some ((1 : Int32), I102, G102))) else rg (vp_in (I102 1 6) 401) (rg (vp_in (I102 1 6) 401) (rg (vp_in (I102 1 6) 401) ((if r102 = (41 : Int32) then some ((0 : Int32), (am_up (am_up (am_up I102 4 (I102 1 6).toNatClampNeg r102) 5 (I102 1 6).toNatClampNeg (I 1 7)) 1 6 ((I102 1 6) + (1 : Int32))), (am_up G102 6 (I102 1 6).toNatClampNeg (G102 1 8))) else (if r102 = (42 : Int32) then some ((0 : Int32), (am_up (am_up (am_up I102 4 (I102 1 6).toNatClampNeg r102) 5 (I102 1 6).toNatClampNeg (I 1 7)) 1 6 ((I102 1 6) + (1 : Int32))), (am_up G102 6 (I102 1 6).toNatClampNeg (G102 1 8))) else some ((1 : Int32), (am_up (am_up (am_up I102 4 (I102 1 6).toNatClampNeg r102) 5 (I102 1 6).toNatClampNeg (I 1 7)) 1 6 ((I102 1 6) + (1 : Int32))), (am_up G102 6 (I102 1 6).toNatClampNeg (G102 1 8))))))))))))))))
theorem L_X9_readToken_1_0 (n : Nat) (I : am_I) (G : am_G)  : L_X9_readToken_1 (n + 1) 0 I G  = (if (I 1 5) ≤ (I 1 7) then rb (R_X9_readKind_1 I (am_up G 1 8 (0)) ) (fun r101 I101 G101 => (if (I101 1 6) < 0 then (if r101 = (41 : Int32) then some ((0 : Int32), I101, G101) else (if r101 = (42 : Int32) then some ((0 : Int32), I101, G101) else some ((1 : Int32), I101, G101))) else (if (Int32.ofNat 401) ≤ (I101 1 6) then (if r101 = (41 : Int32) then some ((0 : Int32), I101, G101) else (if r101 = (42 : Int32) then some ((0 : Int32), I101, G101) else some ((1 : Int32), I101, G101))) else (if (Int32.ofNat 401) ≤ (I101 1 6) then (if r101 = (41 : Int32) then some ((0 : Int32), I101, G101) else (if r101 = (42 : Int32) then some ((0 : Int32), I101, G101) else some ((1 : Int32), I101, G101))) else (if (Int32.ofNat 401) ≤ (I101 1 6) then (if r101 = (41 : Int32) then some ((0 : Int32), I101, G101) else (if r101 = (42 : Int32) then some ((0 : Int32), I101, G101) else some ((1 : Int32), I101, G101))) else rg (vp_in (I101 1 6) 401) (rg (vp_in (I101 1 6) 401) (rg (vp_in (I101 1 6) 401) ((if r101 = (41 : Int32) then some ((0 : Int32), (am_up (am_up (am_up I101 4 (I101 1 6).toNatClampNeg r101) 5 (I101 1 6).toNatClampNeg (I 1 7)) 1 6 ((I101 1 6) + (1 : Int32))), (am_up G101 6 (I101 1 6).toNatClampNeg (G101 1 8))) else (if r101 = (42 : Int32) then some ((0 : Int32), (am_up (am_up (am_up I101 4 (I101 1 6).toNatClampNeg r101) 5 (I101 1 6).toNatClampNeg (I 1 7)) 1 6 ((I101 1 6) + (1 : Int32))), (am_up G101 6 (I101 1 6).toNatClampNeg (G101 1 8))) else some ((1 : Int32), (am_up (am_up (am_up I101 4 (I101 1 6).toNatClampNeg r101) 5 (I101 1 6).toNatClampNeg (I 1 7)) 1 6 ((I101 1 6) + (1 : Int32))), (am_up G101 6 (I101 1 6).toNatClampNeg (G101 1 8))))))))))))) else (if (f_X9_byteHere_1 I G ) = (32 : Int32) then L_X9_readToken_1 n 0 (am_up I 1 7 ((I 1 7) + (1 : Int32))) G  else (if (f_X9_byteHere_1 I G ) = (10 : Int32) then L_X9_readToken_1 n 0 (am_up I 1 7 ((I 1 7) + (1 : Int32))) G  else rb (R_X9_readKind_1 I (am_up G 1 8 (0)) ) (fun r102 I102 G102 => (if (I102 1 6) < 0 then (if r102 = (41 : Int32) then some ((0 : Int32), I102, G102) else (if r102 = (42 : Int32) then some ((0 : Int32), I102, G102) else some ((1 : Int32), I102, G102))) else (if (Int32.ofNat 401) ≤ (I102 1 6) then (if r102 = (41 : Int32) then some ((0 : Int32), I102, G102) else (if r102 = (42 : Int32) then some ((0 : Int32), I102, G102) else some ((1 : Int32), I102, G102))) else (if (Int32.ofNat 401) ≤ (I102 1 6) then (if r102 = (41 : Int32) then some ((0 : Int32), I102, G102) else (if r102 = (42 : Int32) then some ((0 : Int32), I102, G102) else some ((1 : Int32), I102, G102))) else (if (Int32.ofNat 401) ≤ (I102 1 6) then (if r102 = (41 : Int32) then some ((0 : Int32), I102, G102) else (if r102 = (42 : Int32) then some ((0 : Int32), I102, G102) else some ((1 : Int32), I102, G102))) else rg (vp_in (I102 1 6) 401) (rg (vp_in (I102 1 6) 401) (rg (vp_in (I102 1 6) 401) ((if r102 = (41 : Int32) then some ((0 : Int32), (am_up (am_up (am_up I102 4 (I102 1 6).toNatClampNeg r102) 5 (I102 1 6).toNatClampNeg (I 1 7)) 1 6 ((I102 1 6) + (1 : Int32))), (am_up G102 6 (I102 1 6).toNatClampNeg (G102 1 8))) else (if r102 = (42 : Int32) then some ((0 : Int32), (am_up (am_up (am_up I102 4 (I102 1 6).toNatClampNeg r102) 5 (I102 1 6).toNatClampNeg (I 1 7)) 1 6 ((I102 1 6) + (1 : Int32))), (am_up G102 6 (I102 1 6).toNatClampNeg (G102 1 8))) else some ((1 : Int32), (am_up (am_up (am_up I102 4 (I102 1 6).toNatClampNeg r102) 5 (I102 1 6).toNatClampNeg (I 1 7)) 1 6 ((I102 1 6) + (1 : Int32))), (am_up G102 6 (I102 1 6).toNatClampNeg (G102 1 8)))))))))))))))) := rfl
theorem L_X9_readToken_1_z (h : Nat) (I : am_I) (G : am_G)  : L_X9_readToken_1 0 h I G  = none := rfl
noncomputable def R_X9_readToken_1 (I : am_I) (G : am_G)  : Option (Int32 × am_I × am_G) := L_X9_readToken_1 FU 0 I G 
set_option maxRecDepth 20000 in
set_option maxHeartbeats 4000000 in
theorem l_X9_readToken_1 (rd : Nat) {X : am_X} {ad : Nat → Nat} (hX : am_okz X ad) (hi : am_info X 7 cX9_readToken 3 false (Option.some Jvm.ClassFile.FieldType.boolean) 7) (n : Nat) : (∀ (I : am_I) (G : am_G)  (out : Int32 × am_I × am_G), L_X9_readToken_1 n 0 I G  = some out → am_V X 0 0 (am_Rt X gS ad (pI out.1 out.2.1 out.2.2 (gP rd))) gS ad (0, [(0, .ref 1)], [], I, G, (gP rd))) := by
  induction n with
  | zero => exact fun I G  out h => by rw [L_X9_readToken_1_z] at h; cases h
  | succ n ih =>
    · intro I G  out h
      rw [L_X9_readToken_1_0] at h
      refine am_blk 0 [(.aload_n 0, 1, 0, 0, .null), (.getfield 47, 3, 7, 7, .null), (.aload_n 0, 1, 0, 0, .null), (.getfield 44, 3, 7, 5, .null)] (8, [(0, .ref 1)], [.int (I 1 5), .int (I 1 7)], I, G, (gP rd)) (True) hX hi (by decide +kernel) rfl trivial ?_
      refine am_icmp_ge (tgt := 42) hX hi (off := (34)) (by decide +kernel) (by decide) (fun c8 => ?_) (fun c8 => ?_)
      · rw [if_pos c8] at h
        refine am_blk 42 [(.aload_n 0, 1, 0, 0, .null), (.getfield 47, 3, 7, 7, .null), (.istore_n 1, 1, 1, 0, .null), (.aload_n 0, 1, 0, 0, .null), (.lconst 0, 1, 0, 0, .long (0)), (.putfield 60, 3, 7, 8, .null), (.aload_n 0, 1, 0, 0, .null)] (53, [(0, .ref 1), (1, .int (I 1 7))], [.ref 1], I, (am_up G 1 8 (0)), (gP rd)) (True) hX hi (by decide +kernel) rfl trivial ?_
        obtain ⟨r101, I101, G101, hc, h⟩ := rb_some h
        refine am_callV hX hi (M := mX9_readKind) (idx := 64) (d' := 6) (b := 1) (ci := 7) (As := []) (rest := []) mkX9_readKind miX9_readKind mvX9_readKind (by decide +kernel) (by decide +kernel) rfl (by decide +kernel) rfl ⟨by omega, by decide, Nat.le_of_ble_eq_true rfl⟩ rfl (c_X9_readKind_1 _ I (am_up G 1 8 (0))  hc) ?_
        rintro r9 I9 G9 P9 ⟨e0, e1, e2, e3⟩
        rw [e0, e1, e2, e3]
        show am_V X 0 0 _ _ ad (56, [(0, .ref 1), (1, .int (I 1 7))], [.int r101], I101, G101, (gP rd))
        refine am_blk 56 [(.istore_n 2, 1, 2, 0, .null), (.aload_n 0, 1, 0, 0, .null), (.getfield 50, 3, 7, 6, .null)] (61, [(0, .ref 1), (1, .int (I 1 7)), (2, .int r101)], [.int (I101 1 6)], I101, G101, (gP rd)) (True) hX hi (by decide +kernel) rfl trivial ?_
        refine am_if_lt (tgt := 143) hX hi (off := (82)) (by decide +kernel) (by decide) (fun c61 => ?_) (fun c61 => ?_)
        · rw [if_pos c61] at h
          refine am_blk 143 [(.iload_n 2, 1, 2, 0, .null), (.bipush (41), 2, 0, 0, .int (41 : Int32))] (146, [(0, .ref 1), (1, .int (I 1 7)), (2, .int r101)], [.int (41 : Int32), .int r101], I101, G101, (gP rd)) (True) hX hi (by decide +kernel) rfl trivial ?_
          refine am_icmp_eq (tgt := 159) hX hi (off := (13)) (by decide +kernel) (by decide) (fun c146 => ?_) (fun c146 => ?_)
          · rw [if_pos c146] at h
            refine am_blk 159 [(.iconst (0), 1, 0, 0, .int (0 : Int32))] (160, [(0, .ref 1), (1, .int (I 1 7)), (2, .int r101)], [.int (0 : Int32)], I101, G101, (gP rd)) (True) hX hi (by decide +kernel) rfl trivial ?_
            cases h
            refine am_iret hX hi rfl (by first | rfl | decide | (simp [narrow]; done)) (by decide +kernel) ?_
            exact ⟨rfl, rfl, rfl, rfl⟩
          · rw [if_neg c146] at h
            refine am_blk 149 [(.iload_n 2, 1, 2, 0, .null), (.bipush (42), 2, 0, 0, .int (42 : Int32))] (152, [(0, .ref 1), (1, .int (I 1 7)), (2, .int r101)], [.int (42 : Int32), .int r101], I101, G101, (gP rd)) (True) hX hi (by decide +kernel) rfl trivial ?_
            refine am_icmp_eq (tgt := 159) hX hi (off := (7)) (by decide +kernel) (by decide) (fun c152 => ?_) (fun c152 => ?_)
            · rw [if_pos c152] at h
              refine am_blk 159 [(.iconst (0), 1, 0, 0, .int (0 : Int32))] (160, [(0, .ref 1), (1, .int (I 1 7)), (2, .int r101)], [.int (0 : Int32)], I101, G101, (gP rd)) (True) hX hi (by decide +kernel) rfl trivial ?_
              cases h
              refine am_iret hX hi rfl (by first | rfl | decide | (simp [narrow]; done)) (by decide +kernel) ?_
              exact ⟨rfl, rfl, rfl, rfl⟩
            · rw [if_neg c152] at h
              refine am_blk 155 [(.iconst (1), 1, 0, 0, .int (1 : Int32)), (.goto (4), 3, 0, 160, .null)] (160, [(0, .ref 1), (1, .int (I 1 7)), (2, .int r101)], [.int (1 : Int32)], I101, G101, (gP rd)) (True) hX hi (by decide +kernel) rfl trivial ?_
              cases h
              refine am_iret hX hi rfl (by first | rfl | decide | (simp [narrow]; done)) (by decide +kernel) ?_
              exact ⟨rfl, rfl, rfl, rfl⟩
        · rw [if_neg c61] at h
          refine am_blk 64 [(.aload_n 0, 1, 0, 0, .null), (.getfield 50, 3, 7, 6, .null), (.aload_n 0, 1, 0, 0, .null), (.getfield 21, 3, 7, 2, .null), (.arraylength, 1, 0, 0, .null)] (73, [(0, .ref 1), (1, .int (I 1 7)), (2, .int r101)], [.int (Int32.ofNat 401), .int (I101 1 6)], I101, G101, (gP rd)) (True) hX hi (by decide +kernel) rfl trivial ?_
          refine am_icmp_ge (tgt := 143) hX hi (off := (70)) (by decide +kernel) (by decide) (fun c73 => ?_) (fun c73 => ?_)
          · rw [if_pos c73] at h
            refine am_blk 143 [(.iload_n 2, 1, 2, 0, .null), (.bipush (41), 2, 0, 0, .int (41 : Int32))] (146, [(0, .ref 1), (1, .int (I 1 7)), (2, .int r101)], [.int (41 : Int32), .int r101], I101, G101, (gP rd)) (True) hX hi (by decide +kernel) rfl trivial ?_
            refine am_icmp_eq (tgt := 159) hX hi (off := (13)) (by decide +kernel) (by decide) (fun c146 => ?_) (fun c146 => ?_)
            · rw [if_pos c146] at h
              refine am_blk 159 [(.iconst (0), 1, 0, 0, .int (0 : Int32))] (160, [(0, .ref 1), (1, .int (I 1 7)), (2, .int r101)], [.int (0 : Int32)], I101, G101, (gP rd)) (True) hX hi (by decide +kernel) rfl trivial ?_
              cases h
              refine am_iret hX hi rfl (by first | rfl | decide | (simp [narrow]; done)) (by decide +kernel) ?_
              exact ⟨rfl, rfl, rfl, rfl⟩
            · rw [if_neg c146] at h
              refine am_blk 149 [(.iload_n 2, 1, 2, 0, .null), (.bipush (42), 2, 0, 0, .int (42 : Int32))] (152, [(0, .ref 1), (1, .int (I 1 7)), (2, .int r101)], [.int (42 : Int32), .int r101], I101, G101, (gP rd)) (True) hX hi (by decide +kernel) rfl trivial ?_
              refine am_icmp_eq (tgt := 159) hX hi (off := (7)) (by decide +kernel) (by decide) (fun c152 => ?_) (fun c152 => ?_)
              · rw [if_pos c152] at h
                refine am_blk 159 [(.iconst (0), 1, 0, 0, .int (0 : Int32))] (160, [(0, .ref 1), (1, .int (I 1 7)), (2, .int r101)], [.int (0 : Int32)], I101, G101, (gP rd)) (True) hX hi (by decide +kernel) rfl trivial ?_
                cases h
                refine am_iret hX hi rfl (by first | rfl | decide | (simp [narrow]; done)) (by decide +kernel) ?_
                exact ⟨rfl, rfl, rfl, rfl⟩
              · rw [if_neg c152] at h
                refine am_blk 155 [(.iconst (1), 1, 0, 0, .int (1 : Int32)), (.goto (4), 3, 0, 160, .null)] (160, [(0, .ref 1), (1, .int (I 1 7)), (2, .int r101)], [.int (1 : Int32)], I101, G101, (gP rd)) (True) hX hi (by decide +kernel) rfl trivial ?_
                cases h
                refine am_iret hX hi rfl (by first | rfl | decide | (simp [narrow]; done)) (by decide +kernel) ?_
                exact ⟨rfl, rfl, rfl, rfl⟩
          · rw [if_neg c73] at h
            refine am_blk 76 [(.aload_n 0, 1, 0, 0, .null), (.getfield 50, 3, 7, 6, .null), (.aload_n 0, 1, 0, 0, .null), (.getfield 24, 3, 7, 3, .null), (.arraylength, 1, 0, 0, .null)] (85, [(0, .ref 1), (1, .int (I 1 7)), (2, .int r101)], [.int (Int32.ofNat 401), .int (I101 1 6)], I101, G101, (gP rd)) (True) hX hi (by decide +kernel) rfl trivial ?_
            refine am_icmp_ge (tgt := 143) hX hi (off := (58)) (by decide +kernel) (by decide) (fun c85 => ?_) (fun c85 => ?_)
            · rw [if_pos c85] at h
              refine am_blk 143 [(.iload_n 2, 1, 2, 0, .null), (.bipush (41), 2, 0, 0, .int (41 : Int32))] (146, [(0, .ref 1), (1, .int (I 1 7)), (2, .int r101)], [.int (41 : Int32), .int r101], I101, G101, (gP rd)) (True) hX hi (by decide +kernel) rfl trivial ?_
              refine am_icmp_eq (tgt := 159) hX hi (off := (13)) (by decide +kernel) (by decide) (fun c146 => ?_) (fun c146 => ?_)
              · rw [if_pos c146] at h
                refine am_blk 159 [(.iconst (0), 1, 0, 0, .int (0 : Int32))] (160, [(0, .ref 1), (1, .int (I 1 7)), (2, .int r101)], [.int (0 : Int32)], I101, G101, (gP rd)) (True) hX hi (by decide +kernel) rfl trivial ?_
                cases h
                refine am_iret hX hi rfl (by first | rfl | decide | (simp [narrow]; done)) (by decide +kernel) ?_
                exact ⟨rfl, rfl, rfl, rfl⟩
              · rw [if_neg c146] at h
                refine am_blk 149 [(.iload_n 2, 1, 2, 0, .null), (.bipush (42), 2, 0, 0, .int (42 : Int32))] (152, [(0, .ref 1), (1, .int (I 1 7)), (2, .int r101)], [.int (42 : Int32), .int r101], I101, G101, (gP rd)) (True) hX hi (by decide +kernel) rfl trivial ?_
                refine am_icmp_eq (tgt := 159) hX hi (off := (7)) (by decide +kernel) (by decide) (fun c152 => ?_) (fun c152 => ?_)
                · rw [if_pos c152] at h
                  refine am_blk 159 [(.iconst (0), 1, 0, 0, .int (0 : Int32))] (160, [(0, .ref 1), (1, .int (I 1 7)), (2, .int r101)], [.int (0 : Int32)], I101, G101, (gP rd)) (True) hX hi (by decide +kernel) rfl trivial ?_
                  cases h
                  refine am_iret hX hi rfl (by first | rfl | decide | (simp [narrow]; done)) (by decide +kernel) ?_
                  exact ⟨rfl, rfl, rfl, rfl⟩
                · rw [if_neg c152] at h
                  refine am_blk 155 [(.iconst (1), 1, 0, 0, .int (1 : Int32)), (.goto (4), 3, 0, 160, .null)] (160, [(0, .ref 1), (1, .int (I 1 7)), (2, .int r101)], [.int (1 : Int32)], I101, G101, (gP rd)) (True) hX hi (by decide +kernel) rfl trivial ?_
                  cases h
                  refine am_iret hX hi rfl (by first | rfl | decide | (simp [narrow]; done)) (by decide +kernel) ?_
                  exact ⟨rfl, rfl, rfl, rfl⟩
            · rw [if_neg c85] at h
              refine am_blk 88 [(.aload_n 0, 1, 0, 0, .null), (.getfield 50, 3, 7, 6, .null), (.aload_n 0, 1, 0, 0, .null), (.getfield 27, 3, 7, 4, .null), (.arraylength, 1, 0, 0, .null)] (97, [(0, .ref 1), (1, .int (I 1 7)), (2, .int r101)], [.int (Int32.ofNat 401), .int (I101 1 6)], I101, G101, (gP rd)) (True) hX hi (by decide +kernel) rfl trivial ?_
              refine am_icmp_ge (tgt := 143) hX hi (off := (46)) (by decide +kernel) (by decide) (fun c97 => ?_) (fun c97 => ?_)
              · rw [if_pos c97] at h
                refine am_blk 143 [(.iload_n 2, 1, 2, 0, .null), (.bipush (41), 2, 0, 0, .int (41 : Int32))] (146, [(0, .ref 1), (1, .int (I 1 7)), (2, .int r101)], [.int (41 : Int32), .int r101], I101, G101, (gP rd)) (True) hX hi (by decide +kernel) rfl trivial ?_
                refine am_icmp_eq (tgt := 159) hX hi (off := (13)) (by decide +kernel) (by decide) (fun c146 => ?_) (fun c146 => ?_)
                · rw [if_pos c146] at h
                  refine am_blk 159 [(.iconst (0), 1, 0, 0, .int (0 : Int32))] (160, [(0, .ref 1), (1, .int (I 1 7)), (2, .int r101)], [.int (0 : Int32)], I101, G101, (gP rd)) (True) hX hi (by decide +kernel) rfl trivial ?_
                  cases h
                  refine am_iret hX hi rfl (by first | rfl | decide | (simp [narrow]; done)) (by decide +kernel) ?_
                  exact ⟨rfl, rfl, rfl, rfl⟩
                · rw [if_neg c146] at h
                  refine am_blk 149 [(.iload_n 2, 1, 2, 0, .null), (.bipush (42), 2, 0, 0, .int (42 : Int32))] (152, [(0, .ref 1), (1, .int (I 1 7)), (2, .int r101)], [.int (42 : Int32), .int r101], I101, G101, (gP rd)) (True) hX hi (by decide +kernel) rfl trivial ?_
                  refine am_icmp_eq (tgt := 159) hX hi (off := (7)) (by decide +kernel) (by decide) (fun c152 => ?_) (fun c152 => ?_)
                  · rw [if_pos c152] at h
                    refine am_blk 159 [(.iconst (0), 1, 0, 0, .int (0 : Int32))] (160, [(0, .ref 1), (1, .int (I 1 7)), (2, .int r101)], [.int (0 : Int32)], I101, G101, (gP rd)) (True) hX hi (by decide +kernel) rfl trivial ?_
                    cases h
                    refine am_iret hX hi rfl (by first | rfl | decide | (simp [narrow]; done)) (by decide +kernel) ?_
                    exact ⟨rfl, rfl, rfl, rfl⟩
                  · rw [if_neg c152] at h
                    refine am_blk 155 [(.iconst (1), 1, 0, 0, .int (1 : Int32)), (.goto (4), 3, 0, 160, .null)] (160, [(0, .ref 1), (1, .int (I 1 7)), (2, .int r101)], [.int (1 : Int32)], I101, G101, (gP rd)) (True) hX hi (by decide +kernel) rfl trivial ?_
                    cases h
                    refine am_iret hX hi rfl (by first | rfl | decide | (simp [narrow]; done)) (by decide +kernel) ?_
                    exact ⟨rfl, rfl, rfl, rfl⟩
              · rw [if_neg c97] at h
                obtain ⟨g0, h⟩ := rg_some h
                obtain ⟨g1, h⟩ := rg_some h
                obtain ⟨g2, h⟩ := rg_some h
                refine am_blk 100 [(.aload_n 0, 1, 0, 0, .null), (.getfield 21, 3, 7, 2, .null), (.aload_n 0, 1, 0, 0, .null), (.getfield 50, 3, 7, 6, .null), (.iload_n 2, 1, 2, 0, .null), (.iastore, 1, 0, 0, .null), (.aload_n 0, 1, 0, 0, .null), (.getfield 24, 3, 7, 3, .null), (.aload_n 0, 1, 0, 0, .null), (.getfield 50, 3, 7, 6, .null), (.iload_n 1, 1, 1, 0, .null), (.iastore, 1, 0, 0, .null), (.aload_n 0, 1, 0, 0, .null), (.getfield 27, 3, 7, 4, .null), (.aload_n 0, 1, 0, 0, .null), (.getfield 50, 3, 7, 6, .null), (.aload_n 0, 1, 0, 0, .null), (.getfield 60, 3, 7, 8, .null), (.lastore, 1, 0, 0, .null), (.aload_n 0, 1, 0, 0, .null), (.dup, 1, 0, 0, .null), (.getfield 50, 3, 7, 6, .null), (.iconst (1), 1, 0, 0, .int (1 : Int32)), (.iadd, 1, 0, 0, .null), (.putfield 50, 3, 7, 6, .null), (.iload_n 2, 1, 2, 0, .null), (.bipush (41), 2, 0, 0, .int (41 : Int32))] (146, [(0, .ref 1), (1, .int (I 1 7)), (2, .int r101)], [.int (41 : Int32), .int r101], (am_up (am_up (am_up I101 4 (I101 1 6).toNatClampNeg r101) 5 (I101 1 6).toNatClampNeg (I 1 7)) 1 6 ((I101 1 6) + (1 : Int32))), (am_up G101 6 (I101 1 6).toNatClampNeg (G101 1 8)), (gP rd)) (vp_in (I101 1 6) 401 ∧ vp_in (I101 1 6) 401 ∧ vp_in (I101 1 6) 401 ∧ True) hX hi (by decide +kernel) rfl ⟨g0, g1, g2, trivial⟩ ?_
                refine am_icmp_eq (tgt := 159) hX hi (off := (13)) (by decide +kernel) (by decide) (fun c146 => ?_) (fun c146 => ?_)
                · rw [if_pos c146] at h
                  refine am_blk 159 [(.iconst (0), 1, 0, 0, .int (0 : Int32))] (160, [(0, .ref 1), (1, .int (I 1 7)), (2, .int r101)], [.int (0 : Int32)], (am_up (am_up (am_up I101 4 (I101 1 6).toNatClampNeg r101) 5 (I101 1 6).toNatClampNeg (I 1 7)) 1 6 ((I101 1 6) + (1 : Int32))), (am_up G101 6 (I101 1 6).toNatClampNeg (G101 1 8)), (gP rd)) (True) hX hi (by decide +kernel) rfl trivial ?_
                  cases h
                  refine am_iret hX hi rfl (by first | rfl | decide | (simp [narrow]; done)) (by decide +kernel) ?_
                  exact ⟨rfl, rfl, rfl, rfl⟩
                · rw [if_neg c146] at h
                  refine am_blk 149 [(.iload_n 2, 1, 2, 0, .null), (.bipush (42), 2, 0, 0, .int (42 : Int32))] (152, [(0, .ref 1), (1, .int (I 1 7)), (2, .int r101)], [.int (42 : Int32), .int r101], (am_up (am_up (am_up I101 4 (I101 1 6).toNatClampNeg r101) 5 (I101 1 6).toNatClampNeg (I 1 7)) 1 6 ((I101 1 6) + (1 : Int32))), (am_up G101 6 (I101 1 6).toNatClampNeg (G101 1 8)), (gP rd)) (True) hX hi (by decide +kernel) rfl trivial ?_
                  refine am_icmp_eq (tgt := 159) hX hi (off := (7)) (by decide +kernel) (by decide) (fun c152 => ?_) (fun c152 => ?_)
                  · rw [if_pos c152] at h
                    refine am_blk 159 [(.iconst (0), 1, 0, 0, .int (0 : Int32))] (160, [(0, .ref 1), (1, .int (I 1 7)), (2, .int r101)], [.int (0 : Int32)], (am_up (am_up (am_up I101 4 (I101 1 6).toNatClampNeg r101) 5 (I101 1 6).toNatClampNeg (I 1 7)) 1 6 ((I101 1 6) + (1 : Int32))), (am_up G101 6 (I101 1 6).toNatClampNeg (G101 1 8)), (gP rd)) (True) hX hi (by decide +kernel) rfl trivial ?_
                    cases h
                    refine am_iret hX hi rfl (by first | rfl | decide | (simp [narrow]; done)) (by decide +kernel) ?_
                    exact ⟨rfl, rfl, rfl, rfl⟩
                  · rw [if_neg c152] at h
                    refine am_blk 155 [(.iconst (1), 1, 0, 0, .int (1 : Int32)), (.goto (4), 3, 0, 160, .null)] (160, [(0, .ref 1), (1, .int (I 1 7)), (2, .int r101)], [.int (1 : Int32)], (am_up (am_up (am_up I101 4 (I101 1 6).toNatClampNeg r101) 5 (I101 1 6).toNatClampNeg (I 1 7)) 1 6 ((I101 1 6) + (1 : Int32))), (am_up G101 6 (I101 1 6).toNatClampNeg (G101 1 8)), (gP rd)) (True) hX hi (by decide +kernel) rfl trivial ?_
                    cases h
                    refine am_iret hX hi rfl (by first | rfl | decide | (simp [narrow]; done)) (by decide +kernel) ?_
                    exact ⟨rfl, rfl, rfl, rfl⟩
      · rw [if_neg c8] at h
        refine am_blk 11 [(.aload_n 0, 1, 0, 0, .null)] (12, [(0, .ref 1)], [.ref 1], I, G, (gP rd)) (True) hX hi (by decide +kernel) rfl trivial ?_
        refine am_callV hX hi (M := mX9_byteHere) (idx := 57) (d' := 1) (b := 1) (ci := 7) (As := []) (rest := []) mkX9_byteHere miX9_byteHere mvX9_byteHere (by decide +kernel) (by decide +kernel) rfl (by decide +kernel) rfl ⟨by omega, by decide, Nat.le_of_ble_eq_true rfl⟩ rfl (c_X9_byteHere_1 _ I G ) ?_
        rintro r9 I9 G9 P9 ⟨e0, e1, e2, e3⟩
        rw [e0, e1, e2, e3]
        show am_V X 0 0 _ _ ad (15, [(0, .ref 1)], [.int (f_X9_byteHere_1 I G )], I, G, (gP rd))
        refine am_blk 15 [(.bipush (32), 2, 0, 0, .int (32 : Int32))] (17, [(0, .ref 1)], [.int (32 : Int32), .int (f_X9_byteHere_1 I G )], I, G, (gP rd)) (True) hX hi (by decide +kernel) rfl trivial ?_
        refine am_icmp_eq (tgt := 29) hX hi (off := (12)) (by decide +kernel) (by decide) (fun c17 => ?_) (fun c17 => ?_)
        · rw [if_pos c17] at h
          refine am_blk 29 [(.aload_n 0, 1, 0, 0, .null), (.dup, 1, 0, 0, .null), (.getfield 47, 3, 7, 7, .null), (.iconst (1), 1, 0, 0, .int (1 : Int32)), (.iadd, 1, 0, 0, .null), (.putfield 47, 3, 7, 7, .null), (.goto (-39), 3, 0, 0, .null)] (0, [(0, .ref 1)], [], (am_up I 1 7 ((I 1 7) + (1 : Int32))), G, (gP rd)) (True) hX hi (by decide +kernel) rfl trivial ?_
          exact ih _ _  _ h
        · rw [if_neg c17] at h
          refine am_blk 20 [(.aload_n 0, 1, 0, 0, .null)] (21, [(0, .ref 1)], [.ref 1], I, G, (gP rd)) (True) hX hi (by decide +kernel) rfl trivial ?_
          refine am_callV hX hi (M := mX9_byteHere) (idx := 57) (d' := 1) (b := 1) (ci := 7) (As := []) (rest := []) mkX9_byteHere miX9_byteHere mvX9_byteHere (by decide +kernel) (by decide +kernel) rfl (by decide +kernel) rfl ⟨by omega, by decide, Nat.le_of_ble_eq_true rfl⟩ rfl (c_X9_byteHere_1 _ I G ) ?_
          rintro r9 I9 G9 P9 ⟨e0, e1, e2, e3⟩
          rw [e0, e1, e2, e3]
          show am_V X 0 0 _ _ ad (24, [(0, .ref 1)], [.int (f_X9_byteHere_1 I G )], I, G, (gP rd))
          refine am_blk 24 [(.bipush (10), 2, 0, 0, .int (10 : Int32))] (26, [(0, .ref 1)], [.int (10 : Int32), .int (f_X9_byteHere_1 I G )], I, G, (gP rd)) (True) hX hi (by decide +kernel) rfl trivial ?_
          refine am_icmp_ne (tgt := 42) hX hi (off := (16)) (by decide +kernel) (by decide) (fun c26 => ?_) (fun c26 => ?_)
          · rw [if_neg c26] at h
            refine am_blk 42 [(.aload_n 0, 1, 0, 0, .null), (.getfield 47, 3, 7, 7, .null), (.istore_n 1, 1, 1, 0, .null), (.aload_n 0, 1, 0, 0, .null), (.lconst 0, 1, 0, 0, .long (0)), (.putfield 60, 3, 7, 8, .null), (.aload_n 0, 1, 0, 0, .null)] (53, [(0, .ref 1), (1, .int (I 1 7))], [.ref 1], I, (am_up G 1 8 (0)), (gP rd)) (True) hX hi (by decide +kernel) rfl trivial ?_
            obtain ⟨r102, I102, G102, hc, h⟩ := rb_some h
            refine am_callV hX hi (M := mX9_readKind) (idx := 64) (d' := 6) (b := 1) (ci := 7) (As := []) (rest := []) mkX9_readKind miX9_readKind mvX9_readKind (by decide +kernel) (by decide +kernel) rfl (by decide +kernel) rfl ⟨by omega, by decide, Nat.le_of_ble_eq_true rfl⟩ rfl (c_X9_readKind_1 _ I (am_up G 1 8 (0))  hc) ?_
            rintro r9 I9 G9 P9 ⟨e0, e1, e2, e3⟩
            rw [e0, e1, e2, e3]
            show am_V X 0 0 _ _ ad (56, [(0, .ref 1), (1, .int (I 1 7))], [.int r102], I102, G102, (gP rd))
            refine am_blk 56 [(.istore_n 2, 1, 2, 0, .null), (.aload_n 0, 1, 0, 0, .null), (.getfield 50, 3, 7, 6, .null)] (61, [(0, .ref 1), (1, .int (I 1 7)), (2, .int r102)], [.int (I102 1 6)], I102, G102, (gP rd)) (True) hX hi (by decide +kernel) rfl trivial ?_
            refine am_if_lt (tgt := 143) hX hi (off := (82)) (by decide +kernel) (by decide) (fun c61 => ?_) (fun c61 => ?_)
            · rw [if_pos c61] at h
              refine am_blk 143 [(.iload_n 2, 1, 2, 0, .null), (.bipush (41), 2, 0, 0, .int (41 : Int32))] (146, [(0, .ref 1), (1, .int (I 1 7)), (2, .int r102)], [.int (41 : Int32), .int r102], I102, G102, (gP rd)) (True) hX hi (by decide +kernel) rfl trivial ?_
              refine am_icmp_eq (tgt := 159) hX hi (off := (13)) (by decide +kernel) (by decide) (fun c146 => ?_) (fun c146 => ?_)
              · rw [if_pos c146] at h
                refine am_blk 159 [(.iconst (0), 1, 0, 0, .int (0 : Int32))] (160, [(0, .ref 1), (1, .int (I 1 7)), (2, .int r102)], [.int (0 : Int32)], I102, G102, (gP rd)) (True) hX hi (by decide +kernel) rfl trivial ?_
                cases h
                refine am_iret hX hi rfl (by first | rfl | decide | (simp [narrow]; done)) (by decide +kernel) ?_
                exact ⟨rfl, rfl, rfl, rfl⟩
              · rw [if_neg c146] at h
                refine am_blk 149 [(.iload_n 2, 1, 2, 0, .null), (.bipush (42), 2, 0, 0, .int (42 : Int32))] (152, [(0, .ref 1), (1, .int (I 1 7)), (2, .int r102)], [.int (42 : Int32), .int r102], I102, G102, (gP rd)) (True) hX hi (by decide +kernel) rfl trivial ?_
                refine am_icmp_eq (tgt := 159) hX hi (off := (7)) (by decide +kernel) (by decide) (fun c152 => ?_) (fun c152 => ?_)
                · rw [if_pos c152] at h
                  refine am_blk 159 [(.iconst (0), 1, 0, 0, .int (0 : Int32))] (160, [(0, .ref 1), (1, .int (I 1 7)), (2, .int r102)], [.int (0 : Int32)], I102, G102, (gP rd)) (True) hX hi (by decide +kernel) rfl trivial ?_
                  cases h
                  refine am_iret hX hi rfl (by first | rfl | decide | (simp [narrow]; done)) (by decide +kernel) ?_
                  exact ⟨rfl, rfl, rfl, rfl⟩
                · rw [if_neg c152] at h
                  refine am_blk 155 [(.iconst (1), 1, 0, 0, .int (1 : Int32)), (.goto (4), 3, 0, 160, .null)] (160, [(0, .ref 1), (1, .int (I 1 7)), (2, .int r102)], [.int (1 : Int32)], I102, G102, (gP rd)) (True) hX hi (by decide +kernel) rfl trivial ?_
                  cases h
                  refine am_iret hX hi rfl (by first | rfl | decide | (simp [narrow]; done)) (by decide +kernel) ?_
                  exact ⟨rfl, rfl, rfl, rfl⟩
            · rw [if_neg c61] at h
              refine am_blk 64 [(.aload_n 0, 1, 0, 0, .null), (.getfield 50, 3, 7, 6, .null), (.aload_n 0, 1, 0, 0, .null), (.getfield 21, 3, 7, 2, .null), (.arraylength, 1, 0, 0, .null)] (73, [(0, .ref 1), (1, .int (I 1 7)), (2, .int r102)], [.int (Int32.ofNat 401), .int (I102 1 6)], I102, G102, (gP rd)) (True) hX hi (by decide +kernel) rfl trivial ?_
              refine am_icmp_ge (tgt := 143) hX hi (off := (70)) (by decide +kernel) (by decide) (fun c73 => ?_) (fun c73 => ?_)
              · rw [if_pos c73] at h
                refine am_blk 143 [(.iload_n 2, 1, 2, 0, .null), (.bipush (41), 2, 0, 0, .int (41 : Int32))] (146, [(0, .ref 1), (1, .int (I 1 7)), (2, .int r102)], [.int (41 : Int32), .int r102], I102, G102, (gP rd)) (True) hX hi (by decide +kernel) rfl trivial ?_
                refine am_icmp_eq (tgt := 159) hX hi (off := (13)) (by decide +kernel) (by decide) (fun c146 => ?_) (fun c146 => ?_)
                · rw [if_pos c146] at h
                  refine am_blk 159 [(.iconst (0), 1, 0, 0, .int (0 : Int32))] (160, [(0, .ref 1), (1, .int (I 1 7)), (2, .int r102)], [.int (0 : Int32)], I102, G102, (gP rd)) (True) hX hi (by decide +kernel) rfl trivial ?_
                  cases h
                  refine am_iret hX hi rfl (by first | rfl | decide | (simp [narrow]; done)) (by decide +kernel) ?_
                  exact ⟨rfl, rfl, rfl, rfl⟩
                · rw [if_neg c146] at h
                  refine am_blk 149 [(.iload_n 2, 1, 2, 0, .null), (.bipush (42), 2, 0, 0, .int (42 : Int32))] (152, [(0, .ref 1), (1, .int (I 1 7)), (2, .int r102)], [.int (42 : Int32), .int r102], I102, G102, (gP rd)) (True) hX hi (by decide +kernel) rfl trivial ?_
                  refine am_icmp_eq (tgt := 159) hX hi (off := (7)) (by decide +kernel) (by decide) (fun c152 => ?_) (fun c152 => ?_)
                  · rw [if_pos c152] at h
                    refine am_blk 159 [(.iconst (0), 1, 0, 0, .int (0 : Int32))] (160, [(0, .ref 1), (1, .int (I 1 7)), (2, .int r102)], [.int (0 : Int32)], I102, G102, (gP rd)) (True) hX hi (by decide +kernel) rfl trivial ?_
                    cases h
                    refine am_iret hX hi rfl (by first | rfl | decide | (simp [narrow]; done)) (by decide +kernel) ?_
                    exact ⟨rfl, rfl, rfl, rfl⟩
                  · rw [if_neg c152] at h
                    refine am_blk 155 [(.iconst (1), 1, 0, 0, .int (1 : Int32)), (.goto (4), 3, 0, 160, .null)] (160, [(0, .ref 1), (1, .int (I 1 7)), (2, .int r102)], [.int (1 : Int32)], I102, G102, (gP rd)) (True) hX hi (by decide +kernel) rfl trivial ?_
                    cases h
                    refine am_iret hX hi rfl (by first | rfl | decide | (simp [narrow]; done)) (by decide +kernel) ?_
                    exact ⟨rfl, rfl, rfl, rfl⟩
              · rw [if_neg c73] at h
                refine am_blk 76 [(.aload_n 0, 1, 0, 0, .null), (.getfield 50, 3, 7, 6, .null), (.aload_n 0, 1, 0, 0, .null), (.getfield 24, 3, 7, 3, .null), (.arraylength, 1, 0, 0, .null)] (85, [(0, .ref 1), (1, .int (I 1 7)), (2, .int r102)], [.int (Int32.ofNat 401), .int (I102 1 6)], I102, G102, (gP rd)) (True) hX hi (by decide +kernel) rfl trivial ?_
                refine am_icmp_ge (tgt := 143) hX hi (off := (58)) (by decide +kernel) (by decide) (fun c85 => ?_) (fun c85 => ?_)
                · rw [if_pos c85] at h
                  refine am_blk 143 [(.iload_n 2, 1, 2, 0, .null), (.bipush (41), 2, 0, 0, .int (41 : Int32))] (146, [(0, .ref 1), (1, .int (I 1 7)), (2, .int r102)], [.int (41 : Int32), .int r102], I102, G102, (gP rd)) (True) hX hi (by decide +kernel) rfl trivial ?_
                  refine am_icmp_eq (tgt := 159) hX hi (off := (13)) (by decide +kernel) (by decide) (fun c146 => ?_) (fun c146 => ?_)
                  · rw [if_pos c146] at h
                    refine am_blk 159 [(.iconst (0), 1, 0, 0, .int (0 : Int32))] (160, [(0, .ref 1), (1, .int (I 1 7)), (2, .int r102)], [.int (0 : Int32)], I102, G102, (gP rd)) (True) hX hi (by decide +kernel) rfl trivial ?_
                    cases h
                    refine am_iret hX hi rfl (by first | rfl | decide | (simp [narrow]; done)) (by decide +kernel) ?_
                    exact ⟨rfl, rfl, rfl, rfl⟩
                  · rw [if_neg c146] at h
                    refine am_blk 149 [(.iload_n 2, 1, 2, 0, .null), (.bipush (42), 2, 0, 0, .int (42 : Int32))] (152, [(0, .ref 1), (1, .int (I 1 7)), (2, .int r102)], [.int (42 : Int32), .int r102], I102, G102, (gP rd)) (True) hX hi (by decide +kernel) rfl trivial ?_
                    refine am_icmp_eq (tgt := 159) hX hi (off := (7)) (by decide +kernel) (by decide) (fun c152 => ?_) (fun c152 => ?_)
                    · rw [if_pos c152] at h
                      refine am_blk 159 [(.iconst (0), 1, 0, 0, .int (0 : Int32))] (160, [(0, .ref 1), (1, .int (I 1 7)), (2, .int r102)], [.int (0 : Int32)], I102, G102, (gP rd)) (True) hX hi (by decide +kernel) rfl trivial ?_
                      cases h
                      refine am_iret hX hi rfl (by first | rfl | decide | (simp [narrow]; done)) (by decide +kernel) ?_
                      exact ⟨rfl, rfl, rfl, rfl⟩
                    · rw [if_neg c152] at h
                      refine am_blk 155 [(.iconst (1), 1, 0, 0, .int (1 : Int32)), (.goto (4), 3, 0, 160, .null)] (160, [(0, .ref 1), (1, .int (I 1 7)), (2, .int r102)], [.int (1 : Int32)], I102, G102, (gP rd)) (True) hX hi (by decide +kernel) rfl trivial ?_
                      cases h
                      refine am_iret hX hi rfl (by first | rfl | decide | (simp [narrow]; done)) (by decide +kernel) ?_
                      exact ⟨rfl, rfl, rfl, rfl⟩
                · rw [if_neg c85] at h
                  refine am_blk 88 [(.aload_n 0, 1, 0, 0, .null), (.getfield 50, 3, 7, 6, .null), (.aload_n 0, 1, 0, 0, .null), (.getfield 27, 3, 7, 4, .null), (.arraylength, 1, 0, 0, .null)] (97, [(0, .ref 1), (1, .int (I 1 7)), (2, .int r102)], [.int (Int32.ofNat 401), .int (I102 1 6)], I102, G102, (gP rd)) (True) hX hi (by decide +kernel) rfl trivial ?_
                  refine am_icmp_ge (tgt := 143) hX hi (off := (46)) (by decide +kernel) (by decide) (fun c97 => ?_) (fun c97 => ?_)
                  · rw [if_pos c97] at h
                    refine am_blk 143 [(.iload_n 2, 1, 2, 0, .null), (.bipush (41), 2, 0, 0, .int (41 : Int32))] (146, [(0, .ref 1), (1, .int (I 1 7)), (2, .int r102)], [.int (41 : Int32), .int r102], I102, G102, (gP rd)) (True) hX hi (by decide +kernel) rfl trivial ?_
                    refine am_icmp_eq (tgt := 159) hX hi (off := (13)) (by decide +kernel) (by decide) (fun c146 => ?_) (fun c146 => ?_)
                    · rw [if_pos c146] at h
                      refine am_blk 159 [(.iconst (0), 1, 0, 0, .int (0 : Int32))] (160, [(0, .ref 1), (1, .int (I 1 7)), (2, .int r102)], [.int (0 : Int32)], I102, G102, (gP rd)) (True) hX hi (by decide +kernel) rfl trivial ?_
                      cases h
                      refine am_iret hX hi rfl (by first | rfl | decide | (simp [narrow]; done)) (by decide +kernel) ?_
                      exact ⟨rfl, rfl, rfl, rfl⟩
                    · rw [if_neg c146] at h
                      refine am_blk 149 [(.iload_n 2, 1, 2, 0, .null), (.bipush (42), 2, 0, 0, .int (42 : Int32))] (152, [(0, .ref 1), (1, .int (I 1 7)), (2, .int r102)], [.int (42 : Int32), .int r102], I102, G102, (gP rd)) (True) hX hi (by decide +kernel) rfl trivial ?_
                      refine am_icmp_eq (tgt := 159) hX hi (off := (7)) (by decide +kernel) (by decide) (fun c152 => ?_) (fun c152 => ?_)
                      · rw [if_pos c152] at h
                        refine am_blk 159 [(.iconst (0), 1, 0, 0, .int (0 : Int32))] (160, [(0, .ref 1), (1, .int (I 1 7)), (2, .int r102)], [.int (0 : Int32)], I102, G102, (gP rd)) (True) hX hi (by decide +kernel) rfl trivial ?_
                        cases h
                        refine am_iret hX hi rfl (by first | rfl | decide | (simp [narrow]; done)) (by decide +kernel) ?_
                        exact ⟨rfl, rfl, rfl, rfl⟩
                      · rw [if_neg c152] at h
                        refine am_blk 155 [(.iconst (1), 1, 0, 0, .int (1 : Int32)), (.goto (4), 3, 0, 160, .null)] (160, [(0, .ref 1), (1, .int (I 1 7)), (2, .int r102)], [.int (1 : Int32)], I102, G102, (gP rd)) (True) hX hi (by decide +kernel) rfl trivial ?_
                        cases h
                        refine am_iret hX hi rfl (by first | rfl | decide | (simp [narrow]; done)) (by decide +kernel) ?_
                        exact ⟨rfl, rfl, rfl, rfl⟩
                  · rw [if_neg c97] at h
                    obtain ⟨g0, h⟩ := rg_some h
                    obtain ⟨g1, h⟩ := rg_some h
                    obtain ⟨g2, h⟩ := rg_some h
                    refine am_blk 100 [(.aload_n 0, 1, 0, 0, .null), (.getfield 21, 3, 7, 2, .null), (.aload_n 0, 1, 0, 0, .null), (.getfield 50, 3, 7, 6, .null), (.iload_n 2, 1, 2, 0, .null), (.iastore, 1, 0, 0, .null), (.aload_n 0, 1, 0, 0, .null), (.getfield 24, 3, 7, 3, .null), (.aload_n 0, 1, 0, 0, .null), (.getfield 50, 3, 7, 6, .null), (.iload_n 1, 1, 1, 0, .null), (.iastore, 1, 0, 0, .null), (.aload_n 0, 1, 0, 0, .null), (.getfield 27, 3, 7, 4, .null), (.aload_n 0, 1, 0, 0, .null), (.getfield 50, 3, 7, 6, .null), (.aload_n 0, 1, 0, 0, .null), (.getfield 60, 3, 7, 8, .null), (.lastore, 1, 0, 0, .null), (.aload_n 0, 1, 0, 0, .null), (.dup, 1, 0, 0, .null), (.getfield 50, 3, 7, 6, .null), (.iconst (1), 1, 0, 0, .int (1 : Int32)), (.iadd, 1, 0, 0, .null), (.putfield 50, 3, 7, 6, .null), (.iload_n 2, 1, 2, 0, .null), (.bipush (41), 2, 0, 0, .int (41 : Int32))] (146, [(0, .ref 1), (1, .int (I 1 7)), (2, .int r102)], [.int (41 : Int32), .int r102], (am_up (am_up (am_up I102 4 (I102 1 6).toNatClampNeg r102) 5 (I102 1 6).toNatClampNeg (I 1 7)) 1 6 ((I102 1 6) + (1 : Int32))), (am_up G102 6 (I102 1 6).toNatClampNeg (G102 1 8)), (gP rd)) (vp_in (I102 1 6) 401 ∧ vp_in (I102 1 6) 401 ∧ vp_in (I102 1 6) 401 ∧ True) hX hi (by decide +kernel) rfl ⟨g0, g1, g2, trivial⟩ ?_
                    refine am_icmp_eq (tgt := 159) hX hi (off := (13)) (by decide +kernel) (by decide) (fun c146 => ?_) (fun c146 => ?_)
                    · rw [if_pos c146] at h
                      refine am_blk 159 [(.iconst (0), 1, 0, 0, .int (0 : Int32))] (160, [(0, .ref 1), (1, .int (I 1 7)), (2, .int r102)], [.int (0 : Int32)], (am_up (am_up (am_up I102 4 (I102 1 6).toNatClampNeg r102) 5 (I102 1 6).toNatClampNeg (I 1 7)) 1 6 ((I102 1 6) + (1 : Int32))), (am_up G102 6 (I102 1 6).toNatClampNeg (G102 1 8)), (gP rd)) (True) hX hi (by decide +kernel) rfl trivial ?_
                      cases h
                      refine am_iret hX hi rfl (by first | rfl | decide | (simp [narrow]; done)) (by decide +kernel) ?_
                      exact ⟨rfl, rfl, rfl, rfl⟩
                    · rw [if_neg c146] at h
                      refine am_blk 149 [(.iload_n 2, 1, 2, 0, .null), (.bipush (42), 2, 0, 0, .int (42 : Int32))] (152, [(0, .ref 1), (1, .int (I 1 7)), (2, .int r102)], [.int (42 : Int32), .int r102], (am_up (am_up (am_up I102 4 (I102 1 6).toNatClampNeg r102) 5 (I102 1 6).toNatClampNeg (I 1 7)) 1 6 ((I102 1 6) + (1 : Int32))), (am_up G102 6 (I102 1 6).toNatClampNeg (G102 1 8)), (gP rd)) (True) hX hi (by decide +kernel) rfl trivial ?_
                      refine am_icmp_eq (tgt := 159) hX hi (off := (7)) (by decide +kernel) (by decide) (fun c152 => ?_) (fun c152 => ?_)
                      · rw [if_pos c152] at h
                        refine am_blk 159 [(.iconst (0), 1, 0, 0, .int (0 : Int32))] (160, [(0, .ref 1), (1, .int (I 1 7)), (2, .int r102)], [.int (0 : Int32)], (am_up (am_up (am_up I102 4 (I102 1 6).toNatClampNeg r102) 5 (I102 1 6).toNatClampNeg (I 1 7)) 1 6 ((I102 1 6) + (1 : Int32))), (am_up G102 6 (I102 1 6).toNatClampNeg (G102 1 8)), (gP rd)) (True) hX hi (by decide +kernel) rfl trivial ?_
                        cases h
                        refine am_iret hX hi rfl (by first | rfl | decide | (simp [narrow]; done)) (by decide +kernel) ?_
                        exact ⟨rfl, rfl, rfl, rfl⟩
                      · rw [if_neg c152] at h
                        refine am_blk 155 [(.iconst (1), 1, 0, 0, .int (1 : Int32)), (.goto (4), 3, 0, 160, .null)] (160, [(0, .ref 1), (1, .int (I 1 7)), (2, .int r102)], [.int (1 : Int32)], (am_up (am_up (am_up I102 4 (I102 1 6).toNatClampNeg r102) 5 (I102 1 6).toNatClampNeg (I 1 7)) 1 6 ((I102 1 6) + (1 : Int32))), (am_up G102 6 (I102 1 6).toNatClampNeg (G102 1 8)), (gP rd)) (True) hX hi (by decide +kernel) rfl trivial ?_
                        cases h
                        refine am_iret hX hi rfl (by first | rfl | decide | (simp [narrow]; done)) (by decide +kernel) ?_
                        exact ⟨rfl, rfl, rfl, rfl⟩
          · rw [if_pos c26] at h
            refine am_blk 29 [(.aload_n 0, 1, 0, 0, .null), (.dup, 1, 0, 0, .null), (.getfield 47, 3, 7, 7, .null), (.iconst (1), 1, 0, 0, .int (1 : Int32)), (.iadd, 1, 0, 0, .null), (.putfield 47, 3, 7, 7, .null), (.goto (-39), 3, 0, 0, .null)] (0, [(0, .ref 1)], [], (am_up I 1 7 ((I 1 7) + (1 : Int32))), G, (gP rd)) (True) hX hi (by decide +kernel) rfl trivial ?_
            exact ih _ _  _ h
set_option maxRecDepth 20000 in
set_option maxHeartbeats 4000000 in
theorem c_X9_readToken_1 (rd : Nat) (I : am_I) (G : am_G)  {out : Int32 × am_I × am_G} (h : R_X9_readToken_1 I G  = some out) : am_Ct mX9_readToken 7 gS [.ref 1] I G (gP rd) (pI out.1 out.2.1 out.2.2 (gP rd)) := by
  refine am_ofF (by decide +kernel) rfl (by decide) (by omega) (Nat.le_of_ble_eq_true rfl) (fun X ad hX hi => ?_)
  have hi : am_info X 7 cX9_readToken 3 false (Option.some Jvm.ClassFile.FieldType.boolean) 7 := hi
  show am_V X 0 0 _ _ ad (0, [(0, .ref 1)], [], I, G, (gP rd))
  unfold R_X9_readToken_1 at h
  exact (l_X9_readToken_1 rd hX hi FU) _ _  _ h
noncomputable def L_X14_cut_79 (n0 : Nat) (hd : Nat) (I : am_I) (G : am_G) (v1 : Int32) (v2 : Int32) : Option (Unit × am_I × am_G) := match n0 with
  | 0 => none
  | n + 1 => match hd with
    | 0 => (if (400 : Int32) < v2 then some ((), I, G) else L_X14_cut_79 n 1 I G v1 v2)
    | _ => rg (q_X14_byteOf_79 I G v1) ((if (f_X14_byteOf_79 I G v1) = (32 : Int32) then L_X14_cut_79 n 1 I G (v1 + (1 : Int32)) v2 else rg (q_X14_byteOf_79 I G v1) ((if (f_X14_byteOf_79 I G v1) = (10 : Int32) then L_X14_cut_79 n 1 I G (v1 + (1 : Int32)) v2 else rg (vp_in v2 401) (rg (vp_in v2 401) (rg (vp_in v2 401) (rb (R_X14_kindAt_79 (am_up (am_up (am_up I 82 v2.toNatClampNeg v1) 84 v2.toNatClampNeg (0 : Int32)) 85 v2.toNatClampNeg (0 : Int32)) G v1 v2) (fun r201 I201 G201 => rg (vp_in v2 401) ((if v2 = (400 : Int32) then rg (vp_in v2 401) ((if ((am_up I201 81 v2.toNatClampNeg r201) 81 v2.toNatClampNeg) = (900 : Int32) then rg (vp_in v2 401) ((if ((am_up I201 81 v2.toNatClampNeg r201) 81 v2.toNatClampNeg) < (900 : Int32) then rg (vp_in v2 401) (L_X14_cut_79 n 0 (am_up I201 81 v2.toNatClampNeg r201) G201 (v1 + (I201 83 v2.toNatClampNeg)) (v2 + (1 : Int32))) else some ((), (am_up I201 81 v2.toNatClampNeg r201), G201))) else rg (vp_in v2 401) (rg (vp_in v2 401) ((if ((am_up (am_up I201 81 v2.toNatClampNeg r201) 81 v2.toNatClampNeg (901 : Int32)) 81 v2.toNatClampNeg) < (900 : Int32) then rg (vp_in v2 401) (L_X14_cut_79 n 0 (am_up (am_up I201 81 v2.toNatClampNeg r201) 81 v2.toNatClampNeg (901 : Int32)) G201 (v1 + (I201 83 v2.toNatClampNeg)) (v2 + (1 : Int32))) else some ((), (am_up (am_up I201 81 v2.toNatClampNeg r201) 81 v2.toNatClampNeg (901 : Int32)), G201)))))) else rg (vp_in v2 401) ((if ((am_up I201 81 v2.toNatClampNeg r201) 81 v2.toNatClampNeg) < (900 : Int32) then rg (vp_in v2 401) (L_X14_cut_79 n 0 (am_up I201 81 v2.toNatClampNeg r201) G201 (v1 + (I201 83 v2.toNatClampNeg)) (v2 + (1 : Int32))) else some ((), (am_up I201 81 v2.toNatClampNeg r201), G201)))))))))))))
theorem L_X14_cut_79_0 (n : Nat) (I : am_I) (G : am_G) (v1 : Int32) (v2 : Int32) : L_X14_cut_79 (n + 1) 0 I G v1 v2 = (if (400 : Int32) < v2 then some ((), I, G) else L_X14_cut_79 n 1 I G v1 v2) := rfl
theorem L_X14_cut_79_1 (n : Nat) (I : am_I) (G : am_G) (v1 : Int32) (v2 : Int32) : L_X14_cut_79 (n + 1) 1 I G v1 v2 = rg (q_X14_byteOf_79 I G v1) ((if (f_X14_byteOf_79 I G v1) = (32 : Int32) then L_X14_cut_79 n 1 I G (v1 + (1 : Int32)) v2 else rg (q_X14_byteOf_79 I G v1) ((if (f_X14_byteOf_79 I G v1) = (10 : Int32) then L_X14_cut_79 n 1 I G (v1 + (1 : Int32)) v2 else rg (vp_in v2 401) (rg (vp_in v2 401) (rg (vp_in v2 401) (rb (R_X14_kindAt_79 (am_up (am_up (am_up I 82 v2.toNatClampNeg v1) 84 v2.toNatClampNeg (0 : Int32)) 85 v2.toNatClampNeg (0 : Int32)) G v1 v2) (fun r201 I201 G201 => rg (vp_in v2 401) ((if v2 = (400 : Int32) then rg (vp_in v2 401) ((if ((am_up I201 81 v2.toNatClampNeg r201) 81 v2.toNatClampNeg) = (900 : Int32) then rg (vp_in v2 401) ((if ((am_up I201 81 v2.toNatClampNeg r201) 81 v2.toNatClampNeg) < (900 : Int32) then rg (vp_in v2 401) (L_X14_cut_79 n 0 (am_up I201 81 v2.toNatClampNeg r201) G201 (v1 + (I201 83 v2.toNatClampNeg)) (v2 + (1 : Int32))) else some ((), (am_up I201 81 v2.toNatClampNeg r201), G201))) else rg (vp_in v2 401) (rg (vp_in v2 401) ((if ((am_up (am_up I201 81 v2.toNatClampNeg r201) 81 v2.toNatClampNeg (901 : Int32)) 81 v2.toNatClampNeg) < (900 : Int32) then rg (vp_in v2 401) (L_X14_cut_79 n 0 (am_up (am_up I201 81 v2.toNatClampNeg r201) 81 v2.toNatClampNeg (901 : Int32)) G201 (v1 + (I201 83 v2.toNatClampNeg)) (v2 + (1 : Int32))) else some ((), (am_up (am_up I201 81 v2.toNatClampNeg r201) 81 v2.toNatClampNeg (901 : Int32)), G201)))))) else rg (vp_in v2 401) ((if ((am_up I201 81 v2.toNatClampNeg r201) 81 v2.toNatClampNeg) < (900 : Int32) then rg (vp_in v2 401) (L_X14_cut_79 n 0 (am_up I201 81 v2.toNatClampNeg r201) G201 (v1 + (I201 83 v2.toNatClampNeg)) (v2 + (1 : Int32))) else some ((), (am_up I201 81 v2.toNatClampNeg r201), G201))))))))))))) := rfl
theorem L_X14_cut_79_z (h : Nat) (I : am_I) (G : am_G) (v1 : Int32) (v2 : Int32) : L_X14_cut_79 0 h I G v1 v2 = none := rfl
noncomputable def R_X14_cut_79 (I : am_I) (G : am_G)  : Option (Unit × am_I × am_G) := L_X14_cut_79 FU 0 I G (0 : Int32) (0 : Int32)
set_option maxRecDepth 20000 in
set_option maxHeartbeats 4000000 in
theorem l_X14_cut_79 {X : am_X} {ad : Nat → Nat} (hX : am_okz X ad) (hi : am_info X 12 cX14_cut 3 false none 7) (n : Nat) : (∀ (I : am_I) (G : am_G) (v1 : Int32) (v2 : Int32) (out : Unit × am_I × am_G), L_X14_cut_79 n 0 I G v1 v2 = some out → am_V X 0 0 (am_Rt X gS2 ad (pV out.2.1 out.2.2 (gP 123))) gS2 ad (4, [(0, .ref 79), (1, .int v1), (2, .int v2)], [], I, G, (gP 123))) ∧ (∀ (I : am_I) (G : am_G) (v1 : Int32) (v2 : Int32) (out : Unit × am_I × am_G), L_X14_cut_79 n 1 I G v1 v2 = some out → am_V X 0 0 (am_Rt X gS2 ad (pV out.2.1 out.2.2 (gP 123))) gS2 ad (11, [(0, .ref 79), (1, .int v1), (2, .int v2)], [], I, G, (gP 123))) := by
  induction n with
  | zero => exact ⟨(fun I G v1 v2 out h => by rw [L_X14_cut_79_z] at h; cases h), (fun I G v1 v2 out h => by rw [L_X14_cut_79_z] at h; cases h)⟩
  | succ n ih =>
    refine ⟨?_, ?_⟩
    · intro I G v1 v2 out h
      rw [L_X14_cut_79_0] at h
      refine am_blk 4 [(.iload_n 2, 1, 2, 0, .null), (.sipush (400), 3, 0, 0, .int (400 : Int32))] (8, [(0, .ref 79), (1, .int v1), (2, .int v2)], [.int (400 : Int32), .int v2], I, G, (gP 123)) (True) hX hi (by decide +kernel) rfl trivial ?_
      refine am_icmp_gt (tgt := 126) hX hi (off := (118)) (by decide +kernel) (by decide) (fun c8 => ?_) (fun c8 => ?_)
      · rw [if_pos c8] at h
        cases h
        refine am_vret hX hi rfl (by decide +kernel) ?_
        exact ⟨rfl, rfl, rfl, rfl⟩
      · rw [if_neg c8] at h
        exact ih.2 _ _ _ _ _ h
    · intro I G v1 v2 out h
      rw [L_X14_cut_79_1] at h
      refine am_blk 11 [(.aload_n 0, 1, 0, 0, .null), (.iload_n 1, 1, 1, 0, .null)] (13, [(0, .ref 79), (1, .int v1), (2, .int v2)], [.int v1, .ref 79], I, G, (gP 123)) (True) hX hi (by decide +kernel) rfl trivial ?_
      obtain ⟨hq1, h⟩ := rg_some h
      refine am_callV hX hi (M := mX14_byteOf) (idx := 86) (d' := 1) (b := 79) (ci := 12) (As := [.int v1]) (rest := []) mkX14_byteOf miX14_byteOf mvX14_byteOf (by decide +kernel) (by decide +kernel) rfl (by decide +kernel) rfl ⟨by omega, by decide, Nat.le_of_ble_eq_true rfl⟩ rfl (c_X14_byteOf_79 I G v1 hq1) ?_
      rintro r9 I9 G9 P9 ⟨e0, e1, e2, e3⟩
      rw [e0, e1, e2, e3]
      show am_V X 0 0 _ _ ad (16, [(0, .ref 79), (1, .int v1), (2, .int v2)], [.int (f_X14_byteOf_79 I G v1)], I, G, (gP 123))
      refine am_blk 16 [(.bipush (32), 2, 0, 0, .int (32 : Int32))] (18, [(0, .ref 79), (1, .int v1), (2, .int v2)], [.int (32 : Int32), .int (f_X14_byteOf_79 I G v1)], I, G, (gP 123)) (True) hX hi (by decide +kernel) rfl trivial ?_
      refine am_icmp_eq (tgt := 31) hX hi (off := (13)) (by decide +kernel) (by decide) (fun c18 => ?_) (fun c18 => ?_)
      · rw [if_pos c18] at h
        refine am_blk 31 [(.iinc 1 (1), 3, 1, 0, .int (1 : Int32)), (.goto (-23), 3, 0, 11, .null)] (11, [(0, .ref 79), (1, .int (v1 + (1 : Int32))), (2, .int v2)], [], I, G, (gP 123)) (True) hX hi (by decide +kernel) rfl trivial ?_
        exact ih.2 _ _ _ _ _ h
      · rw [if_neg c18] at h
        refine am_blk 21 [(.aload_n 0, 1, 0, 0, .null), (.iload_n 1, 1, 1, 0, .null)] (23, [(0, .ref 79), (1, .int v1), (2, .int v2)], [.int v1, .ref 79], I, G, (gP 123)) (True) hX hi (by decide +kernel) rfl trivial ?_
        obtain ⟨hq1, h⟩ := rg_some h
        refine am_callV hX hi (M := mX14_byteOf) (idx := 86) (d' := 1) (b := 79) (ci := 12) (As := [.int v1]) (rest := []) mkX14_byteOf miX14_byteOf mvX14_byteOf (by decide +kernel) (by decide +kernel) rfl (by decide +kernel) rfl ⟨by omega, by decide, Nat.le_of_ble_eq_true rfl⟩ rfl (c_X14_byteOf_79 I G v1 hq1) ?_
        rintro r9 I9 G9 P9 ⟨e0, e1, e2, e3⟩
        rw [e0, e1, e2, e3]
        show am_V X 0 0 _ _ ad (26, [(0, .ref 79), (1, .int v1), (2, .int v2)], [.int (f_X14_byteOf_79 I G v1)], I, G, (gP 123))
        refine am_blk 26 [(.bipush (10), 2, 0, 0, .int (10 : Int32))] (28, [(0, .ref 79), (1, .int v1), (2, .int v2)], [.int (10 : Int32), .int (f_X14_byteOf_79 I G v1)], I, G, (gP 123)) (True) hX hi (by decide +kernel) rfl trivial ?_
        refine am_icmp_ne (tgt := 37) hX hi (off := (9)) (by decide +kernel) (by decide) (fun c28 => ?_) (fun c28 => ?_)
        · rw [if_neg c28] at h
          obtain ⟨g0, h⟩ := rg_some h
          obtain ⟨g1, h⟩ := rg_some h
          obtain ⟨g2, h⟩ := rg_some h
          refine am_blk 37 [(.aload_n 0, 1, 0, 0, .null), (.getfield 20, 3, 12, 5, .null), (.iload_n 2, 1, 2, 0, .null), (.iload_n 1, 1, 1, 0, .null), (.iastore, 1, 0, 0, .null), (.aload_n 0, 1, 0, 0, .null), (.getfield 26, 3, 12, 7, .null), (.iload_n 2, 1, 2, 0, .null), (.iconst (0), 1, 0, 0, .int (0 : Int32)), (.iastore, 1, 0, 0, .null), (.aload_n 0, 1, 0, 0, .null), (.getfield 29, 3, 12, 8, .null), (.iload_n 2, 1, 2, 0, .null), (.iconst (0), 1, 0, 0, .int (0 : Int32)), (.iastore, 1, 0, 0, .null), (.aload_n 0, 1, 0, 0, .null), (.getfield 17, 3, 12, 4, .null), (.iload_n 2, 1, 2, 0, .null), (.aload_n 0, 1, 0, 0, .null), (.iload_n 1, 1, 1, 0, .null), (.iload_n 2, 1, 2, 0, .null)] (66, [(0, .ref 79), (1, .int v1), (2, .int v2)], [.int v2, .int v1, .ref 79, .int v2, .ref 81], (am_up (am_up (am_up I 82 v2.toNatClampNeg v1) 84 v2.toNatClampNeg (0 : Int32)) 85 v2.toNatClampNeg (0 : Int32)), G, (gP 123)) (vp_in v2 401 ∧ vp_in v2 401 ∧ vp_in v2 401 ∧ True) hX hi (by decide +kernel) rfl ⟨g0, g1, g2, trivial⟩ ?_
          obtain ⟨r201, I201, G201, hc, h⟩ := rb_some h
          refine am_callV hX hi (M := mX14_kindAt) (idx := 119) (d' := 6) (b := 79) (ci := 12) (As := [.int v1, .int v2]) (rest := [.int v2, .ref 81]) mkX14_kindAt miX14_kindAt mvX14_kindAt (by decide +kernel) (by decide +kernel) rfl (by decide +kernel) rfl ⟨by omega, by decide, Nat.le_of_ble_eq_true rfl⟩ rfl (c_X14_kindAt_79 (am_up (am_up (am_up I 82 v2.toNatClampNeg v1) 84 v2.toNatClampNeg (0 : Int32)) 85 v2.toNatClampNeg (0 : Int32)) G v1 v2 hc) ?_
          rintro r9 I9 G9 P9 ⟨e0, e1, e2, e3⟩
          rw [e0, e1, e2, e3]
          show am_V X 0 0 _ _ ad (69, [(0, .ref 79), (1, .int v1), (2, .int v2)], [.int r201, .int v2, .ref 81], I201, G201, (gP 123))
          obtain ⟨g0, h⟩ := rg_some h
          refine am_blk 69 [(.iastore, 1, 0, 0, .null), (.iload_n 2, 1, 2, 0, .null), (.sipush (400), 3, 0, 0, .int (400 : Int32))] (74, [(0, .ref 79), (1, .int v1), (2, .int v2)], [.int (400 : Int32), .int v2], (am_up I201 81 v2.toNatClampNeg r201), G201, (gP 123)) (vp_in v2 401 ∧ True) hX hi (by decide +kernel) rfl ⟨g0, trivial⟩ ?_
          refine am_icmp_ne (tgt := 98) hX hi (off := (24)) (by decide +kernel) (by decide) (fun c74 => ?_) (fun c74 => ?_)
          · rw [if_neg c74] at h
            obtain ⟨g0, h⟩ := rg_some h
            refine am_blk 98 [(.aload_n 0, 1, 0, 0, .null), (.getfield 17, 3, 12, 4, .null), (.iload_n 2, 1, 2, 0, .null), (.iaload, 1, 0, 0, .null), (.sipush (900), 3, 0, 0, .int (900 : Int32))] (107, [(0, .ref 79), (1, .int v1), (2, .int v2)], [.int (900 : Int32), .int ((am_up I201 81 v2.toNatClampNeg r201) 81 v2.toNatClampNeg)], (am_up I201 81 v2.toNatClampNeg r201), G201, (gP 123)) (vp_in v2 401 ∧ True) hX hi (by decide +kernel) rfl ⟨g0, trivial⟩ ?_
            refine am_icmp_lt (tgt := 111) hX hi (off := (4)) (by decide +kernel) (by decide) (fun c107 => ?_) (fun c107 => ?_)
            · rw [if_pos c107] at h
              obtain ⟨g0, h⟩ := rg_some h
              refine am_blk 111 [(.iload_n 1, 1, 1, 0, .null), (.aload_n 0, 1, 0, 0, .null), (.getfield 23, 3, 12, 6, .null), (.iload_n 2, 1, 2, 0, .null), (.iaload, 1, 0, 0, .null), (.iadd, 1, 0, 0, .null), (.istore_n 1, 1, 1, 0, .null), (.iinc 2 (1), 3, 2, 0, .int (1 : Int32)), (.goto (-119), 3, 0, 4, .null)] (4, [(0, .ref 79), (1, .int (v1 + (I201 83 v2.toNatClampNeg))), (2, .int (v2 + (1 : Int32)))], [], (am_up I201 81 v2.toNatClampNeg r201), G201, (gP 123)) (vp_in v2 401 ∧ True) hX hi (by decide +kernel) rfl ⟨g0, trivial⟩ ?_
              exact ih.1 _ _ _ _ _ h
            · rw [if_neg c107] at h
              cases h
              refine am_vret hX hi rfl (by decide +kernel) ?_
              exact ⟨rfl, rfl, rfl, rfl⟩
          · rw [if_pos c74] at h
            obtain ⟨g0, h⟩ := rg_some h
            refine am_blk 77 [(.aload_n 0, 1, 0, 0, .null), (.getfield 17, 3, 12, 4, .null), (.iload_n 2, 1, 2, 0, .null), (.iaload, 1, 0, 0, .null), (.sipush (900), 3, 0, 0, .int (900 : Int32))] (86, [(0, .ref 79), (1, .int v1), (2, .int v2)], [.int (900 : Int32), .int ((am_up I201 81 v2.toNatClampNeg r201) 81 v2.toNatClampNeg)], (am_up I201 81 v2.toNatClampNeg r201), G201, (gP 123)) (vp_in v2 401 ∧ True) hX hi (by decide +kernel) rfl ⟨g0, trivial⟩ ?_
            refine am_icmp_eq (tgt := 98) hX hi (off := (12)) (by decide +kernel) (by decide) (fun c86 => ?_) (fun c86 => ?_)
            · rw [if_pos c86] at h
              obtain ⟨g0, h⟩ := rg_some h
              refine am_blk 98 [(.aload_n 0, 1, 0, 0, .null), (.getfield 17, 3, 12, 4, .null), (.iload_n 2, 1, 2, 0, .null), (.iaload, 1, 0, 0, .null), (.sipush (900), 3, 0, 0, .int (900 : Int32))] (107, [(0, .ref 79), (1, .int v1), (2, .int v2)], [.int (900 : Int32), .int ((am_up I201 81 v2.toNatClampNeg r201) 81 v2.toNatClampNeg)], (am_up I201 81 v2.toNatClampNeg r201), G201, (gP 123)) (vp_in v2 401 ∧ True) hX hi (by decide +kernel) rfl ⟨g0, trivial⟩ ?_
              refine am_icmp_lt (tgt := 111) hX hi (off := (4)) (by decide +kernel) (by decide) (fun c107 => ?_) (fun c107 => ?_)
              · rw [if_pos c107] at h
                obtain ⟨g0, h⟩ := rg_some h
                refine am_blk 111 [(.iload_n 1, 1, 1, 0, .null), (.aload_n 0, 1, 0, 0, .null), (.getfield 23, 3, 12, 6, .null), (.iload_n 2, 1, 2, 0, .null), (.iaload, 1, 0, 0, .null), (.iadd, 1, 0, 0, .null), (.istore_n 1, 1, 1, 0, .null), (.iinc 2 (1), 3, 2, 0, .int (1 : Int32)), (.goto (-119), 3, 0, 4, .null)] (4, [(0, .ref 79), (1, .int (v1 + (I201 83 v2.toNatClampNeg))), (2, .int (v2 + (1 : Int32)))], [], (am_up I201 81 v2.toNatClampNeg r201), G201, (gP 123)) (vp_in v2 401 ∧ True) hX hi (by decide +kernel) rfl ⟨g0, trivial⟩ ?_
                exact ih.1 _ _ _ _ _ h
              · rw [if_neg c107] at h
                cases h
                refine am_vret hX hi rfl (by decide +kernel) ?_
                exact ⟨rfl, rfl, rfl, rfl⟩
            · rw [if_neg c86] at h
              obtain ⟨g0, h⟩ := rg_some h
              obtain ⟨g1, h⟩ := rg_some h
              refine am_blk 89 [(.aload_n 0, 1, 0, 0, .null), (.getfield 17, 3, 12, 4, .null), (.iload_n 2, 1, 2, 0, .null), (.sipush (901), 3, 0, 0, .int (901 : Int32)), (.iastore, 1, 0, 0, .null), (.aload_n 0, 1, 0, 0, .null), (.getfield 17, 3, 12, 4, .null), (.iload_n 2, 1, 2, 0, .null), (.iaload, 1, 0, 0, .null), (.sipush (900), 3, 0, 0, .int (900 : Int32))] (107, [(0, .ref 79), (1, .int v1), (2, .int v2)], [.int (900 : Int32), .int ((am_up (am_up I201 81 v2.toNatClampNeg r201) 81 v2.toNatClampNeg (901 : Int32)) 81 v2.toNatClampNeg)], (am_up (am_up I201 81 v2.toNatClampNeg r201) 81 v2.toNatClampNeg (901 : Int32)), G201, (gP 123)) (vp_in v2 401 ∧ vp_in v2 401 ∧ True) hX hi (by decide +kernel) rfl ⟨g0, g1, trivial⟩ ?_
              refine am_icmp_lt (tgt := 111) hX hi (off := (4)) (by decide +kernel) (by decide) (fun c107 => ?_) (fun c107 => ?_)
              · rw [if_pos c107] at h
                obtain ⟨g0, h⟩ := rg_some h
                refine am_blk 111 [(.iload_n 1, 1, 1, 0, .null), (.aload_n 0, 1, 0, 0, .null), (.getfield 23, 3, 12, 6, .null), (.iload_n 2, 1, 2, 0, .null), (.iaload, 1, 0, 0, .null), (.iadd, 1, 0, 0, .null), (.istore_n 1, 1, 1, 0, .null), (.iinc 2 (1), 3, 2, 0, .int (1 : Int32)), (.goto (-119), 3, 0, 4, .null)] (4, [(0, .ref 79), (1, .int (v1 + (I201 83 v2.toNatClampNeg))), (2, .int (v2 + (1 : Int32)))], [], (am_up (am_up I201 81 v2.toNatClampNeg r201) 81 v2.toNatClampNeg (901 : Int32)), G201, (gP 123)) (vp_in v2 401 ∧ True) hX hi (by decide +kernel) rfl ⟨g0, trivial⟩ ?_
                exact ih.1 _ _ _ _ _ h
              · rw [if_neg c107] at h
                cases h
                refine am_vret hX hi rfl (by decide +kernel) ?_
                exact ⟨rfl, rfl, rfl, rfl⟩
        · rw [if_pos c28] at h
          refine am_blk 31 [(.iinc 1 (1), 3, 1, 0, .int (1 : Int32)), (.goto (-23), 3, 0, 11, .null)] (11, [(0, .ref 79), (1, .int (v1 + (1 : Int32))), (2, .int v2)], [], I, G, (gP 123)) (True) hX hi (by decide +kernel) rfl trivial ?_
          exact ih.2 _ _ _ _ _ h
set_option maxRecDepth 20000 in
set_option maxHeartbeats 4000000 in
theorem c_X14_cut_79 (I : am_I) (G : am_G)  {out : Unit × am_I × am_G} (h : R_X14_cut_79 I G  = some out) : am_Ct mX14_cut 7 gS2 [.ref 79] I G (gP 123) (pV out.2.1 out.2.2 (gP 123)) := by
  refine am_ofF (by decide +kernel) rfl (by decide) (by omega) (Nat.le_of_ble_eq_true rfl) (fun X ad hX hi => ?_)
  have hi : am_info X 12 cX14_cut 3 false none 7 := hi
  show am_V X 0 0 _ _ ad (0, [(0, .ref 79)], [], I, G, (gP 123))
  unfold R_X14_cut_79 at h
  refine am_blk 0 [(.iconst (0), 1, 0, 0, .int (0 : Int32)), (.istore_n 1, 1, 1, 0, .null), (.iconst (0), 1, 0, 0, .int (0 : Int32)), (.istore_n 2, 1, 2, 0, .null)] (4, [(0, .ref 79), (1, .int (0 : Int32)), (2, .int (0 : Int32))], [], I, G, (gP 123)) (True) hX hi (by decide +kernel) rfl trivial ?_
  exact (l_X14_cut_79 hX hi FU).1 _ _ _ _ _ h
noncomputable def L_X9_scan_1 (n0 : Nat) (hd : Nat) (I : am_I) (G : am_G) (v1 : Int32) (v2 : Int32) : Option (Unit × am_I × am_G) := match n0 with
  | 0 => none
  | n + 1 => match hd with
    | _ => (if (400 : Int32) < v2 then some ((), I, G) else (if v1 = 0 then some ((), I, G) else rb (R_X9_readToken_1 I G ) (fun r101 I101 G101 => L_X9_scan_1 n 0 I101 G101 r101 (v2 + (1 : Int32)))))
theorem L_X9_scan_1_0 (n : Nat) (I : am_I) (G : am_G) (v1 : Int32) (v2 : Int32) : L_X9_scan_1 (n + 1) 0 I G v1 v2 = (if (400 : Int32) < v2 then some ((), I, G) else (if v1 = 0 then some ((), I, G) else rb (R_X9_readToken_1 I G ) (fun r101 I101 G101 => L_X9_scan_1 n 0 I101 G101 r101 (v2 + (1 : Int32))))) := rfl
theorem L_X9_scan_1_z (h : Nat) (I : am_I) (G : am_G) (v1 : Int32) (v2 : Int32) : L_X9_scan_1 0 h I G v1 v2 = none := rfl
noncomputable def R_X9_scan_1 (I : am_I) (G : am_G)  : Option (Unit × am_I × am_G) := L_X9_scan_1 FU 0 (am_up (am_up I 1 7 (0 : Int32)) 1 6 (0 : Int32)) G (1 : Int32) (0 : Int32)
set_option maxRecDepth 20000 in
set_option maxHeartbeats 4000000 in
theorem l_X9_scan_1 (rd : Nat) {X : am_X} {ad : Nat → Nat} (hX : am_okz X ad) (hi : am_info X 7 cX9_scan 3 false none 8) (n : Nat) : (∀ (I : am_I) (G : am_G) (v1 : Int32) (v2 : Int32) (out : Unit × am_I × am_G), L_X9_scan_1 n 0 I G v1 v2 = some out → am_V X 0 0 (am_Rt X gS ad (pV out.2.1 out.2.2 (gP rd))) gS ad (14, [(0, .ref 1), (1, .int v1), (2, .int v2)], [], I, G, (gP rd))) := by
  induction n with
  | zero => exact fun I G v1 v2 out h => by rw [L_X9_scan_1_z] at h; cases h
  | succ n ih =>
    · intro I G v1 v2 out h
      rw [L_X9_scan_1_0] at h
      refine am_blk 14 [(.iload_n 2, 1, 2, 0, .null), (.sipush (400), 3, 0, 0, .int (400 : Int32))] (18, [(0, .ref 1), (1, .int v1), (2, .int v2)], [.int (400 : Int32), .int v2], I, G, (gP rd)) (True) hX hi (by decide +kernel) rfl trivial ?_
      refine am_icmp_gt (tgt := 36) hX hi (off := (18)) (by decide +kernel) (by decide) (fun c18 => ?_) (fun c18 => ?_)
      · rw [if_pos c18] at h
        cases h
        refine am_vret hX hi rfl (by decide +kernel) ?_
        exact ⟨rfl, rfl, rfl, rfl⟩
      · rw [if_neg c18] at h
        refine am_blk 21 [(.iload_n 1, 1, 1, 0, .null)] (22, [(0, .ref 1), (1, .int v1), (2, .int v2)], [.int v1], I, G, (gP rd)) (True) hX hi (by decide +kernel) rfl trivial ?_
        refine am_if_eq (tgt := 36) hX hi (off := (14)) (by decide +kernel) (by decide) (fun c22 => ?_) (fun c22 => ?_)
        · rw [if_pos c22] at h
          cases h
          refine am_vret hX hi rfl (by decide +kernel) ?_
          exact ⟨rfl, rfl, rfl, rfl⟩
        · rw [if_neg c22] at h
          refine am_blk 25 [(.aload_n 0, 1, 0, 0, .null)] (26, [(0, .ref 1), (1, .int v1), (2, .int v2)], [.ref 1], I, G, (gP rd)) (True) hX hi (by decide +kernel) rfl trivial ?_
          obtain ⟨r101, I101, G101, hc, h⟩ := rb_some h
          refine am_callV hX hi (M := mX9_readToken) (idx := 53) (d' := 7) (b := 1) (ci := 7) (As := []) (rest := []) mkX9_readToken miX9_readToken mvX9_readToken (by decide +kernel) (by decide +kernel) rfl (by decide +kernel) rfl ⟨by omega, by decide, Nat.le_of_ble_eq_true rfl⟩ rfl (c_X9_readToken_1 _ I G  hc) ?_
          rintro r9 I9 G9 P9 ⟨e0, e1, e2, e3⟩
          rw [e0, e1, e2, e3]
          show am_V X 0 0 _ _ ad (29, [(0, .ref 1), (1, .int v1), (2, .int v2)], [.int r101], I101, G101, (gP rd))
          refine am_blk 29 [(.istore_n 1, 1, 1, 0, .null), (.iinc 2 (1), 3, 2, 0, .int (1 : Int32)), (.goto (-19), 3, 0, 14, .null)] (14, [(0, .ref 1), (1, .int r101), (2, .int (v2 + (1 : Int32)))], [], I101, G101, (gP rd)) (True) hX hi (by decide +kernel) rfl trivial ?_
          exact ih _ _ _ _ _ h
set_option maxRecDepth 20000 in
set_option maxHeartbeats 4000000 in
theorem c_X9_scan_1 (rd : Nat) (I : am_I) (G : am_G)  {out : Unit × am_I × am_G} (h : R_X9_scan_1 I G  = some out) : am_Ct mX9_scan 8 gS [.ref 1] I G (gP rd) (pV out.2.1 out.2.2 (gP rd)) := by
  refine am_ofF (by decide +kernel) rfl (by decide) (by omega) (Nat.le_of_ble_eq_true rfl) (fun X ad hX hi => ?_)
  have hi : am_info X 7 cX9_scan 3 false none 8 := hi
  show am_V X 0 0 _ _ ad (0, [(0, .ref 1)], [], I, G, (gP rd))
  unfold R_X9_scan_1 at h
  refine am_blk 0 [(.aload_n 0, 1, 0, 0, .null), (.iconst (0), 1, 0, 0, .int (0 : Int32)), (.putfield 47, 3, 7, 7, .null), (.aload_n 0, 1, 0, 0, .null), (.iconst (0), 1, 0, 0, .int (0 : Int32)), (.putfield 50, 3, 7, 6, .null), (.iconst (1), 1, 0, 0, .int (1 : Int32)), (.istore_n 1, 1, 1, 0, .null), (.iconst (0), 1, 0, 0, .int (0 : Int32)), (.istore_n 2, 1, 2, 0, .null)] (14, [(0, .ref 1), (1, .int (1 : Int32)), (2, .int (0 : Int32))], [], (am_up (am_up I 1 7 (0 : Int32)) 1 6 (0 : Int32)), G, (gP rd)) (True) hX hi (by decide +kernel) rfl trivial ?_
  exact (l_X9_scan_1 rd hX hi FU) _ _ _ _ _ h
noncomputable def L_X6_read_28 (n0 : Nat) (hd : Nat) (I : am_I) (G : am_G) (v1 : Int32) : Option (Int32 × am_I × am_G) := match n0 with
  | 0 => none
  | n + 1 => match hd with
    | _ => (if (400 : Int32) ≤ v1 then (if (I 28 6) = (41 : Int32) then some ((I 28 7), I, G) else some (((g_X6_refuse_28 I G ) 28 7), (g_X6_refuse_28 I G ), G)) else (if (I 28 6) = (41 : Int32) then (if (I 28 6) = (41 : Int32) then some ((I 28 7), I, G) else some (((g_X6_refuse_28 I G ) 28 7), (g_X6_refuse_28 I G ), G)) else (if (I 28 6) = (42 : Int32) then (if (I 28 6) = (41 : Int32) then some ((I 28 7), I, G) else some (((g_X6_refuse_28 I G ) 28 7), (g_X6_refuse_28 I G ), G)) else rb (R_X6_readLine_28 I G ) (fun r101 I101 G101 => L_X6_read_28 n 0 I101 G101 (v1 + (1 : Int32))))))
theorem L_X6_read_28_0 (n : Nat) (I : am_I) (G : am_G) (v1 : Int32) : L_X6_read_28 (n + 1) 0 I G v1 = (if (400 : Int32) ≤ v1 then (if (I 28 6) = (41 : Int32) then some ((I 28 7), I, G) else some (((g_X6_refuse_28 I G ) 28 7), (g_X6_refuse_28 I G ), G)) else (if (I 28 6) = (41 : Int32) then (if (I 28 6) = (41 : Int32) then some ((I 28 7), I, G) else some (((g_X6_refuse_28 I G ) 28 7), (g_X6_refuse_28 I G ), G)) else (if (I 28 6) = (42 : Int32) then (if (I 28 6) = (41 : Int32) then some ((I 28 7), I, G) else some (((g_X6_refuse_28 I G ) 28 7), (g_X6_refuse_28 I G ), G)) else rb (R_X6_readLine_28 I G ) (fun r101 I101 G101 => L_X6_read_28 n 0 I101 G101 (v1 + (1 : Int32)))))) := rfl
theorem L_X6_read_28_z (h : Nat) (I : am_I) (G : am_G) (v1 : Int32) : L_X6_read_28 0 h I G v1 = none := rfl
noncomputable def R_X6_read_28 (I : am_I) (G : am_G)  : Option (Int32 × am_I × am_G) := rb (R_X9_scan_1 I G ) (fun r1 I1 G1 => L_X6_read_28 FU 0 (am_up (am_up (am_up (am_up (g_X2_forget_51 (g_X2_forget_49 (g_X2_forget_47 (g_X5_clear_29 I1 G1 ) G1 ) G1 ) G1 ) 28 7 (0 : Int32)) 28 8 (-1 : Int32)) 28 5 (0 : Int32)) 28 6 (f_X9_kindAt_1 (am_up (am_up (am_up (g_X2_forget_51 (g_X2_forget_49 (g_X2_forget_47 (g_X5_clear_29 I1 G1 ) G1 ) G1 ) G1 ) 28 7 (0 : Int32)) 28 8 (-1 : Int32)) 28 5 (0 : Int32)) G1 (0 : Int32))) G1 (0 : Int32))
set_option maxRecDepth 20000 in
set_option maxHeartbeats 4000000 in
theorem l_X6_read_28 (rd : Nat) {X : am_X} {ad : Nat → Nat} (hX : am_okz X ad) (hi : am_info X 4 cX6_read 2 false (Option.some Jvm.ClassFile.FieldType.int) 50) (n : Nat) : (∀ (I : am_I) (G : am_G) (v1 : Int32) (out : Int32 × am_I × am_G), L_X6_read_28 n 0 I G v1 = some out → am_V X 0 0 (am_Rt X gS ad (pI out.1 out.2.1 out.2.2 (gP rd))) gS ad (64, [(0, .ref 28), (1, .int v1)], [], I, G, (gP rd))) := by
  induction n with
  | zero => exact fun I G v1 out h => by rw [L_X6_read_28_z] at h; cases h
  | succ n ih =>
    · intro I G v1 out h
      rw [L_X6_read_28_0] at h
      refine am_blk 64 [(.iload_n 1, 1, 1, 0, .null), (.sipush (400), 3, 0, 0, .int (400 : Int32))] (68, [(0, .ref 28), (1, .int v1)], [.int (400 : Int32), .int v1], I, G, (gP rd)) (True) hX hi (by decide +kernel) rfl trivial ?_
      refine am_icmp_ge (tgt := 99) hX hi (off := (31)) (by decide +kernel) (by decide) (fun c68 => ?_) (fun c68 => ?_)
      · rw [if_pos c68] at h
        refine am_blk 99 [(.aload_n 0, 1, 0, 0, .null), (.getfield 62, 3, 4, 6, .null), (.bipush (41), 2, 0, 0, .int (41 : Int32))] (105, [(0, .ref 28), (1, .int v1)], [.int (41 : Int32), .int (I 28 6)], I, G, (gP rd)) (True) hX hi (by decide +kernel) rfl trivial ?_
        refine am_icmp_eq (tgt := 112) hX hi (off := (7)) (by decide +kernel) (by decide) (fun c105 => ?_) (fun c105 => ?_)
        · rw [if_pos c105] at h
          refine am_blk 112 [(.aload_n 0, 1, 0, 0, .null), (.getfield 48, 3, 4, 7, .null)] (116, [(0, .ref 28), (1, .int v1)], [.int (I 28 7)], I, G, (gP rd)) (True) hX hi (by decide +kernel) rfl trivial ?_
          cases h
          refine am_iret hX hi rfl rfl (by decide +kernel) ?_
          exact ⟨rfl, rfl, rfl, rfl⟩
        · rw [if_neg c105] at h
          refine am_blk 108 [(.aload_n 0, 1, 0, 0, .null)] (109, [(0, .ref 28), (1, .int v1)], [.ref 28], I, G, (gP rd)) (True) hX hi (by decide +kernel) rfl trivial ?_
          refine am_callV hX hi (M := mX6_refuse) (idx := 70) (d' := 2) (b := 28) (ci := 4) (As := []) (rest := []) mkX6_refuse miX6_refuse mvX6_refuse (by decide +kernel) (by decide +kernel) rfl (by decide +kernel) rfl ⟨by omega, by decide, Nat.le_of_ble_eq_true rfl⟩ rfl (c_X6_refuse_28 _ I G ) ?_
          rintro r9 I9 G9 P9 ⟨e0, e1, e2, e3⟩
          rw [e0, e1, e2, e3]
          show am_V X 0 0 _ _ ad (112, [(0, .ref 28), (1, .int v1)], [], (g_X6_refuse_28 I G ), G, (gP rd))
          refine am_blk 112 [(.aload_n 0, 1, 0, 0, .null), (.getfield 48, 3, 4, 7, .null)] (116, [(0, .ref 28), (1, .int v1)], [.int ((g_X6_refuse_28 I G ) 28 7)], (g_X6_refuse_28 I G ), G, (gP rd)) (True) hX hi (by decide +kernel) rfl trivial ?_
          cases h
          refine am_iret hX hi rfl rfl (by decide +kernel) ?_
          exact ⟨rfl, rfl, rfl, rfl⟩
      · rw [if_neg c68] at h
        refine am_blk 71 [(.aload_n 0, 1, 0, 0, .null), (.getfield 62, 3, 4, 6, .null), (.bipush (41), 2, 0, 0, .int (41 : Int32))] (77, [(0, .ref 28), (1, .int v1)], [.int (41 : Int32), .int (I 28 6)], I, G, (gP rd)) (True) hX hi (by decide +kernel) rfl trivial ?_
        refine am_icmp_eq (tgt := 99) hX hi (off := (22)) (by decide +kernel) (by decide) (fun c77 => ?_) (fun c77 => ?_)
        · rw [if_pos c77] at h
          refine am_blk 99 [(.aload_n 0, 1, 0, 0, .null), (.getfield 62, 3, 4, 6, .null), (.bipush (41), 2, 0, 0, .int (41 : Int32))] (105, [(0, .ref 28), (1, .int v1)], [.int (41 : Int32), .int (I 28 6)], I, G, (gP rd)) (True) hX hi (by decide +kernel) rfl trivial ?_
          refine am_icmp_eq (tgt := 112) hX hi (off := (7)) (by decide +kernel) (by decide) (fun c105 => ?_) (fun c105 => ?_)
          · rw [if_pos c105] at h
            refine am_blk 112 [(.aload_n 0, 1, 0, 0, .null), (.getfield 48, 3, 4, 7, .null)] (116, [(0, .ref 28), (1, .int v1)], [.int (I 28 7)], I, G, (gP rd)) (True) hX hi (by decide +kernel) rfl trivial ?_
            cases h
            refine am_iret hX hi rfl rfl (by decide +kernel) ?_
            exact ⟨rfl, rfl, rfl, rfl⟩
          · rw [if_neg c105] at h
            refine am_blk 108 [(.aload_n 0, 1, 0, 0, .null)] (109, [(0, .ref 28), (1, .int v1)], [.ref 28], I, G, (gP rd)) (True) hX hi (by decide +kernel) rfl trivial ?_
            refine am_callV hX hi (M := mX6_refuse) (idx := 70) (d' := 2) (b := 28) (ci := 4) (As := []) (rest := []) mkX6_refuse miX6_refuse mvX6_refuse (by decide +kernel) (by decide +kernel) rfl (by decide +kernel) rfl ⟨by omega, by decide, Nat.le_of_ble_eq_true rfl⟩ rfl (c_X6_refuse_28 _ I G ) ?_
            rintro r9 I9 G9 P9 ⟨e0, e1, e2, e3⟩
            rw [e0, e1, e2, e3]
            show am_V X 0 0 _ _ ad (112, [(0, .ref 28), (1, .int v1)], [], (g_X6_refuse_28 I G ), G, (gP rd))
            refine am_blk 112 [(.aload_n 0, 1, 0, 0, .null), (.getfield 48, 3, 4, 7, .null)] (116, [(0, .ref 28), (1, .int v1)], [.int ((g_X6_refuse_28 I G ) 28 7)], (g_X6_refuse_28 I G ), G, (gP rd)) (True) hX hi (by decide +kernel) rfl trivial ?_
            cases h
            refine am_iret hX hi rfl rfl (by decide +kernel) ?_
            exact ⟨rfl, rfl, rfl, rfl⟩
        · rw [if_neg c77] at h
          refine am_blk 80 [(.aload_n 0, 1, 0, 0, .null), (.getfield 62, 3, 4, 6, .null), (.bipush (42), 2, 0, 0, .int (42 : Int32))] (86, [(0, .ref 28), (1, .int v1)], [.int (42 : Int32), .int (I 28 6)], I, G, (gP rd)) (True) hX hi (by decide +kernel) rfl trivial ?_
          refine am_icmp_eq (tgt := 99) hX hi (off := (13)) (by decide +kernel) (by decide) (fun c86 => ?_) (fun c86 => ?_)
          · rw [if_pos c86] at h
            refine am_blk 99 [(.aload_n 0, 1, 0, 0, .null), (.getfield 62, 3, 4, 6, .null), (.bipush (41), 2, 0, 0, .int (41 : Int32))] (105, [(0, .ref 28), (1, .int v1)], [.int (41 : Int32), .int (I 28 6)], I, G, (gP rd)) (True) hX hi (by decide +kernel) rfl trivial ?_
            refine am_icmp_eq (tgt := 112) hX hi (off := (7)) (by decide +kernel) (by decide) (fun c105 => ?_) (fun c105 => ?_)
            · rw [if_pos c105] at h
              refine am_blk 112 [(.aload_n 0, 1, 0, 0, .null), (.getfield 48, 3, 4, 7, .null)] (116, [(0, .ref 28), (1, .int v1)], [.int (I 28 7)], I, G, (gP rd)) (True) hX hi (by decide +kernel) rfl trivial ?_
              cases h
              refine am_iret hX hi rfl rfl (by decide +kernel) ?_
              exact ⟨rfl, rfl, rfl, rfl⟩
            · rw [if_neg c105] at h
              refine am_blk 108 [(.aload_n 0, 1, 0, 0, .null)] (109, [(0, .ref 28), (1, .int v1)], [.ref 28], I, G, (gP rd)) (True) hX hi (by decide +kernel) rfl trivial ?_
              refine am_callV hX hi (M := mX6_refuse) (idx := 70) (d' := 2) (b := 28) (ci := 4) (As := []) (rest := []) mkX6_refuse miX6_refuse mvX6_refuse (by decide +kernel) (by decide +kernel) rfl (by decide +kernel) rfl ⟨by omega, by decide, Nat.le_of_ble_eq_true rfl⟩ rfl (c_X6_refuse_28 _ I G ) ?_
              rintro r9 I9 G9 P9 ⟨e0, e1, e2, e3⟩
              rw [e0, e1, e2, e3]
              show am_V X 0 0 _ _ ad (112, [(0, .ref 28), (1, .int v1)], [], (g_X6_refuse_28 I G ), G, (gP rd))
              refine am_blk 112 [(.aload_n 0, 1, 0, 0, .null), (.getfield 48, 3, 4, 7, .null)] (116, [(0, .ref 28), (1, .int v1)], [.int ((g_X6_refuse_28 I G ) 28 7)], (g_X6_refuse_28 I G ), G, (gP rd)) (True) hX hi (by decide +kernel) rfl trivial ?_
              cases h
              refine am_iret hX hi rfl rfl (by decide +kernel) ?_
              exact ⟨rfl, rfl, rfl, rfl⟩
          · rw [if_neg c86] at h
            refine am_blk 89 [(.aload_n 0, 1, 0, 0, .null)] (90, [(0, .ref 28), (1, .int v1)], [.ref 28], I, G, (gP rd)) (True) hX hi (by decide +kernel) rfl trivial ?_
            obtain ⟨r101, I101, G101, hc, h⟩ := rb_some h
            refine am_callV hX hi (M := mX6_readLine) (idx := 67) (d' := 49) (b := 28) (ci := 4) (As := []) (rest := []) mkX6_readLine miX6_readLine mvX6_readLine (by decide +kernel) (by decide +kernel) rfl (by decide +kernel) rfl ⟨by omega, by decide, Nat.le_of_ble_eq_true rfl⟩ rfl (c_X6_readLine_28 _ I G  hc) ?_
            rintro r9 I9 G9 P9 ⟨e0, e1, e2, e3⟩
            rw [e0, e1, e2, e3]
            show am_V X 0 0 _ _ ad (93, [(0, .ref 28), (1, .int v1)], [], I101, G101, (gP rd))
            refine am_blk 93 [(.iinc 1 (1), 3, 1, 0, .int (1 : Int32)), (.goto (-32), 3, 0, 64, .null)] (64, [(0, .ref 28), (1, .int (v1 + (1 : Int32)))], [], I101, G101, (gP rd)) (True) hX hi (by decide +kernel) rfl trivial ?_
            exact ih _ _ _ _ h
set_option maxRecDepth 20000 in
set_option maxHeartbeats 4000000 in
theorem c_X6_read_28 (rd : Nat) (I : am_I) (G : am_G)  {out : Int32 × am_I × am_G} (h : R_X6_read_28 I G  = some out) : am_Ct mX6_read 50 gS [.ref 28] I G (gP rd) (pI out.1 out.2.1 out.2.2 (gP rd)) := by
  refine am_ofF (by decide +kernel) rfl (by decide) (by omega) (Nat.le_of_ble_eq_true rfl) (fun X ad hX hi => ?_)
  have hi : am_info X 4 cX6_read 2 false (Option.some Jvm.ClassFile.FieldType.int) 50 := hi
  show am_V X 0 0 _ _ ad (0, [(0, .ref 28)], [], I, G, (gP rd))
  unfold R_X6_read_28 at h
  refine am_blk 0 [(.aload_n 0, 1, 0, 0, .null), (.getfield 33, 3, 4, 0, .null)] (4, [(0, .ref 28)], [.ref 1], I, G, (gP rd)) (True) hX hi (by decide +kernel) rfl trivial ?_
  obtain ⟨r1, I1, G1, hc, h⟩ := rb_some h
  refine am_callV hX hi (M := mX9_scan) (idx := 37) (d' := 8) (b := 1) (ci := 7) (As := []) (rest := []) mkX9_scan miX9_scan mvX9_scan (by decide +kernel) (by decide +kernel) rfl (by decide +kernel) rfl ⟨by omega, by decide, Nat.le_of_ble_eq_true rfl⟩ rfl (c_X9_scan_1 _ I G  hc) ?_
  rintro r9 I9 G9 P9 ⟨e0, e1, e2, e3⟩
  rw [e0, e1, e2, e3]
  show am_V X 0 0 _ _ ad (7, [(0, .ref 28)], [], I1, G1, (gP rd))
  refine am_blk 7 [(.aload_n 0, 1, 0, 0, .null), (.getfield 12, 3, 4, 1, .null)] (11, [(0, .ref 28)], [.ref 29], I1, G1, (gP rd)) (True) hX hi (by decide +kernel) rfl trivial ?_
  refine am_callV hX hi (M := mX5_clear) (idx := 42) (d' := 2) (b := 29) (ci := 3) (As := []) (rest := []) mkX5_clear miX5_clear mvX5_clear (by decide +kernel) (by decide +kernel) rfl (by decide +kernel) rfl ⟨by omega, by decide, Nat.le_of_ble_eq_true rfl⟩ rfl (c_X5_clear_29 _ I1 G1 ) ?_
  rintro r9 I9 G9 P9 ⟨e0, e1, e2, e3⟩
  rw [e0, e1, e2, e3]
  show am_V X 0 0 _ _ ad (14, [(0, .ref 28)], [], (g_X5_clear_29 I1 G1 ), G1, (gP rd))
  refine am_blk 14 [(.aload_n 0, 1, 0, 0, .null), (.getfield 23, 3, 4, 2, .null)] (18, [(0, .ref 28)], [.ref 47], (g_X5_clear_29 I1 G1 ), G1, (gP rd)) (True) hX hi (by decide +kernel) rfl trivial ?_
  refine am_callV hX hi (M := mX2_forget) (idx := 45) (d' := 1) (b := 47) (ci := 0) (As := []) (rest := []) mkX2_forget miX2_forget mvX2_forget (by decide +kernel) (by decide +kernel) rfl (by decide +kernel) rfl ⟨by omega, by decide, Nat.le_of_ble_eq_true rfl⟩ rfl (c_X2_forget_47 _ (g_X5_clear_29 I1 G1 ) G1 ) ?_
  rintro r9 I9 G9 P9 ⟨e0, e1, e2, e3⟩
  rw [e0, e1, e2, e3]
  show am_V X 0 0 _ _ ad (21, [(0, .ref 28)], [], (g_X2_forget_47 (g_X5_clear_29 I1 G1 ) G1 ), G1, (gP rd))
  refine am_blk 21 [(.aload_n 0, 1, 0, 0, .null), (.getfield 27, 3, 4, 3, .null)] (25, [(0, .ref 28)], [.ref 49], (g_X2_forget_47 (g_X5_clear_29 I1 G1 ) G1 ), G1, (gP rd)) (True) hX hi (by decide +kernel) rfl trivial ?_
  refine am_callV hX hi (M := mX2_forget) (idx := 45) (d' := 1) (b := 49) (ci := 0) (As := []) (rest := []) mkX2_forget miX2_forget mvX2_forget (by decide +kernel) (by decide +kernel) rfl (by decide +kernel) rfl ⟨by omega, by decide, Nat.le_of_ble_eq_true rfl⟩ rfl (c_X2_forget_49 _ (g_X2_forget_47 (g_X5_clear_29 I1 G1 ) G1 ) G1 ) ?_
  rintro r9 I9 G9 P9 ⟨e0, e1, e2, e3⟩
  rw [e0, e1, e2, e3]
  show am_V X 0 0 _ _ ad (28, [(0, .ref 28)], [], (g_X2_forget_49 (g_X2_forget_47 (g_X5_clear_29 I1 G1 ) G1 ) G1 ), G1, (gP rd))
  refine am_blk 28 [(.aload_n 0, 1, 0, 0, .null), (.getfield 30, 3, 4, 4, .null)] (32, [(0, .ref 28)], [.ref 51], (g_X2_forget_49 (g_X2_forget_47 (g_X5_clear_29 I1 G1 ) G1 ) G1 ), G1, (gP rd)) (True) hX hi (by decide +kernel) rfl trivial ?_
  refine am_callV hX hi (M := mX2_forget) (idx := 45) (d' := 1) (b := 51) (ci := 0) (As := []) (rest := []) mkX2_forget miX2_forget mvX2_forget (by decide +kernel) (by decide +kernel) rfl (by decide +kernel) rfl ⟨by omega, by decide, Nat.le_of_ble_eq_true rfl⟩ rfl (c_X2_forget_51 _ (g_X2_forget_49 (g_X2_forget_47 (g_X5_clear_29 I1 G1 ) G1 ) G1 ) G1 ) ?_
  rintro r9 I9 G9 P9 ⟨e0, e1, e2, e3⟩
  rw [e0, e1, e2, e3]
  show am_V X 0 0 _ _ ad (35, [(0, .ref 28)], [], (g_X2_forget_51 (g_X2_forget_49 (g_X2_forget_47 (g_X5_clear_29 I1 G1 ) G1 ) G1 ) G1 ), G1, (gP rd))
  refine am_blk 35 [(.aload_n 0, 1, 0, 0, .null), (.iconst (0), 1, 0, 0, .int (0 : Int32)), (.putfield 48, 3, 4, 7, .null), (.aload_n 0, 1, 0, 0, .null), (.iconst (-1), 1, 0, 0, .int (-1 : Int32)), (.putfield 52, 3, 4, 8, .null), (.aload_n 0, 1, 0, 0, .null), (.iconst (0), 1, 0, 0, .int (0 : Int32)), (.putfield 55, 3, 4, 5, .null), (.aload_n 0, 1, 0, 0, .null), (.aload_n 0, 1, 0, 0, .null), (.getfield 33, 3, 4, 0, .null), (.iconst (0), 1, 0, 0, .int (0 : Int32))] (56, [(0, .ref 28)], [.int (0 : Int32), .ref 1, .ref 28], (am_up (am_up (am_up (g_X2_forget_51 (g_X2_forget_49 (g_X2_forget_47 (g_X5_clear_29 I1 G1 ) G1 ) G1 ) G1 ) 28 7 (0 : Int32)) 28 8 (-1 : Int32)) 28 5 (0 : Int32)), G1, (gP rd)) (True) hX hi (by decide +kernel) rfl trivial ?_
  refine am_callV hX hi (M := mX9_kindAt) (idx := 58) (d' := 1) (b := 1) (ci := 7) (As := [.int (0 : Int32)]) (rest := [.ref 28]) mkX9_kindAt miX9_kindAt mvX9_kindAt (by decide +kernel) (by decide +kernel) rfl (by decide +kernel) rfl ⟨by omega, by decide, Nat.le_of_ble_eq_true rfl⟩ rfl (c_X9_kindAt_1 _ (am_up (am_up (am_up (g_X2_forget_51 (g_X2_forget_49 (g_X2_forget_47 (g_X5_clear_29 I1 G1 ) G1 ) G1 ) G1 ) 28 7 (0 : Int32)) 28 8 (-1 : Int32)) 28 5 (0 : Int32)) G1 (0 : Int32)) ?_
  rintro r9 I9 G9 P9 ⟨e0, e1, e2, e3⟩
  rw [e0, e1, e2, e3]
  show am_V X 0 0 _ _ ad (59, [(0, .ref 28)], [.int (f_X9_kindAt_1 (am_up (am_up (am_up (g_X2_forget_51 (g_X2_forget_49 (g_X2_forget_47 (g_X5_clear_29 I1 G1 ) G1 ) G1 ) G1 ) 28 7 (0 : Int32)) 28 8 (-1 : Int32)) 28 5 (0 : Int32)) G1 (0 : Int32)), .ref 28], (am_up (am_up (am_up (g_X2_forget_51 (g_X2_forget_49 (g_X2_forget_47 (g_X5_clear_29 I1 G1 ) G1 ) G1 ) G1 ) 28 7 (0 : Int32)) 28 8 (-1 : Int32)) 28 5 (0 : Int32)), G1, (gP rd))
  refine am_blk 59 [(.putfield 62, 3, 4, 6, .null), (.iconst (0), 1, 0, 0, .int (0 : Int32)), (.istore_n 1, 1, 1, 0, .null)] (64, [(0, .ref 28), (1, .int (0 : Int32))], [], (am_up (am_up (am_up (am_up (g_X2_forget_51 (g_X2_forget_49 (g_X2_forget_47 (g_X5_clear_29 I1 G1 ) G1 ) G1 ) G1 ) 28 7 (0 : Int32)) 28 8 (-1 : Int32)) 28 5 (0 : Int32)) 28 6 (f_X9_kindAt_1 (am_up (am_up (am_up (g_X2_forget_51 (g_X2_forget_49 (g_X2_forget_47 (g_X5_clear_29 I1 G1 ) G1 ) G1 ) G1 ) 28 7 (0 : Int32)) 28 8 (-1 : Int32)) 28 5 (0 : Int32)) G1 (0 : Int32))), G1, (gP rd)) (True) hX hi (by decide +kernel) rfl trivial ?_
  exact (l_X6_read_28 rd hX hi FU) _ _ _ _ h
noncomputable def R_X11_teach_0 (I : am_I) (G : am_G)  : Option (Int32 × am_I × am_G) := rb (R_X6_read_28 I G ) (fun r1 I1 G1 => (if r1 = 0 then rb (R_X5_take_7_29 (am_up (am_up I1 0 6 (I1 28 8)) 1 5 (0 : Int32)) G1 ) (fun r2 I2 G2 => rb (R_X10_forget_25 I2 G2 ) (fun r3 I3 G3 => rb (R_X7_begin_53 I3 G3 ) (fun r4 I4 G4 => some (r1, I4, G4)))) else some (r1, (am_up (am_up I1 0 6 (I1 28 8)) 1 5 (0 : Int32)), G1)))
set_option maxRecDepth 20000 in
set_option maxHeartbeats 4000000 in
theorem c_X11_teach_0 (rd : Nat) (I : am_I) (G : am_G)  {out : Int32 × am_I × am_G} (h : R_X11_teach_0 I G  = some out) : am_Ct mX11_teach 51 gS [.ref 0] I G (gP rd) (pI out.1 out.2.1 out.2.2 (gP rd)) := by
  refine am_ofF (by decide +kernel) rfl (by decide) (by omega) (Nat.le_of_ble_eq_true rfl) (fun X ad hX hi => ?_)
  have hi : am_info X 9 cX11_teach 2 false (Option.some Jvm.ClassFile.FieldType.int) 51 := hi
  show am_V X 0 0 _ _ ad (0, [(0, .ref 0)], [], I, G, (gP rd))
  unfold R_X11_teach_0 at h
  refine am_blk 0 [(.aload_n 0, 1, 0, 0, .null), (.getfield 29, 3, 9, 1, .null)] (4, [(0, .ref 0)], [.ref 28], I, G, (gP rd)) (True) hX hi (by decide +kernel) rfl trivial ?_
  obtain ⟨r1, I1, G1, hc, h⟩ := rb_some h
  refine am_callV hX hi (M := mX6_read) (idx := 76) (d' := 50) (b := 28) (ci := 4) (As := []) (rest := []) mkX6_read miX6_read mvX6_read (by decide +kernel) (by decide +kernel) rfl (by decide +kernel) rfl ⟨by omega, by decide, Nat.le_of_ble_eq_true rfl⟩ rfl (c_X6_read_28 _ I G  hc) ?_
  rintro r9 I9 G9 P9 ⟨e0, e1, e2, e3⟩
  rw [e0, e1, e2, e3]
  show am_V X 0 0 _ _ ad (7, [(0, .ref 0)], [.int r1], I1, G1, (gP rd))
  refine am_blk 7 [(.istore_n 1, 1, 1, 0, .null), (.aload_n 0, 1, 0, 0, .null), (.aload_n 0, 1, 0, 0, .null), (.getfield 29, 3, 9, 1, .null), (.getfield 80, 3, 4, 8, .null), (.putfield 53, 3, 9, 6, .null), (.aload_n 0, 1, 0, 0, .null), (.getfield 20, 3, 9, 0, .null), (.iconst (0), 1, 0, 0, .int (0 : Int32)), (.putfield 57, 3, 7, 5, .null), (.iload_n 1, 1, 1, 0, .null)] (28, [(0, .ref 0), (1, .int r1)], [.int r1], (am_up (am_up I1 0 6 (I1 28 8)) 1 5 (0 : Int32)), G1, (gP rd)) (True) hX hi (by decide +kernel) rfl trivial ?_
  refine am_if_ne (tgt := 59) hX hi (off := (31)) (by decide +kernel) (by decide) (fun c28 => ?_) (fun c28 => ?_)
  · rw [if_neg c28] at h
    refine am_blk 59 [(.iload_n 1, 1, 1, 0, .null)] (60, [(0, .ref 0), (1, .int r1)], [.int r1], (am_up (am_up I1 0 6 (I1 28 8)) 1 5 (0 : Int32)), G1, (gP rd)) (True) hX hi (by decide +kernel) rfl trivial ?_
    cases h
    refine am_iret hX hi rfl rfl (by decide +kernel) ?_
    exact ⟨rfl, rfl, rfl, rfl⟩
  · rw [if_pos c28] at h
    refine am_blk 31 [(.aload_n 0, 1, 0, 0, .null), (.getfield 33, 3, 9, 2, .null), (.aload_n 0, 1, 0, 0, .null), (.getfield 29, 3, 9, 1, .null), (.getfield 81, 3, 4, 1, .null)] (42, [(0, .ref 0), (1, .int r1)], [.ref 29, .ref 7], (am_up (am_up I1 0 6 (I1 28 8)) 1 5 (0 : Int32)), G1, (gP rd)) (True) hX hi (by decide +kernel) rfl trivial ?_
    obtain ⟨r2, I2, G2, hc, h⟩ := rb_some h
    refine am_callV hX hi (M := mX5_take) (idx := 84) (d' := 4) (b := 7) (ci := 3) (As := [.ref 29]) (rest := []) mkX5_take miX5_take mvX5_take (by decide +kernel) (by decide +kernel) rfl (by decide +kernel) rfl ⟨by omega, by decide, Nat.le_of_ble_eq_true rfl⟩ rfl (c_X5_take_7_29 _ (am_up (am_up I1 0 6 (I1 28 8)) 1 5 (0 : Int32)) G1  hc) ?_
    rintro r9 I9 G9 P9 ⟨e0, e1, e2, e3⟩
    rw [e0, e1, e2, e3]
    show am_V X 0 0 _ _ ad (45, [(0, .ref 0), (1, .int r1)], [], I2, G2, (gP rd))
    refine am_blk 45 [(.aload_n 0, 1, 0, 0, .null), (.getfield 37, 3, 9, 3, .null)] (49, [(0, .ref 0), (1, .int r1)], [.ref 25], I2, G2, (gP rd)) (True) hX hi (by decide +kernel) rfl trivial ?_
    obtain ⟨r3, I3, G3, hc, h⟩ := rb_some h
    refine am_callV hX hi (M := mX10_forget) (idx := 87) (d' := 1) (b := 25) (ci := 8) (As := []) (rest := []) mkX10_forget miX10_forget mvX10_forget (by decide +kernel) (by decide +kernel) rfl (by decide +kernel) rfl ⟨by omega, by decide, Nat.le_of_ble_eq_true rfl⟩ rfl (c_X10_forget_25 _ I2 G2  hc) ?_
    rintro r9 I9 G9 P9 ⟨e0, e1, e2, e3⟩
    rw [e0, e1, e2, e3]
    show am_V X 0 0 _ _ ad (52, [(0, .ref 0), (1, .int r1)], [], I3, G3, (gP rd))
    refine am_blk 52 [(.aload_n 0, 1, 0, 0, .null), (.getfield 46, 3, 9, 4, .null)] (56, [(0, .ref 0), (1, .int r1)], [.ref 53], I3, G3, (gP rd)) (True) hX hi (by decide +kernel) rfl trivial ?_
    obtain ⟨r4, I4, G4, hc, h⟩ := rb_some h
    refine am_callV hX hi (M := mX7_begin) (idx := 90) (d' := 5) (b := 53) (ci := 5) (As := []) (rest := []) mkX7_begin miX7_begin mvX7_begin (by decide +kernel) (by decide +kernel) rfl (by decide +kernel) rfl ⟨by omega, by decide, Nat.le_of_ble_eq_true rfl⟩ rfl (c_X7_begin_53 _ I3 G3  hc) ?_
    rintro r9 I9 G9 P9 ⟨e0, e1, e2, e3⟩
    rw [e0, e1, e2, e3]
    show am_V X 0 0 _ _ ad (59, [(0, .ref 0), (1, .int r1)], [], I4, G4, (gP rd))
    refine am_blk 59 [(.iload_n 1, 1, 1, 0, .null)] (60, [(0, .ref 0), (1, .int r1)], [.int r1], I4, G4, (gP rd)) (True) hX hi (by decide +kernel) rfl trivial ?_
    cases h
    refine am_iret hX hi rfl rfl (by decide +kernel) ?_
    exact ⟨rfl, rfl, rfl, rfl⟩
