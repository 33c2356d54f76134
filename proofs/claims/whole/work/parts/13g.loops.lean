theorem am_hd136 : (1 : Nat) = 1 := rfl  -- methods with loops, and those that call them, further on
noncomputable def L_X13_dip__102 (n0 : Nat) (hd : Nat) (I : am_I) (G : am_G) (v1 : Int32) (v2 : Int32) : Option (Unit × am_I × am_G) := match n0 with
  | 0 => none
  | n + 1 => match hd with
    | _ => (if v1 ≤ v2 then some ((), I, G) else rb (R_X13_dip_102 I G ) (fun r101 I101 G101 => L_X13_dip__102 n 0 I101 G101 v1 (v2 + (1 : Int32))))
theorem L_X13_dip__102_0 (n : Nat) (I : am_I) (G : am_G) (v1 : Int32) (v2 : Int32) : L_X13_dip__102 (n + 1) 0 I G v1 v2 = (if v1 ≤ v2 then some ((), I, G) else rb (R_X13_dip_102 I G ) (fun r101 I101 G101 => L_X13_dip__102 n 0 I101 G101 v1 (v2 + (1 : Int32)))) := rfl
theorem L_X13_dip__102_z (h : Nat) (I : am_I) (G : am_G) (v1 : Int32) (v2 : Int32) : L_X13_dip__102 0 h I G v1 v2 = none := rfl
noncomputable def R_X13_dip__102 (I : am_I) (G : am_G) (x1 : Int32) : Option (Unit × am_I × am_G) := L_X13_dip__102 FU 0 I G x1 (0 : Int32)
set_option maxRecDepth 20000 in
set_option maxHeartbeats 4000000 in
theorem l_X13_dip__102 (rd : Nat) {X : am_X} {ad : Nat → Nat} (hX : am_okz X ad) (hi : am_info X 11 cX13_dip_ 3 false (Option.some (Jvm.ClassFile.FieldType.object "MarbledPaperModel$State")) 15) (n : Nat) : (∀ (I : am_I) (G : am_G) (v1 : Int32) (v2 : Int32) (out : Unit × am_I × am_G), L_X13_dip__102 n 0 I G v1 v2 = some out → am_V X 0 0 (am_Rt X gS ad (pR 102 out.2.1 out.2.2 (gP rd))) gS ad (2, [(0, .ref 102), (1, .int v1), (2, .int v2)], [], I, G, (gP rd))) := by
  induction n with
  | zero => exact fun I G v1 v2 out h => by rw [L_X13_dip__102_z] at h; cases h
  | succ n ih =>
    · intro I G v1 v2 out h
      rw [L_X13_dip__102_0] at h
      refine am_blk 2 [(.iload_n 2, 1, 2, 0, .null), (.iload_n 1, 1, 1, 0, .null)] (4, [(0, .ref 102), (1, .int v1), (2, .int v2)], [.int v1, .int v2], I, G, (gP rd)) (True) hX hi (by decide +kernel) rfl trivial ?_
      refine am_icmp_ge (tgt := 17) hX hi (off := (13)) (by decide +kernel) (by decide) (fun c4 => ?_) (fun c4 => ?_)
      · rw [if_pos c4] at h
        refine am_blk 17 [(.aload_n 0, 1, 0, 0, .null)] (18, [(0, .ref 102), (1, .int v1), (2, .int v2)], [.ref 102], I, G, (gP rd)) (True) hX hi (by decide +kernel) rfl trivial ?_
        cases h
        refine am_aret hX hi rfl (by decide +kernel) ?_
        exact ⟨rfl, rfl, rfl, rfl⟩
      · rw [if_neg c4] at h
        refine am_blk 7 [(.aload_n 0, 1, 0, 0, .null)] (8, [(0, .ref 102), (1, .int v1), (2, .int v2)], [.ref 102], I, G, (gP rd)) (True) hX hi (by decide +kernel) rfl trivial ?_
        obtain ⟨r101, I101, G101, hc, h⟩ := rb_some h
        refine am_callV hX hi (M := mX13_dip) (idx := 225) (d' := 14) (b := 102) (ci := 11) (As := []) (rest := []) mkX13_dip miX13_dip mvX13_dip (by decide +kernel) (by decide +kernel) rfl (by decide +kernel) rfl ⟨by omega, by decide, Nat.le_of_ble_eq_true rfl⟩ rfl (c_X13_dip_102 _ I G  hc) ?_
        rintro r9 I9 G9 P9 ⟨e0, e1, e2, e3⟩
        rw [e0, e1, e2, e3]
        show am_V X 0 0 _ _ ad (11, [(0, .ref 102), (1, .int v1), (2, .int v2)], [], I101, G101, (gP rd))
        refine am_blk 11 [(.iinc 2 (1), 3, 2, 0, .int (1 : Int32)), (.goto (-12), 3, 0, 2, .null)] (2, [(0, .ref 102), (1, .int v1), (2, .int (v2 + (1 : Int32)))], [], I101, G101, (gP rd)) (True) hX hi (by decide +kernel) rfl trivial ?_
        exact ih _ _ _ _ _ h
set_option maxRecDepth 20000 in
set_option maxHeartbeats 4000000 in
theorem c_X13_dip__102 (rd : Nat) (I : am_I) (G : am_G) (x1 : Int32) {out : Unit × am_I × am_G} (h : R_X13_dip__102 I G x1 = some out) : am_Ct mX13_dip_ 15 gS [.ref 102, .int x1] I G (gP rd) (pR 102 out.2.1 out.2.2 (gP rd)) := by
  refine am_ofF (by decide +kernel) rfl (by decide) (by omega) (Nat.le_of_ble_eq_true rfl) (fun X ad hX hi => ?_)
  have hi : am_info X 11 cX13_dip_ 3 false (Option.some (Jvm.ClassFile.FieldType.object "MarbledPaperModel$State")) 15 := hi
  show am_V X 0 0 _ _ ad (0, [(0, .ref 102), (1, .int x1)], [], I, G, (gP rd))
  unfold R_X13_dip__102 at h
  refine am_blk 0 [(.iconst (0), 1, 0, 0, .int (0 : Int32)), (.istore_n 2, 1, 2, 0, .null)] (2, [(0, .ref 102), (1, .int x1), (2, .int (0 : Int32))], [], I, G, (gP rd)) (True) hX hi (by decide +kernel) rfl trivial ?_
  exact (l_X13_dip__102 rd hX hi FU) _ _ _ _ _ h
noncomputable def L_X13_dip__112 (n0 : Nat) (hd : Nat) (I : am_I) (G : am_G) (v1 : Int32) (v2 : Int32) : Option (Unit × am_I × am_G) := match n0 with
  | 0 => none
  | n + 1 => match hd with
    | _ => (if v1 ≤ v2 then some ((), I, G) else rb (R_X13_dip_112 I G ) (fun r101 I101 G101 => L_X13_dip__112 n 0 I101 G101 v1 (v2 + (1 : Int32))))
theorem L_X13_dip__112_0 (n : Nat) (I : am_I) (G : am_G) (v1 : Int32) (v2 : Int32) : L_X13_dip__112 (n + 1) 0 I G v1 v2 = (if v1 ≤ v2 then some ((), I, G) else rb (R_X13_dip_112 I G ) (fun r101 I101 G101 => L_X13_dip__112 n 0 I101 G101 v1 (v2 + (1 : Int32)))) := rfl
theorem L_X13_dip__112_z (h : Nat) (I : am_I) (G : am_G) (v1 : Int32) (v2 : Int32) : L_X13_dip__112 0 h I G v1 v2 = none := rfl
noncomputable def R_X13_dip__112 (I : am_I) (G : am_G) (x1 : Int32) : Option (Unit × am_I × am_G) := L_X13_dip__112 FU 0 I G x1 (0 : Int32)
set_option maxRecDepth 20000 in
set_option maxHeartbeats 4000000 in
theorem l_X13_dip__112 (rd : Nat) {X : am_X} {ad : Nat → Nat} (hX : am_okz X ad) (hi : am_info X 11 cX13_dip_ 3 false (Option.some (Jvm.ClassFile.FieldType.object "MarbledPaperModel$State")) 15) (n : Nat) : (∀ (I : am_I) (G : am_G) (v1 : Int32) (v2 : Int32) (out : Unit × am_I × am_G), L_X13_dip__112 n 0 I G v1 v2 = some out → am_V X 0 0 (am_Rt X gS ad (pR 112 out.2.1 out.2.2 (gP rd))) gS ad (2, [(0, .ref 112), (1, .int v1), (2, .int v2)], [], I, G, (gP rd))) := by
  induction n with
  | zero => exact fun I G v1 v2 out h => by rw [L_X13_dip__112_z] at h; cases h
  | succ n ih =>
    · intro I G v1 v2 out h
      rw [L_X13_dip__112_0] at h
      refine am_blk 2 [(.iload_n 2, 1, 2, 0, .null), (.iload_n 1, 1, 1, 0, .null)] (4, [(0, .ref 112), (1, .int v1), (2, .int v2)], [.int v1, .int v2], I, G, (gP rd)) (True) hX hi (by decide +kernel) rfl trivial ?_
      refine am_icmp_ge (tgt := 17) hX hi (off := (13)) (by decide +kernel) (by decide) (fun c4 => ?_) (fun c4 => ?_)
      · rw [if_pos c4] at h
        refine am_blk 17 [(.aload_n 0, 1, 0, 0, .null)] (18, [(0, .ref 112), (1, .int v1), (2, .int v2)], [.ref 112], I, G, (gP rd)) (True) hX hi (by decide +kernel) rfl trivial ?_
        cases h
        refine am_aret hX hi rfl (by decide +kernel) ?_
        exact ⟨rfl, rfl, rfl, rfl⟩
      · rw [if_neg c4] at h
        refine am_blk 7 [(.aload_n 0, 1, 0, 0, .null)] (8, [(0, .ref 112), (1, .int v1), (2, .int v2)], [.ref 112], I, G, (gP rd)) (True) hX hi (by decide +kernel) rfl trivial ?_
        obtain ⟨r101, I101, G101, hc, h⟩ := rb_some h
        refine am_callV hX hi (M := mX13_dip) (idx := 225) (d' := 14) (b := 112) (ci := 11) (As := []) (rest := []) mkX13_dip miX13_dip mvX13_dip (by decide +kernel) (by decide +kernel) rfl (by decide +kernel) rfl ⟨by omega, by decide, Nat.le_of_ble_eq_true rfl⟩ rfl (c_X13_dip_112 _ I G  hc) ?_
        rintro r9 I9 G9 P9 ⟨e0, e1, e2, e3⟩
        rw [e0, e1, e2, e3]
        show am_V X 0 0 _ _ ad (11, [(0, .ref 112), (1, .int v1), (2, .int v2)], [], I101, G101, (gP rd))
        refine am_blk 11 [(.iinc 2 (1), 3, 2, 0, .int (1 : Int32)), (.goto (-12), 3, 0, 2, .null)] (2, [(0, .ref 112), (1, .int v1), (2, .int (v2 + (1 : Int32)))], [], I101, G101, (gP rd)) (True) hX hi (by decide +kernel) rfl trivial ?_
        exact ih _ _ _ _ _ h
set_option maxRecDepth 20000 in
set_option maxHeartbeats 4000000 in
theorem c_X13_dip__112 (rd : Nat) (I : am_I) (G : am_G) (x1 : Int32) {out : Unit × am_I × am_G} (h : R_X13_dip__112 I G x1 = some out) : am_Ct mX13_dip_ 15 gS [.ref 112, .int x1] I G (gP rd) (pR 112 out.2.1 out.2.2 (gP rd)) := by
  refine am_ofF (by decide +kernel) rfl (by decide) (by omega) (Nat.le_of_ble_eq_true rfl) (fun X ad hX hi => ?_)
  have hi : am_info X 11 cX13_dip_ 3 false (Option.some (Jvm.ClassFile.FieldType.object "MarbledPaperModel$State")) 15 := hi
  show am_V X 0 0 _ _ ad (0, [(0, .ref 112), (1, .int x1)], [], I, G, (gP rd))
  unfold R_X13_dip__112 at h
  refine am_blk 0 [(.iconst (0), 1, 0, 0, .int (0 : Int32)), (.istore_n 2, 1, 2, 0, .null)] (2, [(0, .ref 112), (1, .int x1), (2, .int (0 : Int32))], [], I, G, (gP rd)) (True) hX hi (by decide +kernel) rfl trivial ?_
  exact (l_X13_dip__112 rd hX hi FU) _ _ _ _ _ h
noncomputable def R_X14_dip_79 (I : am_I) (G : am_G) (x1 : Int32) : Option (Int32 × am_I × am_G) := (if (f_X14_isIn (am_up I 79 0 (0 : Int32)) G x1 (1 : Int32) (20 : Int32)) = 0 then some ((f_X14_no_79 (am_up I 79 0 (0 : Int32)) G (1 : Int32)), (g_X14_no_79 (am_up I 79 0 (0 : Int32)) G (1 : Int32)), G) else rb (R_X13_dip__102 (am_up I 79 0 (0 : Int32)) G x1) (fun r1 I1 G1 => some (((I1 102 1) - (I 102 1)), I1, G1)))
set_option maxRecDepth 20000 in
set_option maxHeartbeats 4000000 in
theorem c_X14_dip_79 (rd : Nat) (I : am_I) (G : am_G) (x1 : Int32) {out : Int32 × am_I × am_G} (h : R_X14_dip_79 I G x1 = some out) : am_Ct mX14_dip 16 gS [.ref 79, .int x1] I G (gP rd) (pI out.1 out.2.1 out.2.2 (gP rd)) := by
  refine am_ofF (by decide +kernel) rfl (by decide) (by omega) (Nat.le_of_ble_eq_true rfl) (fun X ad hX hi => ?_)
  have hi : am_info X 12 cX14_dip 3 false (Option.some Jvm.ClassFile.FieldType.int) 16 := hi
  show am_V X 0 0 _ _ ad (0, [(0, .ref 79), (1, .int x1)], [], I, G, (gP rd))
  unfold R_X14_dip_79 at h
  refine am_blk 0 [(.aload_n 0, 1, 0, 0, .null), (.iconst (0), 1, 0, 0, .int (0 : Int32)), (.putfield 57, 3, 12, 0, .null), (.iload_n 1, 1, 1, 0, .null), (.iconst (1), 1, 0, 0, .int (1 : Int32)), (.bipush (20), 2, 0, 0, .int (20 : Int32))] (9, [(0, .ref 79), (1, .int x1)], [.int (20 : Int32), .int (1 : Int32), .int x1], (am_up I 79 0 (0 : Int32)), G, (gP rd)) (True) hX hi (by decide +kernel) rfl trivial ?_
  refine am_callS hX hi (M := mX14_isIn) (idx := 63) (d' := 1) (As := [.int x1, .int (1 : Int32), .int (20 : Int32)]) (rest := []) mkX14_isIn msX14_isIn (by decide +kernel) (by decide +kernel) rfl ⟨by omega, by decide, Nat.le_of_ble_eq_true rfl⟩ rfl (c_X14_isIn (am_up I 79 0 (0 : Int32)) G x1 (1 : Int32) (20 : Int32)) ?_
  rintro r9 I9 G9 P9 ⟨e0, e1, e2, e3⟩
  rw [e0, e1, e2, e3]
  show am_V X 0 0 _ _ ad (12, [(0, .ref 79), (1, .int x1)], [.int (f_X14_isIn (am_up I 79 0 (0 : Int32)) G x1 (1 : Int32) (20 : Int32))], (am_up I 79 0 (0 : Int32)), G, (gP rd))
  refine am_if_ne (tgt := 21) hX hi (off := (9)) (by decide +kernel) (by decide) (fun c12 => ?_) (fun c12 => ?_)
  · rw [if_neg c12] at h
    refine am_blk 21 [(.aload_n 0, 1, 0, 0, .null), (.getfield 47, 3, 12, 13, .null), (.getfield 388, 3, 11, 1, .null), (.istore_n 2, 1, 2, 0, .null), (.aload_n 0, 1, 0, 0, .null), (.getfield 47, 3, 12, 13, .null), (.iload_n 1, 1, 1, 0, .null)] (34, [(0, .ref 79), (1, .int x1), (2, .int (I 102 1))], [.int x1, .ref 102], (am_up I 79 0 (0 : Int32)), G, (gP rd)) (True) hX hi (by decide +kernel) rfl trivial ?_
    obtain ⟨r1, I1, G1, hc, h⟩ := rb_some h
    refine am_callV hX hi (M := mX13_dip_) (idx := 391) (d' := 15) (b := 102) (ci := 11) (As := [.int x1]) (rest := []) mkX13_dip_ miX13_dip_ mvX13_dip_ (by decide +kernel) (by decide +kernel) rfl (by decide +kernel) rfl ⟨by omega, by decide, Nat.le_of_ble_eq_true rfl⟩ rfl (c_X13_dip__102 _ (am_up I 79 0 (0 : Int32)) G x1 hc) ?_
    rintro r9 I9 G9 P9 ⟨e0, e1, e2, e3⟩
    rw [e0, e1, e2, e3]
    show am_V X 0 0 _ _ ad (37, [(0, .ref 79), (1, .int x1), (2, .int (I 102 1))], [.ref 102], I1, G1, (gP rd))
    refine am_blk 37 [(.getfield 388, 3, 11, 1, .null), (.iload_n 2, 1, 2, 0, .null), (.isub, 1, 0, 0, .null)] (42, [(0, .ref 79), (1, .int x1), (2, .int (I 102 1))], [.int ((I1 102 1) - (I 102 1))], I1, G1, (gP rd)) (True) hX hi (by decide +kernel) rfl trivial ?_
    cases h
    refine am_iret hX hi rfl rfl (by decide +kernel) ?_
    exact ⟨rfl, rfl, rfl, rfl⟩
  · rw [if_pos c12] at h
    refine am_blk 15 [(.aload_n 0, 1, 0, 0, .null), (.iconst (1), 1, 0, 0, .int (1 : Int32))] (17, [(0, .ref 79), (1, .int x1)], [.int (1 : Int32), .ref 79], (am_up I 79 0 (0 : Int32)), G, (gP rd)) (True) hX hi (by decide +kernel) rfl trivial ?_
    refine am_callV hX hi (M := mX14_no) (idx := 316) (d' := 1) (b := 79) (ci := 12) (As := [.int (1 : Int32)]) (rest := []) mkX14_no miX14_no mvX14_no (by decide +kernel) (by decide +kernel) rfl (by decide +kernel) rfl ⟨by omega, by decide, Nat.le_of_ble_eq_true rfl⟩ rfl (c_X14_no_79 _ (am_up I 79 0 (0 : Int32)) G (1 : Int32)) ?_
    rintro r9 I9 G9 P9 ⟨e0, e1, e2, e3⟩
    rw [e0, e1, e2, e3]
    show am_V X 0 0 _ _ ad (20, [(0, .ref 79), (1, .int x1)], [.int (f_X14_no_79 (am_up I 79 0 (0 : Int32)) G (1 : Int32))], (g_X14_no_79 (am_up I 79 0 (0 : Int32)) G (1 : Int32)), G, (gP rd))
    cases h
    refine am_iret hX hi rfl rfl (by decide +kernel) ?_
    exact ⟨rfl, rfl, rfl, rfl⟩
noncomputable def R_X14_foresee_79 (I : am_I) (G : am_G) (x1 : Int32) (x2 : Int32) : Option (Int32 × am_I × am_G) := (if (f_X14_isIn (am_up I 79 0 (0 : Int32)) G x1 (1 : Int32) (20 : Int32)) = 0 then some ((f_X14_no_79 (am_up I 79 0 (0 : Int32)) G (1 : Int32)), (g_X14_no_79 (am_up I 79 0 (0 : Int32)) G (1 : Int32)), G) else (if (f_X14_isIn (am_up I 79 0 (0 : Int32)) G x2 (7 : Int32) (13 : Int32)) = 0 then some ((f_X14_no_79 (am_up I 79 0 (0 : Int32)) G (2 : Int32)), (g_X14_no_79 (am_up I 79 0 (0 : Int32)) G (2 : Int32)), G) else rb (R_X13_become_112_102 (am_up I 79 0 (0 : Int32)) G ) (fun r1 I1 G1 => rb (R_X13_dip__112 I1 G1 x1) (fun r2 I2 G2 => rb (R_X13_counted_112 I2 G2 x2) (fun r3 I3 G3 => some (r3, I3, G3))))))
set_option maxRecDepth 20000 in
set_option maxHeartbeats 4000000 in
theorem c_X14_foresee_79 (rd : Nat) (I : am_I) (G : am_G) (x1 : Int32) (x2 : Int32) {out : Int32 × am_I × am_G} (h : R_X14_foresee_79 I G x1 x2 = some out) : am_Ct mX14_foresee 16 gS [.ref 79, .int x1, .int x2] I G (gP rd) (pI out.1 out.2.1 out.2.2 (gP rd)) := by
  refine am_ofF (by decide +kernel) rfl (by decide) (by omega) (Nat.le_of_ble_eq_true rfl) (fun X ad hX hi => ?_)
  have hi : am_info X 12 cX14_foresee 3 false (Option.some Jvm.ClassFile.FieldType.int) 16 := hi
  show am_V X 0 0 _ _ ad (0, [(0, .ref 79), (1, .int x1), (2, .int x2)], [], I, G, (gP rd))
  unfold R_X14_foresee_79 at h
  refine am_blk 0 [(.aload_n 0, 1, 0, 0, .null), (.iconst (0), 1, 0, 0, .int (0 : Int32)), (.putfield 57, 3, 12, 0, .null), (.iload_n 1, 1, 1, 0, .null), (.iconst (1), 1, 0, 0, .int (1 : Int32)), (.bipush (20), 2, 0, 0, .int (20 : Int32))] (9, [(0, .ref 79), (1, .int x1), (2, .int x2)], [.int (20 : Int32), .int (1 : Int32), .int x1], (am_up I 79 0 (0 : Int32)), G, (gP rd)) (True) hX hi (by decide +kernel) rfl trivial ?_
  refine am_callS hX hi (M := mX14_isIn) (idx := 63) (d' := 1) (As := [.int x1, .int (1 : Int32), .int (20 : Int32)]) (rest := []) mkX14_isIn msX14_isIn (by decide +kernel) (by decide +kernel) rfl ⟨by omega, by decide, Nat.le_of_ble_eq_true rfl⟩ rfl (c_X14_isIn (am_up I 79 0 (0 : Int32)) G x1 (1 : Int32) (20 : Int32)) ?_
  rintro r9 I9 G9 P9 ⟨e0, e1, e2, e3⟩
  rw [e0, e1, e2, e3]
  show am_V X 0 0 _ _ ad (12, [(0, .ref 79), (1, .int x1), (2, .int x2)], [.int (f_X14_isIn (am_up I 79 0 (0 : Int32)) G x1 (1 : Int32) (20 : Int32))], (am_up I 79 0 (0 : Int32)), G, (gP rd))
  refine am_if_ne (tgt := 21) hX hi (off := (9)) (by decide +kernel) (by decide) (fun c12 => ?_) (fun c12 => ?_)
  · rw [if_neg c12] at h
    refine am_blk 21 [(.iload_n 2, 1, 2, 0, .null), (.bipush (7), 2, 0, 0, .int (7 : Int32)), (.bipush (13), 2, 0, 0, .int (13 : Int32))] (26, [(0, .ref 79), (1, .int x1), (2, .int x2)], [.int (13 : Int32), .int (7 : Int32), .int x2], (am_up I 79 0 (0 : Int32)), G, (gP rd)) (True) hX hi (by decide +kernel) rfl trivial ?_
    refine am_callS hX hi (M := mX14_isIn) (idx := 63) (d' := 1) (As := [.int x2, .int (7 : Int32), .int (13 : Int32)]) (rest := []) mkX14_isIn msX14_isIn (by decide +kernel) (by decide +kernel) rfl ⟨by omega, by decide, Nat.le_of_ble_eq_true rfl⟩ rfl (c_X14_isIn (am_up I 79 0 (0 : Int32)) G x2 (7 : Int32) (13 : Int32)) ?_
    rintro r9 I9 G9 P9 ⟨e0, e1, e2, e3⟩
    rw [e0, e1, e2, e3]
    show am_V X 0 0 _ _ ad (29, [(0, .ref 79), (1, .int x1), (2, .int x2)], [.int (f_X14_isIn (am_up I 79 0 (0 : Int32)) G x2 (7 : Int32) (13 : Int32))], (am_up I 79 0 (0 : Int32)), G, (gP rd))
    refine am_if_eq (tgt := 54) hX hi (off := (25)) (by decide +kernel) (by decide) (fun c29 => ?_) (fun c29 => ?_)
    · rw [if_pos c29] at h
      refine am_blk 54 [(.aload_n 0, 1, 0, 0, .null), (.iconst (2), 1, 0, 0, .int (2 : Int32))] (56, [(0, .ref 79), (1, .int x1), (2, .int x2)], [.int (2 : Int32), .ref 79], (am_up I 79 0 (0 : Int32)), G, (gP rd)) (True) hX hi (by decide +kernel) rfl trivial ?_
      refine am_callV hX hi (M := mX14_no) (idx := 316) (d' := 1) (b := 79) (ci := 12) (As := [.int (2 : Int32)]) (rest := []) mkX14_no miX14_no mvX14_no (by decide +kernel) (by decide +kernel) rfl (by decide +kernel) rfl ⟨by omega, by decide, Nat.le_of_ble_eq_true rfl⟩ rfl (c_X14_no_79 _ (am_up I 79 0 (0 : Int32)) G (2 : Int32)) ?_
      rintro r9 I9 G9 P9 ⟨e0, e1, e2, e3⟩
      rw [e0, e1, e2, e3]
      show am_V X 0 0 _ _ ad (59, [(0, .ref 79), (1, .int x1), (2, .int x2)], [.int (f_X14_no_79 (am_up I 79 0 (0 : Int32)) G (2 : Int32))], (g_X14_no_79 (am_up I 79 0 (0 : Int32)) G (2 : Int32)), G, (gP rd))
      cases h
      refine am_iret hX hi rfl rfl (by decide +kernel) ?_
      exact ⟨rfl, rfl, rfl, rfl⟩
    · rw [if_neg c29] at h
      refine am_blk 32 [(.aload_n 0, 1, 0, 0, .null), (.getfield 51, 3, 12, 14, .null), (.aload_n 0, 1, 0, 0, .null), (.getfield 47, 3, 12, 13, .null)] (40, [(0, .ref 79), (1, .int x1), (2, .int x2)], [.ref 102, .ref 112], (am_up I 79 0 (0 : Int32)), G, (gP rd)) (True) hX hi (by decide +kernel) rfl trivial ?_
      obtain ⟨r1, I1, G1, hc, h⟩ := rb_some h
      refine am_callV hX hi (M := mX13_become) (idx := 395) (d' := 2) (b := 112) (ci := 11) (As := [.ref 102]) (rest := []) mkX13_become miX13_become mvX13_become (by decide +kernel) (by decide +kernel) rfl (by decide +kernel) rfl ⟨by omega, by decide, Nat.le_of_ble_eq_true rfl⟩ rfl (c_X13_become_112_102 _ (am_up I 79 0 (0 : Int32)) G  hc) ?_
      rintro r9 I9 G9 P9 ⟨e0, e1, e2, e3⟩
      rw [e0, e1, e2, e3]
      show am_V X 0 0 _ _ ad (43, [(0, .ref 79), (1, .int x1), (2, .int x2)], [.ref 112], I1, G1, (gP rd))
      refine am_blk 43 [(.iload_n 1, 1, 1, 0, .null)] (44, [(0, .ref 79), (1, .int x1), (2, .int x2)], [.int x1, .ref 112], I1, G1, (gP rd)) (True) hX hi (by decide +kernel) rfl trivial ?_
      obtain ⟨r2, I2, G2, hc, h⟩ := rb_some h
      refine am_callV hX hi (M := mX13_dip_) (idx := 391) (d' := 15) (b := 112) (ci := 11) (As := [.int x1]) (rest := []) mkX13_dip_ miX13_dip_ mvX13_dip_ (by decide +kernel) (by decide +kernel) rfl (by decide +kernel) rfl ⟨by omega, by decide, Nat.le_of_ble_eq_true rfl⟩ rfl (c_X13_dip__112 _ I1 G1 x1 hc) ?_
      rintro r9 I9 G9 P9 ⟨e0, e1, e2, e3⟩
      rw [e0, e1, e2, e3]
      show am_V X 0 0 _ _ ad (47, [(0, .ref 79), (1, .int x1), (2, .int x2)], [.ref 112], I2, G2, (gP rd))
      refine am_blk 47 [(.iload_n 2, 1, 2, 0, .null)] (48, [(0, .ref 79), (1, .int x1), (2, .int x2)], [.int x2, .ref 112], I2, G2, (gP rd)) (True) hX hi (by decide +kernel) rfl trivial ?_
      obtain ⟨r3, I3, G3, hc, h⟩ := rb_some h
      refine am_callV hX hi (M := mX13_counted) (idx := 322) (d' := 12) (b := 112) (ci := 11) (As := [.int x2]) (rest := []) mkX13_counted miX13_counted mvX13_counted (by decide +kernel) (by decide +kernel) rfl (by decide +kernel) rfl ⟨by omega, by decide, Nat.le_of_ble_eq_true rfl⟩ rfl (c_X13_counted_112 _ I2 G2 x2 hc) ?_
      rintro r9 I9 G9 P9 ⟨e0, e1, e2, e3⟩
      rw [e0, e1, e2, e3]
      show am_V X 0 0 _ _ ad (51, [(0, .ref 79), (1, .int x1), (2, .int x2)], [.int r3], I3, G3, (gP rd))
      refine am_blk 51 [(.goto (8), 3, 0, 59, .null)] (59, [(0, .ref 79), (1, .int x1), (2, .int x2)], [.int r3], I3, G3, (gP rd)) (True) hX hi (by decide +kernel) rfl trivial ?_
      cases h
      refine am_iret hX hi rfl rfl (by decide +kernel) ?_
      exact ⟨rfl, rfl, rfl, rfl⟩
  · rw [if_pos c12] at h
    refine am_blk 15 [(.aload_n 0, 1, 0, 0, .null), (.iconst (1), 1, 0, 0, .int (1 : Int32))] (17, [(0, .ref 79), (1, .int x1), (2, .int x2)], [.int (1 : Int32), .ref 79], (am_up I 79 0 (0 : Int32)), G, (gP rd)) (True) hX hi (by decide +kernel) rfl trivial ?_
    refine am_callV hX hi (M := mX14_no) (idx := 316) (d' := 1) (b := 79) (ci := 12) (As := [.int (1 : Int32)]) (rest := []) mkX14_no miX14_no mvX14_no (by decide +kernel) (by decide +kernel) rfl (by decide +kernel) rfl ⟨by omega, by decide, Nat.le_of_ble_eq_true rfl⟩ rfl (c_X14_no_79 _ (am_up I 79 0 (0 : Int32)) G (1 : Int32)) ?_
    rintro r9 I9 G9 P9 ⟨e0, e1, e2, e3⟩
    rw [e0, e1, e2, e3]
    show am_V X 0 0 _ _ ad (20, [(0, .ref 79), (1, .int x1), (2, .int x2)], [.int (f_X14_no_79 (am_up I 79 0 (0 : Int32)) G (1 : Int32))], (g_X14_no_79 (am_up I 79 0 (0 : Int32)) G (1 : Int32)), G, (gP rd))
    cases h
    refine am_iret hX hi rfl rfl (by decide +kernel) ?_
    exact ⟨rfl, rfl, rfl, rfl⟩
noncomputable def L_X14_until_79 (n0 : Nat) (hd : Nat) (I : am_I) (G : am_G) (v1 : Int32) (v2 : Int32) (v3 : Int32) (v4 : Int32) : Option (Int32 × am_I × am_G) := match n0 with
  | 0 => none
  | n + 1 => match hd with
    | _ => (if (20 : Int32) < v4 then some ((-1 : Int32), I, G) else rg (q_X12_spot_86 I G v1 v2) (rb (R_X13_ink_112 I G (f_X12_spot_86 I G v1 v2)) (fun r101 I101 G101 => (if r101 = v3 then some (v4, I101, G101) else rb (R_X13_dip_112 I101 G101 ) (fun r102 I102 G102 => L_X14_until_79 n 0 I102 G102 v1 v2 v3 (v4 + (1 : Int32)))))))
theorem L_X14_until_79_0 (n : Nat) (I : am_I) (G : am_G) (v1 : Int32) (v2 : Int32) (v3 : Int32) (v4 : Int32) : L_X14_until_79 (n + 1) 0 I G v1 v2 v3 v4 = (if (20 : Int32) < v4 then some ((-1 : Int32), I, G) else rg (q_X12_spot_86 I G v1 v2) (rb (R_X13_ink_112 I G (f_X12_spot_86 I G v1 v2)) (fun r101 I101 G101 => (if r101 = v3 then some (v4, I101, G101) else rb (R_X13_dip_112 I101 G101 ) (fun r102 I102 G102 => L_X14_until_79 n 0 I102 G102 v1 v2 v3 (v4 + (1 : Int32))))))) := rfl
theorem L_X14_until_79_z (h : Nat) (I : am_I) (G : am_G) (v1 : Int32) (v2 : Int32) (v3 : Int32) (v4 : Int32) : L_X14_until_79 0 h I G v1 v2 v3 v4 = none := rfl
noncomputable def R_X14_until_79 (I : am_I) (G : am_G) (x1 : Int32) (x2 : Int32) (x3 : Int32) : Option (Int32 × am_I × am_G) := rb (R_X14_isInk_79 (am_up I 79 0 (0 : Int32)) G x3) (fun r1 I1 G1 => (if r1 = 0 then some ((f_X14_no_79 I1 G1 (1 : Int32)), (g_X14_no_79 I1 G1 (1 : Int32)), G1) else rb (R_X13_become_112_102 I1 G1 ) (fun r2 I2 G2 => L_X14_until_79 FU 0 I2 G2 x1 x2 x3 (0 : Int32))))
set_option maxRecDepth 20000 in
set_option maxHeartbeats 4000000 in
theorem l_X14_until_79 (rd : Nat) {X : am_X} {ad : Nat → Nat} (hX : am_okz X ad) (hi : am_info X 12 cX14_until 5 false (Option.some Jvm.ClassFile.FieldType.int) 15) (n : Nat) : (∀ (I : am_I) (G : am_G) (v1 : Int32) (v2 : Int32) (v3 : Int32) (v4 : Int32) (out : Int32 × am_I × am_G), L_X14_until_79 n 0 I G v1 v2 v3 v4 = some out → am_V X 0 0 (am_Rt X gS ad (pI out.1 out.2.1 out.2.2 (gP rd))) gS ad (34, [(0, .ref 79), (1, .int v1), (2, .int v2), (3, .int v3), (4, .int v4)], [], I, G, (gP rd))) := by
  induction n with
  | zero => exact fun I G v1 v2 v3 v4 out h => by rw [L_X14_until_79_z] at h; cases h
  | succ n ih =>
    · intro I G v1 v2 v3 v4 out h
      rw [L_X14_until_79_0] at h
      refine am_blk 34 [(.iload 4, 2, 4, 0, .null), (.bipush (20), 2, 0, 0, .int (20 : Int32))] (38, [(0, .ref 79), (1, .int v1), (2, .int v2), (3, .int v3), (4, .int v4)], [.int (20 : Int32), .int v4], I, G, (gP rd)) (True) hX hi (by decide +kernel) rfl trivial ?_
      refine am_icmp_gt (tgt := 77) hX hi (off := (39)) (by decide +kernel) (by decide) (fun c38 => ?_) (fun c38 => ?_)
      · rw [if_pos c38] at h
        refine am_blk 77 [(.iconst (-1), 1, 0, 0, .int (-1 : Int32))] (78, [(0, .ref 79), (1, .int v1), (2, .int v2), (3, .int v3), (4, .int v4)], [.int (-1 : Int32)], I, G, (gP rd)) (True) hX hi (by decide +kernel) rfl trivial ?_
        cases h
        refine am_iret hX hi rfl rfl (by decide +kernel) ?_
        exact ⟨rfl, rfl, rfl, rfl⟩
      · rw [if_neg c38] at h
        refine am_blk 41 [(.aload_n 0, 1, 0, 0, .null), (.getfield 51, 3, 12, 14, .null), (.aload_n 0, 1, 0, 0, .null), (.getfield 35, 3, 12, 11, .null), (.iload_n 1, 1, 1, 0, .null), (.iload_n 2, 1, 2, 0, .null)] (51, [(0, .ref 79), (1, .int v1), (2, .int v2), (3, .int v3), (4, .int v4)], [.int v2, .int v1, .ref 86, .ref 112], I, G, (gP rd)) (True) hX hi (by decide +kernel) rfl trivial ?_
        obtain ⟨hq1, h⟩ := rg_some h
        refine am_callV hX hi (M := mX12_spot) (idx := 329) (d' := 2) (b := 86) (ci := 10) (As := [.int v1, .int v2]) (rest := [.ref 112]) mkX12_spot miX12_spot mvX12_spot (by decide +kernel) (by decide +kernel) rfl (by decide +kernel) rfl ⟨by omega, by decide, Nat.le_of_ble_eq_true rfl⟩ rfl (c_X12_spot_86 _ I G v1 v2 hq1) ?_
        rintro r9 I9 G9 P9 ⟨e0, e1, e2, e3⟩
        rw [e0, e1, e2, e3]
        show am_V X 0 0 _ _ ad (54, [(0, .ref 79), (1, .int v1), (2, .int v2), (3, .int v3), (4, .int v4)], [.int (f_X12_spot_86 I G v1 v2), .ref 112], I, G, (gP rd))
        obtain ⟨r101, I101, G101, hc, h⟩ := rb_some h
        refine am_callV hX hi (M := mX13_ink) (idx := 335) (d' := 9) (b := 112) (ci := 11) (As := [.int (f_X12_spot_86 I G v1 v2)]) (rest := []) mkX13_ink miX13_ink mvX13_ink (by decide +kernel) (by decide +kernel) rfl (by decide +kernel) rfl ⟨by omega, by decide, Nat.le_of_ble_eq_true rfl⟩ rfl (c_X13_ink_112 _ I G (f_X12_spot_86 I G v1 v2) hc) ?_
        rintro r9 I9 G9 P9 ⟨e0, e1, e2, e3⟩
        rw [e0, e1, e2, e3]
        show am_V X 0 0 _ _ ad (57, [(0, .ref 79), (1, .int v1), (2, .int v2), (3, .int v3), (4, .int v4)], [.int r101], I101, G101, (gP rd))
        refine am_blk 57 [(.iload_n 3, 1, 3, 0, .null)] (58, [(0, .ref 79), (1, .int v1), (2, .int v2), (3, .int v3), (4, .int v4)], [.int v3, .int r101], I101, G101, (gP rd)) (True) hX hi (by decide +kernel) rfl trivial ?_
        refine am_icmp_ne (tgt := 64) hX hi (off := (6)) (by decide +kernel) (by decide) (fun c58 => ?_) (fun c58 => ?_)
        · rw [if_neg c58] at h
          refine am_blk 64 [(.aload_n 0, 1, 0, 0, .null), (.getfield 51, 3, 12, 14, .null)] (68, [(0, .ref 79), (1, .int v1), (2, .int v2), (3, .int v3), (4, .int v4)], [.ref 112], I101, G101, (gP rd)) (True) hX hi (by decide +kernel) rfl trivial ?_
          obtain ⟨r102, I102, G102, hc, h⟩ := rb_some h
          refine am_callV hX hi (M := mX13_dip) (idx := 399) (d' := 14) (b := 112) (ci := 11) (As := []) (rest := []) mkX13_dip miX13_dip mvX13_dip (by decide +kernel) (by decide +kernel) rfl (by decide +kernel) rfl ⟨by omega, by decide, Nat.le_of_ble_eq_true rfl⟩ rfl (c_X13_dip_112 _ I101 G101  hc) ?_
          rintro r9 I9 G9 P9 ⟨e0, e1, e2, e3⟩
          rw [e0, e1, e2, e3]
          show am_V X 0 0 _ _ ad (71, [(0, .ref 79), (1, .int v1), (2, .int v2), (3, .int v3), (4, .int v4)], [], I102, G102, (gP rd))
          refine am_blk 71 [(.iinc 4 (1), 3, 4, 0, .int (1 : Int32)), (.goto (-40), 3, 0, 34, .null)] (34, [(0, .ref 79), (1, .int v1), (2, .int v2), (3, .int v3), (4, .int (v4 + (1 : Int32)))], [], I102, G102, (gP rd)) (True) hX hi (by decide +kernel) rfl trivial ?_
          exact ih _ _ _ _ _ _ _ h
        · rw [if_pos c58] at h
          refine am_blk 61 [(.iload 4, 2, 4, 0, .null)] (63, [(0, .ref 79), (1, .int v1), (2, .int v2), (3, .int v3), (4, .int v4)], [.int v4], I101, G101, (gP rd)) (True) hX hi (by decide +kernel) rfl trivial ?_
          cases h
          refine am_iret hX hi rfl rfl (by decide +kernel) ?_
          exact ⟨rfl, rfl, rfl, rfl⟩
set_option maxRecDepth 20000 in
set_option maxHeartbeats 4000000 in
theorem c_X14_until_79 (rd : Nat) (I : am_I) (G : am_G) (x1 : Int32) (x2 : Int32) (x3 : Int32) {out : Int32 × am_I × am_G} (h : R_X14_until_79 I G x1 x2 x3 = some out) : am_Ct mX14_until 15 gS [.ref 79, .int x1, .int x2, .int x3] I G (gP rd) (pI out.1 out.2.1 out.2.2 (gP rd)) := by
  refine am_ofF (by decide +kernel) rfl (by decide) (by omega) (Nat.le_of_ble_eq_true rfl) (fun X ad hX hi => ?_)
  have hi : am_info X 12 cX14_until 5 false (Option.some Jvm.ClassFile.FieldType.int) 15 := hi
  show am_V X 0 0 _ _ ad (0, [(0, .ref 79), (1, .int x1), (2, .int x2), (3, .int x3)], [], I, G, (gP rd))
  unfold R_X14_until_79 at h
  refine am_blk 0 [(.aload_n 0, 1, 0, 0, .null), (.iconst (0), 1, 0, 0, .int (0 : Int32)), (.putfield 57, 3, 12, 0, .null), (.aload_n 0, 1, 0, 0, .null), (.iload_n 3, 1, 3, 0, .null)] (7, [(0, .ref 79), (1, .int x1), (2, .int x2), (3, .int x3)], [.int x3, .ref 79], (am_up I 79 0 (0 : Int32)), G, (gP rd)) (True) hX hi (by decide +kernel) rfl trivial ?_
  obtain ⟨r1, I1, G1, hc, h⟩ := rb_some h
  refine am_callV hX hi (M := mX14_isInk) (idx := 344) (d' := 2) (b := 79) (ci := 12) (As := [.int x3]) (rest := []) mkX14_isInk miX14_isInk mvX14_isInk (by decide +kernel) (by decide +kernel) rfl (by decide +kernel) rfl ⟨by omega, by decide, Nat.le_of_ble_eq_true rfl⟩ rfl (c_X14_isInk_79 _ (am_up I 79 0 (0 : Int32)) G x3 hc) ?_
  rintro r9 I9 G9 P9 ⟨e0, e1, e2, e3⟩
  rw [e0, e1, e2, e3]
  show am_V X 0 0 _ _ ad (10, [(0, .ref 79), (1, .int x1), (2, .int x2), (3, .int x3)], [.int r1], I1, G1, (gP rd))
  refine am_if_ne (tgt := 19) hX hi (off := (9)) (by decide +kernel) (by decide) (fun c10 => ?_) (fun c10 => ?_)
  · rw [if_neg c10] at h
    refine am_blk 19 [(.aload_n 0, 1, 0, 0, .null), (.getfield 51, 3, 12, 14, .null), (.aload_n 0, 1, 0, 0, .null), (.getfield 47, 3, 12, 13, .null)] (27, [(0, .ref 79), (1, .int x1), (2, .int x2), (3, .int x3)], [.ref 102, .ref 112], I1, G1, (gP rd)) (True) hX hi (by decide +kernel) rfl trivial ?_
    obtain ⟨r2, I2, G2, hc, h⟩ := rb_some h
    refine am_callV hX hi (M := mX13_become) (idx := 395) (d' := 2) (b := 112) (ci := 11) (As := [.ref 102]) (rest := []) mkX13_become miX13_become mvX13_become (by decide +kernel) (by decide +kernel) rfl (by decide +kernel) rfl ⟨by omega, by decide, Nat.le_of_ble_eq_true rfl⟩ rfl (c_X13_become_112_102 _ I1 G1  hc) ?_
    rintro r9 I9 G9 P9 ⟨e0, e1, e2, e3⟩
    rw [e0, e1, e2, e3]
    show am_V X 0 0 _ _ ad (30, [(0, .ref 79), (1, .int x1), (2, .int x2), (3, .int x3)], [.ref 112], I2, G2, (gP rd))
    refine am_blk 30 [(.pop, 1, 0, 0, .null), (.iconst (0), 1, 0, 0, .int (0 : Int32)), (.istore 4, 2, 4, 0, .null)] (34, [(0, .ref 79), (1, .int x1), (2, .int x2), (3, .int x3), (4, .int (0 : Int32))], [], I2, G2, (gP rd)) (True) hX hi (by decide +kernel) rfl trivial ?_
    exact (l_X14_until_79 rd hX hi FU) _ _ _ _ _ _ _ h
  · rw [if_pos c10] at h
    refine am_blk 13 [(.aload_n 0, 1, 0, 0, .null), (.iconst (1), 1, 0, 0, .int (1 : Int32))] (15, [(0, .ref 79), (1, .int x1), (2, .int x2), (3, .int x3)], [.int (1 : Int32), .ref 79], I1, G1, (gP rd)) (True) hX hi (by decide +kernel) rfl trivial ?_
    refine am_callV hX hi (M := mX14_no) (idx := 316) (d' := 1) (b := 79) (ci := 12) (As := [.int (1 : Int32)]) (rest := []) mkX14_no miX14_no mvX14_no (by decide +kernel) (by decide +kernel) rfl (by decide +kernel) rfl ⟨by omega, by decide, Nat.le_of_ble_eq_true rfl⟩ rfl (c_X14_no_79 _ I1 G1 (1 : Int32)) ?_
    rintro r9 I9 G9 P9 ⟨e0, e1, e2, e3⟩
    rw [e0, e1, e2, e3]
    show am_V X 0 0 _ _ ad (18, [(0, .ref 79), (1, .int x1), (2, .int x2), (3, .int x3)], [.int (f_X14_no_79 I1 G1 (1 : Int32))], (g_X14_no_79 I1 G1 (1 : Int32)), G1, (gP rd))
    cases h
    refine am_iret hX hi rfl rfl (by decide +kernel) ?_
    exact ⟨rfl, rfl, rfl, rfl⟩
noncomputable def R_X14_level_79 (I : am_I) (G : am_G) (x1 : Int32) : Option (Int32 × am_I × am_G) := (if ((I 123 4) - (1 : Int32)) = 0 then rb (R_X14_number_79_131 I G x1 ((I 123 4) - (1 : Int32)) (0 : Int32) (999 : Int32)) (fun r2 I2 G2 => some (r2, I2, G2)) else rg (vp_in (((I 123 4) - (1 : Int32)) - (1 : Int32)) 5) (rb (R_X14_number_79_131 I G x1 ((I 123 4) - (1 : Int32)) ((I 131 (((I 123 4) - (1 : Int32)) - (1 : Int32)).toNatClampNeg) + (1 : Int32)) (999 : Int32)) (fun r1 I1 G1 => some (r1, I1, G1))))
set_option maxRecDepth 20000 in
set_option maxHeartbeats 4000000 in
theorem c_X14_level_79 (I : am_I) (G : am_G) (x1 : Int32) {out : Int32 × am_I × am_G} (h : R_X14_level_79 I G x1 = some out) : am_Ct mX14_level 4 gS2 [.ref 79, .int x1] I G (gP 123) (pI out.1 out.2.1 out.2.2 (gP 123)) := by
  refine am_ofF (by decide +kernel) rfl (by decide) (by omega) (Nat.le_of_ble_eq_true rfl) (fun X ad hX hi => ?_)
  have hi : am_info X 12 cX14_level 3 false (Option.some Jvm.ClassFile.FieldType.int) 4 := hi
  show am_V X 0 0 _ _ ad (0, [(0, .ref 79), (1, .int x1)], [], I, G, (gP 123))
  unfold R_X14_level_79 at h
  refine am_blk 0 [(.aload_n 0, 1, 0, 0, .null), (.getfield 39, 3, 12, 12, .null), (.getfield 70, 3, 10, 4, .null), (.iconst (1), 1, 0, 0, .int (1 : Int32)), (.isub, 1, 0, 0, .null), (.istore_n 2, 1, 2, 0, .null), (.aload_n 0, 1, 0, 0, .null), (.iload_n 1, 1, 1, 0, .null), (.aload_n 0, 1, 0, 0, .null), (.getfield 39, 3, 12, 12, .null), (.getfield 249, 3, 10, 12, .null), (.iload_n 2, 1, 2, 0, .null), (.iload_n 2, 1, 2, 0, .null)] (21, [(0, .ref 79), (1, .int x1), (2, .int ((I 123 4) - (1 : Int32)))], [.int ((I 123 4) - (1 : Int32)), .int ((I 123 4) - (1 : Int32)), .ref 131, .int x1, .ref 79], I, G, (gP 123)) (True) hX hi (by decide +kernel) rfl trivial ?_
  refine am_if_ne (tgt := 28) hX hi (off := (7)) (by decide +kernel) (by decide) (fun c21 => ?_) (fun c21 => ?_)
  · rw [if_neg c21] at h
    obtain ⟨g0, h⟩ := rg_some h
    refine am_blk 28 [(.aload_n 0, 1, 0, 0, .null), (.getfield 39, 3, 12, 12, .null), (.getfield 249, 3, 10, 12, .null), (.iload_n 2, 1, 2, 0, .null), (.iconst (1), 1, 0, 0, .int (1 : Int32)), (.isub, 1, 0, 0, .null), (.iaload, 1, 0, 0, .null), (.iconst (1), 1, 0, 0, .int (1 : Int32)), (.iadd, 1, 0, 0, .null), (.sipush (999), 3, 0, 0, .int (999 : Int32))] (44, [(0, .ref 79), (1, .int x1), (2, .int ((I 123 4) - (1 : Int32)))], [.int (999 : Int32), .int ((I 131 (((I 123 4) - (1 : Int32)) - (1 : Int32)).toNatClampNeg) + (1 : Int32)), .int ((I 123 4) - (1 : Int32)), .ref 131, .int x1, .ref 79], I, G, (gP 123)) (vp_in (((I 123 4) - (1 : Int32)) - (1 : Int32)) 5 ∧ True) hX hi (by decide +kernel) rfl ⟨g0, trivial⟩ ?_
    obtain ⟨r1, I1, G1, hc, h⟩ := rb_some h
    refine am_callV hX hi (M := mX14_number) (idx := 252) (d' := 3) (b := 79) (ci := 12) (As := [.int x1, .ref 131, .int ((I 123 4) - (1 : Int32)), .int ((I 131 (((I 123 4) - (1 : Int32)) - (1 : Int32)).toNatClampNeg) + (1 : Int32)), .int (999 : Int32)]) (rest := []) mkX14_number miX14_number mvX14_number (by decide +kernel) (by decide +kernel) rfl (by decide +kernel) rfl ⟨by omega, by decide, Nat.le_of_ble_eq_true rfl⟩ rfl (c_X14_number_79_131 I G x1 ((I 123 4) - (1 : Int32)) ((I 131 (((I 123 4) - (1 : Int32)) - (1 : Int32)).toNatClampNeg) + (1 : Int32)) (999 : Int32) hc) ?_
    rintro r9 I9 G9 P9 ⟨e0, e1, e2, e3⟩
    rw [e0, e1, e2, e3]
    show am_V X 0 0 _ _ ad (47, [(0, .ref 79), (1, .int x1), (2, .int ((I 123 4) - (1 : Int32)))], [.int r1], I1, G1, (gP 123))
    cases h
    refine am_iret hX hi rfl rfl (by decide +kernel) ?_
    exact ⟨rfl, rfl, rfl, rfl⟩
  · rw [if_pos c21] at h
    refine am_blk 24 [(.iconst (0), 1, 0, 0, .int (0 : Int32)), (.goto (16), 3, 0, 41, .null), (.sipush (999), 3, 0, 0, .int (999 : Int32))] (44, [(0, .ref 79), (1, .int x1), (2, .int ((I 123 4) - (1 : Int32)))], [.int (999 : Int32), .int (0 : Int32), .int ((I 123 4) - (1 : Int32)), .ref 131, .int x1, .ref 79], I, G, (gP 123)) (True) hX hi (by decide +kernel) rfl trivial ?_
    obtain ⟨r2, I2, G2, hc, h⟩ := rb_some h
    refine am_callV hX hi (M := mX14_number) (idx := 252) (d' := 3) (b := 79) (ci := 12) (As := [.int x1, .ref 131, .int ((I 123 4) - (1 : Int32)), .int (0 : Int32), .int (999 : Int32)]) (rest := []) mkX14_number miX14_number mvX14_number (by decide +kernel) (by decide +kernel) rfl (by decide +kernel) rfl ⟨by omega, by decide, Nat.le_of_ble_eq_true rfl⟩ rfl (c_X14_number_79_131 I G x1 ((I 123 4) - (1 : Int32)) (0 : Int32) (999 : Int32) hc) ?_
    rintro r9 I9 G9 P9 ⟨e0, e1, e2, e3⟩
    rw [e0, e1, e2, e3]
    show am_V X 0 0 _ _ ad (47, [(0, .ref 79), (1, .int x1), (2, .int ((I 123 4) - (1 : Int32)))], [.int r2], I2, G2, (gP 123))
    cases h
    refine am_iret hX hi rfl rfl (by decide +kernel) ?_
    exact ⟨rfl, rfl, rfl, rfl⟩
noncomputable def R_X14_paper_79 (I : am_I) (G : am_G) (x1 : Int32) (x2 : Int32) : Option (Int32 × am_I × am_G) := (if x2 = 0 then rb (R_X14_numberAt_79 I G x1) (fun r1 I1 G1 => rb (R_X14_inRange_79 (am_up I1 123 1 r1) G1 x1 (4 : Int32) (24 : Int32)) (fun r2 I2 G2 => some (r2, I2, G2))) else rb (R_X14_numberAt_79 I G x1) (fun r3 I3 G3 => rb (R_X14_inRange_79 (am_up I3 123 0 r3) G3 x1 (4 : Int32) (24 : Int32)) (fun r4 I4 G4 => some (r4, I4, G4))))
set_option maxRecDepth 20000 in
set_option maxHeartbeats 4000000 in
theorem c_X14_paper_79 (I : am_I) (G : am_G) (x1 : Int32) (x2 : Int32) {out : Int32 × am_I × am_G} (h : R_X14_paper_79 I G x1 x2 = some out) : am_Ct mX14_paper 3 gS2 [.ref 79, .int x1, .int x2] I G (gP 123) (pI out.1 out.2.1 out.2.2 (gP 123)) := by
  refine am_ofF (by decide +kernel) rfl (by decide) (by omega) (Nat.le_of_ble_eq_true rfl) (fun X ad hX hi => ?_)
  have hi : am_info X 12 cX14_paper 3 false (Option.some Jvm.ClassFile.FieldType.int) 3 := hi
  show am_V X 0 0 _ _ ad (0, [(0, .ref 79), (1, .int x1), (2, .int x2)], [], I, G, (gP 123))
  unfold R_X14_paper_79 at h
  refine am_blk 0 [(.iload_n 2, 1, 2, 0, .null)] (1, [(0, .ref 79), (1, .int x1), (2, .int x2)], [.int x2], I, G, (gP 123)) (True) hX hi (by decide +kernel) rfl trivial ?_
  refine am_if_eq (tgt := 19) hX hi (off := (18)) (by decide +kernel) (by decide) (fun c1 => ?_) (fun c1 => ?_)
  · rw [if_pos c1] at h
    refine am_blk 19 [(.aload_n 0, 1, 0, 0, .null), (.getfield 39, 3, 12, 12, .null), (.aload_n 0, 1, 0, 0, .null), (.iload_n 1, 1, 1, 0, .null)] (25, [(0, .ref 79), (1, .int x1), (2, .int x2)], [.int x1, .ref 79, .ref 123], I, G, (gP 123)) (True) hX hi (by decide +kernel) rfl trivial ?_
    obtain ⟨r1, I1, G1, hc, h⟩ := rb_some h
    refine am_callV hX hi (M := mX14_numberAt) (idx := 217) (d' := 1) (b := 79) (ci := 12) (As := [.int x1]) (rest := [.ref 123]) mkX14_numberAt miX14_numberAt mvX14_numberAt (by decide +kernel) (by decide +kernel) rfl (by decide +kernel) rfl ⟨by omega, by decide, Nat.le_of_ble_eq_true rfl⟩ rfl (c_X14_numberAt_79 I G x1 hc) ?_
    rintro r9 I9 G9 P9 ⟨e0, e1, e2, e3⟩
    rw [e0, e1, e2, e3]
    show am_V X 0 0 _ _ ad (28, [(0, .ref 79), (1, .int x1), (2, .int x2)], [.int r1, .ref 123], I1, G1, (gP 123))
    refine am_blk 28 [(.putfield 259, 3, 10, 1, .null), (.aload_n 0, 1, 0, 0, .null), (.iload_n 1, 1, 1, 0, .null), (.iconst (4), 1, 0, 0, .int (4 : Int32)), (.bipush (24), 2, 0, 0, .int (24 : Int32))] (36, [(0, .ref 79), (1, .int x1), (2, .int x2)], [.int (24 : Int32), .int (4 : Int32), .int x1, .ref 79], (am_up I1 123 1 r1), G1, (gP 123)) (True) hX hi (by decide +kernel) rfl trivial ?_
    obtain ⟨r2, I2, G2, hc, h⟩ := rb_some h
    refine am_callV hX hi (M := mX14_inRange) (idx := 246) (d' := 2) (b := 79) (ci := 12) (As := [.int x1, .int (4 : Int32), .int (24 : Int32)]) (rest := []) mkX14_inRange miX14_inRange mvX14_inRange (by decide +kernel) (by decide +kernel) rfl (by decide +kernel) rfl ⟨by omega, by decide, Nat.le_of_ble_eq_true rfl⟩ rfl (c_X14_inRange_79 (am_up I1 123 1 r1) G1 x1 (4 : Int32) (24 : Int32) hc) ?_
    rintro r9 I9 G9 P9 ⟨e0, e1, e2, e3⟩
    rw [e0, e1, e2, e3]
    show am_V X 0 0 _ _ ad (39, [(0, .ref 79), (1, .int x1), (2, .int x2)], [.int r2], I2, G2, (gP 123))
    cases h
    refine am_iret hX hi rfl rfl (by decide +kernel) ?_
    exact ⟨rfl, rfl, rfl, rfl⟩
  · rw [if_neg c1] at h
    refine am_blk 4 [(.aload_n 0, 1, 0, 0, .null), (.getfield 39, 3, 12, 12, .null), (.aload_n 0, 1, 0, 0, .null), (.iload_n 1, 1, 1, 0, .null)] (10, [(0, .ref 79), (1, .int x1), (2, .int x2)], [.int x1, .ref 79, .ref 123], I, G, (gP 123)) (True) hX hi (by decide +kernel) rfl trivial ?_
    obtain ⟨r3, I3, G3, hc, h⟩ := rb_some h
    refine am_callV hX hi (M := mX14_numberAt) (idx := 217) (d' := 1) (b := 79) (ci := 12) (As := [.int x1]) (rest := [.ref 123]) mkX14_numberAt miX14_numberAt mvX14_numberAt (by decide +kernel) (by decide +kernel) rfl (by decide +kernel) rfl ⟨by omega, by decide, Nat.le_of_ble_eq_true rfl⟩ rfl (c_X14_numberAt_79 I G x1 hc) ?_
    rintro r9 I9 G9 P9 ⟨e0, e1, e2, e3⟩
    rw [e0, e1, e2, e3]
    show am_V X 0 0 _ _ ad (13, [(0, .ref 79), (1, .int x1), (2, .int x2)], [.int r3, .ref 123], I3, G3, (gP 123))
    refine am_blk 13 [(.putfield 256, 3, 10, 0, .null), (.goto (15), 3, 0, 31, .null), (.aload_n 0, 1, 0, 0, .null), (.iload_n 1, 1, 1, 0, .null), (.iconst (4), 1, 0, 0, .int (4 : Int32)), (.bipush (24), 2, 0, 0, .int (24 : Int32))] (36, [(0, .ref 79), (1, .int x1), (2, .int x2)], [.int (24 : Int32), .int (4 : Int32), .int x1, .ref 79], (am_up I3 123 0 r3), G3, (gP 123)) (True) hX hi (by decide +kernel) rfl trivial ?_
    obtain ⟨r4, I4, G4, hc, h⟩ := rb_some h
    refine am_callV hX hi (M := mX14_inRange) (idx := 246) (d' := 2) (b := 79) (ci := 12) (As := [.int x1, .int (4 : Int32), .int (24 : Int32)]) (rest := []) mkX14_inRange miX14_inRange mvX14_inRange (by decide +kernel) (by decide +kernel) rfl (by decide +kernel) rfl ⟨by omega, by decide, Nat.le_of_ble_eq_true rfl⟩ rfl (c_X14_inRange_79 (am_up I3 123 0 r3) G3 x1 (4 : Int32) (24 : Int32) hc) ?_
    rintro r9 I9 G9 P9 ⟨e0, e1, e2, e3⟩
    rw [e0, e1, e2, e3]
    show am_V X 0 0 _ _ ad (39, [(0, .ref 79), (1, .int x1), (2, .int x2)], [.int r4], I4, G4, (gP 123))
    cases h
    refine am_iret hX hi rfl rfl (by decide +kernel) ?_
    exact ⟨rfl, rfl, rfl, rfl⟩
noncomputable def R_X14_errorOf_79 (I : am_I) (G : am_G) (x1 : Int32) : Option (Int32 × am_I × am_G) := rg (vp_in x1 401) ((if (I 84 x1.toNatClampNeg) = (1 : Int32) then rg (vp_in x1 401) ((if (I 84 x1.toNatClampNeg) = (1 : Int32) then rb (R_X14_paper_79 I G x1 (1 : Int32)) (fun r2 I2 G2 => some (r2, I2, G2)) else rb (R_X14_paper_79 I G x1 (0 : Int32)) (fun r1 I1 G1 => some (r1, I1, G1)))) else if (I 84 x1.toNatClampNeg) = (2 : Int32) then rg (vp_in x1 401) ((if (I 84 x1.toNatClampNeg) = (1 : Int32) then rb (R_X14_paper_79 I G x1 (1 : Int32)) (fun r4 I4 G4 => some (r4, I4, G4)) else rb (R_X14_paper_79 I G x1 (0 : Int32)) (fun r3 I3 G3 => some (r3, I3, G3)))) else if (I 84 x1.toNatClampNeg) = (3 : Int32) then rb (R_X14_newOctave_79 I G x1) (fun r5 I5 G5 => some (r5, I5, G5)) else if (I 84 x1.toNatClampNeg) = (4 : Int32) then rb (R_X14_number_79_124 I G x1 ((I 123 2) - (1 : Int32)) (1 : Int32) (8 : Int32)) (fun r6 I6 G6 => some (r6, I6, G6)) else if (I 84 x1.toNatClampNeg) = (5 : Int32) then rb (R_X14_number_79_125 I G x1 ((I 123 2) - (1 : Int32)) (1 : Int32) (8 : Int32)) (fun r7 I7 G7 => some (r7, I7, G7)) else if (I 84 x1.toNatClampNeg) = (6 : Int32) then rb (R_X14_number_79_126 I G x1 ((I 123 2) - (1 : Int32)) (1 : Int32) (9 : Int32)) (fun r8 I8 G8 => some (r8, I8, G8)) else if (I 84 x1.toNatClampNeg) = (7 : Int32) then rb (R_X14_number_79_127 I G x1 ((I 123 2) - (1 : Int32)) (0 : Int32) (999 : Int32)) (fun r9 I9 G9 => some (r9, I9, G9)) else if (I 84 x1.toNatClampNeg) = (8 : Int32) then rb (R_X14_newComb_79 I G x1) (fun r10 I10 G10 => some (r10, I10, G10)) else if (I 84 x1.toNatClampNeg) = (9 : Int32) then rg (q_X14_way_79 I G x1) (some ((f_X14_way_79 I G x1), (g_X14_way_79 I G x1), G)) else if (I 84 x1.toNatClampNeg) = (10 : Int32) then rb (R_X14_number_79_129 I G x1 ((I 123 3) - (1 : Int32)) (1 : Int32) (8 : Int32)) (fun r11 I11 G11 => some (r11, I11, G11)) else if (I 84 x1.toNatClampNeg) = (11 : Int32) then rb (R_X14_number_79_130 I G x1 ((I 123 3) - (1 : Int32)) (0 : Int32) (16 : Int32)) (fun r12 I12 G12 => some (r12, I12, G12)) else if (I 84 x1.toNatClampNeg) = (12 : Int32) then rb (R_X14_newInk_79 I G x1) (fun r13 I13 G13 => some (r13, I13, G13)) else if (I 84 x1.toNatClampNeg) = (13 : Int32) then rb (R_X14_level_79 I G x1) (fun r14 I14 G14 => some (r14, I14, G14)) else if (I 84 x1.toNatClampNeg) = (14 : Int32) then rg (q_X14_order_79 I G x1) (some ((f_X14_order_79 I G x1), (g_X14_order_79 I G x1), G)) else if (I 84 x1.toNatClampNeg) = (15 : Int32) then rb (R_X14_of_79 I G x1 (8 : Int32)) (fun r15 I15 G15 => some (r15, I15, G15)) else if (I 84 x1.toNatClampNeg) = (16 : Int32) then rb (R_X14_of_79 I G x1 (3 : Int32)) (fun r16 I16 G16 => some (r16, I16, G16)) else if (I 84 x1.toNatClampNeg) = (17 : Int32) then rg (q_X14_way_79 I G x1) (some ((f_X14_way_79 I G x1), (g_X14_way_79 I G x1), G)) else if (I 84 x1.toNatClampNeg) = (18 : Int32) then rb (R_X14_look_79 I G x1 (8 : Int32)) (fun r17 I17 G17 => some (r17, I17, G17)) else if (I 84 x1.toNatClampNeg) = (19 : Int32) then rb (R_X14_look_79 I G x1 (12 : Int32)) (fun r18 I18 G18 => some (r18, I18, G18)) else if (I 84 x1.toNatClampNeg) = (20 : Int32) then rb (R_X14_look_79 I G x1 (3 : Int32)) (fun r19 I19 G19 => some (r19, I19, G19)) else some ((0 : Int32), I, G)))
set_option maxRecDepth 20000 in
set_option maxHeartbeats 4000000 in
theorem c_X14_errorOf_79 (I : am_I) (G : am_G) (x1 : Int32) {out : Int32 × am_I × am_G} (h : R_X14_errorOf_79 I G x1 = some out) : am_Ct mX14_errorOf 5 gS2 [.ref 79, .int x1] I G (gP 123) (pI out.1 out.2.1 out.2.2 (gP 123)) := by
  refine am_ofF (by decide +kernel) rfl (by decide) (by omega) (Nat.le_of_ble_eq_true rfl) (fun X ad hX hi => ?_)
  have hi : am_info X 12 cX14_errorOf 3 false (Option.some Jvm.ClassFile.FieldType.int) 5 := hi
  show am_V X 0 0 _ _ ad (0, [(0, .ref 79), (1, .int x1)], [], I, G, (gP 123))
  unfold R_X14_errorOf_79 at h
  obtain ⟨g0, h⟩ := rg_some h
  refine am_blk 0 [(.aload_n 0, 1, 0, 0, .null), (.getfield 39, 3, 12, 12, .null), (.astore_n 2, 1, 2, 0, .null), (.aload_n 0, 1, 0, 0, .null), (.getfield 26, 3, 12, 7, .null), (.iload_n 1, 1, 1, 0, .null), (.iaload, 1, 0, 0, .null)] (11, [(0, .ref 79), (1, .int x1), (2, .ref 123)], [.int (I 84 x1.toNatClampNeg)], I, G, (gP 123)) (vp_in x1 401 ∧ True) hX hi (by decide +kernel) rfl ⟨g0, trivial⟩ ?_
  by_cases s11_1 : (I 84 x1.toNatClampNeg) = (1 : Int32)
  · rw [if_pos s11_1] at h
    refine am_tsi hX hi (dflt := (303)) (lo := (1)) (hi' := (20)) (offs := #[(93), (93), (114), (120), (139), (158), (177), (197), (203), (209), (228), (247), (253), (259), (265), (273), (203), (280), (288), (296)]) (len := 93) (off := (93)) (tgt := 104) (by decide +kernel) (by rw [s11_1]; decide) (by rw [s11_1]; decide) (by rw [s11_1]; rfl) (by decide) ?_
    obtain ⟨g0, h⟩ := rg_some h
    refine am_blk 104 [(.aload_n 0, 1, 0, 0, .null), (.iload_n 1, 1, 1, 0, .null), (.aload_n 0, 1, 0, 0, .null), (.getfield 26, 3, 12, 7, .null), (.iload_n 1, 1, 1, 0, .null), (.iaload, 1, 0, 0, .null), (.iconst (1), 1, 0, 0, .int (1 : Int32))] (113, [(0, .ref 79), (1, .int x1), (2, .ref 123)], [.int (1 : Int32), .int (I 84 x1.toNatClampNeg), .int x1, .ref 79], I, G, (gP 123)) (vp_in x1 401 ∧ True) hX hi (by decide +kernel) rfl ⟨g0, trivial⟩ ?_
    refine am_icmp_ne (tgt := 120) hX hi (off := (7)) (by decide +kernel) (by decide) (fun c113 => ?_) (fun c113 => ?_)
    · rw [if_neg c113] at h
      refine am_blk 120 [(.iconst (0), 1, 0, 0, .int (0 : Int32))] (121, [(0, .ref 79), (1, .int x1), (2, .ref 123)], [.int (0 : Int32), .int x1, .ref 79], I, G, (gP 123)) (True) hX hi (by decide +kernel) rfl trivial ?_
      obtain ⟨r1, I1, G1, hc, h⟩ := rb_some h
      refine am_callV hX hi (M := mX14_paper) (idx := 265) (d' := 3) (b := 79) (ci := 12) (As := [.int x1, .int (0 : Int32)]) (rest := []) mkX14_paper miX14_paper mvX14_paper (by decide +kernel) (by decide +kernel) rfl (by decide +kernel) rfl ⟨by omega, by decide, Nat.le_of_ble_eq_true rfl⟩ rfl (c_X14_paper_79 I G x1 (0 : Int32) hc) ?_
      rintro rz Iz Gz Pz ⟨e0, e1, e2, e3⟩
      rw [e0, e1, e2, e3]
      show am_V X 0 0 _ _ ad (124, [(0, .ref 79), (1, .int x1), (2, .ref 123)], [.int r1], I1, G1, (gP 123))
      cases h
      refine am_iret hX hi rfl rfl (by decide +kernel) ?_
      exact ⟨rfl, rfl, rfl, rfl⟩
    · rw [if_pos c113] at h
      refine am_blk 116 [(.iconst (1), 1, 0, 0, .int (1 : Int32)), (.goto (4), 3, 0, 121, .null)] (121, [(0, .ref 79), (1, .int x1), (2, .ref 123)], [.int (1 : Int32), .int x1, .ref 79], I, G, (gP 123)) (True) hX hi (by decide +kernel) rfl trivial ?_
      obtain ⟨r2, I2, G2, hc, h⟩ := rb_some h
      refine am_callV hX hi (M := mX14_paper) (idx := 265) (d' := 3) (b := 79) (ci := 12) (As := [.int x1, .int (1 : Int32)]) (rest := []) mkX14_paper miX14_paper mvX14_paper (by decide +kernel) (by decide +kernel) rfl (by decide +kernel) rfl ⟨by omega, by decide, Nat.le_of_ble_eq_true rfl⟩ rfl (c_X14_paper_79 I G x1 (1 : Int32) hc) ?_
      rintro rz Iz Gz Pz ⟨e0, e1, e2, e3⟩
      rw [e0, e1, e2, e3]
      show am_V X 0 0 _ _ ad (124, [(0, .ref 79), (1, .int x1), (2, .ref 123)], [.int r2], I2, G2, (gP 123))
      cases h
      refine am_iret hX hi rfl rfl (by decide +kernel) ?_
      exact ⟨rfl, rfl, rfl, rfl⟩
  rw [if_neg s11_1] at h
  by_cases s11_2 : (I 84 x1.toNatClampNeg) = (2 : Int32)
  · rw [if_pos s11_2] at h
    refine am_tsi hX hi (dflt := (303)) (lo := (1)) (hi' := (20)) (offs := #[(93), (93), (114), (120), (139), (158), (177), (197), (203), (209), (228), (247), (253), (259), (265), (273), (203), (280), (288), (296)]) (len := 93) (off := (93)) (tgt := 104) (by decide +kernel) (by rw [s11_2]; decide) (by rw [s11_2]; decide) (by rw [s11_2]; rfl) (by decide) ?_
    obtain ⟨g0, h⟩ := rg_some h
    refine am_blk 104 [(.aload_n 0, 1, 0, 0, .null), (.iload_n 1, 1, 1, 0, .null), (.aload_n 0, 1, 0, 0, .null), (.getfield 26, 3, 12, 7, .null), (.iload_n 1, 1, 1, 0, .null), (.iaload, 1, 0, 0, .null), (.iconst (1), 1, 0, 0, .int (1 : Int32))] (113, [(0, .ref 79), (1, .int x1), (2, .ref 123)], [.int (1 : Int32), .int (I 84 x1.toNatClampNeg), .int x1, .ref 79], I, G, (gP 123)) (vp_in x1 401 ∧ True) hX hi (by decide +kernel) rfl ⟨g0, trivial⟩ ?_
    refine am_icmp_ne (tgt := 120) hX hi (off := (7)) (by decide +kernel) (by decide) (fun c113 => ?_) (fun c113 => ?_)
    · rw [if_neg c113] at h
      refine am_blk 120 [(.iconst (0), 1, 0, 0, .int (0 : Int32))] (121, [(0, .ref 79), (1, .int x1), (2, .ref 123)], [.int (0 : Int32), .int x1, .ref 79], I, G, (gP 123)) (True) hX hi (by decide +kernel) rfl trivial ?_
      obtain ⟨r3, I3, G3, hc, h⟩ := rb_some h
      refine am_callV hX hi (M := mX14_paper) (idx := 265) (d' := 3) (b := 79) (ci := 12) (As := [.int x1, .int (0 : Int32)]) (rest := []) mkX14_paper miX14_paper mvX14_paper (by decide +kernel) (by decide +kernel) rfl (by decide +kernel) rfl ⟨by omega, by decide, Nat.le_of_ble_eq_true rfl⟩ rfl (c_X14_paper_79 I G x1 (0 : Int32) hc) ?_
      rintro rz Iz Gz Pz ⟨e0, e1, e2, e3⟩
      rw [e0, e1, e2, e3]
      show am_V X 0 0 _ _ ad (124, [(0, .ref 79), (1, .int x1), (2, .ref 123)], [.int r3], I3, G3, (gP 123))
      cases h
      refine am_iret hX hi rfl rfl (by decide +kernel) ?_
      exact ⟨rfl, rfl, rfl, rfl⟩
    · rw [if_pos c113] at h
      refine am_blk 116 [(.iconst (1), 1, 0, 0, .int (1 : Int32)), (.goto (4), 3, 0, 121, .null)] (121, [(0, .ref 79), (1, .int x1), (2, .ref 123)], [.int (1 : Int32), .int x1, .ref 79], I, G, (gP 123)) (True) hX hi (by decide +kernel) rfl trivial ?_
      obtain ⟨r4, I4, G4, hc, h⟩ := rb_some h
      refine am_callV hX hi (M := mX14_paper) (idx := 265) (d' := 3) (b := 79) (ci := 12) (As := [.int x1, .int (1 : Int32)]) (rest := []) mkX14_paper miX14_paper mvX14_paper (by decide +kernel) (by decide +kernel) rfl (by decide +kernel) rfl ⟨by omega, by decide, Nat.le_of_ble_eq_true rfl⟩ rfl (c_X14_paper_79 I G x1 (1 : Int32) hc) ?_
      rintro rz Iz Gz Pz ⟨e0, e1, e2, e3⟩
      rw [e0, e1, e2, e3]
      show am_V X 0 0 _ _ ad (124, [(0, .ref 79), (1, .int x1), (2, .ref 123)], [.int r4], I4, G4, (gP 123))
      cases h
      refine am_iret hX hi rfl rfl (by decide +kernel) ?_
      exact ⟨rfl, rfl, rfl, rfl⟩
  rw [if_neg s11_2] at h
  by_cases s11_3 : (I 84 x1.toNatClampNeg) = (3 : Int32)
  · rw [if_pos s11_3] at h
    refine am_tsi hX hi (dflt := (303)) (lo := (1)) (hi' := (20)) (offs := #[(93), (93), (114), (120), (139), (158), (177), (197), (203), (209), (228), (247), (253), (259), (265), (273), (203), (280), (288), (296)]) (len := 93) (off := (114)) (tgt := 125) (by decide +kernel) (by rw [s11_3]; decide) (by rw [s11_3]; decide) (by rw [s11_3]; rfl) (by decide) ?_
    refine am_blk 125 [(.aload_n 0, 1, 0, 0, .null), (.iload_n 1, 1, 1, 0, .null)] (127, [(0, .ref 79), (1, .int x1), (2, .ref 123)], [.int x1, .ref 79], I, G, (gP 123)) (True) hX hi (by decide +kernel) rfl trivial ?_
    obtain ⟨r5, I5, G5, hc, h⟩ := rb_some h
    refine am_callV hX hi (M := mX14_newOctave) (idx := 269) (d' := 4) (b := 79) (ci := 12) (As := [.int x1]) (rest := []) mkX14_newOctave miX14_newOctave mvX14_newOctave (by decide +kernel) (by decide +kernel) rfl (by decide +kernel) rfl ⟨by omega, by decide, Nat.le_of_ble_eq_true rfl⟩ rfl (c_X14_newOctave_79 I G x1 hc) ?_
    rintro rz Iz Gz Pz ⟨e0, e1, e2, e3⟩
    rw [e0, e1, e2, e3]
    show am_V X 0 0 _ _ ad (130, [(0, .ref 79), (1, .int x1), (2, .ref 123)], [.int r5], I5, G5, (gP 123))
    cases h
    refine am_iret hX hi rfl rfl (by decide +kernel) ?_
    exact ⟨rfl, rfl, rfl, rfl⟩
  rw [if_neg s11_3] at h
  by_cases s11_4 : (I 84 x1.toNatClampNeg) = (4 : Int32)
  · rw [if_pos s11_4] at h
    refine am_tsi hX hi (dflt := (303)) (lo := (1)) (hi' := (20)) (offs := #[(93), (93), (114), (120), (139), (158), (177), (197), (203), (209), (228), (247), (253), (259), (265), (273), (203), (280), (288), (296)]) (len := 93) (off := (120)) (tgt := 131) (by decide +kernel) (by rw [s11_4]; decide) (by rw [s11_4]; decide) (by rw [s11_4]; rfl) (by decide) ?_
    refine am_blk 131 [(.aload_n 0, 1, 0, 0, .null), (.iload_n 1, 1, 1, 0, .null), (.aload_n 2, 1, 2, 0, .null), (.getfield 272, 3, 10, 5, .null), (.aload_n 2, 1, 2, 0, .null), (.getfield 60, 3, 10, 2, .null), (.iconst (1), 1, 0, 0, .int (1 : Int32)), (.isub, 1, 0, 0, .null), (.iconst (1), 1, 0, 0, .int (1 : Int32)), (.bipush (8), 2, 0, 0, .int (8 : Int32))] (146, [(0, .ref 79), (1, .int x1), (2, .ref 123)], [.int (8 : Int32), .int (1 : Int32), .int ((I 123 2) - (1 : Int32)), .ref 124, .int x1, .ref 79], I, G, (gP 123)) (True) hX hi (by decide +kernel) rfl trivial ?_
    obtain ⟨r6, I6, G6, hc, h⟩ := rb_some h
    refine am_callV hX hi (M := mX14_number) (idx := 252) (d' := 3) (b := 79) (ci := 12) (As := [.int x1, .ref 124, .int ((I 123 2) - (1 : Int32)), .int (1 : Int32), .int (8 : Int32)]) (rest := []) mkX14_number miX14_number mvX14_number (by decide +kernel) (by decide +kernel) rfl (by decide +kernel) rfl ⟨by omega, by decide, Nat.le_of_ble_eq_true rfl⟩ rfl (c_X14_number_79_124 I G x1 ((I 123 2) - (1 : Int32)) (1 : Int32) (8 : Int32) hc) ?_
    rintro rz Iz Gz Pz ⟨e0, e1, e2, e3⟩
    rw [e0, e1, e2, e3]
    show am_V X 0 0 _ _ ad (149, [(0, .ref 79), (1, .int x1), (2, .ref 123)], [.int r6], I6, G6, (gP 123))
    cases h
    refine am_iret hX hi rfl rfl (by decide +kernel) ?_
    exact ⟨rfl, rfl, rfl, rfl⟩
  rw [if_neg s11_4] at h
  by_cases s11_5 : (I 84 x1.toNatClampNeg) = (5 : Int32)
  · rw [if_pos s11_5] at h
    refine am_tsi hX hi (dflt := (303)) (lo := (1)) (hi' := (20)) (offs := #[(93), (93), (114), (120), (139), (158), (177), (197), (203), (209), (228), (247), (253), (259), (265), (273), (203), (280), (288), (296)]) (len := 93) (off := (139)) (tgt := 150) (by decide +kernel) (by rw [s11_5]; decide) (by rw [s11_5]; decide) (by rw [s11_5]; rfl) (by decide) ?_
    refine am_blk 150 [(.aload_n 0, 1, 0, 0, .null), (.iload_n 1, 1, 1, 0, .null), (.aload_n 2, 1, 2, 0, .null), (.getfield 275, 3, 10, 6, .null), (.aload_n 2, 1, 2, 0, .null), (.getfield 60, 3, 10, 2, .null), (.iconst (1), 1, 0, 0, .int (1 : Int32)), (.isub, 1, 0, 0, .null), (.iconst (1), 1, 0, 0, .int (1 : Int32)), (.bipush (8), 2, 0, 0, .int (8 : Int32))] (165, [(0, .ref 79), (1, .int x1), (2, .ref 123)], [.int (8 : Int32), .int (1 : Int32), .int ((I 123 2) - (1 : Int32)), .ref 125, .int x1, .ref 79], I, G, (gP 123)) (True) hX hi (by decide +kernel) rfl trivial ?_
    obtain ⟨r7, I7, G7, hc, h⟩ := rb_some h
    refine am_callV hX hi (M := mX14_number) (idx := 252) (d' := 3) (b := 79) (ci := 12) (As := [.int x1, .ref 125, .int ((I 123 2) - (1 : Int32)), .int (1 : Int32), .int (8 : Int32)]) (rest := []) mkX14_number miX14_number mvX14_number (by decide +kernel) (by decide +kernel) rfl (by decide +kernel) rfl ⟨by omega, by decide, Nat.le_of_ble_eq_true rfl⟩ rfl (c_X14_number_79_125 I G x1 ((I 123 2) - (1 : Int32)) (1 : Int32) (8 : Int32) hc) ?_
    rintro rz Iz Gz Pz ⟨e0, e1, e2, e3⟩
    rw [e0, e1, e2, e3]
    show am_V X 0 0 _ _ ad (168, [(0, .ref 79), (1, .int x1), (2, .ref 123)], [.int r7], I7, G7, (gP 123))
    cases h
    refine am_iret hX hi rfl rfl (by decide +kernel) ?_
    exact ⟨rfl, rfl, rfl, rfl⟩
  rw [if_neg s11_5] at h
  by_cases s11_6 : (I 84 x1.toNatClampNeg) = (6 : Int32)
  · rw [if_pos s11_6] at h
    refine am_tsi hX hi (dflt := (303)) (lo := (1)) (hi' := (20)) (offs := #[(93), (93), (114), (120), (139), (158), (177), (197), (203), (209), (228), (247), (253), (259), (265), (273), (203), (280), (288), (296)]) (len := 93) (off := (158)) (tgt := 169) (by decide +kernel) (by rw [s11_6]; decide) (by rw [s11_6]; decide) (by rw [s11_6]; rfl) (by decide) ?_
    refine am_blk 169 [(.aload_n 0, 1, 0, 0, .null), (.iload_n 1, 1, 1, 0, .null), (.aload_n 2, 1, 2, 0, .null), (.getfield 278, 3, 10, 7, .null), (.aload_n 2, 1, 2, 0, .null), (.getfield 60, 3, 10, 2, .null), (.iconst (1), 1, 0, 0, .int (1 : Int32)), (.isub, 1, 0, 0, .null), (.iconst (1), 1, 0, 0, .int (1 : Int32)), (.bipush (9), 2, 0, 0, .int (9 : Int32))] (184, [(0, .ref 79), (1, .int x1), (2, .ref 123)], [.int (9 : Int32), .int (1 : Int32), .int ((I 123 2) - (1 : Int32)), .ref 126, .int x1, .ref 79], I, G, (gP 123)) (True) hX hi (by decide +kernel) rfl trivial ?_
    obtain ⟨r8, I8, G8, hc, h⟩ := rb_some h
    refine am_callV hX hi (M := mX14_number) (idx := 252) (d' := 3) (b := 79) (ci := 12) (As := [.int x1, .ref 126, .int ((I 123 2) - (1 : Int32)), .int (1 : Int32), .int (9 : Int32)]) (rest := []) mkX14_number miX14_number mvX14_number (by decide +kernel) (by decide +kernel) rfl (by decide +kernel) rfl ⟨by omega, by decide, Nat.le_of_ble_eq_true rfl⟩ rfl (c_X14_number_79_126 I G x1 ((I 123 2) - (1 : Int32)) (1 : Int32) (9 : Int32) hc) ?_
    rintro rz Iz Gz Pz ⟨e0, e1, e2, e3⟩
    rw [e0, e1, e2, e3]
    show am_V X 0 0 _ _ ad (187, [(0, .ref 79), (1, .int x1), (2, .ref 123)], [.int r8], I8, G8, (gP 123))
    cases h
    refine am_iret hX hi rfl rfl (by decide +kernel) ?_
    exact ⟨rfl, rfl, rfl, rfl⟩
  rw [if_neg s11_6] at h
  by_cases s11_7 : (I 84 x1.toNatClampNeg) = (7 : Int32)
  · rw [if_pos s11_7] at h
    refine am_tsi hX hi (dflt := (303)) (lo := (1)) (hi' := (20)) (offs := #[(93), (93), (114), (120), (139), (158), (177), (197), (203), (209), (228), (247), (253), (259), (265), (273), (203), (280), (288), (296)]) (len := 93) (off := (177)) (tgt := 188) (by decide +kernel) (by rw [s11_7]; decide) (by rw [s11_7]; decide) (by rw [s11_7]; rfl) (by decide) ?_
    refine am_blk 188 [(.aload_n 0, 1, 0, 0, .null), (.iload_n 1, 1, 1, 0, .null), (.aload_n 2, 1, 2, 0, .null), (.getfield 281, 3, 10, 8, .null), (.aload_n 2, 1, 2, 0, .null), (.getfield 60, 3, 10, 2, .null), (.iconst (1), 1, 0, 0, .int (1 : Int32)), (.isub, 1, 0, 0, .null), (.iconst (0), 1, 0, 0, .int (0 : Int32)), (.sipush (999), 3, 0, 0, .int (999 : Int32))] (204, [(0, .ref 79), (1, .int x1), (2, .ref 123)], [.int (999 : Int32), .int (0 : Int32), .int ((I 123 2) - (1 : Int32)), .ref 127, .int x1, .ref 79], I, G, (gP 123)) (True) hX hi (by decide +kernel) rfl trivial ?_
    obtain ⟨r9, I9, G9, hc, h⟩ := rb_some h
    refine am_callV hX hi (M := mX14_number) (idx := 252) (d' := 3) (b := 79) (ci := 12) (As := [.int x1, .ref 127, .int ((I 123 2) - (1 : Int32)), .int (0 : Int32), .int (999 : Int32)]) (rest := []) mkX14_number miX14_number mvX14_number (by decide +kernel) (by decide +kernel) rfl (by decide +kernel) rfl ⟨by omega, by decide, Nat.le_of_ble_eq_true rfl⟩ rfl (c_X14_number_79_127 I G x1 ((I 123 2) - (1 : Int32)) (0 : Int32) (999 : Int32) hc) ?_
    rintro rz Iz Gz Pz ⟨e0, e1, e2, e3⟩
    rw [e0, e1, e2, e3]
    show am_V X 0 0 _ _ ad (207, [(0, .ref 79), (1, .int x1), (2, .ref 123)], [.int r9], I9, G9, (gP 123))
    cases h
    refine am_iret hX hi rfl rfl (by decide +kernel) ?_
    exact ⟨rfl, rfl, rfl, rfl⟩
  rw [if_neg s11_7] at h
  by_cases s11_8 : (I 84 x1.toNatClampNeg) = (8 : Int32)
  · rw [if_pos s11_8] at h
    refine am_tsi hX hi (dflt := (303)) (lo := (1)) (hi' := (20)) (offs := #[(93), (93), (114), (120), (139), (158), (177), (197), (203), (209), (228), (247), (253), (259), (265), (273), (203), (280), (288), (296)]) (len := 93) (off := (197)) (tgt := 208) (by decide +kernel) (by rw [s11_8]; decide) (by rw [s11_8]; decide) (by rw [s11_8]; rfl) (by decide) ?_
    refine am_blk 208 [(.aload_n 0, 1, 0, 0, .null), (.iload_n 1, 1, 1, 0, .null)] (210, [(0, .ref 79), (1, .int x1), (2, .ref 123)], [.int x1, .ref 79], I, G, (gP 123)) (True) hX hi (by decide +kernel) rfl trivial ?_
    obtain ⟨r10, I10, G10, hc, h⟩ := rb_some h
    refine am_callV hX hi (M := mX14_newComb) (idx := 284) (d' := 4) (b := 79) (ci := 12) (As := [.int x1]) (rest := []) mkX14_newComb miX14_newComb mvX14_newComb (by decide +kernel) (by decide +kernel) rfl (by decide +kernel) rfl ⟨by omega, by decide, Nat.le_of_ble_eq_true rfl⟩ rfl (c_X14_newComb_79 I G x1 hc) ?_
    rintro rz Iz Gz Pz ⟨e0, e1, e2, e3⟩
    rw [e0, e1, e2, e3]
    show am_V X 0 0 _ _ ad (213, [(0, .ref 79), (1, .int x1), (2, .ref 123)], [.int r10], I10, G10, (gP 123))
    cases h
    refine am_iret hX hi rfl rfl (by decide +kernel) ?_
    exact ⟨rfl, rfl, rfl, rfl⟩
  rw [if_neg s11_8] at h
  by_cases s11_9 : (I 84 x1.toNatClampNeg) = (9 : Int32)
  · rw [if_pos s11_9] at h
    refine am_tsi hX hi (dflt := (303)) (lo := (1)) (hi' := (20)) (offs := #[(93), (93), (114), (120), (139), (158), (177), (197), (203), (209), (228), (247), (253), (259), (265), (273), (203), (280), (288), (296)]) (len := 93) (off := (203)) (tgt := 214) (by decide +kernel) (by rw [s11_9]; decide) (by rw [s11_9]; decide) (by rw [s11_9]; rfl) (by decide) ?_
    refine am_blk 214 [(.aload_n 0, 1, 0, 0, .null), (.iload_n 1, 1, 1, 0, .null)] (216, [(0, .ref 79), (1, .int x1), (2, .ref 123)], [.int x1, .ref 79], I, G, (gP 123)) (True) hX hi (by decide +kernel) rfl trivial ?_
    obtain ⟨hq1, h⟩ := rg_some h
    refine am_callV hX hi (M := mX14_way) (idx := 287) (d' := 1) (b := 79) (ci := 12) (As := [.int x1]) (rest := []) mkX14_way miX14_way mvX14_way (by decide +kernel) (by decide +kernel) rfl (by decide +kernel) rfl ⟨by omega, by decide, Nat.le_of_ble_eq_true rfl⟩ rfl (c_X14_way_79 I G x1 hq1) ?_
    rintro rz Iz Gz Pz ⟨e0, e1, e2, e3⟩
    rw [e0, e1, e2, e3]
    show am_V X 0 0 _ _ ad (219, [(0, .ref 79), (1, .int x1), (2, .ref 123)], [.int (f_X14_way_79 I G x1)], (g_X14_way_79 I G x1), G, (gP 123))
    cases h
    refine am_iret hX hi rfl rfl (by decide +kernel) ?_
    exact ⟨rfl, rfl, rfl, rfl⟩
  rw [if_neg s11_9] at h
  by_cases s11_10 : (I 84 x1.toNatClampNeg) = (10 : Int32)
  · rw [if_pos s11_10] at h
    refine am_tsi hX hi (dflt := (303)) (lo := (1)) (hi' := (20)) (offs := #[(93), (93), (114), (120), (139), (158), (177), (197), (203), (209), (228), (247), (253), (259), (265), (273), (203), (280), (288), (296)]) (len := 93) (off := (209)) (tgt := 220) (by decide +kernel) (by rw [s11_10]; decide) (by rw [s11_10]; decide) (by rw [s11_10]; rfl) (by decide) ?_
    refine am_blk 220 [(.aload_n 0, 1, 0, 0, .null), (.iload_n 1, 1, 1, 0, .null), (.aload_n 2, 1, 2, 0, .null), (.getfield 290, 3, 10, 10, .null), (.aload_n 2, 1, 2, 0, .null), (.getfield 67, 3, 10, 3, .null), (.iconst (1), 1, 0, 0, .int (1 : Int32)), (.isub, 1, 0, 0, .null), (.iconst (1), 1, 0, 0, .int (1 : Int32)), (.bipush (8), 2, 0, 0, .int (8 : Int32))] (235, [(0, .ref 79), (1, .int x1), (2, .ref 123)], [.int (8 : Int32), .int (1 : Int32), .int ((I 123 3) - (1 : Int32)), .ref 129, .int x1, .ref 79], I, G, (gP 123)) (True) hX hi (by decide +kernel) rfl trivial ?_
    obtain ⟨r11, I11, G11, hc, h⟩ := rb_some h
    refine am_callV hX hi (M := mX14_number) (idx := 252) (d' := 3) (b := 79) (ci := 12) (As := [.int x1, .ref 129, .int ((I 123 3) - (1 : Int32)), .int (1 : Int32), .int (8 : Int32)]) (rest := []) mkX14_number miX14_number mvX14_number (by decide +kernel) (by decide +kernel) rfl (by decide +kernel) rfl ⟨by omega, by decide, Nat.le_of_ble_eq_true rfl⟩ rfl (c_X14_number_79_129 I G x1 ((I 123 3) - (1 : Int32)) (1 : Int32) (8 : Int32) hc) ?_
    rintro rz Iz Gz Pz ⟨e0, e1, e2, e3⟩
    rw [e0, e1, e2, e3]
    show am_V X 0 0 _ _ ad (238, [(0, .ref 79), (1, .int x1), (2, .ref 123)], [.int r11], I11, G11, (gP 123))
    cases h
    refine am_iret hX hi rfl rfl (by decide +kernel) ?_
    exact ⟨rfl, rfl, rfl, rfl⟩
  rw [if_neg s11_10] at h
  by_cases s11_11 : (I 84 x1.toNatClampNeg) = (11 : Int32)
  · rw [if_pos s11_11] at h
    refine am_tsi hX hi (dflt := (303)) (lo := (1)) (hi' := (20)) (offs := #[(93), (93), (114), (120), (139), (158), (177), (197), (203), (209), (228), (247), (253), (259), (265), (273), (203), (280), (288), (296)]) (len := 93) (off := (228)) (tgt := 239) (by decide +kernel) (by rw [s11_11]; decide) (by rw [s11_11]; decide) (by rw [s11_11]; rfl) (by decide) ?_
    refine am_blk 239 [(.aload_n 0, 1, 0, 0, .null), (.iload_n 1, 1, 1, 0, .null), (.aload_n 2, 1, 2, 0, .null), (.getfield 293, 3, 10, 11, .null), (.aload_n 2, 1, 2, 0, .null), (.getfield 67, 3, 10, 3, .null), (.iconst (1), 1, 0, 0, .int (1 : Int32)), (.isub, 1, 0, 0, .null), (.iconst (0), 1, 0, 0, .int (0 : Int32)), (.bipush (16), 2, 0, 0, .int (16 : Int32))] (254, [(0, .ref 79), (1, .int x1), (2, .ref 123)], [.int (16 : Int32), .int (0 : Int32), .int ((I 123 3) - (1 : Int32)), .ref 130, .int x1, .ref 79], I, G, (gP 123)) (True) hX hi (by decide +kernel) rfl trivial ?_
    obtain ⟨r12, I12, G12, hc, h⟩ := rb_some h
    refine am_callV hX hi (M := mX14_number) (idx := 252) (d' := 3) (b := 79) (ci := 12) (As := [.int x1, .ref 130, .int ((I 123 3) - (1 : Int32)), .int (0 : Int32), .int (16 : Int32)]) (rest := []) mkX14_number miX14_number mvX14_number (by decide +kernel) (by decide +kernel) rfl (by decide +kernel) rfl ⟨by omega, by decide, Nat.le_of_ble_eq_true rfl⟩ rfl (c_X14_number_79_130 I G x1 ((I 123 3) - (1 : Int32)) (0 : Int32) (16 : Int32) hc) ?_
    rintro rz Iz Gz Pz ⟨e0, e1, e2, e3⟩
    rw [e0, e1, e2, e3]
    show am_V X 0 0 _ _ ad (257, [(0, .ref 79), (1, .int x1), (2, .ref 123)], [.int r12], I12, G12, (gP 123))
    cases h
    refine am_iret hX hi rfl rfl (by decide +kernel) ?_
    exact ⟨rfl, rfl, rfl, rfl⟩
  rw [if_neg s11_11] at h
  by_cases s11_12 : (I 84 x1.toNatClampNeg) = (12 : Int32)
  · rw [if_pos s11_12] at h
    refine am_tsi hX hi (dflt := (303)) (lo := (1)) (hi' := (20)) (offs := #[(93), (93), (114), (120), (139), (158), (177), (197), (203), (209), (228), (247), (253), (259), (265), (273), (203), (280), (288), (296)]) (len := 93) (off := (247)) (tgt := 258) (by decide +kernel) (by rw [s11_12]; decide) (by rw [s11_12]; decide) (by rw [s11_12]; rfl) (by decide) ?_
    refine am_blk 258 [(.aload_n 0, 1, 0, 0, .null), (.iload_n 1, 1, 1, 0, .null)] (260, [(0, .ref 79), (1, .int x1), (2, .ref 123)], [.int x1, .ref 79], I, G, (gP 123)) (True) hX hi (by decide +kernel) rfl trivial ?_
    obtain ⟨r13, I13, G13, hc, h⟩ := rb_some h
    refine am_callV hX hi (M := mX14_newInk) (idx := 296) (d' := 4) (b := 79) (ci := 12) (As := [.int x1]) (rest := []) mkX14_newInk miX14_newInk mvX14_newInk (by decide +kernel) (by decide +kernel) rfl (by decide +kernel) rfl ⟨by omega, by decide, Nat.le_of_ble_eq_true rfl⟩ rfl (c_X14_newInk_79 I G x1 hc) ?_
    rintro rz Iz Gz Pz ⟨e0, e1, e2, e3⟩
    rw [e0, e1, e2, e3]
    show am_V X 0 0 _ _ ad (263, [(0, .ref 79), (1, .int x1), (2, .ref 123)], [.int r13], I13, G13, (gP 123))
    cases h
    refine am_iret hX hi rfl rfl (by decide +kernel) ?_
    exact ⟨rfl, rfl, rfl, rfl⟩
  rw [if_neg s11_12] at h
  by_cases s11_13 : (I 84 x1.toNatClampNeg) = (13 : Int32)
  · rw [if_pos s11_13] at h
    refine am_tsi hX hi (dflt := (303)) (lo := (1)) (hi' := (20)) (offs := #[(93), (93), (114), (120), (139), (158), (177), (197), (203), (209), (228), (247), (253), (259), (265), (273), (203), (280), (288), (296)]) (len := 93) (off := (253)) (tgt := 264) (by decide +kernel) (by rw [s11_13]; decide) (by rw [s11_13]; decide) (by rw [s11_13]; rfl) (by decide) ?_
    refine am_blk 264 [(.aload_n 0, 1, 0, 0, .null), (.iload_n 1, 1, 1, 0, .null)] (266, [(0, .ref 79), (1, .int x1), (2, .ref 123)], [.int x1, .ref 79], I, G, (gP 123)) (True) hX hi (by decide +kernel) rfl trivial ?_
    obtain ⟨r14, I14, G14, hc, h⟩ := rb_some h
    refine am_callV hX hi (M := mX14_level) (idx := 299) (d' := 4) (b := 79) (ci := 12) (As := [.int x1]) (rest := []) mkX14_level miX14_level mvX14_level (by decide +kernel) (by decide +kernel) rfl (by decide +kernel) rfl ⟨by omega, by decide, Nat.le_of_ble_eq_true rfl⟩ rfl (c_X14_level_79 I G x1 hc) ?_
    rintro rz Iz Gz Pz ⟨e0, e1, e2, e3⟩
    rw [e0, e1, e2, e3]
    show am_V X 0 0 _ _ ad (269, [(0, .ref 79), (1, .int x1), (2, .ref 123)], [.int r14], I14, G14, (gP 123))
    cases h
    refine am_iret hX hi rfl rfl (by decide +kernel) ?_
    exact ⟨rfl, rfl, rfl, rfl⟩
  rw [if_neg s11_13] at h
  by_cases s11_14 : (I 84 x1.toNatClampNeg) = (14 : Int32)
  · rw [if_pos s11_14] at h
    refine am_tsi hX hi (dflt := (303)) (lo := (1)) (hi' := (20)) (offs := #[(93), (93), (114), (120), (139), (158), (177), (197), (203), (209), (228), (247), (253), (259), (265), (273), (203), (280), (288), (296)]) (len := 93) (off := (259)) (tgt := 270) (by decide +kernel) (by rw [s11_14]; decide) (by rw [s11_14]; decide) (by rw [s11_14]; rfl) (by decide) ?_
    refine am_blk 270 [(.aload_n 0, 1, 0, 0, .null), (.iload_n 1, 1, 1, 0, .null)] (272, [(0, .ref 79), (1, .int x1), (2, .ref 123)], [.int x1, .ref 79], I, G, (gP 123)) (True) hX hi (by decide +kernel) rfl trivial ?_
    obtain ⟨hq1, h⟩ := rg_some h
    refine am_callV hX hi (M := mX14_order) (idx := 301) (d' := 1) (b := 79) (ci := 12) (As := [.int x1]) (rest := []) mkX14_order miX14_order mvX14_order (by decide +kernel) (by decide +kernel) rfl (by decide +kernel) rfl ⟨by omega, by decide, Nat.le_of_ble_eq_true rfl⟩ rfl (c_X14_order_79 I G x1 hq1) ?_
    rintro rz Iz Gz Pz ⟨e0, e1, e2, e3⟩
    rw [e0, e1, e2, e3]
    show am_V X 0 0 _ _ ad (275, [(0, .ref 79), (1, .int x1), (2, .ref 123)], [.int (f_X14_order_79 I G x1)], (g_X14_order_79 I G x1), G, (gP 123))
    cases h
    refine am_iret hX hi rfl rfl (by decide +kernel) ?_
    exact ⟨rfl, rfl, rfl, rfl⟩
  rw [if_neg s11_14] at h
  by_cases s11_15 : (I 84 x1.toNatClampNeg) = (15 : Int32)
  · rw [if_pos s11_15] at h
    refine am_tsi hX hi (dflt := (303)) (lo := (1)) (hi' := (20)) (offs := #[(93), (93), (114), (120), (139), (158), (177), (197), (203), (209), (228), (247), (253), (259), (265), (273), (203), (280), (288), (296)]) (len := 93) (off := (265)) (tgt := 276) (by decide +kernel) (by rw [s11_15]; decide) (by rw [s11_15]; decide) (by rw [s11_15]; rfl) (by decide) ?_
    refine am_blk 276 [(.aload_n 0, 1, 0, 0, .null), (.iload_n 1, 1, 1, 0, .null), (.bipush (8), 2, 0, 0, .int (8 : Int32))] (280, [(0, .ref 79), (1, .int x1), (2, .ref 123)], [.int (8 : Int32), .int x1, .ref 79], I, G, (gP 123)) (True) hX hi (by decide +kernel) rfl trivial ?_
    obtain ⟨r15, I15, G15, hc, h⟩ := rb_some h
    refine am_callV hX hi (M := mX14_of) (idx := 304) (d' := 4) (b := 79) (ci := 12) (As := [.int x1, .int (8 : Int32)]) (rest := []) mkX14_of miX14_of mvX14_of (by decide +kernel) (by decide +kernel) rfl (by decide +kernel) rfl ⟨by omega, by decide, Nat.le_of_ble_eq_true rfl⟩ rfl (c_X14_of_79 I G x1 (8 : Int32) hc) ?_
    rintro rz Iz Gz Pz ⟨e0, e1, e2, e3⟩
    rw [e0, e1, e2, e3]
    show am_V X 0 0 _ _ ad (283, [(0, .ref 79), (1, .int x1), (2, .ref 123)], [.int r15], I15, G15, (gP 123))
    cases h
    refine am_iret hX hi rfl rfl (by decide +kernel) ?_
    exact ⟨rfl, rfl, rfl, rfl⟩
  rw [if_neg s11_15] at h
  by_cases s11_16 : (I 84 x1.toNatClampNeg) = (16 : Int32)
  · rw [if_pos s11_16] at h
    refine am_tsi hX hi (dflt := (303)) (lo := (1)) (hi' := (20)) (offs := #[(93), (93), (114), (120), (139), (158), (177), (197), (203), (209), (228), (247), (253), (259), (265), (273), (203), (280), (288), (296)]) (len := 93) (off := (273)) (tgt := 284) (by decide +kernel) (by rw [s11_16]; decide) (by rw [s11_16]; decide) (by rw [s11_16]; rfl) (by decide) ?_
    refine am_blk 284 [(.aload_n 0, 1, 0, 0, .null), (.iload_n 1, 1, 1, 0, .null), (.iconst (3), 1, 0, 0, .int (3 : Int32))] (287, [(0, .ref 79), (1, .int x1), (2, .ref 123)], [.int (3 : Int32), .int x1, .ref 79], I, G, (gP 123)) (True) hX hi (by decide +kernel) rfl trivial ?_
    obtain ⟨r16, I16, G16, hc, h⟩ := rb_some h
    refine am_callV hX hi (M := mX14_of) (idx := 304) (d' := 4) (b := 79) (ci := 12) (As := [.int x1, .int (3 : Int32)]) (rest := []) mkX14_of miX14_of mvX14_of (by decide +kernel) (by decide +kernel) rfl (by decide +kernel) rfl ⟨by omega, by decide, Nat.le_of_ble_eq_true rfl⟩ rfl (c_X14_of_79 I G x1 (3 : Int32) hc) ?_
    rintro rz Iz Gz Pz ⟨e0, e1, e2, e3⟩
    rw [e0, e1, e2, e3]
    show am_V X 0 0 _ _ ad (290, [(0, .ref 79), (1, .int x1), (2, .ref 123)], [.int r16], I16, G16, (gP 123))
    cases h
    refine am_iret hX hi rfl rfl (by decide +kernel) ?_
    exact ⟨rfl, rfl, rfl, rfl⟩
  rw [if_neg s11_16] at h
  by_cases s11_17 : (I 84 x1.toNatClampNeg) = (17 : Int32)
  · rw [if_pos s11_17] at h
    refine am_tsi hX hi (dflt := (303)) (lo := (1)) (hi' := (20)) (offs := #[(93), (93), (114), (120), (139), (158), (177), (197), (203), (209), (228), (247), (253), (259), (265), (273), (203), (280), (288), (296)]) (len := 93) (off := (203)) (tgt := 214) (by decide +kernel) (by rw [s11_17]; decide) (by rw [s11_17]; decide) (by rw [s11_17]; rfl) (by decide) ?_
    refine am_blk 214 [(.aload_n 0, 1, 0, 0, .null), (.iload_n 1, 1, 1, 0, .null)] (216, [(0, .ref 79), (1, .int x1), (2, .ref 123)], [.int x1, .ref 79], I, G, (gP 123)) (True) hX hi (by decide +kernel) rfl trivial ?_
    obtain ⟨hq1, h⟩ := rg_some h
    refine am_callV hX hi (M := mX14_way) (idx := 287) (d' := 1) (b := 79) (ci := 12) (As := [.int x1]) (rest := []) mkX14_way miX14_way mvX14_way (by decide +kernel) (by decide +kernel) rfl (by decide +kernel) rfl ⟨by omega, by decide, Nat.le_of_ble_eq_true rfl⟩ rfl (c_X14_way_79 I G x1 hq1) ?_
    rintro rz Iz Gz Pz ⟨e0, e1, e2, e3⟩
    rw [e0, e1, e2, e3]
    show am_V X 0 0 _ _ ad (219, [(0, .ref 79), (1, .int x1), (2, .ref 123)], [.int (f_X14_way_79 I G x1)], (g_X14_way_79 I G x1), G, (gP 123))
    cases h
    refine am_iret hX hi rfl rfl (by decide +kernel) ?_
    exact ⟨rfl, rfl, rfl, rfl⟩
  rw [if_neg s11_17] at h
  by_cases s11_18 : (I 84 x1.toNatClampNeg) = (18 : Int32)
  · rw [if_pos s11_18] at h
    refine am_tsi hX hi (dflt := (303)) (lo := (1)) (hi' := (20)) (offs := #[(93), (93), (114), (120), (139), (158), (177), (197), (203), (209), (228), (247), (253), (259), (265), (273), (203), (280), (288), (296)]) (len := 93) (off := (280)) (tgt := 291) (by decide +kernel) (by rw [s11_18]; decide) (by rw [s11_18]; decide) (by rw [s11_18]; rfl) (by decide) ?_
    refine am_blk 291 [(.aload_n 0, 1, 0, 0, .null), (.iload_n 1, 1, 1, 0, .null), (.bipush (8), 2, 0, 0, .int (8 : Int32))] (295, [(0, .ref 79), (1, .int x1), (2, .ref 123)], [.int (8 : Int32), .int x1, .ref 79], I, G, (gP 123)) (True) hX hi (by decide +kernel) rfl trivial ?_
    obtain ⟨r17, I17, G17, hc, h⟩ := rb_some h
    refine am_callV hX hi (M := mX14_look) (idx := 240) (d' := 3) (b := 79) (ci := 12) (As := [.int x1, .int (8 : Int32)]) (rest := []) mkX14_look miX14_look mvX14_look (by decide +kernel) (by decide +kernel) rfl (by decide +kernel) rfl ⟨by omega, by decide, Nat.le_of_ble_eq_true rfl⟩ rfl (c_X14_look_79 I G x1 (8 : Int32) hc) ?_
    rintro rz Iz Gz Pz ⟨e0, e1, e2, e3⟩
    rw [e0, e1, e2, e3]
    show am_V X 0 0 _ _ ad (298, [(0, .ref 79), (1, .int x1), (2, .ref 123)], [.int r17], I17, G17, (gP 123))
    cases h
    refine am_iret hX hi rfl rfl (by decide +kernel) ?_
    exact ⟨rfl, rfl, rfl, rfl⟩
  rw [if_neg s11_18] at h
  by_cases s11_19 : (I 84 x1.toNatClampNeg) = (19 : Int32)
  · rw [if_pos s11_19] at h
    refine am_tsi hX hi (dflt := (303)) (lo := (1)) (hi' := (20)) (offs := #[(93), (93), (114), (120), (139), (158), (177), (197), (203), (209), (228), (247), (253), (259), (265), (273), (203), (280), (288), (296)]) (len := 93) (off := (288)) (tgt := 299) (by decide +kernel) (by rw [s11_19]; decide) (by rw [s11_19]; decide) (by rw [s11_19]; rfl) (by decide) ?_
    refine am_blk 299 [(.aload_n 0, 1, 0, 0, .null), (.iload_n 1, 1, 1, 0, .null), (.bipush (12), 2, 0, 0, .int (12 : Int32))] (303, [(0, .ref 79), (1, .int x1), (2, .ref 123)], [.int (12 : Int32), .int x1, .ref 79], I, G, (gP 123)) (True) hX hi (by decide +kernel) rfl trivial ?_
    obtain ⟨r18, I18, G18, hc, h⟩ := rb_some h
    refine am_callV hX hi (M := mX14_look) (idx := 240) (d' := 3) (b := 79) (ci := 12) (As := [.int x1, .int (12 : Int32)]) (rest := []) mkX14_look miX14_look mvX14_look (by decide +kernel) (by decide +kernel) rfl (by decide +kernel) rfl ⟨by omega, by decide, Nat.le_of_ble_eq_true rfl⟩ rfl (c_X14_look_79 I G x1 (12 : Int32) hc) ?_
    rintro rz Iz Gz Pz ⟨e0, e1, e2, e3⟩
    rw [e0, e1, e2, e3]
    show am_V X 0 0 _ _ ad (306, [(0, .ref 79), (1, .int x1), (2, .ref 123)], [.int r18], I18, G18, (gP 123))
    cases h
    refine am_iret hX hi rfl rfl (by decide +kernel) ?_
    exact ⟨rfl, rfl, rfl, rfl⟩
  rw [if_neg s11_19] at h
  by_cases s11_20 : (I 84 x1.toNatClampNeg) = (20 : Int32)
  · rw [if_pos s11_20] at h
    refine am_tsi hX hi (dflt := (303)) (lo := (1)) (hi' := (20)) (offs := #[(93), (93), (114), (120), (139), (158), (177), (197), (203), (209), (228), (247), (253), (259), (265), (273), (203), (280), (288), (296)]) (len := 93) (off := (296)) (tgt := 307) (by decide +kernel) (by rw [s11_20]; decide) (by rw [s11_20]; decide) (by rw [s11_20]; rfl) (by decide) ?_
    refine am_blk 307 [(.aload_n 0, 1, 0, 0, .null), (.iload_n 1, 1, 1, 0, .null), (.iconst (3), 1, 0, 0, .int (3 : Int32))] (310, [(0, .ref 79), (1, .int x1), (2, .ref 123)], [.int (3 : Int32), .int x1, .ref 79], I, G, (gP 123)) (True) hX hi (by decide +kernel) rfl trivial ?_
    obtain ⟨r19, I19, G19, hc, h⟩ := rb_some h
    refine am_callV hX hi (M := mX14_look) (idx := 240) (d' := 3) (b := 79) (ci := 12) (As := [.int x1, .int (3 : Int32)]) (rest := []) mkX14_look miX14_look mvX14_look (by decide +kernel) (by decide +kernel) rfl (by decide +kernel) rfl ⟨by omega, by decide, Nat.le_of_ble_eq_true rfl⟩ rfl (c_X14_look_79 I G x1 (3 : Int32) hc) ?_
    rintro rz Iz Gz Pz ⟨e0, e1, e2, e3⟩
    rw [e0, e1, e2, e3]
    show am_V X 0 0 _ _ ad (313, [(0, .ref 79), (1, .int x1), (2, .ref 123)], [.int r19], I19, G19, (gP 123))
    cases h
    refine am_iret hX hi rfl rfl (by decide +kernel) ?_
    exact ⟨rfl, rfl, rfl, rfl⟩
  rw [if_neg s11_20] at h
  refine am_tso hX hi (dflt := (303)) (lo := (1)) (hi' := (20)) (offs := #[(93), (93), (114), (120), (139), (158), (177), (197), (203), (209), (228), (247), (253), (259), (265), (273), (203), (280), (288), (296)]) (len := 93) (tgt := 314) (by decide +kernel) ?_ (by decide) ?_
  · have eF : ∀ v : Int32, ¬ (I 84 x1.toNatClampNeg) = v → ¬ ((I 84 x1.toNatClampNeg)).toInt = v.toInt := fun v q z => q ((i_eq _ _).mpr z)
    have e1 := eF (1 : Int32) s11_1
    have e2 := eF (2 : Int32) s11_2
    have e3 := eF (3 : Int32) s11_3
    have e4 := eF (4 : Int32) s11_4
    have e5 := eF (5 : Int32) s11_5
    have e6 := eF (6 : Int32) s11_6
    have e7 := eF (7 : Int32) s11_7
    have e8 := eF (8 : Int32) s11_8
    have e9 := eF (9 : Int32) s11_9
    have e10 := eF (10 : Int32) s11_10
    have e11 := eF (11 : Int32) s11_11
    have e12 := eF (12 : Int32) s11_12
    have e13 := eF (13 : Int32) s11_13
    have e14 := eF (14 : Int32) s11_14
    have e15 := eF (15 : Int32) s11_15
    have e16 := eF (16 : Int32) s11_16
    have e17 := eF (17 : Int32) s11_17
    have e18 := eF (18 : Int32) s11_18
    have e19 := eF (19 : Int32) s11_19
    have e20 := eF (20 : Int32) s11_20
    simp only [show ((1 : Int32) : Int32).toInt = 1 from rfl, show ((2 : Int32) : Int32).toInt = 2 from rfl, show ((3 : Int32) : Int32).toInt = 3 from rfl, show ((4 : Int32) : Int32).toInt = 4 from rfl, show ((5 : Int32) : Int32).toInt = 5 from rfl, show ((6 : Int32) : Int32).toInt = 6 from rfl, show ((7 : Int32) : Int32).toInt = 7 from rfl, show ((8 : Int32) : Int32).toInt = 8 from rfl, show ((9 : Int32) : Int32).toInt = 9 from rfl, show ((10 : Int32) : Int32).toInt = 10 from rfl, show ((11 : Int32) : Int32).toInt = 11 from rfl, show ((12 : Int32) : Int32).toInt = 12 from rfl, show ((13 : Int32) : Int32).toInt = 13 from rfl, show ((14 : Int32) : Int32).toInt = 14 from rfl, show ((15 : Int32) : Int32).toInt = 15 from rfl, show ((16 : Int32) : Int32).toInt = 16 from rfl, show ((17 : Int32) : Int32).toInt = 17 from rfl, show ((18 : Int32) : Int32).toInt = 18 from rfl, show ((19 : Int32) : Int32).toInt = 19 from rfl, show ((20 : Int32) : Int32).toInt = 20 from rfl] at e1 e2 e3 e4 e5 e6 e7 e8 e9 e10 e11 e12 e13 e14 e15 e16 e17 e18 e19 e20
    omega
  refine am_blk 314 [(.iconst (0), 1, 0, 0, .int (0 : Int32))] (315, [(0, .ref 79), (1, .int x1), (2, .ref 123)], [.int (0 : Int32)], I, G, (gP 123)) (True) hX hi (by decide +kernel) rfl trivial ?_
  cases h
  refine am_iret hX hi rfl rfl (by decide +kernel) ?_
  exact ⟨rfl, rfl, rfl, rfl⟩
noncomputable def R_X7_carryOut_53 (I : am_I) (G : am_G) (x1 : Int32) : Option (Int32 × am_I × am_G) := (if (gAt (I 21) 20 x1) ≤ (gAt (I 20) 20 x1) then rb (R_X7_reckon_53 I G (gAt (I 19) 20 x1) (gAt (I 20) 20 x1)) (fun r1 I1 G1 => (if (gAt (I1 17) 20 x1) = (6 : Int32) then rg ((f_X7_changeSeed_53 I1 G1 (gAt (I1 18) 20 x1) (gHo r1 (0 : Int32) (999 : Int32))) = 0 ∨ (f_X7_changeSeed_53 I1 G1 (gAt (I1 18) 20 x1) (gHo r1 (0 : Int32) (999 : Int32))) = 1) (some ((f_X7_changeSeed_53 I1 G1 (gAt (I1 18) 20 x1) (gHo r1 (0 : Int32) (999 : Int32))), (g_X7_changeSeed_53 I1 G1 (gAt (I1 18) 20 x1) (gHo r1 (0 : Int32) (999 : Int32))), G1)) else if (gAt (I1 17) 20 x1) = (9 : Int32) then rb (R_X7_changePull_53 I1 G1 (gAt (I1 18) 20 x1) (gHo r1 (0 : Int32) (16 : Int32))) (fun r2 I2 G2 => rg (r2 = 0 ∨ r2 = 1) (some (r2, I2, G2))) else (if (gAt (I1 18) 20 x1) = 0 then rg ((f_X7_changeDrift_53 I1 G1 r1 (0 : Int32)) = 0 ∨ (f_X7_changeDrift_53 I1 G1 r1 (0 : Int32)) = 1) (some ((f_X7_changeDrift_53 I1 G1 r1 (0 : Int32)), (g_X7_changeDrift_53 I1 G1 r1 (0 : Int32)), G1)) else rg ((f_X7_changeDrift_53 I1 G1 (0 : Int32) r1) = 0 ∨ (f_X7_changeDrift_53 I1 G1 (0 : Int32) r1) = 1) (some ((f_X7_changeDrift_53 I1 G1 (0 : Int32) r1), (g_X7_changeDrift_53 I1 G1 (0 : Int32) r1), G1))))) else rb (R_X7_reckon_53 I G (gAt (I 20) 20 x1) (gAt (I 21) 20 x1)) (fun r3 I3 G3 => (if r3 = 0 then some ((0 : Int32), I3, G3) else rb (R_X7_reckon_53 I3 G3 (gAt (I3 19) 20 x1) (gAt (I 20) 20 x1)) (fun r4 I4 G4 => (if (gAt (I4 17) 20 x1) = (6 : Int32) then rg ((f_X7_changeSeed_53 I4 G4 (gAt (I4 18) 20 x1) (gHo r4 (0 : Int32) (999 : Int32))) = 0 ∨ (f_X7_changeSeed_53 I4 G4 (gAt (I4 18) 20 x1) (gHo r4 (0 : Int32) (999 : Int32))) = 1) (some ((f_X7_changeSeed_53 I4 G4 (gAt (I4 18) 20 x1) (gHo r4 (0 : Int32) (999 : Int32))), (g_X7_changeSeed_53 I4 G4 (gAt (I4 18) 20 x1) (gHo r4 (0 : Int32) (999 : Int32))), G4)) else if (gAt (I4 17) 20 x1) = (9 : Int32) then rb (R_X7_changePull_53 I4 G4 (gAt (I4 18) 20 x1) (gHo r4 (0 : Int32) (16 : Int32))) (fun r5 I5 G5 => rg (r5 = 0 ∨ r5 = 1) (some (r5, I5, G5))) else (if (gAt (I4 18) 20 x1) = 0 then rg ((f_X7_changeDrift_53 I4 G4 r4 (0 : Int32)) = 0 ∨ (f_X7_changeDrift_53 I4 G4 r4 (0 : Int32)) = 1) (some ((f_X7_changeDrift_53 I4 G4 r4 (0 : Int32)), (g_X7_changeDrift_53 I4 G4 r4 (0 : Int32)), G4)) else rg ((f_X7_changeDrift_53 I4 G4 (0 : Int32) r4) = 0 ∨ (f_X7_changeDrift_53 I4 G4 (0 : Int32) r4) = 1) (some ((f_X7_changeDrift_53 I4 G4 (0 : Int32) r4), (g_X7_changeDrift_53 I4 G4 (0 : Int32) r4), G4))))))))
set_option maxRecDepth 20000 in
set_option maxHeartbeats 4000000 in
theorem c_X7_carryOut_53 (rd : Nat) (I : am_I) (G : am_G) (x1 : Int32) {out : Int32 × am_I × am_G} (h : R_X7_carryOut_53 I G x1 = some out) : am_Ct mX7_carryOut 6 gS [.ref 53, .int x1] I G (gP rd) (pI out.1 out.2.1 out.2.2 (gP rd)) := by
  refine am_ofF (by decide +kernel) rfl (by decide) (by omega) (Nat.le_of_ble_eq_true rfl) (fun X ad hX hi => ?_)
  have hi : am_info X 5 cX7_carryOut 6 false (Option.some Jvm.ClassFile.FieldType.boolean) 6 := hi
  show am_V X 0 0 _ _ ad (0, [(0, .ref 53), (1, .int x1)], [], I, G, (gP rd))
  unfold R_X7_carryOut_53 at h
  refine am_blk 0 [(.aload_n 0, 1, 0, 0, .null), (.getfield 44, 3, 5, 0, .null), (.getfield 114, 3, 3, 8, .null), (.getfield 133, 3, 1, 3, .null), (.iload_n 1, 1, 1, 0, .null)] (11, [(0, .ref 53), (1, .int x1)], [.int x1, .ref 20], I, G, (gP rd)) (True) hX hi (by decide +kernel) rfl trivial ?_
  refine am_callS hX hi (M := mX0_at) (idx := 85) (d' := 1) (As := [.ref 20, .int x1]) (rest := []) mkX0_at msX0_at (by decide +kernel) (by decide +kernel) rfl ⟨by omega, by decide, Nat.le_of_ble_eq_true rfl⟩ rfl (c_at rfl (by decide) x1) ?_
  rintro r9 I9 G9 P9 ⟨e0, e1, e2, e3⟩
  rw [e0, e1, e2, e3]
  show am_V X 0 0 _ _ ad (14, [(0, .ref 53), (1, .int x1)], [.int (gAt (I 20) 20 x1)], I, G, (gP rd))
  refine am_blk 14 [(.istore_n 2, 1, 2, 0, .null), (.aload_n 0, 1, 0, 0, .null), (.getfield 44, 3, 5, 0, .null), (.getfield 114, 3, 3, 8, .null), (.getfield 136, 3, 1, 4, .null), (.iload_n 1, 1, 1, 0, .null)] (26, [(0, .ref 53), (1, .int x1), (2, .int (gAt (I 20) 20 x1))], [.int x1, .ref 21], I, G, (gP rd)) (True) hX hi (by decide +kernel) rfl trivial ?_
  refine am_callS hX hi (M := mX0_at) (idx := 85) (d' := 1) (As := [.ref 21, .int x1]) (rest := []) mkX0_at msX0_at (by decide +kernel) (by decide +kernel) rfl ⟨by omega, by decide, Nat.le_of_ble_eq_true rfl⟩ rfl (c_at rfl (by decide) x1) ?_
  rintro r9 I9 G9 P9 ⟨e0, e1, e2, e3⟩
  rw [e0, e1, e2, e3]
  show am_V X 0 0 _ _ ad (29, [(0, .ref 53), (1, .int x1), (2, .int (gAt (I 20) 20 x1))], [.int (gAt (I 21) 20 x1)], I, G, (gP rd))
  refine am_blk 29 [(.istore_n 3, 1, 3, 0, .null), (.iload_n 2, 1, 2, 0, .null), (.iload_n 3, 1, 3, 0, .null)] (32, [(0, .ref 53), (1, .int x1), (2, .int (gAt (I 20) 20 x1)), (3, .int (gAt (I 21) 20 x1))], [.int (gAt (I 21) 20 x1), .int (gAt (I 20) 20 x1)], I, G, (gP rd)) (True) hX hi (by decide +kernel) rfl trivial ?_
  refine am_icmp_ge (tgt := 46) hX hi (off := (14)) (by decide +kernel) (by decide) (fun c32 => ?_) (fun c32 => ?_)
  · rw [if_pos c32] at h
    refine am_blk 46 [(.aload_n 0, 1, 0, 0, .null), (.aload_n 0, 1, 0, 0, .null), (.getfield 44, 3, 5, 0, .null), (.getfield 114, 3, 3, 8, .null), (.getfield 143, 3, 1, 2, .null), (.iload_n 1, 1, 1, 0, .null)] (58, [(0, .ref 53), (1, .int x1), (2, .int (gAt (I 20) 20 x1)), (3, .int (gAt (I 21) 20 x1))], [.int x1, .ref 19, .ref 53], I, G, (gP rd)) (True) hX hi (by decide +kernel) rfl trivial ?_
    refine am_callS hX hi (M := mX0_at) (idx := 85) (d' := 1) (As := [.ref 19, .int x1]) (rest := [.ref 53]) mkX0_at msX0_at (by decide +kernel) (by decide +kernel) rfl ⟨by omega, by decide, Nat.le_of_ble_eq_true rfl⟩ rfl (c_at rfl (by decide) x1) ?_
    rintro r9 I9 G9 P9 ⟨e0, e1, e2, e3⟩
    rw [e0, e1, e2, e3]
    show am_V X 0 0 _ _ ad (61, [(0, .ref 53), (1, .int x1), (2, .int (gAt (I 20) 20 x1)), (3, .int (gAt (I 21) 20 x1))], [.int (gAt (I 19) 20 x1), .ref 53], I, G, (gP rd))
    refine am_blk 61 [(.iload_n 2, 1, 2, 0, .null)] (62, [(0, .ref 53), (1, .int x1), (2, .int (gAt (I 20) 20 x1)), (3, .int (gAt (I 21) 20 x1))], [.int (gAt (I 20) 20 x1), .int (gAt (I 19) 20 x1), .ref 53], I, G, (gP rd)) (True) hX hi (by decide +kernel) rfl trivial ?_
    obtain ⟨r1, I1, G1, hc, h⟩ := rb_some h
    refine am_callV hX hi (M := mX7_reckon) (idx := 139) (d' := 5) (b := 53) (ci := 5) (As := [.int (gAt (I 19) 20 x1), .int (gAt (I 20) 20 x1)]) (rest := []) mkX7_reckon miX7_reckon mvX7_reckon (by decide +kernel) (by decide +kernel) rfl (by decide +kernel) rfl ⟨by omega, by decide, Nat.le_of_ble_eq_true rfl⟩ rfl (c_X7_reckon_53 _ I G (gAt (I 19) 20 x1) (gAt (I 20) 20 x1) hc) ?_
    rintro r9 I9 G9 P9 ⟨e0, e1, e2, e3⟩
    rw [e0, e1, e2, e3]
    show am_V X 0 0 _ _ ad (65, [(0, .ref 53), (1, .int x1), (2, .int (gAt (I 20) 20 x1)), (3, .int (gAt (I 21) 20 x1))], [.int r1], I1, G1, (gP rd))
    refine am_blk 65 [(.istore 4, 2, 4, 0, .null), (.aload_n 0, 1, 0, 0, .null), (.getfield 44, 3, 5, 0, .null), (.getfield 114, 3, 3, 8, .null), (.getfield 146, 3, 1, 1, .null), (.iload_n 1, 1, 1, 0, .null)] (78, [(0, .ref 53), (1, .int x1), (2, .int (gAt (I 20) 20 x1)), (3, .int (gAt (I 21) 20 x1)), (4, .int r1)], [.int x1, .ref 18], I1, G1, (gP rd)) (True) hX hi (by decide +kernel) rfl trivial ?_
    refine am_callS hX hi (M := mX0_at) (idx := 85) (d' := 1) (As := [.ref 18, .int x1]) (rest := []) mkX0_at msX0_at (by decide +kernel) (by decide +kernel) rfl ⟨by omega, by decide, Nat.le_of_ble_eq_true rfl⟩ rfl (c_at rfl (by decide) x1) ?_
    rintro r9 I9 G9 P9 ⟨e0, e1, e2, e3⟩
    rw [e0, e1, e2, e3]
    show am_V X 0 0 _ _ ad (81, [(0, .ref 53), (1, .int x1), (2, .int (gAt (I 20) 20 x1)), (3, .int (gAt (I 21) 20 x1)), (4, .int r1)], [.int (gAt (I1 18) 20 x1)], I1, G1, (gP rd))
    refine am_blk 81 [(.istore 5, 2, 5, 0, .null), (.aload_n 0, 1, 0, 0, .null), (.getfield 44, 3, 5, 0, .null), (.getfield 114, 3, 3, 8, .null), (.getfield 149, 3, 1, 0, .null), (.iload_n 1, 1, 1, 0, .null)] (94, [(0, .ref 53), (1, .int x1), (2, .int (gAt (I 20) 20 x1)), (3, .int (gAt (I 21) 20 x1)), (4, .int r1), (5, .int (gAt (I1 18) 20 x1))], [.int x1, .ref 17], I1, G1, (gP rd)) (True) hX hi (by decide +kernel) rfl trivial ?_
    refine am_callS hX hi (M := mX0_at) (idx := 85) (d' := 1) (As := [.ref 17, .int x1]) (rest := []) mkX0_at msX0_at (by decide +kernel) (by decide +kernel) rfl ⟨by omega, by decide, Nat.le_of_ble_eq_true rfl⟩ rfl (c_at rfl (by decide) x1) ?_
    rintro r9 I9 G9 P9 ⟨e0, e1, e2, e3⟩
    rw [e0, e1, e2, e3]
    show am_V X 0 0 _ _ ad (97, [(0, .ref 53), (1, .int x1), (2, .int (gAt (I 20) 20 x1)), (3, .int (gAt (I 21) 20 x1)), (4, .int r1), (5, .int (gAt (I1 18) 20 x1))], [.int (gAt (I1 17) 20 x1)], I1, G1, (gP rd))
    by_cases s97_6 : (gAt (I1 17) 20 x1) = (6 : Int32)
    · rw [if_pos s97_6] at h
      refine am_lsw hX hi (dflt := (58)) (ps := #[((6), (42)), ((9), (27))]) (len := 27) (off := (42)) (tgt := 139) (by decide +kernel) (by decide +kernel) (by rw [s97_6]; rfl) (by decide) ?_
      refine am_blk 139 [(.aload_n 0, 1, 0, 0, .null), (.iload 5, 2, 5, 0, .null), (.iload 4, 2, 4, 0, .null), (.iconst (0), 1, 0, 0, .int (0 : Int32)), (.sipush (999), 3, 0, 0, .int (999 : Int32))] (148, [(0, .ref 53), (1, .int x1), (2, .int (gAt (I 20) 20 x1)), (3, .int (gAt (I 21) 20 x1)), (4, .int r1), (5, .int (gAt (I1 18) 20 x1))], [.int (999 : Int32), .int (0 : Int32), .int r1, .int (gAt (I1 18) 20 x1), .ref 53], I1, G1, (gP rd)) (True) hX hi (by decide +kernel) rfl trivial ?_
      refine am_callS hX hi (M := mX0_hold) (idx := 152) (d' := 1) (As := [.int r1, .int (0 : Int32), .int (999 : Int32)]) (rest := [.int (gAt (I1 18) 20 x1), .ref 53]) mkX0_hold msX0_hold (by decide +kernel) (by decide +kernel) rfl ⟨by omega, by decide, Nat.le_of_ble_eq_true rfl⟩ rfl (c_hold r1 (0 : Int32) (999 : Int32)) ?_
      rintro r9 I9 G9 P9 ⟨e0, e1, e2, e3⟩
      rw [e0, e1, e2, e3]
      show am_V X 0 0 _ _ ad (151, [(0, .ref 53), (1, .int x1), (2, .int (gAt (I 20) 20 x1)), (3, .int (gAt (I 21) 20 x1)), (4, .int r1), (5, .int (gAt (I1 18) 20 x1))], [.int (gHo r1 (0 : Int32) (999 : Int32)), .int (gAt (I1 18) 20 x1), .ref 53], I1, G1, (gP rd))
      refine am_callV hX hi (M := mX7_changeSeed) (idx := 160) (d' := 2) (b := 53) (ci := 5) (As := [.int (gAt (I1 18) 20 x1), .int (gHo r1 (0 : Int32) (999 : Int32))]) (rest := []) mkX7_changeSeed miX7_changeSeed mvX7_changeSeed (by decide +kernel) (by decide +kernel) rfl (by decide +kernel) rfl ⟨by omega, by decide, Nat.le_of_ble_eq_true rfl⟩ rfl (c_X7_changeSeed_53 _ I1 G1 (gAt (I1 18) 20 x1) (gHo r1 (0 : Int32) (999 : Int32))) ?_
      rintro r9 I9 G9 P9 ⟨e0, e1, e2, e3⟩
      rw [e0, e1, e2, e3]
      show am_V X 0 0 _ _ ad (154, [(0, .ref 53), (1, .int x1), (2, .int (gAt (I 20) 20 x1)), (3, .int (gAt (I 21) 20 x1)), (4, .int r1), (5, .int (gAt (I1 18) 20 x1))], [.int (f_X7_changeSeed_53 I1 G1 (gAt (I1 18) 20 x1) (gHo r1 (0 : Int32) (999 : Int32)))], (g_X7_changeSeed_53 I1 G1 (gAt (I1 18) 20 x1) (gHo r1 (0 : Int32) (999 : Int32))), G1, (gP rd))
      obtain ⟨gb, h⟩ := rg_some h
      cases h
      refine am_iret hX hi rfl (by rcases gb with gb | gb <;> rw [gb] <;> rfl) (by decide +kernel) ?_
      exact ⟨rfl, rfl, rfl, rfl⟩
    rw [if_neg s97_6] at h
    by_cases s97_9 : (gAt (I1 17) 20 x1) = (9 : Int32)
    · rw [if_pos s97_9] at h
      refine am_lsw hX hi (dflt := (58)) (ps := #[((6), (42)), ((9), (27))]) (len := 27) (off := (27)) (tgt := 124) (by decide +kernel) (by decide +kernel) (by rw [s97_9]; rfl) (by decide) ?_
      refine am_blk 124 [(.aload_n 0, 1, 0, 0, .null), (.iload 5, 2, 5, 0, .null), (.iload 4, 2, 4, 0, .null), (.iconst (0), 1, 0, 0, .int (0 : Int32)), (.bipush (16), 2, 0, 0, .int (16 : Int32))] (132, [(0, .ref 53), (1, .int x1), (2, .int (gAt (I 20) 20 x1)), (3, .int (gAt (I 21) 20 x1)), (4, .int r1), (5, .int (gAt (I1 18) 20 x1))], [.int (16 : Int32), .int (0 : Int32), .int r1, .int (gAt (I1 18) 20 x1), .ref 53], I1, G1, (gP rd)) (True) hX hi (by decide +kernel) rfl trivial ?_
      refine am_callS hX hi (M := mX0_hold) (idx := 152) (d' := 1) (As := [.int r1, .int (0 : Int32), .int (16 : Int32)]) (rest := [.int (gAt (I1 18) 20 x1), .ref 53]) mkX0_hold msX0_hold (by decide +kernel) (by decide +kernel) rfl ⟨by omega, by decide, Nat.le_of_ble_eq_true rfl⟩ rfl (c_hold r1 (0 : Int32) (16 : Int32)) ?_
      rintro r9 I9 G9 P9 ⟨e0, e1, e2, e3⟩
      rw [e0, e1, e2, e3]
      show am_V X 0 0 _ _ ad (135, [(0, .ref 53), (1, .int x1), (2, .int (gAt (I 20) 20 x1)), (3, .int (gAt (I 21) 20 x1)), (4, .int r1), (5, .int (gAt (I1 18) 20 x1))], [.int (gHo r1 (0 : Int32) (16 : Int32)), .int (gAt (I1 18) 20 x1), .ref 53], I1, G1, (gP rd))
      obtain ⟨r2, I2, G2, hc, h⟩ := rb_some h
      refine am_callV hX hi (M := mX7_changePull) (idx := 156) (d' := 4) (b := 53) (ci := 5) (As := [.int (gAt (I1 18) 20 x1), .int (gHo r1 (0 : Int32) (16 : Int32))]) (rest := []) mkX7_changePull miX7_changePull mvX7_changePull (by decide +kernel) (by decide +kernel) rfl (by decide +kernel) rfl ⟨by omega, by decide, Nat.le_of_ble_eq_true rfl⟩ rfl (c_X7_changePull_53 _ I1 G1 (gAt (I1 18) 20 x1) (gHo r1 (0 : Int32) (16 : Int32)) hc) ?_
      rintro r9 I9 G9 P9 ⟨e0, e1, e2, e3⟩
      rw [e0, e1, e2, e3]
      show am_V X 0 0 _ _ ad (138, [(0, .ref 53), (1, .int x1), (2, .int (gAt (I 20) 20 x1)), (3, .int (gAt (I 21) 20 x1)), (4, .int r1), (5, .int (gAt (I1 18) 20 x1))], [.int r2], I2, G2, (gP rd))
      obtain ⟨gb, h⟩ := rg_some h
      cases h
      refine am_iret hX hi rfl (by rcases gb with gb | gb <;> rw [gb] <;> rfl) (by decide +kernel) ?_
      exact ⟨rfl, rfl, rfl, rfl⟩
    rw [if_neg s97_9] at h
    refine am_lsw hX hi (dflt := (58)) (ps := #[((6), (42)), ((9), (27))]) (len := 27) (off := (58)) (tgt := 155) (by decide +kernel) (by decide +kernel) ?_ (by decide) ?_
    · have eF : ∀ v : Int32, ¬ (gAt (I1 17) 20 x1) = v → ¬ ((gAt (I1 17) 20 x1)).toInt = v.toInt := fun v q z => q ((i_eq _ _).mpr z)
      have e6 := eF (6 : Int32) s97_6
      have e9 := eF (9 : Int32) s97_9
      simp only [show ((6 : Int32) : Int32).toInt = 6 from rfl, show ((9 : Int32) : Int32).toInt = 9 from rfl] at e6 e9
      simp [Op.lookupswitch.offset, e6, Ne.symm e6, e9, Ne.symm e9]
    refine am_blk 155 [(.iload 5, 2, 5, 0, .null)] (157, [(0, .ref 53), (1, .int x1), (2, .int (gAt (I 20) 20 x1)), (3, .int (gAt (I 21) 20 x1)), (4, .int r1), (5, .int (gAt (I1 18) 20 x1))], [.int (gAt (I1 18) 20 x1)], I1, G1, (gP rd)) (True) hX hi (by decide +kernel) rfl trivial ?_
    refine am_if_ne (tgt := 170) hX hi (off := (13)) (by decide +kernel) (by decide) (fun c157 => ?_) (fun c157 => ?_)
    · rw [if_neg c157] at h
      refine am_blk 170 [(.aload_n 0, 1, 0, 0, .null), (.iconst (0), 1, 0, 0, .int (0 : Int32)), (.iload 4, 2, 4, 0, .null)] (174, [(0, .ref 53), (1, .int x1), (2, .int (gAt (I 20) 20 x1)), (3, .int (gAt (I 21) 20 x1)), (4, .int r1), (5, .int (gAt (I1 18) 20 x1))], [.int r1, .int (0 : Int32), .ref 53], I1, G1, (gP rd)) (True) hX hi (by decide +kernel) rfl trivial ?_
      refine am_callV hX hi (M := mX7_changeDrift) (idx := 163) (d' := 3) (b := 53) (ci := 5) (As := [.int (0 : Int32), .int r1]) (rest := []) mkX7_changeDrift miX7_changeDrift mvX7_changeDrift (by decide +kernel) (by decide +kernel) rfl (by decide +kernel) rfl ⟨by omega, by decide, Nat.le_of_ble_eq_true rfl⟩ rfl (c_X7_changeDrift_53 _ I1 G1 (0 : Int32) r1) ?_
      rintro r9 I9 G9 P9 ⟨e0, e1, e2, e3⟩
      rw [e0, e1, e2, e3]
      show am_V X 0 0 _ _ ad (177, [(0, .ref 53), (1, .int x1), (2, .int (gAt (I 20) 20 x1)), (3, .int (gAt (I 21) 20 x1)), (4, .int r1), (5, .int (gAt (I1 18) 20 x1))], [.int (f_X7_changeDrift_53 I1 G1 (0 : Int32) r1)], (g_X7_changeDrift_53 I1 G1 (0 : Int32) r1), G1, (gP rd))
      obtain ⟨gb, h⟩ := rg_some h
      cases h
      refine am_iret hX hi rfl (by rcases gb with gb | gb <;> rw [gb] <;> rfl) (by decide +kernel) ?_
      exact ⟨rfl, rfl, rfl, rfl⟩
    · rw [if_pos c157] at h
      refine am_blk 160 [(.aload_n 0, 1, 0, 0, .null), (.iload 4, 2, 4, 0, .null), (.iconst (0), 1, 0, 0, .int (0 : Int32))] (164, [(0, .ref 53), (1, .int x1), (2, .int (gAt (I 20) 20 x1)), (3, .int (gAt (I 21) 20 x1)), (4, .int r1), (5, .int (gAt (I1 18) 20 x1))], [.int (0 : Int32), .int r1, .ref 53], I1, G1, (gP rd)) (True) hX hi (by decide +kernel) rfl trivial ?_
      refine am_callV hX hi (M := mX7_changeDrift) (idx := 163) (d' := 3) (b := 53) (ci := 5) (As := [.int r1, .int (0 : Int32)]) (rest := []) mkX7_changeDrift miX7_changeDrift mvX7_changeDrift (by decide +kernel) (by decide +kernel) rfl (by decide +kernel) rfl ⟨by omega, by decide, Nat.le_of_ble_eq_true rfl⟩ rfl (c_X7_changeDrift_53 _ I1 G1 r1 (0 : Int32)) ?_
      rintro r9 I9 G9 P9 ⟨e0, e1, e2, e3⟩
      rw [e0, e1, e2, e3]
      show am_V X 0 0 _ _ ad (167, [(0, .ref 53), (1, .int x1), (2, .int (gAt (I 20) 20 x1)), (3, .int (gAt (I 21) 20 x1)), (4, .int r1), (5, .int (gAt (I1 18) 20 x1))], [.int (f_X7_changeDrift_53 I1 G1 r1 (0 : Int32))], (g_X7_changeDrift_53 I1 G1 r1 (0 : Int32)), G1, (gP rd))
      refine am_blk 167 [(.goto (10), 3, 0, 177, .null)] (177, [(0, .ref 53), (1, .int x1), (2, .int (gAt (I 20) 20 x1)), (3, .int (gAt (I 21) 20 x1)), (4, .int r1), (5, .int (gAt (I1 18) 20 x1))], [.int (f_X7_changeDrift_53 I1 G1 r1 (0 : Int32))], (g_X7_changeDrift_53 I1 G1 r1 (0 : Int32)), G1, (gP rd)) (True) hX hi (by decide +kernel) rfl trivial ?_
      obtain ⟨gb, h⟩ := rg_some h
      cases h
      refine am_iret hX hi rfl (by rcases gb with gb | gb <;> rw [gb] <;> rfl) (by decide +kernel) ?_
      exact ⟨rfl, rfl, rfl, rfl⟩
  · rw [if_neg c32] at h
    refine am_blk 35 [(.aload_n 0, 1, 0, 0, .null), (.iload_n 2, 1, 2, 0, .null), (.iload_n 3, 1, 3, 0, .null)] (38, [(0, .ref 53), (1, .int x1), (2, .int (gAt (I 20) 20 x1)), (3, .int (gAt (I 21) 20 x1))], [.int (gAt (I 21) 20 x1), .int (gAt (I 20) 20 x1), .ref 53], I, G, (gP rd)) (True) hX hi (by decide +kernel) rfl trivial ?_
    obtain ⟨r3, I3, G3, hc, h⟩ := rb_some h
    refine am_callV hX hi (M := mX7_reckon) (idx := 139) (d' := 5) (b := 53) (ci := 5) (As := [.int (gAt (I 20) 20 x1), .int (gAt (I 21) 20 x1)]) (rest := []) mkX7_reckon miX7_reckon mvX7_reckon (by decide +kernel) (by decide +kernel) rfl (by decide +kernel) rfl ⟨by omega, by decide, Nat.le_of_ble_eq_true rfl⟩ rfl (c_X7_reckon_53 _ I G (gAt (I 20) 20 x1) (gAt (I 21) 20 x1) hc) ?_
    rintro r9 I9 G9 P9 ⟨e0, e1, e2, e3⟩
    rw [e0, e1, e2, e3]
    show am_V X 0 0 _ _ ad (41, [(0, .ref 53), (1, .int x1), (2, .int (gAt (I 20) 20 x1)), (3, .int (gAt (I 21) 20 x1))], [.int r3], I3, G3, (gP rd))
    refine am_if_ne (tgt := 46) hX hi (off := (5)) (by decide +kernel) (by decide) (fun c41 => ?_) (fun c41 => ?_)
    · rw [if_neg c41] at h
      refine am_blk 46 [(.aload_n 0, 1, 0, 0, .null), (.aload_n 0, 1, 0, 0, .null), (.getfield 44, 3, 5, 0, .null), (.getfield 114, 3, 3, 8, .null), (.getfield 143, 3, 1, 2, .null), (.iload_n 1, 1, 1, 0, .null)] (58, [(0, .ref 53), (1, .int x1), (2, .int (gAt (I 20) 20 x1)), (3, .int (gAt (I 21) 20 x1))], [.int x1, .ref 19, .ref 53], I3, G3, (gP rd)) (True) hX hi (by decide +kernel) rfl trivial ?_
      refine am_callS hX hi (M := mX0_at) (idx := 85) (d' := 1) (As := [.ref 19, .int x1]) (rest := [.ref 53]) mkX0_at msX0_at (by decide +kernel) (by decide +kernel) rfl ⟨by omega, by decide, Nat.le_of_ble_eq_true rfl⟩ rfl (c_at rfl (by decide) x1) ?_
      rintro r9 I9 G9 P9 ⟨e0, e1, e2, e3⟩
      rw [e0, e1, e2, e3]
      show am_V X 0 0 _ _ ad (61, [(0, .ref 53), (1, .int x1), (2, .int (gAt (I 20) 20 x1)), (3, .int (gAt (I 21) 20 x1))], [.int (gAt (I3 19) 20 x1), .ref 53], I3, G3, (gP rd))
      refine am_blk 61 [(.iload_n 2, 1, 2, 0, .null)] (62, [(0, .ref 53), (1, .int x1), (2, .int (gAt (I 20) 20 x1)), (3, .int (gAt (I 21) 20 x1))], [.int (gAt (I 20) 20 x1), .int (gAt (I3 19) 20 x1), .ref 53], I3, G3, (gP rd)) (True) hX hi (by decide +kernel) rfl trivial ?_
      obtain ⟨r4, I4, G4, hc, h⟩ := rb_some h
      refine am_callV hX hi (M := mX7_reckon) (idx := 139) (d' := 5) (b := 53) (ci := 5) (As := [.int (gAt (I3 19) 20 x1), .int (gAt (I 20) 20 x1)]) (rest := []) mkX7_reckon miX7_reckon mvX7_reckon (by decide +kernel) (by decide +kernel) rfl (by decide +kernel) rfl ⟨by omega, by decide, Nat.le_of_ble_eq_true rfl⟩ rfl (c_X7_reckon_53 _ I3 G3 (gAt (I3 19) 20 x1) (gAt (I 20) 20 x1) hc) ?_
      rintro r9 I9 G9 P9 ⟨e0, e1, e2, e3⟩
      rw [e0, e1, e2, e3]
      show am_V X 0 0 _ _ ad (65, [(0, .ref 53), (1, .int x1), (2, .int (gAt (I 20) 20 x1)), (3, .int (gAt (I 21) 20 x1))], [.int r4], I4, G4, (gP rd))
      refine am_blk 65 [(.istore 4, 2, 4, 0, .null), (.aload_n 0, 1, 0, 0, .null), (.getfield 44, 3, 5, 0, .null), (.getfield 114, 3, 3, 8, .null), (.getfield 146, 3, 1, 1, .null), (.iload_n 1, 1, 1, 0, .null)] (78, [(0, .ref 53), (1, .int x1), (2, .int (gAt (I 20) 20 x1)), (3, .int (gAt (I 21) 20 x1)), (4, .int r4)], [.int x1, .ref 18], I4, G4, (gP rd)) (True) hX hi (by decide +kernel) rfl trivial ?_
      refine am_callS hX hi (M := mX0_at) (idx := 85) (d' := 1) (As := [.ref 18, .int x1]) (rest := []) mkX0_at msX0_at (by decide +kernel) (by decide +kernel) rfl ⟨by omega, by decide, Nat.le_of_ble_eq_true rfl⟩ rfl (c_at rfl (by decide) x1) ?_
      rintro r9 I9 G9 P9 ⟨e0, e1, e2, e3⟩
      rw [e0, e1, e2, e3]
      show am_V X 0 0 _ _ ad (81, [(0, .ref 53), (1, .int x1), (2, .int (gAt (I 20) 20 x1)), (3, .int (gAt (I 21) 20 x1)), (4, .int r4)], [.int (gAt (I4 18) 20 x1)], I4, G4, (gP rd))
      refine am_blk 81 [(.istore 5, 2, 5, 0, .null), (.aload_n 0, 1, 0, 0, .null), (.getfield 44, 3, 5, 0, .null), (.getfield 114, 3, 3, 8, .null), (.getfield 149, 3, 1, 0, .null), (.iload_n 1, 1, 1, 0, .null)] (94, [(0, .ref 53), (1, .int x1), (2, .int (gAt (I 20) 20 x1)), (3, .int (gAt (I 21) 20 x1)), (4, .int r4), (5, .int (gAt (I4 18) 20 x1))], [.int x1, .ref 17], I4, G4, (gP rd)) (True) hX hi (by decide +kernel) rfl trivial ?_
      refine am_callS hX hi (M := mX0_at) (idx := 85) (d' := 1) (As := [.ref 17, .int x1]) (rest := []) mkX0_at msX0_at (by decide +kernel) (by decide +kernel) rfl ⟨by omega, by decide, Nat.le_of_ble_eq_true rfl⟩ rfl (c_at rfl (by decide) x1) ?_
      rintro r9 I9 G9 P9 ⟨e0, e1, e2, e3⟩
      rw [e0, e1, e2, e3]
      show am_V X 0 0 _ _ ad (97, [(0, .ref 53), (1, .int x1), (2, .int (gAt (I 20) 20 x1)), (3, .int (gAt (I 21) 20 x1)), (4, .int r4), (5, .int (gAt (I4 18) 20 x1))], [.int (gAt (I4 17) 20 x1)], I4, G4, (gP rd))
      by_cases s97_6 : (gAt (I4 17) 20 x1) = (6 : Int32)
      · rw [if_pos s97_6] at h
        refine am_lsw hX hi (dflt := (58)) (ps := #[((6), (42)), ((9), (27))]) (len := 27) (off := (42)) (tgt := 139) (by decide +kernel) (by decide +kernel) (by rw [s97_6]; rfl) (by decide) ?_
        refine am_blk 139 [(.aload_n 0, 1, 0, 0, .null), (.iload 5, 2, 5, 0, .null), (.iload 4, 2, 4, 0, .null), (.iconst (0), 1, 0, 0, .int (0 : Int32)), (.sipush (999), 3, 0, 0, .int (999 : Int32))] (148, [(0, .ref 53), (1, .int x1), (2, .int (gAt (I 20) 20 x1)), (3, .int (gAt (I 21) 20 x1)), (4, .int r4), (5, .int (gAt (I4 18) 20 x1))], [.int (999 : Int32), .int (0 : Int32), .int r4, .int (gAt (I4 18) 20 x1), .ref 53], I4, G4, (gP rd)) (True) hX hi (by decide +kernel) rfl trivial ?_
        refine am_callS hX hi (M := mX0_hold) (idx := 152) (d' := 1) (As := [.int r4, .int (0 : Int32), .int (999 : Int32)]) (rest := [.int (gAt (I4 18) 20 x1), .ref 53]) mkX0_hold msX0_hold (by decide +kernel) (by decide +kernel) rfl ⟨by omega, by decide, Nat.le_of_ble_eq_true rfl⟩ rfl (c_hold r4 (0 : Int32) (999 : Int32)) ?_
        rintro r9 I9 G9 P9 ⟨e0, e1, e2, e3⟩
        rw [e0, e1, e2, e3]
        show am_V X 0 0 _ _ ad (151, [(0, .ref 53), (1, .int x1), (2, .int (gAt (I 20) 20 x1)), (3, .int (gAt (I 21) 20 x1)), (4, .int r4), (5, .int (gAt (I4 18) 20 x1))], [.int (gHo r4 (0 : Int32) (999 : Int32)), .int (gAt (I4 18) 20 x1), .ref 53], I4, G4, (gP rd))
        refine am_callV hX hi (M := mX7_changeSeed) (idx := 160) (d' := 2) (b := 53) (ci := 5) (As := [.int (gAt (I4 18) 20 x1), .int (gHo r4 (0 : Int32) (999 : Int32))]) (rest := []) mkX7_changeSeed miX7_changeSeed mvX7_changeSeed (by decide +kernel) (by decide +kernel) rfl (by decide +kernel) rfl ⟨by omega, by decide, Nat.le_of_ble_eq_true rfl⟩ rfl (c_X7_changeSeed_53 _ I4 G4 (gAt (I4 18) 20 x1) (gHo r4 (0 : Int32) (999 : Int32))) ?_
        rintro r9 I9 G9 P9 ⟨e0, e1, e2, e3⟩
        rw [e0, e1, e2, e3]
        show am_V X 0 0 _ _ ad (154, [(0, .ref 53), (1, .int x1), (2, .int (gAt (I 20) 20 x1)), (3, .int (gAt (I 21) 20 x1)), (4, .int r4), (5, .int (gAt (I4 18) 20 x1))], [.int (f_X7_changeSeed_53 I4 G4 (gAt (I4 18) 20 x1) (gHo r4 (0 : Int32) (999 : Int32)))], (g_X7_changeSeed_53 I4 G4 (gAt (I4 18) 20 x1) (gHo r4 (0 : Int32) (999 : Int32))), G4, (gP rd))
        obtain ⟨gb, h⟩ := rg_some h
        cases h
        refine am_iret hX hi rfl (by rcases gb with gb | gb <;> rw [gb] <;> rfl) (by decide +kernel) ?_
        exact ⟨rfl, rfl, rfl, rfl⟩
      rw [if_neg s97_6] at h
      by_cases s97_9 : (gAt (I4 17) 20 x1) = (9 : Int32)
      · rw [if_pos s97_9] at h
        refine am_lsw hX hi (dflt := (58)) (ps := #[((6), (42)), ((9), (27))]) (len := 27) (off := (27)) (tgt := 124) (by decide +kernel) (by decide +kernel) (by rw [s97_9]; rfl) (by decide) ?_
        refine am_blk 124 [(.aload_n 0, 1, 0, 0, .null), (.iload 5, 2, 5, 0, .null), (.iload 4, 2, 4, 0, .null), (.iconst (0), 1, 0, 0, .int (0 : Int32)), (.bipush (16), 2, 0, 0, .int (16 : Int32))] (132, [(0, .ref 53), (1, .int x1), (2, .int (gAt (I 20) 20 x1)), (3, .int (gAt (I 21) 20 x1)), (4, .int r4), (5, .int (gAt (I4 18) 20 x1))], [.int (16 : Int32), .int (0 : Int32), .int r4, .int (gAt (I4 18) 20 x1), .ref 53], I4, G4, (gP rd)) (True) hX hi (by decide +kernel) rfl trivial ?_
        refine am_callS hX hi (M := mX0_hold) (idx := 152) (d' := 1) (As := [.int r4, .int (0 : Int32), .int (16 : Int32)]) (rest := [.int (gAt (I4 18) 20 x1), .ref 53]) mkX0_hold msX0_hold (by decide +kernel) (by decide +kernel) rfl ⟨by omega, by decide, Nat.le_of_ble_eq_true rfl⟩ rfl (c_hold r4 (0 : Int32) (16 : Int32)) ?_
        rintro r9 I9 G9 P9 ⟨e0, e1, e2, e3⟩
        rw [e0, e1, e2, e3]
        show am_V X 0 0 _ _ ad (135, [(0, .ref 53), (1, .int x1), (2, .int (gAt (I 20) 20 x1)), (3, .int (gAt (I 21) 20 x1)), (4, .int r4), (5, .int (gAt (I4 18) 20 x1))], [.int (gHo r4 (0 : Int32) (16 : Int32)), .int (gAt (I4 18) 20 x1), .ref 53], I4, G4, (gP rd))
        obtain ⟨r5, I5, G5, hc, h⟩ := rb_some h
        refine am_callV hX hi (M := mX7_changePull) (idx := 156) (d' := 4) (b := 53) (ci := 5) (As := [.int (gAt (I4 18) 20 x1), .int (gHo r4 (0 : Int32) (16 : Int32))]) (rest := []) mkX7_changePull miX7_changePull mvX7_changePull (by decide +kernel) (by decide +kernel) rfl (by decide +kernel) rfl ⟨by omega, by decide, Nat.le_of_ble_eq_true rfl⟩ rfl (c_X7_changePull_53 _ I4 G4 (gAt (I4 18) 20 x1) (gHo r4 (0 : Int32) (16 : Int32)) hc) ?_
        rintro r9 I9 G9 P9 ⟨e0, e1, e2, e3⟩
        rw [e0, e1, e2, e3]
        show am_V X 0 0 _ _ ad (138, [(0, .ref 53), (1, .int x1), (2, .int (gAt (I 20) 20 x1)), (3, .int (gAt (I 21) 20 x1)), (4, .int r4), (5, .int (gAt (I4 18) 20 x1))], [.int r5], I5, G5, (gP rd))
        obtain ⟨gb, h⟩ := rg_some h
        cases h
        refine am_iret hX hi rfl (by rcases gb with gb | gb <;> rw [gb] <;> rfl) (by decide +kernel) ?_
        exact ⟨rfl, rfl, rfl, rfl⟩
      rw [if_neg s97_9] at h
      refine am_lsw hX hi (dflt := (58)) (ps := #[((6), (42)), ((9), (27))]) (len := 27) (off := (58)) (tgt := 155) (by decide +kernel) (by decide +kernel) ?_ (by decide) ?_
      · have eF : ∀ v : Int32, ¬ (gAt (I4 17) 20 x1) = v → ¬ ((gAt (I4 17) 20 x1)).toInt = v.toInt := fun v q z => q ((i_eq _ _).mpr z)
        have e6 := eF (6 : Int32) s97_6
        have e9 := eF (9 : Int32) s97_9
        simp only [show ((6 : Int32) : Int32).toInt = 6 from rfl, show ((9 : Int32) : Int32).toInt = 9 from rfl] at e6 e9
        simp [Op.lookupswitch.offset, e6, Ne.symm e6, e9, Ne.symm e9]
      refine am_blk 155 [(.iload 5, 2, 5, 0, .null)] (157, [(0, .ref 53), (1, .int x1), (2, .int (gAt (I 20) 20 x1)), (3, .int (gAt (I 21) 20 x1)), (4, .int r4), (5, .int (gAt (I4 18) 20 x1))], [.int (gAt (I4 18) 20 x1)], I4, G4, (gP rd)) (True) hX hi (by decide +kernel) rfl trivial ?_
      refine am_if_ne (tgt := 170) hX hi (off := (13)) (by decide +kernel) (by decide) (fun c157 => ?_) (fun c157 => ?_)
      · rw [if_neg c157] at h
        refine am_blk 170 [(.aload_n 0, 1, 0, 0, .null), (.iconst (0), 1, 0, 0, .int (0 : Int32)), (.iload 4, 2, 4, 0, .null)] (174, [(0, .ref 53), (1, .int x1), (2, .int (gAt (I 20) 20 x1)), (3, .int (gAt (I 21) 20 x1)), (4, .int r4), (5, .int (gAt (I4 18) 20 x1))], [.int r4, .int (0 : Int32), .ref 53], I4, G4, (gP rd)) (True) hX hi (by decide +kernel) rfl trivial ?_
        refine am_callV hX hi (M := mX7_changeDrift) (idx := 163) (d' := 3) (b := 53) (ci := 5) (As := [.int (0 : Int32), .int r4]) (rest := []) mkX7_changeDrift miX7_changeDrift mvX7_changeDrift (by decide +kernel) (by decide +kernel) rfl (by decide +kernel) rfl ⟨by omega, by decide, Nat.le_of_ble_eq_true rfl⟩ rfl (c_X7_changeDrift_53 _ I4 G4 (0 : Int32) r4) ?_
        rintro r9 I9 G9 P9 ⟨e0, e1, e2, e3⟩
        rw [e0, e1, e2, e3]
        show am_V X 0 0 _ _ ad (177, [(0, .ref 53), (1, .int x1), (2, .int (gAt (I 20) 20 x1)), (3, .int (gAt (I 21) 20 x1)), (4, .int r4), (5, .int (gAt (I4 18) 20 x1))], [.int (f_X7_changeDrift_53 I4 G4 (0 : Int32) r4)], (g_X7_changeDrift_53 I4 G4 (0 : Int32) r4), G4, (gP rd))
        obtain ⟨gb, h⟩ := rg_some h
        cases h
        refine am_iret hX hi rfl (by rcases gb with gb | gb <;> rw [gb] <;> rfl) (by decide +kernel) ?_
        exact ⟨rfl, rfl, rfl, rfl⟩
      · rw [if_pos c157] at h
        refine am_blk 160 [(.aload_n 0, 1, 0, 0, .null), (.iload 4, 2, 4, 0, .null), (.iconst (0), 1, 0, 0, .int (0 : Int32))] (164, [(0, .ref 53), (1, .int x1), (2, .int (gAt (I 20) 20 x1)), (3, .int (gAt (I 21) 20 x1)), (4, .int r4), (5, .int (gAt (I4 18) 20 x1))], [.int (0 : Int32), .int r4, .ref 53], I4, G4, (gP rd)) (True) hX hi (by decide +kernel) rfl trivial ?_
        refine am_callV hX hi (M := mX7_changeDrift) (idx := 163) (d' := 3) (b := 53) (ci := 5) (As := [.int r4, .int (0 : Int32)]) (rest := []) mkX7_changeDrift miX7_changeDrift mvX7_changeDrift (by decide +kernel) (by decide +kernel) rfl (by decide +kernel) rfl ⟨by omega, by decide, Nat.le_of_ble_eq_true rfl⟩ rfl (c_X7_changeDrift_53 _ I4 G4 r4 (0 : Int32)) ?_
        rintro r9 I9 G9 P9 ⟨e0, e1, e2, e3⟩
        rw [e0, e1, e2, e3]
        show am_V X 0 0 _ _ ad (167, [(0, .ref 53), (1, .int x1), (2, .int (gAt (I 20) 20 x1)), (3, .int (gAt (I 21) 20 x1)), (4, .int r4), (5, .int (gAt (I4 18) 20 x1))], [.int (f_X7_changeDrift_53 I4 G4 r4 (0 : Int32))], (g_X7_changeDrift_53 I4 G4 r4 (0 : Int32)), G4, (gP rd))
        refine am_blk 167 [(.goto (10), 3, 0, 177, .null)] (177, [(0, .ref 53), (1, .int x1), (2, .int (gAt (I 20) 20 x1)), (3, .int (gAt (I 21) 20 x1)), (4, .int r4), (5, .int (gAt (I4 18) 20 x1))], [.int (f_X7_changeDrift_53 I4 G4 r4 (0 : Int32))], (g_X7_changeDrift_53 I4 G4 r4 (0 : Int32)), G4, (gP rd)) (True) hX hi (by decide +kernel) rfl trivial ?_
        obtain ⟨gb, h⟩ := rg_some h
        cases h
        refine am_iret hX hi rfl (by rcases gb with gb | gb <;> rw [gb] <;> rfl) (by decide +kernel) ?_
        exact ⟨rfl, rfl, rfl, rfl⟩
    · rw [if_pos c41] at h
      refine am_blk 44 [(.iconst (0), 1, 0, 0, .int (0 : Int32))] (45, [(0, .ref 53), (1, .int x1), (2, .int (gAt (I 20) 20 x1)), (3, .int (gAt (I 21) 20 x1))], [.int (0 : Int32)], I3, G3, (gP rd)) (True) hX hi (by decide +kernel) rfl trivial ?_
      cases h
      refine am_iret hX hi rfl (by first | rfl | decide | (simp [narrow]; done)) (by decide +kernel) ?_
      exact ⟨rfl, rfl, rfl, rfl⟩
noncomputable def R_X7_carryOut_66 (I : am_I) (G : am_G) (x1 : Int32) : Option (Int32 × am_I × am_G) := (if (gAt (I 21) 20 x1) ≤ (gAt (I 20) 20 x1) then rb (R_X7_reckon_66 I G (gAt (I 19) 20 x1) (gAt (I 20) 20 x1)) (fun r1 I1 G1 => (if (gAt (I1 17) 20 x1) = (6 : Int32) then rg ((f_X7_changeSeed_66 I1 G1 (gAt (I1 18) 20 x1) (gHo r1 (0 : Int32) (999 : Int32))) = 0 ∨ (f_X7_changeSeed_66 I1 G1 (gAt (I1 18) 20 x1) (gHo r1 (0 : Int32) (999 : Int32))) = 1) (some ((f_X7_changeSeed_66 I1 G1 (gAt (I1 18) 20 x1) (gHo r1 (0 : Int32) (999 : Int32))), (g_X7_changeSeed_66 I1 G1 (gAt (I1 18) 20 x1) (gHo r1 (0 : Int32) (999 : Int32))), G1)) else if (gAt (I1 17) 20 x1) = (9 : Int32) then rb (R_X7_changePull_66 I1 G1 (gAt (I1 18) 20 x1) (gHo r1 (0 : Int32) (16 : Int32))) (fun r2 I2 G2 => rg (r2 = 0 ∨ r2 = 1) (some (r2, I2, G2))) else (if (gAt (I1 18) 20 x1) = 0 then rg ((f_X7_changeDrift_66 I1 G1 r1 (0 : Int32)) = 0 ∨ (f_X7_changeDrift_66 I1 G1 r1 (0 : Int32)) = 1) (some ((f_X7_changeDrift_66 I1 G1 r1 (0 : Int32)), (g_X7_changeDrift_66 I1 G1 r1 (0 : Int32)), G1)) else rg ((f_X7_changeDrift_66 I1 G1 (0 : Int32) r1) = 0 ∨ (f_X7_changeDrift_66 I1 G1 (0 : Int32) r1) = 1) (some ((f_X7_changeDrift_66 I1 G1 (0 : Int32) r1), (g_X7_changeDrift_66 I1 G1 (0 : Int32) r1), G1))))) else rb (R_X7_reckon_66 I G (gAt (I 20) 20 x1) (gAt (I 21) 20 x1)) (fun r3 I3 G3 => (if r3 = 0 then some ((0 : Int32), I3, G3) else rb (R_X7_reckon_66 I3 G3 (gAt (I3 19) 20 x1) (gAt (I 20) 20 x1)) (fun r4 I4 G4 => (if (gAt (I4 17) 20 x1) = (6 : Int32) then rg ((f_X7_changeSeed_66 I4 G4 (gAt (I4 18) 20 x1) (gHo r4 (0 : Int32) (999 : Int32))) = 0 ∨ (f_X7_changeSeed_66 I4 G4 (gAt (I4 18) 20 x1) (gHo r4 (0 : Int32) (999 : Int32))) = 1) (some ((f_X7_changeSeed_66 I4 G4 (gAt (I4 18) 20 x1) (gHo r4 (0 : Int32) (999 : Int32))), (g_X7_changeSeed_66 I4 G4 (gAt (I4 18) 20 x1) (gHo r4 (0 : Int32) (999 : Int32))), G4)) else if (gAt (I4 17) 20 x1) = (9 : Int32) then rb (R_X7_changePull_66 I4 G4 (gAt (I4 18) 20 x1) (gHo r4 (0 : Int32) (16 : Int32))) (fun r5 I5 G5 => rg (r5 = 0 ∨ r5 = 1) (some (r5, I5, G5))) else (if (gAt (I4 18) 20 x1) = 0 then rg ((f_X7_changeDrift_66 I4 G4 r4 (0 : Int32)) = 0 ∨ (f_X7_changeDrift_66 I4 G4 r4 (0 : Int32)) = 1) (some ((f_X7_changeDrift_66 I4 G4 r4 (0 : Int32)), (g_X7_changeDrift_66 I4 G4 r4 (0 : Int32)), G4)) else rg ((f_X7_changeDrift_66 I4 G4 (0 : Int32) r4) = 0 ∨ (f_X7_changeDrift_66 I4 G4 (0 : Int32) r4) = 1) (some ((f_X7_changeDrift_66 I4 G4 (0 : Int32) r4), (g_X7_changeDrift_66 I4 G4 (0 : Int32) r4), G4))))))))
set_option maxRecDepth 20000 in
set_option maxHeartbeats 4000000 in
theorem c_X7_carryOut_66 (rd : Nat) (I : am_I) (G : am_G) (x1 : Int32) {out : Int32 × am_I × am_G} (h : R_X7_carryOut_66 I G x1 = some out) : am_Ct mX7_carryOut 6 gS [.ref 66, .int x1] I G (gP rd) (pI out.1 out.2.1 out.2.2 (gP rd)) := by
  refine am_ofF (by decide +kernel) rfl (by decide) (by omega) (Nat.le_of_ble_eq_true rfl) (fun X ad hX hi => ?_)
  have hi : am_info X 5 cX7_carryOut 6 false (Option.some Jvm.ClassFile.FieldType.boolean) 6 := hi
  show am_V X 0 0 _ _ ad (0, [(0, .ref 66), (1, .int x1)], [], I, G, (gP rd))
  unfold R_X7_carryOut_66 at h
  refine am_blk 0 [(.aload_n 0, 1, 0, 0, .null), (.getfield 44, 3, 5, 0, .null), (.getfield 114, 3, 3, 8, .null), (.getfield 133, 3, 1, 3, .null), (.iload_n 1, 1, 1, 0, .null)] (11, [(0, .ref 66), (1, .int x1)], [.int x1, .ref 20], I, G, (gP rd)) (True) hX hi (by decide +kernel) rfl trivial ?_
  refine am_callS hX hi (M := mX0_at) (idx := 85) (d' := 1) (As := [.ref 20, .int x1]) (rest := []) mkX0_at msX0_at (by decide +kernel) (by decide +kernel) rfl ⟨by omega, by decide, Nat.le_of_ble_eq_true rfl⟩ rfl (c_at rfl (by decide) x1) ?_
  rintro r9 I9 G9 P9 ⟨e0, e1, e2, e3⟩
  rw [e0, e1, e2, e3]
  show am_V X 0 0 _ _ ad (14, [(0, .ref 66), (1, .int x1)], [.int (gAt (I 20) 20 x1)], I, G, (gP rd))
  refine am_blk 14 [(.istore_n 2, 1, 2, 0, .null), (.aload_n 0, 1, 0, 0, .null), (.getfield 44, 3, 5, 0, .null), (.getfield 114, 3, 3, 8, .null), (.getfield 136, 3, 1, 4, .null), (.iload_n 1, 1, 1, 0, .null)] (26, [(0, .ref 66), (1, .int x1), (2, .int (gAt (I 20) 20 x1))], [.int x1, .ref 21], I, G, (gP rd)) (True) hX hi (by decide +kernel) rfl trivial ?_
  refine am_callS hX hi (M := mX0_at) (idx := 85) (d' := 1) (As := [.ref 21, .int x1]) (rest := []) mkX0_at msX0_at (by decide +kernel) (by decide +kernel) rfl ⟨by omega, by decide, Nat.le_of_ble_eq_true rfl⟩ rfl (c_at rfl (by decide) x1) ?_
  rintro r9 I9 G9 P9 ⟨e0, e1, e2, e3⟩
  rw [e0, e1, e2, e3]
  show am_V X 0 0 _ _ ad (29, [(0, .ref 66), (1, .int x1), (2, .int (gAt (I 20) 20 x1))], [.int (gAt (I 21) 20 x1)], I, G, (gP rd))
  refine am_blk 29 [(.istore_n 3, 1, 3, 0, .null), (.iload_n 2, 1, 2, 0, .null), (.iload_n 3, 1, 3, 0, .null)] (32, [(0, .ref 66), (1, .int x1), (2, .int (gAt (I 20) 20 x1)), (3, .int (gAt (I 21) 20 x1))], [.int (gAt (I 21) 20 x1), .int (gAt (I 20) 20 x1)], I, G, (gP rd)) (True) hX hi (by decide +kernel) rfl trivial ?_
  refine am_icmp_ge (tgt := 46) hX hi (off := (14)) (by decide +kernel) (by decide) (fun c32 => ?_) (fun c32 => ?_)
  · rw [if_pos c32] at h
    refine am_blk 46 [(.aload_n 0, 1, 0, 0, .null), (.aload_n 0, 1, 0, 0, .null), (.getfield 44, 3, 5, 0, .null), (.getfield 114, 3, 3, 8, .null), (.getfield 143, 3, 1, 2, .null), (.iload_n 1, 1, 1, 0, .null)] (58, [(0, .ref 66), (1, .int x1), (2, .int (gAt (I 20) 20 x1)), (3, .int (gAt (I 21) 20 x1))], [.int x1, .ref 19, .ref 66], I, G, (gP rd)) (True) hX hi (by decide +kernel) rfl trivial ?_
    refine am_callS hX hi (M := mX0_at) (idx := 85) (d' := 1) (As := [.ref 19, .int x1]) (rest := [.ref 66]) mkX0_at msX0_at (by decide +kernel) (by decide +kernel) rfl ⟨by omega, by decide, Nat.le_of_ble_eq_true rfl⟩ rfl (c_at rfl (by decide) x1) ?_
    rintro r9 I9 G9 P9 ⟨e0, e1, e2, e3⟩
    rw [e0, e1, e2, e3]
    show am_V X 0 0 _ _ ad (61, [(0, .ref 66), (1, .int x1), (2, .int (gAt (I 20) 20 x1)), (3, .int (gAt (I 21) 20 x1))], [.int (gAt (I 19) 20 x1), .ref 66], I, G, (gP rd))
    refine am_blk 61 [(.iload_n 2, 1, 2, 0, .null)] (62, [(0, .ref 66), (1, .int x1), (2, .int (gAt (I 20) 20 x1)), (3, .int (gAt (I 21) 20 x1))], [.int (gAt (I 20) 20 x1), .int (gAt (I 19) 20 x1), .ref 66], I, G, (gP rd)) (True) hX hi (by decide +kernel) rfl trivial ?_
    obtain ⟨r1, I1, G1, hc, h⟩ := rb_some h
    refine am_callV hX hi (M := mX7_reckon) (idx := 139) (d' := 5) (b := 66) (ci := 5) (As := [.int (gAt (I 19) 20 x1), .int (gAt (I 20) 20 x1)]) (rest := []) mkX7_reckon miX7_reckon mvX7_reckon (by decide +kernel) (by decide +kernel) rfl (by decide +kernel) rfl ⟨by omega, by decide, Nat.le_of_ble_eq_true rfl⟩ rfl (c_X7_reckon_66 _ I G (gAt (I 19) 20 x1) (gAt (I 20) 20 x1) hc) ?_
    rintro r9 I9 G9 P9 ⟨e0, e1, e2, e3⟩
    rw [e0, e1, e2, e3]
    show am_V X 0 0 _ _ ad (65, [(0, .ref 66), (1, .int x1), (2, .int (gAt (I 20) 20 x1)), (3, .int (gAt (I 21) 20 x1))], [.int r1], I1, G1, (gP rd))
    refine am_blk 65 [(.istore 4, 2, 4, 0, .null), (.aload_n 0, 1, 0, 0, .null), (.getfield 44, 3, 5, 0, .null), (.getfield 114, 3, 3, 8, .null), (.getfield 146, 3, 1, 1, .null), (.iload_n 1, 1, 1, 0, .null)] (78, [(0, .ref 66), (1, .int x1), (2, .int (gAt (I 20) 20 x1)), (3, .int (gAt (I 21) 20 x1)), (4, .int r1)], [.int x1, .ref 18], I1, G1, (gP rd)) (True) hX hi (by decide +kernel) rfl trivial ?_
    refine am_callS hX hi (M := mX0_at) (idx := 85) (d' := 1) (As := [.ref 18, .int x1]) (rest := []) mkX0_at msX0_at (by decide +kernel) (by decide +kernel) rfl ⟨by omega, by decide, Nat.le_of_ble_eq_true rfl⟩ rfl (c_at rfl (by decide) x1) ?_
    rintro r9 I9 G9 P9 ⟨e0, e1, e2, e3⟩
    rw [e0, e1, e2, e3]
    show am_V X 0 0 _ _ ad (81, [(0, .ref 66), (1, .int x1), (2, .int (gAt (I 20) 20 x1)), (3, .int (gAt (I 21) 20 x1)), (4, .int r1)], [.int (gAt (I1 18) 20 x1)], I1, G1, (gP rd))
    refine am_blk 81 [(.istore 5, 2, 5, 0, .null), (.aload_n 0, 1, 0, 0, .null), (.getfield 44, 3, 5, 0, .null), (.getfield 114, 3, 3, 8, .null), (.getfield 149, 3, 1, 0, .null), (.iload_n 1, 1, 1, 0, .null)] (94, [(0, .ref 66), (1, .int x1), (2, .int (gAt (I 20) 20 x1)), (3, .int (gAt (I 21) 20 x1)), (4, .int r1), (5, .int (gAt (I1 18) 20 x1))], [.int x1, .ref 17], I1, G1, (gP rd)) (True) hX hi (by decide +kernel) rfl trivial ?_
    refine am_callS hX hi (M := mX0_at) (idx := 85) (d' := 1) (As := [.ref 17, .int x1]) (rest := []) mkX0_at msX0_at (by decide +kernel) (by decide +kernel) rfl ⟨by omega, by decide, Nat.le_of_ble_eq_true rfl⟩ rfl (c_at rfl (by decide) x1) ?_
    rintro r9 I9 G9 P9 ⟨e0, e1, e2, e3⟩
    rw [e0, e1, e2, e3]
    show am_V X 0 0 _ _ ad (97, [(0, .ref 66), (1, .int x1), (2, .int (gAt (I 20) 20 x1)), (3, .int (gAt (I 21) 20 x1)), (4, .int r1), (5, .int (gAt (I1 18) 20 x1))], [.int (gAt (I1 17) 20 x1)], I1, G1, (gP rd))
    by_cases s97_6 : (gAt (I1 17) 20 x1) = (6 : Int32)
    · rw [if_pos s97_6] at h
      refine am_lsw hX hi (dflt := (58)) (ps := #[((6), (42)), ((9), (27))]) (len := 27) (off := (42)) (tgt := 139) (by decide +kernel) (by decide +kernel) (by rw [s97_6]; rfl) (by decide) ?_
      refine am_blk 139 [(.aload_n 0, 1, 0, 0, .null), (.iload 5, 2, 5, 0, .null), (.iload 4, 2, 4, 0, .null), (.iconst (0), 1, 0, 0, .int (0 : Int32)), (.sipush (999), 3, 0, 0, .int (999 : Int32))] (148, [(0, .ref 66), (1, .int x1), (2, .int (gAt (I 20) 20 x1)), (3, .int (gAt (I 21) 20 x1)), (4, .int r1), (5, .int (gAt (I1 18) 20 x1))], [.int (999 : Int32), .int (0 : Int32), .int r1, .int (gAt (I1 18) 20 x1), .ref 66], I1, G1, (gP rd)) (True) hX hi (by decide +kernel) rfl trivial ?_
      refine am_callS hX hi (M := mX0_hold) (idx := 152) (d' := 1) (As := [.int r1, .int (0 : Int32), .int (999 : Int32)]) (rest := [.int (gAt (I1 18) 20 x1), .ref 66]) mkX0_hold msX0_hold (by decide +kernel) (by decide +kernel) rfl ⟨by omega, by decide, Nat.le_of_ble_eq_true rfl⟩ rfl (c_hold r1 (0 : Int32) (999 : Int32)) ?_
      rintro r9 I9 G9 P9 ⟨e0, e1, e2, e3⟩
      rw [e0, e1, e2, e3]
      show am_V X 0 0 _ _ ad (151, [(0, .ref 66), (1, .int x1), (2, .int (gAt (I 20) 20 x1)), (3, .int (gAt (I 21) 20 x1)), (4, .int r1), (5, .int (gAt (I1 18) 20 x1))], [.int (gHo r1 (0 : Int32) (999 : Int32)), .int (gAt (I1 18) 20 x1), .ref 66], I1, G1, (gP rd))
      refine am_callV hX hi (M := mX7_changeSeed) (idx := 160) (d' := 2) (b := 66) (ci := 5) (As := [.int (gAt (I1 18) 20 x1), .int (gHo r1 (0 : Int32) (999 : Int32))]) (rest := []) mkX7_changeSeed miX7_changeSeed mvX7_changeSeed (by decide +kernel) (by decide +kernel) rfl (by decide +kernel) rfl ⟨by omega, by decide, Nat.le_of_ble_eq_true rfl⟩ rfl (c_X7_changeSeed_66 _ I1 G1 (gAt (I1 18) 20 x1) (gHo r1 (0 : Int32) (999 : Int32))) ?_
      rintro r9 I9 G9 P9 ⟨e0, e1, e2, e3⟩
      rw [e0, e1, e2, e3]
      show am_V X 0 0 _ _ ad (154, [(0, .ref 66), (1, .int x1), (2, .int (gAt (I 20) 20 x1)), (3, .int (gAt (I 21) 20 x1)), (4, .int r1), (5, .int (gAt (I1 18) 20 x1))], [.int (f_X7_changeSeed_66 I1 G1 (gAt (I1 18) 20 x1) (gHo r1 (0 : Int32) (999 : Int32)))], (g_X7_changeSeed_66 I1 G1 (gAt (I1 18) 20 x1) (gHo r1 (0 : Int32) (999 : Int32))), G1, (gP rd))
      obtain ⟨gb, h⟩ := rg_some h
      cases h
      refine am_iret hX hi rfl (by rcases gb with gb | gb <;> rw [gb] <;> rfl) (by decide +kernel) ?_
      exact ⟨rfl, rfl, rfl, rfl⟩
    rw [if_neg s97_6] at h
    by_cases s97_9 : (gAt (I1 17) 20 x1) = (9 : Int32)
    · rw [if_pos s97_9] at h
      refine am_lsw hX hi (dflt := (58)) (ps := #[((6), (42)), ((9), (27))]) (len := 27) (off := (27)) (tgt := 124) (by decide +kernel) (by decide +kernel) (by rw [s97_9]; rfl) (by decide) ?_
      refine am_blk 124 [(.aload_n 0, 1, 0, 0, .null), (.iload 5, 2, 5, 0, .null), (.iload 4, 2, 4, 0, .null), (.iconst (0), 1, 0, 0, .int (0 : Int32)), (.bipush (16), 2, 0, 0, .int (16 : Int32))] (132, [(0, .ref 66), (1, .int x1), (2, .int (gAt (I 20) 20 x1)), (3, .int (gAt (I 21) 20 x1)), (4, .int r1), (5, .int (gAt (I1 18) 20 x1))], [.int (16 : Int32), .int (0 : Int32), .int r1, .int (gAt (I1 18) 20 x1), .ref 66], I1, G1, (gP rd)) (True) hX hi (by decide +kernel) rfl trivial ?_
      refine am_callS hX hi (M := mX0_hold) (idx := 152) (d' := 1) (As := [.int r1, .int (0 : Int32), .int (16 : Int32)]) (rest := [.int (gAt (I1 18) 20 x1), .ref 66]) mkX0_hold msX0_hold (by decide +kernel) (by decide +kernel) rfl ⟨by omega, by decide, Nat.le_of_ble_eq_true rfl⟩ rfl (c_hold r1 (0 : Int32) (16 : Int32)) ?_
      rintro r9 I9 G9 P9 ⟨e0, e1, e2, e3⟩
      rw [e0, e1, e2, e3]
      show am_V X 0 0 _ _ ad (135, [(0, .ref 66), (1, .int x1), (2, .int (gAt (I 20) 20 x1)), (3, .int (gAt (I 21) 20 x1)), (4, .int r1), (5, .int (gAt (I1 18) 20 x1))], [.int (gHo r1 (0 : Int32) (16 : Int32)), .int (gAt (I1 18) 20 x1), .ref 66], I1, G1, (gP rd))
      obtain ⟨r2, I2, G2, hc, h⟩ := rb_some h
      refine am_callV hX hi (M := mX7_changePull) (idx := 156) (d' := 4) (b := 66) (ci := 5) (As := [.int (gAt (I1 18) 20 x1), .int (gHo r1 (0 : Int32) (16 : Int32))]) (rest := []) mkX7_changePull miX7_changePull mvX7_changePull (by decide +kernel) (by decide +kernel) rfl (by decide +kernel) rfl ⟨by omega, by decide, Nat.le_of_ble_eq_true rfl⟩ rfl (c_X7_changePull_66 _ I1 G1 (gAt (I1 18) 20 x1) (gHo r1 (0 : Int32) (16 : Int32)) hc) ?_
      rintro r9 I9 G9 P9 ⟨e0, e1, e2, e3⟩
      rw [e0, e1, e2, e3]
      show am_V X 0 0 _ _ ad (138, [(0, .ref 66), (1, .int x1), (2, .int (gAt (I 20) 20 x1)), (3, .int (gAt (I 21) 20 x1)), (4, .int r1), (5, .int (gAt (I1 18) 20 x1))], [.int r2], I2, G2, (gP rd))
      obtain ⟨gb, h⟩ := rg_some h
      cases h
      refine am_iret hX hi rfl (by rcases gb with gb | gb <;> rw [gb] <;> rfl) (by decide +kernel) ?_
      exact ⟨rfl, rfl, rfl, rfl⟩
    rw [if_neg s97_9] at h
    refine am_lsw hX hi (dflt := (58)) (ps := #[((6), (42)), ((9), (27))]) (len := 27) (off := (58)) (tgt := 155) (by decide +kernel) (by decide +kernel) ?_ (by decide) ?_
    · have eF : ∀ v : Int32, ¬ (gAt (I1 17) 20 x1) = v → ¬ ((gAt (I1 17) 20 x1)).toInt = v.toInt := fun v q z => q ((i_eq _ _).mpr z)
      have e6 := eF (6 : Int32) s97_6
      have e9 := eF (9 : Int32) s97_9
      simp only [show ((6 : Int32) : Int32).toInt = 6 from rfl, show ((9 : Int32) : Int32).toInt = 9 from rfl] at e6 e9
      simp [Op.lookupswitch.offset, e6, Ne.symm e6, e9, Ne.symm e9]
    refine am_blk 155 [(.iload 5, 2, 5, 0, .null)] (157, [(0, .ref 66), (1, .int x1), (2, .int (gAt (I 20) 20 x1)), (3, .int (gAt (I 21) 20 x1)), (4, .int r1), (5, .int (gAt (I1 18) 20 x1))], [.int (gAt (I1 18) 20 x1)], I1, G1, (gP rd)) (True) hX hi (by decide +kernel) rfl trivial ?_
    refine am_if_ne (tgt := 170) hX hi (off := (13)) (by decide +kernel) (by decide) (fun c157 => ?_) (fun c157 => ?_)
    · rw [if_neg c157] at h
      refine am_blk 170 [(.aload_n 0, 1, 0, 0, .null), (.iconst (0), 1, 0, 0, .int (0 : Int32)), (.iload 4, 2, 4, 0, .null)] (174, [(0, .ref 66), (1, .int x1), (2, .int (gAt (I 20) 20 x1)), (3, .int (gAt (I 21) 20 x1)), (4, .int r1), (5, .int (gAt (I1 18) 20 x1))], [.int r1, .int (0 : Int32), .ref 66], I1, G1, (gP rd)) (True) hX hi (by decide +kernel) rfl trivial ?_
      refine am_callV hX hi (M := mX7_changeDrift) (idx := 163) (d' := 3) (b := 66) (ci := 5) (As := [.int (0 : Int32), .int r1]) (rest := []) mkX7_changeDrift miX7_changeDrift mvX7_changeDrift (by decide +kernel) (by decide +kernel) rfl (by decide +kernel) rfl ⟨by omega, by decide, Nat.le_of_ble_eq_true rfl⟩ rfl (c_X7_changeDrift_66 _ I1 G1 (0 : Int32) r1) ?_
      rintro r9 I9 G9 P9 ⟨e0, e1, e2, e3⟩
      rw [e0, e1, e2, e3]
      show am_V X 0 0 _ _ ad (177, [(0, .ref 66), (1, .int x1), (2, .int (gAt (I 20) 20 x1)), (3, .int (gAt (I 21) 20 x1)), (4, .int r1), (5, .int (gAt (I1 18) 20 x1))], [.int (f_X7_changeDrift_66 I1 G1 (0 : Int32) r1)], (g_X7_changeDrift_66 I1 G1 (0 : Int32) r1), G1, (gP rd))
      obtain ⟨gb, h⟩ := rg_some h
      cases h
      refine am_iret hX hi rfl (by rcases gb with gb | gb <;> rw [gb] <;> rfl) (by decide +kernel) ?_
      exact ⟨rfl, rfl, rfl, rfl⟩
    · rw [if_pos c157] at h
      refine am_blk 160 [(.aload_n 0, 1, 0, 0, .null), (.iload 4, 2, 4, 0, .null), (.iconst (0), 1, 0, 0, .int (0 : Int32))] (164, [(0, .ref 66), (1, .int x1), (2, .int (gAt (I 20) 20 x1)), (3, .int (gAt (I 21) 20 x1)), (4, .int r1), (5, .int (gAt (I1 18) 20 x1))], [.int (0 : Int32), .int r1, .ref 66], I1, G1, (gP rd)) (True) hX hi (by decide +kernel) rfl trivial ?_
      refine am_callV hX hi (M := mX7_changeDrift) (idx := 163) (d' := 3) (b := 66) (ci := 5) (As := [.int r1, .int (0 : Int32)]) (rest := []) mkX7_changeDrift miX7_changeDrift mvX7_changeDrift (by decide +kernel) (by decide +kernel) rfl (by decide +kernel) rfl ⟨by omega, by decide, Nat.le_of_ble_eq_true rfl⟩ rfl (c_X7_changeDrift_66 _ I1 G1 r1 (0 : Int32)) ?_
      rintro r9 I9 G9 P9 ⟨e0, e1, e2, e3⟩
      rw [e0, e1, e2, e3]
      show am_V X 0 0 _ _ ad (167, [(0, .ref 66), (1, .int x1), (2, .int (gAt (I 20) 20 x1)), (3, .int (gAt (I 21) 20 x1)), (4, .int r1), (5, .int (gAt (I1 18) 20 x1))], [.int (f_X7_changeDrift_66 I1 G1 r1 (0 : Int32))], (g_X7_changeDrift_66 I1 G1 r1 (0 : Int32)), G1, (gP rd))
      refine am_blk 167 [(.goto (10), 3, 0, 177, .null)] (177, [(0, .ref 66), (1, .int x1), (2, .int (gAt (I 20) 20 x1)), (3, .int (gAt (I 21) 20 x1)), (4, .int r1), (5, .int (gAt (I1 18) 20 x1))], [.int (f_X7_changeDrift_66 I1 G1 r1 (0 : Int32))], (g_X7_changeDrift_66 I1 G1 r1 (0 : Int32)), G1, (gP rd)) (True) hX hi (by decide +kernel) rfl trivial ?_
      obtain ⟨gb, h⟩ := rg_some h
      cases h
      refine am_iret hX hi rfl (by rcases gb with gb | gb <;> rw [gb] <;> rfl) (by decide +kernel) ?_
      exact ⟨rfl, rfl, rfl, rfl⟩
  · rw [if_neg c32] at h
    refine am_blk 35 [(.aload_n 0, 1, 0, 0, .null), (.iload_n 2, 1, 2, 0, .null), (.iload_n 3, 1, 3, 0, .null)] (38, [(0, .ref 66), (1, .int x1), (2, .int (gAt (I 20) 20 x1)), (3, .int (gAt (I 21) 20 x1))], [.int (gAt (I 21) 20 x1), .int (gAt (I 20) 20 x1), .ref 66], I, G, (gP rd)) (True) hX hi (by decide +kernel) rfl trivial ?_
    obtain ⟨r3, I3, G3, hc, h⟩ := rb_some h
    refine am_callV hX hi (M := mX7_reckon) (idx := 139) (d' := 5) (b := 66) (ci := 5) (As := [.int (gAt (I 20) 20 x1), .int (gAt (I 21) 20 x1)]) (rest := []) mkX7_reckon miX7_reckon mvX7_reckon (by decide +kernel) (by decide +kernel) rfl (by decide +kernel) rfl ⟨by omega, by decide, Nat.le_of_ble_eq_true rfl⟩ rfl (c_X7_reckon_66 _ I G (gAt (I 20) 20 x1) (gAt (I 21) 20 x1) hc) ?_
    rintro r9 I9 G9 P9 ⟨e0, e1, e2, e3⟩
    rw [e0, e1, e2, e3]
    show am_V X 0 0 _ _ ad (41, [(0, .ref 66), (1, .int x1), (2, .int (gAt (I 20) 20 x1)), (3, .int (gAt (I 21) 20 x1))], [.int r3], I3, G3, (gP rd))
    refine am_if_ne (tgt := 46) hX hi (off := (5)) (by decide +kernel) (by decide) (fun c41 => ?_) (fun c41 => ?_)
    · rw [if_neg c41] at h
      refine am_blk 46 [(.aload_n 0, 1, 0, 0, .null), (.aload_n 0, 1, 0, 0, .null), (.getfield 44, 3, 5, 0, .null), (.getfield 114, 3, 3, 8, .null), (.getfield 143, 3, 1, 2, .null), (.iload_n 1, 1, 1, 0, .null)] (58, [(0, .ref 66), (1, .int x1), (2, .int (gAt (I 20) 20 x1)), (3, .int (gAt (I 21) 20 x1))], [.int x1, .ref 19, .ref 66], I3, G3, (gP rd)) (True) hX hi (by decide +kernel) rfl trivial ?_
      refine am_callS hX hi (M := mX0_at) (idx := 85) (d' := 1) (As := [.ref 19, .int x1]) (rest := [.ref 66]) mkX0_at msX0_at (by decide +kernel) (by decide +kernel) rfl ⟨by omega, by decide, Nat.le_of_ble_eq_true rfl⟩ rfl (c_at rfl (by decide) x1) ?_
      rintro r9 I9 G9 P9 ⟨e0, e1, e2, e3⟩
      rw [e0, e1, e2, e3]
      show am_V X 0 0 _ _ ad (61, [(0, .ref 66), (1, .int x1), (2, .int (gAt (I 20) 20 x1)), (3, .int (gAt (I 21) 20 x1))], [.int (gAt (I3 19) 20 x1), .ref 66], I3, G3, (gP rd))
      refine am_blk 61 [(.iload_n 2, 1, 2, 0, .null)] (62, [(0, .ref 66), (1, .int x1), (2, .int (gAt (I 20) 20 x1)), (3, .int (gAt (I 21) 20 x1))], [.int (gAt (I 20) 20 x1), .int (gAt (I3 19) 20 x1), .ref 66], I3, G3, (gP rd)) (True) hX hi (by decide +kernel) rfl trivial ?_
      obtain ⟨r4, I4, G4, hc, h⟩ := rb_some h
      refine am_callV hX hi (M := mX7_reckon) (idx := 139) (d' := 5) (b := 66) (ci := 5) (As := [.int (gAt (I3 19) 20 x1), .int (gAt (I 20) 20 x1)]) (rest := []) mkX7_reckon miX7_reckon mvX7_reckon (by decide +kernel) (by decide +kernel) rfl (by decide +kernel) rfl ⟨by omega, by decide, Nat.le_of_ble_eq_true rfl⟩ rfl (c_X7_reckon_66 _ I3 G3 (gAt (I3 19) 20 x1) (gAt (I 20) 20 x1) hc) ?_
      rintro r9 I9 G9 P9 ⟨e0, e1, e2, e3⟩
      rw [e0, e1, e2, e3]
      show am_V X 0 0 _ _ ad (65, [(0, .ref 66), (1, .int x1), (2, .int (gAt (I 20) 20 x1)), (3, .int (gAt (I 21) 20 x1))], [.int r4], I4, G4, (gP rd))
      refine am_blk 65 [(.istore 4, 2, 4, 0, .null), (.aload_n 0, 1, 0, 0, .null), (.getfield 44, 3, 5, 0, .null), (.getfield 114, 3, 3, 8, .null), (.getfield 146, 3, 1, 1, .null), (.iload_n 1, 1, 1, 0, .null)] (78, [(0, .ref 66), (1, .int x1), (2, .int (gAt (I 20) 20 x1)), (3, .int (gAt (I 21) 20 x1)), (4, .int r4)], [.int x1, .ref 18], I4, G4, (gP rd)) (True) hX hi (by decide +kernel) rfl trivial ?_
      refine am_callS hX hi (M := mX0_at) (idx := 85) (d' := 1) (As := [.ref 18, .int x1]) (rest := []) mkX0_at msX0_at (by decide +kernel) (by decide +kernel) rfl ⟨by omega, by decide, Nat.le_of_ble_eq_true rfl⟩ rfl (c_at rfl (by decide) x1) ?_
      rintro r9 I9 G9 P9 ⟨e0, e1, e2, e3⟩
      rw [e0, e1, e2, e3]
      show am_V X 0 0 _ _ ad (81, [(0, .ref 66), (1, .int x1), (2, .int (gAt (I 20) 20 x1)), (3, .int (gAt (I 21) 20 x1)), (4, .int r4)], [.int (gAt (I4 18) 20 x1)], I4, G4, (gP rd))
      refine am_blk 81 [(.istore 5, 2, 5, 0, .null), (.aload_n 0, 1, 0, 0, .null), (.getfield 44, 3, 5, 0, .null), (.getfield 114, 3, 3, 8, .null), (.getfield 149, 3, 1, 0, .null), (.iload_n 1, 1, 1, 0, .null)] (94, [(0, .ref 66), (1, .int x1), (2, .int (gAt (I 20) 20 x1)), (3, .int (gAt (I 21) 20 x1)), (4, .int r4), (5, .int (gAt (I4 18) 20 x1))], [.int x1, .ref 17], I4, G4, (gP rd)) (True) hX hi (by decide +kernel) rfl trivial ?_
      refine am_callS hX hi (M := mX0_at) (idx := 85) (d' := 1) (As := [.ref 17, .int x1]) (rest := []) mkX0_at msX0_at (by decide +kernel) (by decide +kernel) rfl ⟨by omega, by decide, Nat.le_of_ble_eq_true rfl⟩ rfl (c_at rfl (by decide) x1) ?_
      rintro r9 I9 G9 P9 ⟨e0, e1, e2, e3⟩
      rw [e0, e1, e2, e3]
      show am_V X 0 0 _ _ ad (97, [(0, .ref 66), (1, .int x1), (2, .int (gAt (I 20) 20 x1)), (3, .int (gAt (I 21) 20 x1)), (4, .int r4), (5, .int (gAt (I4 18) 20 x1))], [.int (gAt (I4 17) 20 x1)], I4, G4, (gP rd))
      by_cases s97_6 : (gAt (I4 17) 20 x1) = (6 : Int32)
      · rw [if_pos s97_6] at h
        refine am_lsw hX hi (dflt := (58)) (ps := #[((6), (42)), ((9), (27))]) (len := 27) (off := (42)) (tgt := 139) (by decide +kernel) (by decide +kernel) (by rw [s97_6]; rfl) (by decide) ?_
        refine am_blk 139 [(.aload_n 0, 1, 0, 0, .null), (.iload 5, 2, 5, 0, .null), (.iload 4, 2, 4, 0, .null), (.iconst (0), 1, 0, 0, .int (0 : Int32)), (.sipush (999), 3, 0, 0, .int (999 : Int32))] (148, [(0, .ref 66), (1, .int x1), (2, .int (gAt (I 20) 20 x1)), (3, .int (gAt (I 21) 20 x1)), (4, .int r4), (5, .int (gAt (I4 18) 20 x1))], [.int (999 : Int32), .int (0 : Int32), .int r4, .int (gAt (I4 18) 20 x1), .ref 66], I4, G4, (gP rd)) (True) hX hi (by decide +kernel) rfl trivial ?_
        refine am_callS hX hi (M := mX0_hold) (idx := 152) (d' := 1) (As := [.int r4, .int (0 : Int32), .int (999 : Int32)]) (rest := [.int (gAt (I4 18) 20 x1), .ref 66]) mkX0_hold msX0_hold (by decide +kernel) (by decide +kernel) rfl ⟨by omega, by decide, Nat.le_of_ble_eq_true rfl⟩ rfl (c_hold r4 (0 : Int32) (999 : Int32)) ?_
        rintro r9 I9 G9 P9 ⟨e0, e1, e2, e3⟩
        rw [e0, e1, e2, e3]
        show am_V X 0 0 _ _ ad (151, [(0, .ref 66), (1, .int x1), (2, .int (gAt (I 20) 20 x1)), (3, .int (gAt (I 21) 20 x1)), (4, .int r4), (5, .int (gAt (I4 18) 20 x1))], [.int (gHo r4 (0 : Int32) (999 : Int32)), .int (gAt (I4 18) 20 x1), .ref 66], I4, G4, (gP rd))
        refine am_callV hX hi (M := mX7_changeSeed) (idx := 160) (d' := 2) (b := 66) (ci := 5) (As := [.int (gAt (I4 18) 20 x1), .int (gHo r4 (0 : Int32) (999 : Int32))]) (rest := []) mkX7_changeSeed miX7_changeSeed mvX7_changeSeed (by decide +kernel) (by decide +kernel) rfl (by decide +kernel) rfl ⟨by omega, by decide, Nat.le_of_ble_eq_true rfl⟩ rfl (c_X7_changeSeed_66 _ I4 G4 (gAt (I4 18) 20 x1) (gHo r4 (0 : Int32) (999 : Int32))) ?_
        rintro r9 I9 G9 P9 ⟨e0, e1, e2, e3⟩
        rw [e0, e1, e2, e3]
        show am_V X 0 0 _ _ ad (154, [(0, .ref 66), (1, .int x1), (2, .int (gAt (I 20) 20 x1)), (3, .int (gAt (I 21) 20 x1)), (4, .int r4), (5, .int (gAt (I4 18) 20 x1))], [.int (f_X7_changeSeed_66 I4 G4 (gAt (I4 18) 20 x1) (gHo r4 (0 : Int32) (999 : Int32)))], (g_X7_changeSeed_66 I4 G4 (gAt (I4 18) 20 x1) (gHo r4 (0 : Int32) (999 : Int32))), G4, (gP rd))
        obtain ⟨gb, h⟩ := rg_some h
        cases h
        refine am_iret hX hi rfl (by rcases gb with gb | gb <;> rw [gb] <;> rfl) (by decide +kernel) ?_
        exact ⟨rfl, rfl, rfl, rfl⟩
      rw [if_neg s97_6] at h
      by_cases s97_9 : (gAt (I4 17) 20 x1) = (9 : Int32)
      · rw [if_pos s97_9] at h
        refine am_lsw hX hi (dflt := (58)) (ps := #[((6), (42)), ((9), (27))]) (len := 27) (off := (27)) (tgt := 124) (by decide +kernel) (by decide +kernel) (by rw [s97_9]; rfl) (by decide) ?_
        refine am_blk 124 [(.aload_n 0, 1, 0, 0, .null), (.iload 5, 2, 5, 0, .null), (.iload 4, 2, 4, 0, .null), (.iconst (0), 1, 0, 0, .int (0 : Int32)), (.bipush (16), 2, 0, 0, .int (16 : Int32))] (132, [(0, .ref 66), (1, .int x1), (2, .int (gAt (I 20) 20 x1)), (3, .int (gAt (I 21) 20 x1)), (4, .int r4), (5, .int (gAt (I4 18) 20 x1))], [.int (16 : Int32), .int (0 : Int32), .int r4, .int (gAt (I4 18) 20 x1), .ref 66], I4, G4, (gP rd)) (True) hX hi (by decide +kernel) rfl trivial ?_
        refine am_callS hX hi (M := mX0_hold) (idx := 152) (d' := 1) (As := [.int r4, .int (0 : Int32), .int (16 : Int32)]) (rest := [.int (gAt (I4 18) 20 x1), .ref 66]) mkX0_hold msX0_hold (by decide +kernel) (by decide +kernel) rfl ⟨by omega, by decide, Nat.le_of_ble_eq_true rfl⟩ rfl (c_hold r4 (0 : Int32) (16 : Int32)) ?_
        rintro r9 I9 G9 P9 ⟨e0, e1, e2, e3⟩
        rw [e0, e1, e2, e3]
        show am_V X 0 0 _ _ ad (135, [(0, .ref 66), (1, .int x1), (2, .int (gAt (I 20) 20 x1)), (3, .int (gAt (I 21) 20 x1)), (4, .int r4), (5, .int (gAt (I4 18) 20 x1))], [.int (gHo r4 (0 : Int32) (16 : Int32)), .int (gAt (I4 18) 20 x1), .ref 66], I4, G4, (gP rd))
        obtain ⟨r5, I5, G5, hc, h⟩ := rb_some h
        refine am_callV hX hi (M := mX7_changePull) (idx := 156) (d' := 4) (b := 66) (ci := 5) (As := [.int (gAt (I4 18) 20 x1), .int (gHo r4 (0 : Int32) (16 : Int32))]) (rest := []) mkX7_changePull miX7_changePull mvX7_changePull (by decide +kernel) (by decide +kernel) rfl (by decide +kernel) rfl ⟨by omega, by decide, Nat.le_of_ble_eq_true rfl⟩ rfl (c_X7_changePull_66 _ I4 G4 (gAt (I4 18) 20 x1) (gHo r4 (0 : Int32) (16 : Int32)) hc) ?_
        rintro r9 I9 G9 P9 ⟨e0, e1, e2, e3⟩
        rw [e0, e1, e2, e3]
        show am_V X 0 0 _ _ ad (138, [(0, .ref 66), (1, .int x1), (2, .int (gAt (I 20) 20 x1)), (3, .int (gAt (I 21) 20 x1)), (4, .int r4), (5, .int (gAt (I4 18) 20 x1))], [.int r5], I5, G5, (gP rd))
        obtain ⟨gb, h⟩ := rg_some h
        cases h
        refine am_iret hX hi rfl (by rcases gb with gb | gb <;> rw [gb] <;> rfl) (by decide +kernel) ?_
        exact ⟨rfl, rfl, rfl, rfl⟩
      rw [if_neg s97_9] at h
      refine am_lsw hX hi (dflt := (58)) (ps := #[((6), (42)), ((9), (27))]) (len := 27) (off := (58)) (tgt := 155) (by decide +kernel) (by decide +kernel) ?_ (by decide) ?_
      · have eF : ∀ v : Int32, ¬ (gAt (I4 17) 20 x1) = v → ¬ ((gAt (I4 17) 20 x1)).toInt = v.toInt := fun v q z => q ((i_eq _ _).mpr z)
        have e6 := eF (6 : Int32) s97_6
        have e9 := eF (9 : Int32) s97_9
        simp only [show ((6 : Int32) : Int32).toInt = 6 from rfl, show ((9 : Int32) : Int32).toInt = 9 from rfl] at e6 e9
        simp [Op.lookupswitch.offset, e6, Ne.symm e6, e9, Ne.symm e9]
      refine am_blk 155 [(.iload 5, 2, 5, 0, .null)] (157, [(0, .ref 66), (1, .int x1), (2, .int (gAt (I 20) 20 x1)), (3, .int (gAt (I 21) 20 x1)), (4, .int r4), (5, .int (gAt (I4 18) 20 x1))], [.int (gAt (I4 18) 20 x1)], I4, G4, (gP rd)) (True) hX hi (by decide +kernel) rfl trivial ?_
      refine am_if_ne (tgt := 170) hX hi (off := (13)) (by decide +kernel) (by decide) (fun c157 => ?_) (fun c157 => ?_)
      · rw [if_neg c157] at h
        refine am_blk 170 [(.aload_n 0, 1, 0, 0, .null), (.iconst (0), 1, 0, 0, .int (0 : Int32)), (.iload 4, 2, 4, 0, .null)] (174, [(0, .ref 66), (1, .int x1), (2, .int (gAt (I 20) 20 x1)), (3, .int (gAt (I 21) 20 x1)), (4, .int r4), (5, .int (gAt (I4 18) 20 x1))], [.int r4, .int (0 : Int32), .ref 66], I4, G4, (gP rd)) (True) hX hi (by decide +kernel) rfl trivial ?_
        refine am_callV hX hi (M := mX7_changeDrift) (idx := 163) (d' := 3) (b := 66) (ci := 5) (As := [.int (0 : Int32), .int r4]) (rest := []) mkX7_changeDrift miX7_changeDrift mvX7_changeDrift (by decide +kernel) (by decide +kernel) rfl (by decide +kernel) rfl ⟨by omega, by decide, Nat.le_of_ble_eq_true rfl⟩ rfl (c_X7_changeDrift_66 _ I4 G4 (0 : Int32) r4) ?_
        rintro r9 I9 G9 P9 ⟨e0, e1, e2, e3⟩
        rw [e0, e1, e2, e3]
        show am_V X 0 0 _ _ ad (177, [(0, .ref 66), (1, .int x1), (2, .int (gAt (I 20) 20 x1)), (3, .int (gAt (I 21) 20 x1)), (4, .int r4), (5, .int (gAt (I4 18) 20 x1))], [.int (f_X7_changeDrift_66 I4 G4 (0 : Int32) r4)], (g_X7_changeDrift_66 I4 G4 (0 : Int32) r4), G4, (gP rd))
        obtain ⟨gb, h⟩ := rg_some h
        cases h
        refine am_iret hX hi rfl (by rcases gb with gb | gb <;> rw [gb] <;> rfl) (by decide +kernel) ?_
        exact ⟨rfl, rfl, rfl, rfl⟩
      · rw [if_pos c157] at h
        refine am_blk 160 [(.aload_n 0, 1, 0, 0, .null), (.iload 4, 2, 4, 0, .null), (.iconst (0), 1, 0, 0, .int (0 : Int32))] (164, [(0, .ref 66), (1, .int x1), (2, .int (gAt (I 20) 20 x1)), (3, .int (gAt (I 21) 20 x1)), (4, .int r4), (5, .int (gAt (I4 18) 20 x1))], [.int (0 : Int32), .int r4, .ref 66], I4, G4, (gP rd)) (True) hX hi (by decide +kernel) rfl trivial ?_
        refine am_callV hX hi (M := mX7_changeDrift) (idx := 163) (d' := 3) (b := 66) (ci := 5) (As := [.int r4, .int (0 : Int32)]) (rest := []) mkX7_changeDrift miX7_changeDrift mvX7_changeDrift (by decide +kernel) (by decide +kernel) rfl (by decide +kernel) rfl ⟨by omega, by decide, Nat.le_of_ble_eq_true rfl⟩ rfl (c_X7_changeDrift_66 _ I4 G4 r4 (0 : Int32)) ?_
        rintro r9 I9 G9 P9 ⟨e0, e1, e2, e3⟩
        rw [e0, e1, e2, e3]
        show am_V X 0 0 _ _ ad (167, [(0, .ref 66), (1, .int x1), (2, .int (gAt (I 20) 20 x1)), (3, .int (gAt (I 21) 20 x1)), (4, .int r4), (5, .int (gAt (I4 18) 20 x1))], [.int (f_X7_changeDrift_66 I4 G4 r4 (0 : Int32))], (g_X7_changeDrift_66 I4 G4 r4 (0 : Int32)), G4, (gP rd))
        refine am_blk 167 [(.goto (10), 3, 0, 177, .null)] (177, [(0, .ref 66), (1, .int x1), (2, .int (gAt (I 20) 20 x1)), (3, .int (gAt (I 21) 20 x1)), (4, .int r4), (5, .int (gAt (I4 18) 20 x1))], [.int (f_X7_changeDrift_66 I4 G4 r4 (0 : Int32))], (g_X7_changeDrift_66 I4 G4 r4 (0 : Int32)), G4, (gP rd)) (True) hX hi (by decide +kernel) rfl trivial ?_
        obtain ⟨gb, h⟩ := rg_some h
        cases h
        refine am_iret hX hi rfl (by rcases gb with gb | gb <;> rw [gb] <;> rfl) (by decide +kernel) ?_
        exact ⟨rfl, rfl, rfl, rfl⟩
    · rw [if_pos c41] at h
      refine am_blk 44 [(.iconst (0), 1, 0, 0, .int (0 : Int32))] (45, [(0, .ref 66), (1, .int x1), (2, .int (gAt (I 20) 20 x1)), (3, .int (gAt (I 21) 20 x1))], [.int (0 : Int32)], I3, G3, (gP rd)) (True) hX hi (by decide +kernel) rfl trivial ?_
      cases h
      refine am_iret hX hi rfl (by first | rfl | decide | (simp [narrow]; done)) (by decide +kernel) ?_
      exact ⟨rfl, rfl, rfl, rfl⟩
noncomputable def L_X7_dipOnce_53 (n0 : Nat) (hd : Nat) (I : am_I) (G : am_G) (v1 : Int32) : Option (Unit × am_I × am_G) := match n0 with
  | 0 => none
  | n + 1 => match hd with
    | _ => (if (I 16 8) ≤ v1 then some ((), (am_up I 53 12 ((I 53 12) + (1 : Int32))), G) else (if (f_X3_looksAtSpots_16 I G v1) = 0 then rb (R_X7_carryOut_53 I G v1) (fun r101 I101 G101 => (if r101 = 0 then L_X7_dipOnce_53 n 0 I101 G101 (v1 + (1 : Int32)) else L_X7_dipOnce_53 n 0 (am_up I101 53 13 ((I101 53 13) + (1 : Int32))) G101 (v1 + (1 : Int32)))) else rb (R_X7_refresh_53 I G ) (fun r102 I102 G102 => rb (R_X7_carryOut_53 I102 G102 v1) (fun r103 I103 G103 => (if r103 = 0 then L_X7_dipOnce_53 n 0 I103 G103 (v1 + (1 : Int32)) else L_X7_dipOnce_53 n 0 (am_up I103 53 13 ((I103 53 13) + (1 : Int32))) G103 (v1 + (1 : Int32)))))))
theorem L_X7_dipOnce_53_0 (n : Nat) (I : am_I) (G : am_G) (v1 : Int32) : L_X7_dipOnce_53 (n + 1) 0 I G v1 = (if (I 16 8) ≤ v1 then some ((), (am_up I 53 12 ((I 53 12) + (1 : Int32))), G) else (if (f_X3_looksAtSpots_16 I G v1) = 0 then rb (R_X7_carryOut_53 I G v1) (fun r101 I101 G101 => (if r101 = 0 then L_X7_dipOnce_53 n 0 I101 G101 (v1 + (1 : Int32)) else L_X7_dipOnce_53 n 0 (am_up I101 53 13 ((I101 53 13) + (1 : Int32))) G101 (v1 + (1 : Int32)))) else rb (R_X7_refresh_53 I G ) (fun r102 I102 G102 => rb (R_X7_carryOut_53 I102 G102 v1) (fun r103 I103 G103 => (if r103 = 0 then L_X7_dipOnce_53 n 0 I103 G103 (v1 + (1 : Int32)) else L_X7_dipOnce_53 n 0 (am_up I103 53 13 ((I103 53 13) + (1 : Int32))) G103 (v1 + (1 : Int32))))))) := rfl
theorem L_X7_dipOnce_53_z (h : Nat) (I : am_I) (G : am_G) (v1 : Int32) : L_X7_dipOnce_53 0 h I G v1 = none := rfl
noncomputable def R_X7_dipOnce_53 (I : am_I) (G : am_G)  : Option (Unit × am_I × am_G) := L_X7_dipOnce_53 FU 0 I G (0 : Int32)
set_option maxRecDepth 20000 in
set_option maxHeartbeats 4000000 in
theorem l_X7_dipOnce_53 (rd : Nat) {X : am_X} {ad : Nat → Nat} (hX : am_okz X ad) (hi : am_info X 5 cX7_dipOnce 2 false none 8) (n : Nat) : (∀ (I : am_I) (G : am_G) (v1 : Int32) (out : Unit × am_I × am_G), L_X7_dipOnce_53 n 0 I G v1 = some out → am_V X 0 0 (am_Rt X gS ad (pV out.2.1 out.2.2 (gP rd))) gS ad (2, [(0, .ref 53), (1, .int v1)], [], I, G, (gP rd))) := by
  induction n with
  | zero => exact fun I G v1 out h => by rw [L_X7_dipOnce_53_z] at h; cases h
  | succ n ih =>
    · intro I G v1 out h
      rw [L_X7_dipOnce_53_0] at h
      refine am_blk 2 [(.iload_n 1, 1, 1, 0, .null), (.aload_n 0, 1, 0, 0, .null), (.getfield 44, 3, 5, 0, .null), (.getfield 114, 3, 3, 8, .null), (.getfield 118, 3, 1, 8, .null)] (13, [(0, .ref 53), (1, .int v1)], [.int (I 16 8), .int v1], I, G, (gP rd)) (True) hX hi (by decide +kernel) rfl trivial ?_
      refine am_icmp_ge (tgt := 58) hX hi (off := (45)) (by decide +kernel) (by decide) (fun c13 => ?_) (fun c13 => ?_)
      · rw [if_pos c13] at h
        refine am_blk 58 [(.aload_n 0, 1, 0, 0, .null), (.dup, 1, 0, 0, .null), (.getfield 59, 3, 5, 12, .null), (.iconst (1), 1, 0, 0, .int (1 : Int32)), (.iadd, 1, 0, 0, .null), (.putfield 59, 3, 5, 12, .null)] (68, [(0, .ref 53), (1, .int v1)], [], (am_up I 53 12 ((I 53 12) + (1 : Int32))), G, (gP rd)) (True) hX hi (by decide +kernel) rfl trivial ?_
        cases h
        refine am_vret hX hi rfl (by decide +kernel) ?_
        exact ⟨rfl, rfl, rfl, rfl⟩
      · rw [if_neg c13] at h
        refine am_blk 16 [(.aload_n 0, 1, 0, 0, .null), (.getfield 44, 3, 5, 0, .null), (.getfield 114, 3, 3, 8, .null), (.iload_n 1, 1, 1, 0, .null)] (24, [(0, .ref 53), (1, .int v1)], [.int v1, .ref 16], I, G, (gP rd)) (True) hX hi (by decide +kernel) rfl trivial ?_
        refine am_callV hX hi (M := mX3_looksAtSpots) (idx := 123) (d' := 2) (b := 16) (ci := 1) (As := [.int v1]) (rest := []) mkX3_looksAtSpots miX3_looksAtSpots mvX3_looksAtSpots (by decide +kernel) (by decide +kernel) rfl (by decide +kernel) rfl ⟨by omega, by decide, Nat.le_of_ble_eq_true rfl⟩ rfl (c_X3_looksAtSpots_16 _ I G v1) ?_
        rintro r9 I9 G9 P9 ⟨e0, e1, e2, e3⟩
        rw [e0, e1, e2, e3]
        show am_V X 0 0 _ _ ad (27, [(0, .ref 53), (1, .int v1)], [.int (f_X3_looksAtSpots_16 I G v1)], I, G, (gP rd))
        refine am_if_eq (tgt := 34) hX hi (off := (7)) (by decide +kernel) (by decide) (fun c27 => ?_) (fun c27 => ?_)
        · rw [if_pos c27] at h
          refine am_blk 34 [(.aload_n 0, 1, 0, 0, .null), (.iload_n 1, 1, 1, 0, .null)] (36, [(0, .ref 53), (1, .int v1)], [.int v1, .ref 53], I, G, (gP rd)) (True) hX hi (by decide +kernel) rfl trivial ?_
          obtain ⟨r101, I101, G101, hc, h⟩ := rb_some h
          refine am_callV hX hi (M := mX7_carryOut) (idx := 130) (d' := 6) (b := 53) (ci := 5) (As := [.int v1]) (rest := []) mkX7_carryOut miX7_carryOut mvX7_carryOut (by decide +kernel) (by decide +kernel) rfl (by decide +kernel) rfl ⟨by omega, by decide, Nat.le_of_ble_eq_true rfl⟩ rfl (c_X7_carryOut_53 _ I G v1 hc) ?_
          rintro r9 I9 G9 P9 ⟨e0, e1, e2, e3⟩
          rw [e0, e1, e2, e3]
          show am_V X 0 0 _ _ ad (39, [(0, .ref 53), (1, .int v1)], [.int r101], I101, G101, (gP rd))
          refine am_if_eq (tgt := 52) hX hi (off := (13)) (by decide +kernel) (by decide) (fun c39 => ?_) (fun c39 => ?_)
          · rw [if_pos c39] at h
            refine am_blk 52 [(.iinc 1 (1), 3, 1, 0, .int (1 : Int32)), (.goto (-53), 3, 0, 2, .null)] (2, [(0, .ref 53), (1, .int (v1 + (1 : Int32)))], [], I101, G101, (gP rd)) (True) hX hi (by decide +kernel) rfl trivial ?_
            exact ih _ _ _ _ h
          · rw [if_neg c39] at h
            refine am_blk 42 [(.aload_n 0, 1, 0, 0, .null), (.dup, 1, 0, 0, .null), (.getfield 62, 3, 5, 13, .null), (.iconst (1), 1, 0, 0, .int (1 : Int32)), (.iadd, 1, 0, 0, .null), (.putfield 62, 3, 5, 13, .null), (.iinc 1 (1), 3, 1, 0, .int (1 : Int32)), (.goto (-53), 3, 0, 2, .null)] (2, [(0, .ref 53), (1, .int (v1 + (1 : Int32)))], [], (am_up I101 53 13 ((I101 53 13) + (1 : Int32))), G101, (gP rd)) (True) hX hi (by decide +kernel) rfl trivial ?_
            exact ih _ _ _ _ h
        · rw [if_neg c27] at h
          refine am_blk 30 [(.aload_n 0, 1, 0, 0, .null)] (31, [(0, .ref 53), (1, .int v1)], [.ref 53], I, G, (gP rd)) (True) hX hi (by decide +kernel) rfl trivial ?_
          obtain ⟨r102, I102, G102, hc, h⟩ := rb_some h
          refine am_callV hX hi (M := mX7_refresh) (idx := 127) (d' := 7) (b := 53) (ci := 5) (As := []) (rest := []) mkX7_refresh miX7_refresh mvX7_refresh (by decide +kernel) (by decide +kernel) rfl (by decide +kernel) rfl ⟨by omega, by decide, Nat.le_of_ble_eq_true rfl⟩ rfl (c_X7_refresh_53 _ I G  hc) ?_
          rintro r9 I9 G9 P9 ⟨e0, e1, e2, e3⟩
          rw [e0, e1, e2, e3]
          show am_V X 0 0 _ _ ad (34, [(0, .ref 53), (1, .int v1)], [], I102, G102, (gP rd))
          refine am_blk 34 [(.aload_n 0, 1, 0, 0, .null), (.iload_n 1, 1, 1, 0, .null)] (36, [(0, .ref 53), (1, .int v1)], [.int v1, .ref 53], I102, G102, (gP rd)) (True) hX hi (by decide +kernel) rfl trivial ?_
          obtain ⟨r103, I103, G103, hc, h⟩ := rb_some h
          refine am_callV hX hi (M := mX7_carryOut) (idx := 130) (d' := 6) (b := 53) (ci := 5) (As := [.int v1]) (rest := []) mkX7_carryOut miX7_carryOut mvX7_carryOut (by decide +kernel) (by decide +kernel) rfl (by decide +kernel) rfl ⟨by omega, by decide, Nat.le_of_ble_eq_true rfl⟩ rfl (c_X7_carryOut_53 _ I102 G102 v1 hc) ?_
          rintro r9 I9 G9 P9 ⟨e0, e1, e2, e3⟩
          rw [e0, e1, e2, e3]
          show am_V X 0 0 _ _ ad (39, [(0, .ref 53), (1, .int v1)], [.int r103], I103, G103, (gP rd))
          refine am_if_eq (tgt := 52) hX hi (off := (13)) (by decide +kernel) (by decide) (fun c39 => ?_) (fun c39 => ?_)
          · rw [if_pos c39] at h
            refine am_blk 52 [(.iinc 1 (1), 3, 1, 0, .int (1 : Int32)), (.goto (-53), 3, 0, 2, .null)] (2, [(0, .ref 53), (1, .int (v1 + (1 : Int32)))], [], I103, G103, (gP rd)) (True) hX hi (by decide +kernel) rfl trivial ?_
            exact ih _ _ _ _ h
          · rw [if_neg c39] at h
            refine am_blk 42 [(.aload_n 0, 1, 0, 0, .null), (.dup, 1, 0, 0, .null), (.getfield 62, 3, 5, 13, .null), (.iconst (1), 1, 0, 0, .int (1 : Int32)), (.iadd, 1, 0, 0, .null), (.putfield 62, 3, 5, 13, .null), (.iinc 1 (1), 3, 1, 0, .int (1 : Int32)), (.goto (-53), 3, 0, 2, .null)] (2, [(0, .ref 53), (1, .int (v1 + (1 : Int32)))], [], (am_up I103 53 13 ((I103 53 13) + (1 : Int32))), G103, (gP rd)) (True) hX hi (by decide +kernel) rfl trivial ?_
            exact ih _ _ _ _ h
set_option maxRecDepth 20000 in
set_option maxHeartbeats 4000000 in
theorem c_X7_dipOnce_53 (rd : Nat) (I : am_I) (G : am_G)  {out : Unit × am_I × am_G} (h : R_X7_dipOnce_53 I G  = some out) : am_Ct mX7_dipOnce 8 gS [.ref 53] I G (gP rd) (pV out.2.1 out.2.2 (gP rd)) := by
  refine am_ofF (by decide +kernel) rfl (by decide) (by omega) (Nat.le_of_ble_eq_true rfl) (fun X ad hX hi => ?_)
  have hi : am_info X 5 cX7_dipOnce 2 false none 8 := hi
  show am_V X 0 0 _ _ ad (0, [(0, .ref 53)], [], I, G, (gP rd))
  unfold R_X7_dipOnce_53 at h
  refine am_blk 0 [(.iconst (0), 1, 0, 0, .int (0 : Int32)), (.istore_n 1, 1, 1, 0, .null)] (2, [(0, .ref 53), (1, .int (0 : Int32))], [], I, G, (gP rd)) (True) hX hi (by decide +kernel) rfl trivial ?_
  exact (l_X7_dipOnce_53 rd hX hi FU) _ _ _ _ h
noncomputable def L_X7_dipOnce_66 (n0 : Nat) (hd : Nat) (I : am_I) (G : am_G) (v1 : Int32) : Option (Unit × am_I × am_G) := match n0 with
  | 0 => none
  | n + 1 => match hd with
    | _ => (if (I 16 8) ≤ v1 then some ((), (am_up I 66 12 ((I 66 12) + (1 : Int32))), G) else (if (f_X3_looksAtSpots_16 I G v1) = 0 then rb (R_X7_carryOut_66 I G v1) (fun r101 I101 G101 => (if r101 = 0 then L_X7_dipOnce_66 n 0 I101 G101 (v1 + (1 : Int32)) else L_X7_dipOnce_66 n 0 (am_up I101 66 13 ((I101 66 13) + (1 : Int32))) G101 (v1 + (1 : Int32)))) else rb (R_X7_refresh_66 I G ) (fun r102 I102 G102 => rb (R_X7_carryOut_66 I102 G102 v1) (fun r103 I103 G103 => (if r103 = 0 then L_X7_dipOnce_66 n 0 I103 G103 (v1 + (1 : Int32)) else L_X7_dipOnce_66 n 0 (am_up I103 66 13 ((I103 66 13) + (1 : Int32))) G103 (v1 + (1 : Int32)))))))
theorem L_X7_dipOnce_66_0 (n : Nat) (I : am_I) (G : am_G) (v1 : Int32) : L_X7_dipOnce_66 (n + 1) 0 I G v1 = (if (I 16 8) ≤ v1 then some ((), (am_up I 66 12 ((I 66 12) + (1 : Int32))), G) else (if (f_X3_looksAtSpots_16 I G v1) = 0 then rb (R_X7_carryOut_66 I G v1) (fun r101 I101 G101 => (if r101 = 0 then L_X7_dipOnce_66 n 0 I101 G101 (v1 + (1 : Int32)) else L_X7_dipOnce_66 n 0 (am_up I101 66 13 ((I101 66 13) + (1 : Int32))) G101 (v1 + (1 : Int32)))) else rb (R_X7_refresh_66 I G ) (fun r102 I102 G102 => rb (R_X7_carryOut_66 I102 G102 v1) (fun r103 I103 G103 => (if r103 = 0 then L_X7_dipOnce_66 n 0 I103 G103 (v1 + (1 : Int32)) else L_X7_dipOnce_66 n 0 (am_up I103 66 13 ((I103 66 13) + (1 : Int32))) G103 (v1 + (1 : Int32))))))) := rfl
theorem L_X7_dipOnce_66_z (h : Nat) (I : am_I) (G : am_G) (v1 : Int32) : L_X7_dipOnce_66 0 h I G v1 = none := rfl
noncomputable def R_X7_dipOnce_66 (I : am_I) (G : am_G)  : Option (Unit × am_I × am_G) := L_X7_dipOnce_66 FU 0 I G (0 : Int32)
set_option maxRecDepth 20000 in
set_option maxHeartbeats 4000000 in
theorem l_X7_dipOnce_66 (rd : Nat) {X : am_X} {ad : Nat → Nat} (hX : am_okz X ad) (hi : am_info X 5 cX7_dipOnce 2 false none 8) (n : Nat) : (∀ (I : am_I) (G : am_G) (v1 : Int32) (out : Unit × am_I × am_G), L_X7_dipOnce_66 n 0 I G v1 = some out → am_V X 0 0 (am_Rt X gS ad (pV out.2.1 out.2.2 (gP rd))) gS ad (2, [(0, .ref 66), (1, .int v1)], [], I, G, (gP rd))) := by
  induction n with
  | zero => exact fun I G v1 out h => by rw [L_X7_dipOnce_66_z] at h; cases h
  | succ n ih =>
    · intro I G v1 out h
      rw [L_X7_dipOnce_66_0] at h
      refine am_blk 2 [(.iload_n 1, 1, 1, 0, .null), (.aload_n 0, 1, 0, 0, .null), (.getfield 44, 3, 5, 0, .null), (.getfield 114, 3, 3, 8, .null), (.getfield 118, 3, 1, 8, .null)] (13, [(0, .ref 66), (1, .int v1)], [.int (I 16 8), .int v1], I, G, (gP rd)) (True) hX hi (by decide +kernel) rfl trivial ?_
      refine am_icmp_ge (tgt := 58) hX hi (off := (45)) (by decide +kernel) (by decide) (fun c13 => ?_) (fun c13 => ?_)
      · rw [if_pos c13] at h
        refine am_blk 58 [(.aload_n 0, 1, 0, 0, .null), (.dup, 1, 0, 0, .null), (.getfield 59, 3, 5, 12, .null), (.iconst (1), 1, 0, 0, .int (1 : Int32)), (.iadd, 1, 0, 0, .null), (.putfield 59, 3, 5, 12, .null)] (68, [(0, .ref 66), (1, .int v1)], [], (am_up I 66 12 ((I 66 12) + (1 : Int32))), G, (gP rd)) (True) hX hi (by decide +kernel) rfl trivial ?_
        cases h
        refine am_vret hX hi rfl (by decide +kernel) ?_
        exact ⟨rfl, rfl, rfl, rfl⟩
      · rw [if_neg c13] at h
        refine am_blk 16 [(.aload_n 0, 1, 0, 0, .null), (.getfield 44, 3, 5, 0, .null), (.getfield 114, 3, 3, 8, .null), (.iload_n 1, 1, 1, 0, .null)] (24, [(0, .ref 66), (1, .int v1)], [.int v1, .ref 16], I, G, (gP rd)) (True) hX hi (by decide +kernel) rfl trivial ?_
        refine am_callV hX hi (M := mX3_looksAtSpots) (idx := 123) (d' := 2) (b := 16) (ci := 1) (As := [.int v1]) (rest := []) mkX3_looksAtSpots miX3_looksAtSpots mvX3_looksAtSpots (by decide +kernel) (by decide +kernel) rfl (by decide +kernel) rfl ⟨by omega, by decide, Nat.le_of_ble_eq_true rfl⟩ rfl (c_X3_looksAtSpots_16 _ I G v1) ?_
        rintro r9 I9 G9 P9 ⟨e0, e1, e2, e3⟩
        rw [e0, e1, e2, e3]
        show am_V X 0 0 _ _ ad (27, [(0, .ref 66), (1, .int v1)], [.int (f_X3_looksAtSpots_16 I G v1)], I, G, (gP rd))
        refine am_if_eq (tgt := 34) hX hi (off := (7)) (by decide +kernel) (by decide) (fun c27 => ?_) (fun c27 => ?_)
        · rw [if_pos c27] at h
          refine am_blk 34 [(.aload_n 0, 1, 0, 0, .null), (.iload_n 1, 1, 1, 0, .null)] (36, [(0, .ref 66), (1, .int v1)], [.int v1, .ref 66], I, G, (gP rd)) (True) hX hi (by decide +kernel) rfl trivial ?_
          obtain ⟨r101, I101, G101, hc, h⟩ := rb_some h
          refine am_callV hX hi (M := mX7_carryOut) (idx := 130) (d' := 6) (b := 66) (ci := 5) (As := [.int v1]) (rest := []) mkX7_carryOut miX7_carryOut mvX7_carryOut (by decide +kernel) (by decide +kernel) rfl (by decide +kernel) rfl ⟨by omega, by decide, Nat.le_of_ble_eq_true rfl⟩ rfl (c_X7_carryOut_66 _ I G v1 hc) ?_
          rintro r9 I9 G9 P9 ⟨e0, e1, e2, e3⟩
          rw [e0, e1, e2, e3]
          show am_V X 0 0 _ _ ad (39, [(0, .ref 66), (1, .int v1)], [.int r101], I101, G101, (gP rd))
          refine am_if_eq (tgt := 52) hX hi (off := (13)) (by decide +kernel) (by decide) (fun c39 => ?_) (fun c39 => ?_)
          · rw [if_pos c39] at h
            refine am_blk 52 [(.iinc 1 (1), 3, 1, 0, .int (1 : Int32)), (.goto (-53), 3, 0, 2, .null)] (2, [(0, .ref 66), (1, .int (v1 + (1 : Int32)))], [], I101, G101, (gP rd)) (True) hX hi (by decide +kernel) rfl trivial ?_
            exact ih _ _ _ _ h
          · rw [if_neg c39] at h
            refine am_blk 42 [(.aload_n 0, 1, 0, 0, .null), (.dup, 1, 0, 0, .null), (.getfield 62, 3, 5, 13, .null), (.iconst (1), 1, 0, 0, .int (1 : Int32)), (.iadd, 1, 0, 0, .null), (.putfield 62, 3, 5, 13, .null), (.iinc 1 (1), 3, 1, 0, .int (1 : Int32)), (.goto (-53), 3, 0, 2, .null)] (2, [(0, .ref 66), (1, .int (v1 + (1 : Int32)))], [], (am_up I101 66 13 ((I101 66 13) + (1 : Int32))), G101, (gP rd)) (True) hX hi (by decide +kernel) rfl trivial ?_
            exact ih _ _ _ _ h
        · rw [if_neg c27] at h
          refine am_blk 30 [(.aload_n 0, 1, 0, 0, .null)] (31, [(0, .ref 66), (1, .int v1)], [.ref 66], I, G, (gP rd)) (True) hX hi (by decide +kernel) rfl trivial ?_
          obtain ⟨r102, I102, G102, hc, h⟩ := rb_some h
          refine am_callV hX hi (M := mX7_refresh) (idx := 127) (d' := 7) (b := 66) (ci := 5) (As := []) (rest := []) mkX7_refresh miX7_refresh mvX7_refresh (by decide +kernel) (by decide +kernel) rfl (by decide +kernel) rfl ⟨by omega, by decide, Nat.le_of_ble_eq_true rfl⟩ rfl (c_X7_refresh_66 _ I G  hc) ?_
          rintro r9 I9 G9 P9 ⟨e0, e1, e2, e3⟩
          rw [e0, e1, e2, e3]
          show am_V X 0 0 _ _ ad (34, [(0, .ref 66), (1, .int v1)], [], I102, G102, (gP rd))
          refine am_blk 34 [(.aload_n 0, 1, 0, 0, .null), (.iload_n 1, 1, 1, 0, .null)] (36, [(0, .ref 66), (1, .int v1)], [.int v1, .ref 66], I102, G102, (gP rd)) (True) hX hi (by decide +kernel) rfl trivial ?_
          obtain ⟨r103, I103, G103, hc, h⟩ := rb_some h
          refine am_callV hX hi (M := mX7_carryOut) (idx := 130) (d' := 6) (b := 66) (ci := 5) (As := [.int v1]) (rest := []) mkX7_carryOut miX7_carryOut mvX7_carryOut (by decide +kernel) (by decide +kernel) rfl (by decide +kernel) rfl ⟨by omega, by decide, Nat.le_of_ble_eq_true rfl⟩ rfl (c_X7_carryOut_66 _ I102 G102 v1 hc) ?_
          rintro r9 I9 G9 P9 ⟨e0, e1, e2, e3⟩
          rw [e0, e1, e2, e3]
          show am_V X 0 0 _ _ ad (39, [(0, .ref 66), (1, .int v1)], [.int r103], I103, G103, (gP rd))
          refine am_if_eq (tgt := 52) hX hi (off := (13)) (by decide +kernel) (by decide) (fun c39 => ?_) (fun c39 => ?_)
          · rw [if_pos c39] at h
            refine am_blk 52 [(.iinc 1 (1), 3, 1, 0, .int (1 : Int32)), (.goto (-53), 3, 0, 2, .null)] (2, [(0, .ref 66), (1, .int (v1 + (1 : Int32)))], [], I103, G103, (gP rd)) (True) hX hi (by decide +kernel) rfl trivial ?_
            exact ih _ _ _ _ h
          · rw [if_neg c39] at h
            refine am_blk 42 [(.aload_n 0, 1, 0, 0, .null), (.dup, 1, 0, 0, .null), (.getfield 62, 3, 5, 13, .null), (.iconst (1), 1, 0, 0, .int (1 : Int32)), (.iadd, 1, 0, 0, .null), (.putfield 62, 3, 5, 13, .null), (.iinc 1 (1), 3, 1, 0, .int (1 : Int32)), (.goto (-53), 3, 0, 2, .null)] (2, [(0, .ref 66), (1, .int (v1 + (1 : Int32)))], [], (am_up I103 66 13 ((I103 66 13) + (1 : Int32))), G103, (gP rd)) (True) hX hi (by decide +kernel) rfl trivial ?_
            exact ih _ _ _ _ h
set_option maxRecDepth 20000 in
set_option maxHeartbeats 4000000 in
theorem c_X7_dipOnce_66 (rd : Nat) (I : am_I) (G : am_G)  {out : Unit × am_I × am_G} (h : R_X7_dipOnce_66 I G  = some out) : am_Ct mX7_dipOnce 8 gS [.ref 66] I G (gP rd) (pV out.2.1 out.2.2 (gP rd)) := by
  refine am_ofF (by decide +kernel) rfl (by decide) (by omega) (Nat.le_of_ble_eq_true rfl) (fun X ad hX hi => ?_)
  have hi : am_info X 5 cX7_dipOnce 2 false none 8 := hi
  show am_V X 0 0 _ _ ad (0, [(0, .ref 66)], [], I, G, (gP rd))
  unfold R_X7_dipOnce_66 at h
  refine am_blk 0 [(.iconst (0), 1, 0, 0, .int (0 : Int32)), (.istore_n 1, 1, 1, 0, .null)] (2, [(0, .ref 66), (1, .int (0 : Int32))], [], I, G, (gP rd)) (True) hX hi (by decide +kernel) rfl trivial ?_
  exact (l_X7_dipOnce_66 rd hX hi FU) _ _ _ _ h
