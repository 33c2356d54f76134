theorem am_hd133 : (1 : Nat) = 1 := rfl  -- methods with loops, and those that call them, further on
noncomputable def L_X7_reckon_66 (n0 : Nat) (hd : Nat) (I : am_I) (G : am_G) (v1 : Int32) (v2 : Int32) (v3 : Int32) : Option (Int32 × am_I × am_G) := match n0 with
  | 0 => none
  | n + 1 => match hd with
    | _ => (if v2 ≤ v3 then some ((f_X8_pop_77 I G ), (g_X8_pop_77 I G ), G) else rb (R_X7_step_66 I G (gAt (I 23) 400 v3) (gAt (I 24) 400 v3)) (fun r101 I101 G101 => L_X7_reckon_66 n 0 I101 G101 v1 v2 (v3 + (1 : Int32))))
theorem L_X7_reckon_66_0 (n : Nat) (I : am_I) (G : am_G) (v1 : Int32) (v2 : Int32) (v3 : Int32) : L_X7_reckon_66 (n + 1) 0 I G v1 v2 v3 = (if v2 ≤ v3 then some ((f_X8_pop_77 I G ), (g_X8_pop_77 I G ), G) else rb (R_X7_step_66 I G (gAt (I 23) 400 v3) (gAt (I 24) 400 v3)) (fun r101 I101 G101 => L_X7_reckon_66 n 0 I101 G101 v1 v2 (v3 + (1 : Int32)))) := rfl
theorem L_X7_reckon_66_z (h : Nat) (I : am_I) (G : am_G) (v1 : Int32) (v2 : Int32) (v3 : Int32) : L_X7_reckon_66 0 h I G v1 v2 v3 = none := rfl
noncomputable def R_X7_reckon_66 (I : am_I) (G : am_G) (x1 : Int32) (x2 : Int32) : Option (Int32 × am_I × am_G) := L_X7_reckon_66 FU 0 (g_X8_clear_77 I G ) G x1 x2 x1
set_option maxRecDepth 20000 in
set_option maxHeartbeats 4000000 in
theorem l_X7_reckon_66 (rd : Nat) {X : am_X} {ad : Nat → Nat} (hX : am_okz X ad) (hi : am_info X 7 cX7_reckon 4 false (Option.some Jvm.ClassFile.FieldType.int) 5) (n : Nat) : (∀ (I : am_I) (G : am_G) (v1 : Int32) (v2 : Int32) (v3 : Int32) (out : Int32 × am_I × am_G), L_X7_reckon_66 n 0 I G v1 v2 v3 = some out → am_V X 0 0 (am_Rt X gS ad (pI out.1 out.2.1 out.2.2 (gP rd))) gS ad (9, [(0, .ref 66), (1, .int v1), (2, .int v2), (3, .int v3)], [], I, G, (gP rd))) := by
  induction n with
  | zero => exact fun I G v1 v2 v3 out h => by rw [L_X7_reckon_66_z] at h; cases h
  | succ n ih =>
    · intro I G v1 v2 v3 out h
      rw [L_X7_reckon_66_0] at h
      refine am_blk 9 [(.iload_n 3, 1, 3, 0, .null), (.iload_n 2, 1, 2, 0, .null)] (11, [(0, .ref 66), (1, .int v1), (2, .int v2), (3, .int v3)], [.int v2, .int v3], I, G, (gP rd)) (True) hX hi (by decide +kernel) rfl trivial ?_
      refine am_icmp_ge (tgt := 52) hX hi (off := (41)) (by decide +kernel) (by decide) (fun c11 => ?_) (fun c11 => ?_)
      · rw [if_pos c11] at h
        refine am_blk 52 [(.aload_n 0, 1, 0, 0, .null), (.getfield 40, 3, 7, 9, .null)] (56, [(0, .ref 66), (1, .int v1), (2, .int v2), (3, .int v3)], [.ref 77], I, G, (gP rd)) (True) hX hi (by decide +kernel) rfl trivial ?_
        refine am_callV hX hi (M := mX8_pop) (idx := 179) (d' := 1) (b := 77) (ci := 8) (As := []) (rest := []) mkX8_pop miX8_pop mvX8_pop (by decide +kernel) (by decide +kernel) rfl (by decide +kernel) rfl ⟨by omega, by decide, Nat.le_of_ble_eq_true rfl⟩ rfl (c_X8_pop_77 _ I G ) ?_
        rintro r9 I9 G9 P9 ⟨e0, e1, e2, e3⟩
        rw [e0, e1, e2, e3]
        show am_V X 0 0 _ _ ad (59, [(0, .ref 66), (1, .int v1), (2, .int v2), (3, .int v3)], [.int (f_X8_pop_77 I G )], (g_X8_pop_77 I G ), G, (gP rd))
        cases h
        refine am_iret hX hi rfl rfl (by decide +kernel) ?_
        exact ⟨rfl, rfl, rfl, rfl⟩
      · rw [if_neg c11] at h
        refine am_blk 14 [(.aload_n 0, 1, 0, 0, .null), (.aload_n 0, 1, 0, 0, .null), (.getfield 44, 3, 7, 0, .null), (.getfield 114, 3, 5, 8, .null), (.getfield 169, 3, 3, 6, .null), (.iload_n 3, 1, 3, 0, .null)] (26, [(0, .ref 66), (1, .int v1), (2, .int v2), (3, .int v3)], [.int v3, .ref 23, .ref 66], I, G, (gP rd)) (True) hX hi (by decide +kernel) rfl trivial ?_
        refine am_callS hX hi (M := mX0_at) (idx := 85) (d' := 1) (As := [.ref 23, .int v3]) (rest := [.ref 66]) mkX0_at msX0_at (by decide +kernel) (by decide +kernel) rfl ⟨by omega, by decide, Nat.le_of_ble_eq_true rfl⟩ rfl (c_at rfl (by decide) v3) ?_
        rintro r9 I9 G9 P9 ⟨e0, e1, e2, e3⟩
        rw [e0, e1, e2, e3]
        show am_V X 0 0 _ _ ad (29, [(0, .ref 66), (1, .int v1), (2, .int v2), (3, .int v3)], [.int (gAt (I 23) 400 v3), .ref 66], I, G, (gP rd))
        refine am_blk 29 [(.aload_n 0, 1, 0, 0, .null), (.getfield 44, 3, 7, 0, .null), (.getfield 114, 3, 5, 8, .null), (.getfield 172, 3, 3, 7, .null), (.iload_n 3, 1, 3, 0, .null)] (40, [(0, .ref 66), (1, .int v1), (2, .int v2), (3, .int v3)], [.int v3, .ref 24, .int (gAt (I 23) 400 v3), .ref 66], I, G, (gP rd)) (True) hX hi (by decide +kernel) rfl trivial ?_
        refine am_callS hX hi (M := mX0_at) (idx := 85) (d' := 1) (As := [.ref 24, .int v3]) (rest := [.int (gAt (I 23) 400 v3), .ref 66]) mkX0_at msX0_at (by decide +kernel) (by decide +kernel) rfl ⟨by omega, by decide, Nat.le_of_ble_eq_true rfl⟩ rfl (c_at rfl (by decide) v3) ?_
        rintro r9 I9 G9 P9 ⟨e0, e1, e2, e3⟩
        rw [e0, e1, e2, e3]
        show am_V X 0 0 _ _ ad (43, [(0, .ref 66), (1, .int v1), (2, .int v2), (3, .int v3)], [.int (gAt (I 24) 400 v3), .int (gAt (I 23) 400 v3), .ref 66], I, G, (gP rd))
        obtain ⟨r101, I101, G101, hc, h⟩ := rb_some h
        refine am_callV hX hi (M := mX7_step) (idx := 175) (d' := 4) (b := 66) (ci := 7) (As := [.int (gAt (I 23) 400 v3), .int (gAt (I 24) 400 v3)]) (rest := []) mkX7_step miX7_step mvX7_step (by decide +kernel) (by decide +kernel) rfl (by decide +kernel) rfl ⟨by omega, by decide, Nat.le_of_ble_eq_true rfl⟩ rfl (c_X7_step_66 _ I G (gAt (I 23) 400 v3) (gAt (I 24) 400 v3) hc) ?_
        rintro r9 I9 G9 P9 ⟨e0, e1, e2, e3⟩
        rw [e0, e1, e2, e3]
        show am_V X 0 0 _ _ ad (46, [(0, .ref 66), (1, .int v1), (2, .int v2), (3, .int v3)], [], I101, G101, (gP rd))
        refine am_blk 46 [(.iinc 3 (1), 3, 3, 0, .int (1 : Int32)), (.goto (-40), 3, 0, 9, .null)] (9, [(0, .ref 66), (1, .int v1), (2, .int v2), (3, .int (v3 + (1 : Int32)))], [], I101, G101, (gP rd)) (True) hX hi (by decide +kernel) rfl trivial ?_
        exact ih _ _ _ _ _ _ h
set_option maxRecDepth 20000 in
set_option maxHeartbeats 4000000 in
theorem c_X7_reckon_66 (rd : Nat) (I : am_I) (G : am_G) (x1 : Int32) (x2 : Int32) {out : Int32 × am_I × am_G} (h : R_X7_reckon_66 I G x1 x2 = some out) : am_Ct mX7_reckon 5 gS [.ref 66, .int x1, .int x2] I G (gP rd) (pI out.1 out.2.1 out.2.2 (gP rd)) := by
  refine am_ofF (by decide +kernel) rfl (by decide) (by omega) (Nat.le_of_ble_eq_true rfl) (fun X ad hX hi => ?_)
  have hi : am_info X 7 cX7_reckon 4 false (Option.some Jvm.ClassFile.FieldType.int) 5 := hi
  show am_V X 0 0 _ _ ad (0, [(0, .ref 66), (1, .int x1), (2, .int x2)], [], I, G, (gP rd))
  unfold R_X7_reckon_66 at h
  refine am_blk 0 [(.aload_n 0, 1, 0, 0, .null), (.getfield 40, 3, 7, 9, .null)] (4, [(0, .ref 66), (1, .int x1), (2, .int x2)], [.ref 77], I, G, (gP rd)) (True) hX hi (by decide +kernel) rfl trivial ?_
  refine am_callV hX hi (M := mX8_clear) (idx := 166) (d' := 1) (b := 77) (ci := 8) (As := []) (rest := []) mkX8_clear miX8_clear mvX8_clear (by decide +kernel) (by decide +kernel) rfl (by decide +kernel) rfl ⟨by omega, by decide, Nat.le_of_ble_eq_true rfl⟩ rfl (c_X8_clear_77 _ I G ) ?_
  rintro r9 I9 G9 P9 ⟨e0, e1, e2, e3⟩
  rw [e0, e1, e2, e3]
  show am_V X 0 0 _ _ ad (7, [(0, .ref 66), (1, .int x1), (2, .int x2)], [], (g_X8_clear_77 I G ), G, (gP rd))
  refine am_blk 7 [(.iload_n 1, 1, 1, 0, .null), (.istore_n 3, 1, 3, 0, .null)] (9, [(0, .ref 66), (1, .int x1), (2, .int x2), (3, .int x1)], [], (g_X8_clear_77 I G ), G, (gP rd)) (True) hX hi (by decide +kernel) rfl trivial ?_
  exact (l_X7_reckon_66 rd hX hi FU) _ _ _ _ _ _ h
noncomputable def R_X7_carryOut_53 (I : am_I) (G : am_G) (x1 : Int32) : Option (Int32 × am_I × am_G) := (if (gAt (I 21) 20 x1) ≤ (gAt (I 20) 20 x1) then rb (R_X7_reckon_53 I G (gAt (I 19) 20 x1) (gAt (I 20) 20 x1)) (fun r1 I1 G1 => (if (gAt (I1 17) 20 x1) = (6 : Int32) then rg ((f_X7_changeSeed_53 I1 G1 (gAt (I1 18) 20 x1) (gHo r1 (0 : Int32) (999 : Int32))) = 0 ∨ (f_X7_changeSeed_53 I1 G1 (gAt (I1 18) 20 x1) (gHo r1 (0 : Int32) (999 : Int32))) = 1) (some ((f_X7_changeSeed_53 I1 G1 (gAt (I1 18) 20 x1) (gHo r1 (0 : Int32) (999 : Int32))), (g_X7_changeSeed_53 I1 G1 (gAt (I1 18) 20 x1) (gHo r1 (0 : Int32) (999 : Int32))), G1)) else if (gAt (I1 17) 20 x1) = (9 : Int32) then rb (R_X7_changePull_53 I1 G1 (gAt (I1 18) 20 x1) (gHo r1 (0 : Int32) (16 : Int32))) (fun r2 I2 G2 => rg (r2 = 0 ∨ r2 = 1) (some (r2, I2, G2))) else (if (gAt (I1 18) 20 x1) = 0 then rg ((f_X7_changeDrift_53 I1 G1 r1 (0 : Int32)) = 0 ∨ (f_X7_changeDrift_53 I1 G1 r1 (0 : Int32)) = 1) (some ((f_X7_changeDrift_53 I1 G1 r1 (0 : Int32)), (g_X7_changeDrift_53 I1 G1 r1 (0 : Int32)), G1)) else rg ((f_X7_changeDrift_53 I1 G1 (0 : Int32) r1) = 0 ∨ (f_X7_changeDrift_53 I1 G1 (0 : Int32) r1) = 1) (some ((f_X7_changeDrift_53 I1 G1 (0 : Int32) r1), (g_X7_changeDrift_53 I1 G1 (0 : Int32) r1), G1))))) else rb (R_X7_reckon_53 I G (gAt (I 20) 20 x1) (gAt (I 21) 20 x1)) (fun r3 I3 G3 => (if r3 = 0 then some ((0 : Int32), I3, G3) else rb (R_X7_reckon_53 I3 G3 (gAt (I3 19) 20 x1) (gAt (I 20) 20 x1)) (fun r4 I4 G4 => (if (gAt (I4 17) 20 x1) = (6 : Int32) then rg ((f_X7_changeSeed_53 I4 G4 (gAt (I4 18) 20 x1) (gHo r4 (0 : Int32) (999 : Int32))) = 0 ∨ (f_X7_changeSeed_53 I4 G4 (gAt (I4 18) 20 x1) (gHo r4 (0 : Int32) (999 : Int32))) = 1) (some ((f_X7_changeSeed_53 I4 G4 (gAt (I4 18) 20 x1) (gHo r4 (0 : Int32) (999 : Int32))), (g_X7_changeSeed_53 I4 G4 (gAt (I4 18) 20 x1) (gHo r4 (0 : Int32) (999 : Int32))), G4)) else if (gAt (I4 17) 20 x1) = (9 : Int32) then rb (R_X7_changePull_53 I4 G4 (gAt (I4 18) 20 x1) (gHo r4 (0 : Int32) (16 : Int32))) (fun r5 I5 G5 => rg (r5 = 0 ∨ r5 = 1) (some (r5, I5, G5))) else (if (gAt (I4 18) 20 x1) = 0 then rg ((f_X7_changeDrift_53 I4 G4 r4 (0 : Int32)) = 0 ∨ (f_X7_changeDrift_53 I4 G4 r4 (0 : Int32)) = 1) (some ((f_X7_changeDrift_53 I4 G4 r4 (0 : Int32)), (g_X7_changeDrift_53 I4 G4 r4 (0 : Int32)), G4)) else rg ((f_X7_changeDrift_53 I4 G4 (0 : Int32) r4) = 0 ∨ (f_X7_changeDrift_53 I4 G4 (0 : Int32) r4) = 1) (some ((f_X7_changeDrift_53 I4 G4 (0 : Int32) r4), (g_X7_changeDrift_53 I4 G4 (0 : Int32) r4), G4))))))))
set_option maxRecDepth 20000 in
set_option maxHeartbeats 4000000 in
theorem c_X7_carryOut_53 (rd : Nat) (I : am_I) (G : am_G) (x1 : Int32) {out : Int32 × am_I × am_G} (h : R_X7_carryOut_53 I G x1 = some out) : am_Ct mX7_carryOut 6 gS [.ref 53, .int x1] I G (gP rd) (pI out.1 out.2.1 out.2.2 (gP rd)) := by
  refine am_ofF (by decide +kernel) rfl (by decide) (by omega) (Nat.le_of_ble_eq_true rfl) (fun X ad hX hi => ?_)
  have hi : am_info X 7 cX7_carryOut 6 false (Option.some Jvm.ClassFile.FieldType.boolean) 6 := hi
  show am_V X 0 0 _ _ ad (0, [(0, .ref 53), (1, .int x1)], [], I, G, (gP rd))
  unfold R_X7_carryOut_53 at h
  refine am_blk 0 [(.aload_n 0, 1, 0, 0, .null), (.getfield 44, 3, 7, 0, .null), (.getfield 114, 3, 5, 8, .null), (.getfield 133, 3, 3, 3, .null), (.iload_n 1, 1, 1, 0, .null)] (11, [(0, .ref 53), (1, .int x1)], [.int x1, .ref 20], I, G, (gP rd)) (True) hX hi (by decide +kernel) rfl trivial ?_
  refine am_callS hX hi (M := mX0_at) (idx := 85) (d' := 1) (As := [.ref 20, .int x1]) (rest := []) mkX0_at msX0_at (by decide +kernel) (by decide +kernel) rfl ⟨by omega, by decide, Nat.le_of_ble_eq_true rfl⟩ rfl (c_at rfl (by decide) x1) ?_
  rintro r9 I9 G9 P9 ⟨e0, e1, e2, e3⟩
  rw [e0, e1, e2, e3]
  show am_V X 0 0 _ _ ad (14, [(0, .ref 53), (1, .int x1)], [.int (gAt (I 20) 20 x1)], I, G, (gP rd))
  refine am_blk 14 [(.istore_n 2, 1, 2, 0, .null), (.aload_n 0, 1, 0, 0, .null), (.getfield 44, 3, 7, 0, .null), (.getfield 114, 3, 5, 8, .null), (.getfield 136, 3, 3, 4, .null), (.iload_n 1, 1, 1, 0, .null)] (26, [(0, .ref 53), (1, .int x1), (2, .int (gAt (I 20) 20 x1))], [.int x1, .ref 21], I, G, (gP rd)) (True) hX hi (by decide +kernel) rfl trivial ?_
  refine am_callS hX hi (M := mX0_at) (idx := 85) (d' := 1) (As := [.ref 21, .int x1]) (rest := []) mkX0_at msX0_at (by decide +kernel) (by decide +kernel) rfl ⟨by omega, by decide, Nat.le_of_ble_eq_true rfl⟩ rfl (c_at rfl (by decide) x1) ?_
  rintro r9 I9 G9 P9 ⟨e0, e1, e2, e3⟩
  rw [e0, e1, e2, e3]
  show am_V X 0 0 _ _ ad (29, [(0, .ref 53), (1, .int x1), (2, .int (gAt (I 20) 20 x1))], [.int (gAt (I 21) 20 x1)], I, G, (gP rd))
  refine am_blk 29 [(.istore_n 3, 1, 3, 0, .null), (.iload_n 2, 1, 2, 0, .null), (.iload_n 3, 1, 3, 0, .null)] (32, [(0, .ref 53), (1, .int x1), (2, .int (gAt (I 20) 20 x1)), (3, .int (gAt (I 21) 20 x1))], [.int (gAt (I 21) 20 x1), .int (gAt (I 20) 20 x1)], I, G, (gP rd)) (True) hX hi (by decide +kernel) rfl trivial ?_
  refine am_icmp_ge (tgt := 46) hX hi (off := (14)) (by decide +kernel) (by decide) (fun c32 => ?_) (fun c32 => ?_)
  · rw [if_pos c32] at h
    refine am_blk 46 [(.aload_n 0, 1, 0, 0, .null), (.aload_n 0, 1, 0, 0, .null), (.getfield 44, 3, 7, 0, .null), (.getfield 114, 3, 5, 8, .null), (.getfield 143, 3, 3, 2, .null), (.iload_n 1, 1, 1, 0, .null)] (58, [(0, .ref 53), (1, .int x1), (2, .int (gAt (I 20) 20 x1)), (3, .int (gAt (I 21) 20 x1))], [.int x1, .ref 19, .ref 53], I, G, (gP rd)) (True) hX hi (by decide +kernel) rfl trivial ?_
    refine am_callS hX hi (M := mX0_at) (idx := 85) (d' := 1) (As := [.ref 19, .int x1]) (rest := [.ref 53]) mkX0_at msX0_at (by decide +kernel) (by decide +kernel) rfl ⟨by omega, by decide, Nat.le_of_ble_eq_true rfl⟩ rfl (c_at rfl (by decide) x1) ?_
    rintro r9 I9 G9 P9 ⟨e0, e1, e2, e3⟩
    rw [e0, e1, e2, e3]
    show am_V X 0 0 _ _ ad (61, [(0, .ref 53), (1, .int x1), (2, .int (gAt (I 20) 20 x1)), (3, .int (gAt (I 21) 20 x1))], [.int (gAt (I 19) 20 x1), .ref 53], I, G, (gP rd))
    refine am_blk 61 [(.iload_n 2, 1, 2, 0, .null)] (62, [(0, .ref 53), (1, .int x1), (2, .int (gAt (I 20) 20 x1)), (3, .int (gAt (I 21) 20 x1))], [.int (gAt (I 20) 20 x1), .int (gAt (I 19) 20 x1), .ref 53], I, G, (gP rd)) (True) hX hi (by decide +kernel) rfl trivial ?_
    obtain ⟨r1, I1, G1, hc, h⟩ := rb_some h
    refine am_callV hX hi (M := mX7_reckon) (idx := 139) (d' := 5) (b := 53) (ci := 7) (As := [.int (gAt (I 19) 20 x1), .int (gAt (I 20) 20 x1)]) (rest := []) mkX7_reckon miX7_reckon mvX7_reckon (by decide +kernel) (by decide +kernel) rfl (by decide +kernel) rfl ⟨by omega, by decide, Nat.le_of_ble_eq_true rfl⟩ rfl (c_X7_reckon_53 _ I G (gAt (I 19) 20 x1) (gAt (I 20) 20 x1) hc) ?_
    rintro r9 I9 G9 P9 ⟨e0, e1, e2, e3⟩
    rw [e0, e1, e2, e3]
    show am_V X 0 0 _ _ ad (65, [(0, .ref 53), (1, .int x1), (2, .int (gAt (I 20) 20 x1)), (3, .int (gAt (I 21) 20 x1))], [.int r1], I1, G1, (gP rd))
    refine am_blk 65 [(.istore 4, 2, 4, 0, .null), (.aload_n 0, 1, 0, 0, .null), (.getfield 44, 3, 7, 0, .null), (.getfield 114, 3, 5, 8, .null), (.getfield 146, 3, 3, 1, .null), (.iload_n 1, 1, 1, 0, .null)] (78, [(0, .ref 53), (1, .int x1), (2, .int (gAt (I 20) 20 x1)), (3, .int (gAt (I 21) 20 x1)), (4, .int r1)], [.int x1, .ref 18], I1, G1, (gP rd)) (True) hX hi (by decide +kernel) rfl trivial ?_
    refine am_callS hX hi (M := mX0_at) (idx := 85) (d' := 1) (As := [.ref 18, .int x1]) (rest := []) mkX0_at msX0_at (by decide +kernel) (by decide +kernel) rfl ⟨by omega, by decide, Nat.le_of_ble_eq_true rfl⟩ rfl (c_at rfl (by decide) x1) ?_
    rintro r9 I9 G9 P9 ⟨e0, e1, e2, e3⟩
    rw [e0, e1, e2, e3]
    show am_V X 0 0 _ _ ad (81, [(0, .ref 53), (1, .int x1), (2, .int (gAt (I 20) 20 x1)), (3, .int (gAt (I 21) 20 x1)), (4, .int r1)], [.int (gAt (I1 18) 20 x1)], I1, G1, (gP rd))
    refine am_blk 81 [(.istore 5, 2, 5, 0, .null), (.aload_n 0, 1, 0, 0, .null), (.getfield 44, 3, 7, 0, .null), (.getfield 114, 3, 5, 8, .null), (.getfield 149, 3, 3, 0, .null), (.iload_n 1, 1, 1, 0, .null)] (94, [(0, .ref 53), (1, .int x1), (2, .int (gAt (I 20) 20 x1)), (3, .int (gAt (I 21) 20 x1)), (4, .int r1), (5, .int (gAt (I1 18) 20 x1))], [.int x1, .ref 17], I1, G1, (gP rd)) (True) hX hi (by decide +kernel) rfl trivial ?_
    refine am_callS hX hi (M := mX0_at) (idx := 85) (d' := 1) (As := [.ref 17, .int x1]) (rest := []) mkX0_at msX0_at (by decide +kernel) (by decide +kernel) rfl ⟨by omega, by decide, Nat.le_of_ble_eq_true rfl⟩ rfl (c_at rfl (by decide) x1) ?_
    rintro r9 I9 G9 P9 ⟨e0, e1, e2, e3⟩
    rw [e0, e1, e2, e3]
    show am_V X 0 0 _ _ ad (97, [(0, .ref 53), (1, .int x1), (2, .int (gAt (I 20) 20 x1)), (3, .int (gAt (I 21) 20 x1)), (4, .int r1), (5, .int (gAt (I1 18) 20 x1))], [.int (gAt (I1 17) 20 x1)], I1, G1, (gP rd))
    by_cases s97_6 : (gAt (I1 17) 20 x1) = (6 : Int32)
    · rw [if_pos s97_6] at h
      refine am_lsw hX hi (dflt := (58)) (ps := #[((6), (42)), ((9), (27))]) (len := 27) (off := (42)) (tgt := 139) (by decide +kernel) (by decide +kernel) (by rw [s97_6]; rfl) (by decide) ?_
      refine am_blk 139 [(.aload_n 0, 1, 0, 0, .null), (.iload 5, 2, 5, 0, .null), (.iload 4, 2, 4, 0, .null), (.iconst (0), 1, 0, 0, .int (0 : Int32)), (.sipush (999), 3, 0, 0, .int (999 : Int32))] (148, [(0, .ref 53), (1, .int x1), (2, .int (gAt (I 20) 20 x1)), (3, .int (gAt (I 21) 20 x1)), (4, .int r1), (5, .int (gAt (I1 18) 20 x1))], [.int (999 : Int32), .int (0 : Int32), .int r1, .int (gAt (I1 18) 20 x1), .ref 53], I1, G1, (gP rd)) (True) hX hi (by decide +kernel) rfl trivial ?_
      refine am_callS hX hi (M := mX0_hold) (idx := 152) (d' := 1) (As := [.int r1, .int (0 : Int32), .int (999 : Int32)]) (rest := [.int (gAt (I1 18) 20 x1), .ref 53]) mkX0_hold msX0_hold (by decide +kernel) (by decide +kernel) rfl ⟨by omega, by decide, Nat.le_of_ble_eq_true rfl⟩ rfl (c_hold r1 (0 : Int32) (999 : Int32)) ?_
      rintro r9 I9 G9 P9 ⟨e0, e1, e2, e3⟩
      rw [e0, e1, e2, e3]
      show am_V X 0 0 _ _ ad (151, [(0, .ref 53), (1, .int x1), (2, .int (gAt (I 20) 20 x1)), (3, .int (gAt (I 21) 20 x1)), (4, .int r1), (5, .int (gAt (I1 18) 20 x1))], [.int (gHo r1 (0 : Int32) (999 : Int32)), .int (gAt (I1 18) 20 x1), .ref 53], I1, G1, (gP rd))
      refine am_callV hX hi (M := mX7_changeSeed) (idx := 160) (d' := 2) (b := 53) (ci := 7) (As := [.int (gAt (I1 18) 20 x1), .int (gHo r1 (0 : Int32) (999 : Int32))]) (rest := []) mkX7_changeSeed miX7_changeSeed mvX7_changeSeed (by decide +kernel) (by decide +kernel) rfl (by decide +kernel) rfl ⟨by omega, by decide, Nat.le_of_ble_eq_true rfl⟩ rfl (c_X7_changeSeed_53 _ I1 G1 (gAt (I1 18) 20 x1) (gHo r1 (0 : Int32) (999 : Int32))) ?_
      rintro r9 I9 G9 P9 ⟨e0, e1, e2, e3⟩
      rw [e0, e1, e2, e3]
      show am_V X 0 0 _ _ ad (154, [(0, .ref 53), (1, .int x1), (2, .int (gAt (I 20) 20 x1)), (3, .int (gAt (I 21) 20 x1)), (4, .int r1), (5, .int (gAt (I1 18) 20 x1))], [.int (f_X7_changeSeed_53 I1 G1 (gAt (I1 18) 20 x1) (gHo r1 (0 : Int32) (999 : Int32)))], (g_X7_changeSeed_53 I1 G1 (gAt (I1 18) 20 x1) (gHo r1 (0 : Int32) (999 : Int32))), G1, (gP rd))
      obtain ⟨gb, h⟩ := rg_some h
      cases h
      refine am_iret hX hi rfl (by rcases gb with gb | gb <;> rw [gb] <;> rfl) (by decide +kernel) ?_
      exact ⟨rfl, rfl, rfl, rfl⟩
    rw [if_neg s97_6] at h
    by_cases s97_9 : (gAt (I1 17) 20 x1) = (9 : Int32)
    · rw [if_pos s97_9] at h
      refine am_lsw hX hi (dflt := (58)) (ps := #[((6), (42)), ((9), (27))]) (len := 27) (off := (27)) (tgt := 124) (by decide +kernel) (by decide +kernel) (by rw [s97_9]; rfl) (by decide) ?_
      refine am_blk 124 [(.aload_n 0, 1, 0, 0, .null), (.iload 5, 2, 5, 0, .null), (.iload 4, 2, 4, 0, .null), (.iconst (0), 1, 0, 0, .int (0 : Int32)), (.bipush (16), 2, 0, 0, .int (16 : Int32))] (132, [(0, .ref 53), (1, .int x1), (2, .int (gAt (I 20) 20 x1)), (3, .int (gAt (I 21) 20 x1)), (4, .int r1), (5, .int (gAt (I1 18) 20 x1))], [.int (16 : Int32), .int (0 : Int32), .int r1, .int (gAt (I1 18) 20 x1), .ref 53], I1, G1, (gP rd)) (True) hX hi (by decide +kernel) rfl trivial ?_
      refine am_callS hX hi (M := mX0_hold) (idx := 152) (d' := 1) (As := [.int r1, .int (0 : Int32), .int (16 : Int32)]) (rest := [.int (gAt (I1 18) 20 x1), .ref 53]) mkX0_hold msX0_hold (by decide +kernel) (by decide +kernel) rfl ⟨by omega, by decide, Nat.le_of_ble_eq_true rfl⟩ rfl (c_hold r1 (0 : Int32) (16 : Int32)) ?_
      rintro r9 I9 G9 P9 ⟨e0, e1, e2, e3⟩
      rw [e0, e1, e2, e3]
      show am_V X 0 0 _ _ ad (135, [(0, .ref 53), (1, .int x1), (2, .int (gAt (I 20) 20 x1)), (3, .int (gAt (I 21) 20 x1)), (4, .int r1), (5, .int (gAt (I1 18) 20 x1))], [.int (gHo r1 (0 : Int32) (16 : Int32)), .int (gAt (I1 18) 20 x1), .ref 53], I1, G1, (gP rd))
      obtain ⟨r2, I2, G2, hc, h⟩ := rb_some h
      refine am_callV hX hi (M := mX7_changePull) (idx := 156) (d' := 4) (b := 53) (ci := 7) (As := [.int (gAt (I1 18) 20 x1), .int (gHo r1 (0 : Int32) (16 : Int32))]) (rest := []) mkX7_changePull miX7_changePull mvX7_changePull (by decide +kernel) (by decide +kernel) rfl (by decide +kernel) rfl ⟨by omega, by decide, Nat.le_of_ble_eq_true rfl⟩ rfl (c_X7_changePull_53 _ I1 G1 (gAt (I1 18) 20 x1) (gHo r1 (0 : Int32) (16 : Int32)) hc) ?_
      rintro r9 I9 G9 P9 ⟨e0, e1, e2, e3⟩
      rw [e0, e1, e2, e3]
      show am_V X 0 0 _ _ ad (138, [(0, .ref 53), (1, .int x1), (2, .int (gAt (I 20) 20 x1)), (3, .int (gAt (I 21) 20 x1)), (4, .int r1), (5, .int (gAt (I1 18) 20 x1))], [.int r2], I2, G2, (gP rd))
      obtain ⟨gb, h⟩ := rg_some h
      cases h
      refine am_iret hX hi rfl (by rcases gb with gb | gb <;> rw [gb] <;> rfl) (by decide +kernel) ?_
      exact ⟨rfl, rfl, rfl, rfl⟩
    rw [if_neg s97_9] at h
    refine am_lsw hX hi (dflt := (58)) (ps := #[((6), (42)), ((9), (27))]) (len := 27) (off := (58)) (tgt := 155) (by decide +kernel) (by decide +kernel) ?_ (by decide) ?_
    · have eF : ∀ v : Int32, ¬ (gAt (I1 17) 20 x1) = v → ¬ ((gAt (I1 17) 20 x1)).toInt = v.toInt := fun v q z => q ((i_eq _ _).mpr z)
      have e6 := eF (6 : Int32) s97_6
      have e9 := eF (9 : Int32) s97_9
      simp only [show ((6 : Int32) : Int32).toInt = 6 from rfl, show ((9 : Int32) : Int32).toInt = 9 from rfl] at e6 e9
      simp [Op.lookupswitch.offset, e6, Ne.symm e6, e9, Ne.symm e9]
    refine am_blk 155 [(.iload 5, 2, 5, 0, .null)] (157, [(0, .ref 53), (1, .int x1), (2, .int (gAt (I 20) 20 x1)), (3, .int (gAt (I 21) 20 x1)), (4, .int r1), (5, .int (gAt (I1 18) 20 x1))], [.int (gAt (I1 18) 20 x1)], I1, G1, (gP rd)) (True) hX hi (by decide +kernel) rfl trivial ?_
    refine am_if_ne (tgt := 170) hX hi (off := (13)) (by decide +kernel) (by decide) (fun c157 => ?_) (fun c157 => ?_)
    · rw [if_neg c157] at h
      refine am_blk 170 [(.aload_n 0, 1, 0, 0, .null), (.iconst (0), 1, 0, 0, .int (0 : Int32)), (.iload 4, 2, 4, 0, .null)] (174, [(0, .ref 53), (1, .int x1), (2, .int (gAt (I 20) 20 x1)), (3, .int (gAt (I 21) 20 x1)), (4, .int r1), (5, .int (gAt (I1 18) 20 x1))], [.int r1, .int (0 : Int32), .ref 53], I1, G1, (gP rd)) (True) hX hi (by decide +kernel) rfl trivial ?_
      refine am_callV hX hi (M := mX7_changeDrift) (idx := 163) (d' := 3) (b := 53) (ci := 7) (As := [.int (0 : Int32), .int r1]) (rest := []) mkX7_changeDrift miX7_changeDrift mvX7_changeDrift (by decide +kernel) (by decide +kernel) rfl (by decide +kernel) rfl ⟨by omega, by decide, Nat.le_of_ble_eq_true rfl⟩ rfl (c_X7_changeDrift_53 _ I1 G1 (0 : Int32) r1) ?_
      rintro r9 I9 G9 P9 ⟨e0, e1, e2, e3⟩
      rw [e0, e1, e2, e3]
      show am_V X 0 0 _ _ ad (177, [(0, .ref 53), (1, .int x1), (2, .int (gAt (I 20) 20 x1)), (3, .int (gAt (I 21) 20 x1)), (4, .int r1), (5, .int (gAt (I1 18) 20 x1))], [.int (f_X7_changeDrift_53 I1 G1 (0 : Int32) r1)], (g_X7_changeDrift_53 I1 G1 (0 : Int32) r1), G1, (gP rd))
      obtain ⟨gb, h⟩ := rg_some h
      cases h
      refine am_iret hX hi rfl (by rcases gb with gb | gb <;> rw [gb] <;> rfl) (by decide +kernel) ?_
      exact ⟨rfl, rfl, rfl, rfl⟩
    · rw [if_pos c157] at h
      refine am_blk 160 [(.aload_n 0, 1, 0, 0, .null), (.iload 4, 2, 4, 0, .null), (.iconst (0), 1, 0, 0, .int (0 : Int32))] (164, [(0, .ref 53), (1, .int x1), (2, .int (gAt (I 20) 20 x1)), (3, .int (gAt (I 21) 20 x1)), (4, .int r1), (5, .int (gAt (I1 18) 20 x1))], [.int (0 : Int32), .int r1, .ref 53], I1, G1, (gP rd)) (True) hX hi (by decide +kernel) rfl trivial ?_
      refine am_callV hX hi (M := mX7_changeDrift) (idx := 163) (d' := 3) (b := 53) (ci := 7) (As := [.int r1, .int (0 : Int32)]) (rest := []) mkX7_changeDrift miX7_changeDrift mvX7_changeDrift (by decide +kernel) (by decide +kernel) rfl (by decide +kernel) rfl ⟨by omega, by decide, Nat.le_of_ble_eq_true rfl⟩ rfl (c_X7_changeDrift_53 _ I1 G1 r1 (0 : Int32)) ?_
      rintro r9 I9 G9 P9 ⟨e0, e1, e2, e3⟩
      rw [e0, e1, e2, e3]
      show am_V X 0 0 _ _ ad (167, [(0, .ref 53), (1, .int x1), (2, .int (gAt (I 20) 20 x1)), (3, .int (gAt (I 21) 20 x1)), (4, .int r1), (5, .int (gAt (I1 18) 20 x1))], [.int (f_X7_changeDrift_53 I1 G1 r1 (0 : Int32))], (g_X7_changeDrift_53 I1 G1 r1 (0 : Int32)), G1, (gP rd))
      refine am_blk 167 [(.goto (10), 3, 0, 177, .null)] (177, [(0, .ref 53), (1, .int x1), (2, .int (gAt (I 20) 20 x1)), (3, .int (gAt (I 21) 20 x1)), (4, .int r1), (5, .int (gAt (I1 18) 20 x1))], [.int (f_X7_changeDrift_53 I1 G1 r1 (0 : Int32))], (g_X7_changeDrift_53 I1 G1 r1 (0 : Int32)), G1, (gP rd)) (True) hX hi (by decide +kernel) rfl trivial ?_
      obtain ⟨gb, h⟩ := rg_some h
      cases h
      refine am_iret hX hi rfl (by rcases gb with gb | gb <;> rw [gb] <;> rfl) (by decide +kernel) ?_
      exact ⟨rfl, rfl, rfl, rfl⟩
  · rw [if_neg c32] at h
    refine am_blk 35 [(.aload_n 0, 1, 0, 0, .null), (.iload_n 2, 1, 2, 0, .null), (.iload_n 3, 1, 3, 0, .null)] (38, [(0, .ref 53), (1, .int x1), (2, .int (gAt (I 20) 20 x1)), (3, .int (gAt (I 21) 20 x1))], [.int (gAt (I 21) 20 x1), .int (gAt (I 20) 20 x1), .ref 53], I, G, (gP rd)) (True) hX hi (by decide +kernel) rfl trivial ?_
    obtain ⟨r3, I3, G3, hc, h⟩ := rb_some h
    refine am_callV hX hi (M := mX7_reckon) (idx := 139) (d' := 5) (b := 53) (ci := 7) (As := [.int (gAt (I 20) 20 x1), .int (gAt (I 21) 20 x1)]) (rest := []) mkX7_reckon miX7_reckon mvX7_reckon (by decide +kernel) (by decide +kernel) rfl (by decide +kernel) rfl ⟨by omega, by decide, Nat.le_of_ble_eq_true rfl⟩ rfl (c_X7_reckon_53 _ I G (gAt (I 20) 20 x1) (gAt (I 21) 20 x1) hc) ?_
    rintro r9 I9 G9 P9 ⟨e0, e1, e2, e3⟩
    rw [e0, e1, e2, e3]
    show am_V X 0 0 _ _ ad (41, [(0, .ref 53), (1, .int x1), (2, .int (gAt (I 20) 20 x1)), (3, .int (gAt (I 21) 20 x1))], [.int r3], I3, G3, (gP rd))
    refine am_if_ne (tgt := 46) hX hi (off := (5)) (by decide +kernel) (by decide) (fun c41 => ?_) (fun c41 => ?_)
    · rw [if_neg c41] at h
      refine am_blk 46 [(.aload_n 0, 1, 0, 0, .null), (.aload_n 0, 1, 0, 0, .null), (.getfield 44, 3, 7, 0, .null), (.getfield 114, 3, 5, 8, .null), (.getfield 143, 3, 3, 2, .null), (.iload_n 1, 1, 1, 0, .null)] (58, [(0, .ref 53), (1, .int x1), (2, .int (gAt (I 20) 20 x1)), (3, .int (gAt (I 21) 20 x1))], [.int x1, .ref 19, .ref 53], I3, G3, (gP rd)) (True) hX hi (by decide +kernel) rfl trivial ?_
      refine am_callS hX hi (M := mX0_at) (idx := 85) (d' := 1) (As := [.ref 19, .int x1]) (rest := [.ref 53]) mkX0_at msX0_at (by decide +kernel) (by decide +kernel) rfl ⟨by omega, by decide, Nat.le_of_ble_eq_true rfl⟩ rfl (c_at rfl (by decide) x1) ?_
      rintro r9 I9 G9 P9 ⟨e0, e1, e2, e3⟩
      rw [e0, e1, e2, e3]
      show am_V X 0 0 _ _ ad (61, [(0, .ref 53), (1, .int x1), (2, .int (gAt (I 20) 20 x1)), (3, .int (gAt (I 21) 20 x1))], [.int (gAt (I3 19) 20 x1), .ref 53], I3, G3, (gP rd))
      refine am_blk 61 [(.iload_n 2, 1, 2, 0, .null)] (62, [(0, .ref 53), (1, .int x1), (2, .int (gAt (I 20) 20 x1)), (3, .int (gAt (I 21) 20 x1))], [.int (gAt (I 20) 20 x1), .int (gAt (I3 19) 20 x1), .ref 53], I3, G3, (gP rd)) (True) hX hi (by decide +kernel) rfl trivial ?_
      obtain ⟨r4, I4, G4, hc, h⟩ := rb_some h
      refine am_callV hX hi (M := mX7_reckon) (idx := 139) (d' := 5) (b := 53) (ci := 7) (As := [.int (gAt (I3 19) 20 x1), .int (gAt (I 20) 20 x1)]) (rest := []) mkX7_reckon miX7_reckon mvX7_reckon (by decide +kernel) (by decide +kernel) rfl (by decide +kernel) rfl ⟨by omega, by decide, Nat.le_of_ble_eq_true rfl⟩ rfl (c_X7_reckon_53 _ I3 G3 (gAt (I3 19) 20 x1) (gAt (I 20) 20 x1) hc) ?_
      rintro r9 I9 G9 P9 ⟨e0, e1, e2, e3⟩
      rw [e0, e1, e2, e3]
      show am_V X 0 0 _ _ ad (65, [(0, .ref 53), (1, .int x1), (2, .int (gAt (I 20) 20 x1)), (3, .int (gAt (I 21) 20 x1))], [.int r4], I4, G4, (gP rd))
      refine am_blk 65 [(.istore 4, 2, 4, 0, .null), (.aload_n 0, 1, 0, 0, .null), (.getfield 44, 3, 7, 0, .null), (.getfield 114, 3, 5, 8, .null), (.getfield 146, 3, 3, 1, .null), (.iload_n 1, 1, 1, 0, .null)] (78, [(0, .ref 53), (1, .int x1), (2, .int (gAt (I 20) 20 x1)), (3, .int (gAt (I 21) 20 x1)), (4, .int r4)], [.int x1, .ref 18], I4, G4, (gP rd)) (True) hX hi (by decide +kernel) rfl trivial ?_
      refine am_callS hX hi (M := mX0_at) (idx := 85) (d' := 1) (As := [.ref 18, .int x1]) (rest := []) mkX0_at msX0_at (by decide +kernel) (by decide +kernel) rfl ⟨by omega, by decide, Nat.le_of_ble_eq_true rfl⟩ rfl (c_at rfl (by decide) x1) ?_
      rintro r9 I9 G9 P9 ⟨e0, e1, e2, e3⟩
      rw [e0, e1, e2, e3]
      show am_V X 0 0 _ _ ad (81, [(0, .ref 53), (1, .int x1), (2, .int (gAt (I 20) 20 x1)), (3, .int (gAt (I 21) 20 x1)), (4, .int r4)], [.int (gAt (I4 18) 20 x1)], I4, G4, (gP rd))
      refine am_blk 81 [(.istore 5, 2, 5, 0, .null), (.aload_n 0, 1, 0, 0, .null), (.getfield 44, 3, 7, 0, .null), (.getfield 114, 3, 5, 8, .null), (.getfield 149, 3, 3, 0, .null), (.iload_n 1, 1, 1, 0, .null)] (94, [(0, .ref 53), (1, .int x1), (2, .int (gAt (I 20) 20 x1)), (3, .int (gAt (I 21) 20 x1)), (4, .int r4), (5, .int (gAt (I4 18) 20 x1))], [.int x1, .ref 17], I4, G4, (gP rd)) (True) hX hi (by decide +kernel) rfl trivial ?_
      refine am_callS hX hi (M := mX0_at) (idx := 85) (d' := 1) (As := [.ref 17, .int x1]) (rest := []) mkX0_at msX0_at (by decide +kernel) (by decide +kernel) rfl ⟨by omega, by decide, Nat.le_of_ble_eq_true rfl⟩ rfl (c_at rfl (by decide) x1) ?_
      rintro r9 I9 G9 P9 ⟨e0, e1, e2, e3⟩
      rw [e0, e1, e2, e3]
      show am_V X 0 0 _ _ ad (97, [(0, .ref 53), (1, .int x1), (2, .int (gAt (I 20) 20 x1)), (3, .int (gAt (I 21) 20 x1)), (4, .int r4), (5, .int (gAt (I4 18) 20 x1))], [.int (gAt (I4 17) 20 x1)], I4, G4, (gP rd))
      by_cases s97_6 : (gAt (I4 17) 20 x1) = (6 : Int32)
      · rw [if_pos s97_6] at h
        refine am_lsw hX hi (dflt := (58)) (ps := #[((6), (42)), ((9), (27))]) (len := 27) (off := (42)) (tgt := 139) (by decide +kernel) (by decide +kernel) (by rw [s97_6]; rfl) (by decide) ?_
        refine am_blk 139 [(.aload_n 0, 1, 0, 0, .null), (.iload 5, 2, 5, 0, .null), (.iload 4, 2, 4, 0, .null), (.iconst (0), 1, 0, 0, .int (0 : Int32)), (.sipush (999), 3, 0, 0, .int (999 : Int32))] (148, [(0, .ref 53), (1, .int x1), (2, .int (gAt (I 20) 20 x1)), (3, .int (gAt (I 21) 20 x1)), (4, .int r4), (5, .int (gAt (I4 18) 20 x1))], [.int (999 : Int32), .int (0 : Int32), .int r4, .int (gAt (I4 18) 20 x1), .ref 53], I4, G4, (gP rd)) (True) hX hi (by decide +kernel) rfl trivial ?_
        refine am_callS hX hi (M := mX0_hold) (idx := 152) (d' := 1) (As := [.int r4, .int (0 : Int32), .int (999 : Int32)]) (rest := [.int (gAt (I4 18) 20 x1), .ref 53]) mkX0_hold msX0_hold (by decide +kernel) (by decide +kernel) rfl ⟨by omega, by decide, Nat.le_of_ble_eq_true rfl⟩ rfl (c_hold r4 (0 : Int32) (999 : Int32)) ?_
        rintro r9 I9 G9 P9 ⟨e0, e1, e2, e3⟩
        rw [e0, e1, e2, e3]
        show am_V X 0 0 _ _ ad (151, [(0, .ref 53), (1, .int x1), (2, .int (gAt (I 20) 20 x1)), (3, .int (gAt (I 21) 20 x1)), (4, .int r4), (5, .int (gAt (I4 18) 20 x1))], [.int (gHo r4 (0 : Int32) (999 : Int32)), .int (gAt (I4 18) 20 x1), .ref 53], I4, G4, (gP rd))
        refine am_callV hX hi (M := mX7_changeSeed) (idx := 160) (d' := 2) (b := 53) (ci := 7) (As := [.int (gAt (I4 18) 20 x1), .int (gHo r4 (0 : Int32) (999 : Int32))]) (rest := []) mkX7_changeSeed miX7_changeSeed mvX7_changeSeed (by decide +kernel) (by decide +kernel) rfl (by decide +kernel) rfl ⟨by omega, by decide, Nat.le_of_ble_eq_true rfl⟩ rfl (c_X7_changeSeed_53 _ I4 G4 (gAt (I4 18) 20 x1) (gHo r4 (0 : Int32) (999 : Int32))) ?_
        rintro r9 I9 G9 P9 ⟨e0, e1, e2, e3⟩
        rw [e0, e1, e2, e3]
        show am_V X 0 0 _ _ ad (154, [(0, .ref 53), (1, .int x1), (2, .int (gAt (I 20) 20 x1)), (3, .int (gAt (I 21) 20 x1)), (4, .int r4), (5, .int (gAt (I4 18) 20 x1))], [.int (f_X7_changeSeed_53 I4 G4 (gAt (I4 18) 20 x1) (gHo r4 (0 : Int32) (999 : Int32)))], (g_X7_changeSeed_53 I4 G4 (gAt (I4 18) 20 x1) (gHo r4 (0 : Int32) (999 : Int32))), G4, (gP rd))
        obtain ⟨gb, h⟩ := rg_some h
        cases h
        refine am_iret hX hi rfl (by rcases gb with gb | gb <;> rw [gb] <;> rfl) (by decide +kernel) ?_
        exact ⟨rfl, rfl, rfl, rfl⟩
      rw [if_neg s97_6] at h
      by_cases s97_9 : (gAt (I4 17) 20 x1) = (9 : Int32)
      · rw [if_pos s97_9] at h
        refine am_lsw hX hi (dflt := (58)) (ps := #[((6), (42)), ((9), (27))]) (len := 27) (off := (27)) (tgt := 124) (by decide +kernel) (by decide +kernel) (by rw [s97_9]; rfl) (by decide) ?_
        refine am_blk 124 [(.aload_n 0, 1, 0, 0, .null), (.iload 5, 2, 5, 0, .null), (.iload 4, 2, 4, 0, .null), (.iconst (0), 1, 0, 0, .int (0 : Int32)), (.bipush (16), 2, 0, 0, .int (16 : Int32))] (132, [(0, .ref 53), (1, .int x1), (2, .int (gAt (I 20) 20 x1)), (3, .int (gAt (I 21) 20 x1)), (4, .int r4), (5, .int (gAt (I4 18) 20 x1))], [.int (16 : Int32), .int (0 : Int32), .int r4, .int (gAt (I4 18) 20 x1), .ref 53], I4, G4, (gP rd)) (True) hX hi (by decide +kernel) rfl trivial ?_
        refine am_callS hX hi (M := mX0_hold) (idx := 152) (d' := 1) (As := [.int r4, .int (0 : Int32), .int (16 : Int32)]) (rest := [.int (gAt (I4 18) 20 x1), .ref 53]) mkX0_hold msX0_hold (by decide +kernel) (by decide +kernel) rfl ⟨by omega, by decide, Nat.le_of_ble_eq_true rfl⟩ rfl (c_hold r4 (0 : Int32) (16 : Int32)) ?_
        rintro r9 I9 G9 P9 ⟨e0, e1, e2, e3⟩
        rw [e0, e1, e2, e3]
        show am_V X 0 0 _ _ ad (135, [(0, .ref 53), (1, .int x1), (2, .int (gAt (I 20) 20 x1)), (3, .int (gAt (I 21) 20 x1)), (4, .int r4), (5, .int (gAt (I4 18) 20 x1))], [.int (gHo r4 (0 : Int32) (16 : Int32)), .int (gAt (I4 18) 20 x1), .ref 53], I4, G4, (gP rd))
        obtain ⟨r5, I5, G5, hc, h⟩ := rb_some h
        refine am_callV hX hi (M := mX7_changePull) (idx := 156) (d' := 4) (b := 53) (ci := 7) (As := [.int (gAt (I4 18) 20 x1), .int (gHo r4 (0 : Int32) (16 : Int32))]) (rest := []) mkX7_changePull miX7_changePull mvX7_changePull (by decide +kernel) (by decide +kernel) rfl (by decide +kernel) rfl ⟨by omega, by decide, Nat.le_of_ble_eq_true rfl⟩ rfl (c_X7_changePull_53 _ I4 G4 (gAt (I4 18) 20 x1) (gHo r4 (0 : Int32) (16 : Int32)) hc) ?_
        rintro r9 I9 G9 P9 ⟨e0, e1, e2, e3⟩
        rw [e0, e1, e2, e3]
        show am_V X 0 0 _ _ ad (138, [(0, .ref 53), (1, .int x1), (2, .int (gAt (I 20) 20 x1)), (3, .int (gAt (I 21) 20 x1)), (4, .int r4), (5, .int (gAt (I4 18) 20 x1))], [.int r5], I5, G5, (gP rd))
        obtain ⟨gb, h⟩ := rg_some h
        cases h
        refine am_iret hX hi rfl (by rcases gb with gb | gb <;> rw [gb] <;> rfl) (by decide +kernel) ?_
        exact ⟨rfl, rfl, rfl, rfl⟩
      rw [if_neg s97_9] at h
      refine am_lsw hX hi (dflt := (58)) (ps := #[((6), (42)), ((9), (27))]) (len := 27) (off := (58)) (tgt := 155) (by decide +kernel) (by decide +kernel) ?_ (by decide) ?_
      · have eF : ∀ v : Int32, ¬ (gAt (I4 17) 20 x1) = v → ¬ ((gAt (I4 17) 20 x1)).toInt = v.toInt := fun v q z => q ((i_eq _ _).mpr z)
        have e6 := eF (6 : Int32) s97_6
        have e9 := eF (9 : Int32) s97_9
        simp only [show ((6 : Int32) : Int32).toInt = 6 from rfl, show ((9 : Int32) : Int32).toInt = 9 from rfl] at e6 e9
        simp [Op.lookupswitch.offset, e6, Ne.symm e6, e9, Ne.symm e9]
      refine am_blk 155 [(.iload 5, 2, 5, 0, .null)] (157, [(0, .ref 53), (1, .int x1), (2, .int (gAt (I 20) 20 x1)), (3, .int (gAt (I 21) 20 x1)), (4, .int r4), (5, .int (gAt (I4 18) 20 x1))], [.int (gAt (I4 18) 20 x1)], I4, G4, (gP rd)) (True) hX hi (by decide +kernel) rfl trivial ?_
      refine am_if_ne (tgt := 170) hX hi (off := (13)) (by decide +kernel) (by decide) (fun c157 => ?_) (fun c157 => ?_)
      · rw [if_neg c157] at h
        refine am_blk 170 [(.aload_n 0, 1, 0, 0, .null), (.iconst (0), 1, 0, 0, .int (0 : Int32)), (.iload 4, 2, 4, 0, .null)] (174, [(0, .ref 53), (1, .int x1), (2, .int (gAt (I 20) 20 x1)), (3, .int (gAt (I 21) 20 x1)), (4, .int r4), (5, .int (gAt (I4 18) 20 x1))], [.int r4, .int (0 : Int32), .ref 53], I4, G4, (gP rd)) (True) hX hi (by decide +kernel) rfl trivial ?_
        refine am_callV hX hi (M := mX7_changeDrift) (idx := 163) (d' := 3) (b := 53) (ci := 7) (As := [.int (0 : Int32), .int r4]) (rest := []) mkX7_changeDrift miX7_changeDrift mvX7_changeDrift (by decide +kernel) (by decide +kernel) rfl (by decide +kernel) rfl ⟨by omega, by decide, Nat.le_of_ble_eq_true rfl⟩ rfl (c_X7_changeDrift_53 _ I4 G4 (0 : Int32) r4) ?_
        rintro r9 I9 G9 P9 ⟨e0, e1, e2, e3⟩
        rw [e0, e1, e2, e3]
        show am_V X 0 0 _ _ ad (177, [(0, .ref 53), (1, .int x1), (2, .int (gAt (I 20) 20 x1)), (3, .int (gAt (I 21) 20 x1)), (4, .int r4), (5, .int (gAt (I4 18) 20 x1))], [.int (f_X7_changeDrift_53 I4 G4 (0 : Int32) r4)], (g_X7_changeDrift_53 I4 G4 (0 : Int32) r4), G4, (gP rd))
        obtain ⟨gb, h⟩ := rg_some h
        cases h
        refine am_iret hX hi rfl (by rcases gb with gb | gb <;> rw [gb] <;> rfl) (by decide +kernel) ?_
        exact ⟨rfl, rfl, rfl, rfl⟩
      · rw [if_pos c157] at h
        refine am_blk 160 [(.aload_n 0, 1, 0, 0, .null), (.iload 4, 2, 4, 0, .null), (.iconst (0), 1, 0, 0, .int (0 : Int32))] (164, [(0, .ref 53), (1, .int x1), (2, .int (gAt (I 20) 20 x1)), (3, .int (gAt (I 21) 20 x1)), (4, .int r4), (5, .int (gAt (I4 18) 20 x1))], [.int (0 : Int32), .int r4, .ref 53], I4, G4, (gP rd)) (True) hX hi (by decide +kernel) rfl trivial ?_
        refine am_callV hX hi (M := mX7_changeDrift) (idx := 163) (d' := 3) (b := 53) (ci := 7) (As := [.int r4, .int (0 : Int32)]) (rest := []) mkX7_changeDrift miX7_changeDrift mvX7_changeDrift (by decide +kernel) (by decide +kernel) rfl (by decide +kernel) rfl ⟨by omega, by decide, Nat.le_of_ble_eq_true rfl⟩ rfl (c_X7_changeDrift_53 _ I4 G4 r4 (0 : Int32)) ?_
        rintro r9 I9 G9 P9 ⟨e0, e1, e2, e3⟩
        rw [e0, e1, e2, e3]
        show am_V X 0 0 _ _ ad (167, [(0, .ref 53), (1, .int x1), (2, .int (gAt (I 20) 20 x1)), (3, .int (gAt (I 21) 20 x1)), (4, .int r4), (5, .int (gAt (I4 18) 20 x1))], [.int (f_X7_changeDrift_53 I4 G4 r4 (0 : Int32))], (g_X7_changeDrift_53 I4 G4 r4 (0 : Int32)), G4, (gP rd))
        refine am_blk 167 [(.goto (10), 3, 0, 177, .null)] (177, [(0, .ref 53), (1, .int x1), (2, .int (gAt (I 20) 20 x1)), (3, .int (gAt (I 21) 20 x1)), (4, .int r4), (5, .int (gAt (I4 18) 20 x1))], [.int (f_X7_changeDrift_53 I4 G4 r4 (0 : Int32))], (g_X7_changeDrift_53 I4 G4 r4 (0 : Int32)), G4, (gP rd)) (True) hX hi (by decide +kernel) rfl trivial ?_
        obtain ⟨gb, h⟩ := rg_some h
        cases h
        refine am_iret hX hi rfl (by rcases gb with gb | gb <;> rw [gb] <;> rfl) (by decide +kernel) ?_
        exact ⟨rfl, rfl, rfl, rfl⟩
    · rw [if_pos c41] at h
      refine am_blk 44 [(.iconst (0), 1, 0, 0, .int (0 : Int32))] (45, [(0, .ref 53), (1, .int x1), (2, .int (gAt (I 20) 20 x1)), (3, .int (gAt (I 21) 20 x1))], [.int (0 : Int32)], I3, G3, (gP rd)) (True) hX hi (by decide +kernel) rfl trivial ?_
      cases h
      refine am_iret hX hi rfl (by first | rfl | decide | (simp [narrow]; done)) (by decide +kernel) ?_
      exact ⟨rfl, rfl, rfl, rfl⟩
noncomputable def R_X7_carryOut_66 (I : am_I) (G : am_G) (x1 : Int32) : Option (Int32 × am_I × am_G) := (if (gAt (I 21) 20 x1) ≤ (gAt (I 20) 20 x1) then rb (R_X7_reckon_66 I G (gAt (I 19) 20 x1) (gAt (I 20) 20 x1)) (fun r1 I1 G1 => (if (gAt (I1 17) 20 x1) = (6 : Int32) then rg ((f_X7_changeSeed_66 I1 G1 (gAt (I1 18) 20 x1) (gHo r1 (0 : Int32) (999 : Int32))) = 0 ∨ (f_X7_changeSeed_66 I1 G1 (gAt (I1 18) 20 x1) (gHo r1 (0 : Int32) (999 : Int32))) = 1) (some ((f_X7_changeSeed_66 I1 G1 (gAt (I1 18) 20 x1) (gHo r1 (0 : Int32) (999 : Int32))), (g_X7_changeSeed_66 I1 G1 (gAt (I1 18) 20 x1) (gHo r1 (0 : Int32) (999 : Int32))), G1)) else if (gAt (I1 17) 20 x1) = (9 : Int32) then rb (R_X7_changePull_66 I1 G1 (gAt (I1 18) 20 x1) (gHo r1 (0 : Int32) (16 : Int32))) (fun r2 I2 G2 => rg (r2 = 0 ∨ r2 = 1) (some (r2, I2, G2))) else (if (gAt (I1 18) 20 x1) = 0 then rg ((f_X7_changeDrift_66 I1 G1 r1 (0 : Int32)) = 0 ∨ (f_X7_changeDrift_66 I1 G1 r1 (0 : Int32)) = 1) (some ((f_X7_changeDrift_66 I1 G1 r1 (0 : Int32)), (g_X7_changeDrift_66 I1 G1 r1 (0 : Int32)), G1)) else rg ((f_X7_changeDrift_66 I1 G1 (0 : Int32) r1) = 0 ∨ (f_X7_changeDrift_66 I1 G1 (0 : Int32) r1) = 1) (some ((f_X7_changeDrift_66 I1 G1 (0 : Int32) r1), (g_X7_changeDrift_66 I1 G1 (0 : Int32) r1), G1))))) else rb (R_X7_reckon_66 I G (gAt (I 20) 20 x1) (gAt (I 21) 20 x1)) (fun r3 I3 G3 => (if r3 = 0 then some ((0 : Int32), I3, G3) else rb (R_X7_reckon_66 I3 G3 (gAt (I3 19) 20 x1) (gAt (I 20) 20 x1)) (fun r4 I4 G4 => (if (gAt (I4 17) 20 x1) = (6 : Int32) then rg ((f_X7_changeSeed_66 I4 G4 (gAt (I4 18) 20 x1) (gHo r4 (0 : Int32) (999 : Int32))) = 0 ∨ (f_X7_changeSeed_66 I4 G4 (gAt (I4 18) 20 x1) (gHo r4 (0 : Int32) (999 : Int32))) = 1) (some ((f_X7_changeSeed_66 I4 G4 (gAt (I4 18) 20 x1) (gHo r4 (0 : Int32) (999 : Int32))), (g_X7_changeSeed_66 I4 G4 (gAt (I4 18) 20 x1) (gHo r4 (0 : Int32) (999 : Int32))), G4)) else if (gAt (I4 17) 20 x1) = (9 : Int32) then rb (R_X7_changePull_66 I4 G4 (gAt (I4 18) 20 x1) (gHo r4 (0 : Int32) (16 : Int32))) (fun r5 I5 G5 => rg (r5 = 0 ∨ r5 = 1) (some (r5, I5, G5))) else (if (gAt (I4 18) 20 x1) = 0 then rg ((f_X7_changeDrift_66 I4 G4 r4 (0 : Int32)) = 0 ∨ (f_X7_changeDrift_66 I4 G4 r4 (0 : Int32)) = 1) (some ((f_X7_changeDrift_66 I4 G4 r4 (0 : Int32)), (g_X7_changeDrift_66 I4 G4 r4 (0 : Int32)), G4)) else rg ((f_X7_changeDrift_66 I4 G4 (0 : Int32) r4) = 0 ∨ (f_X7_changeDrift_66 I4 G4 (0 : Int32) r4) = 1) (some ((f_X7_changeDrift_66 I4 G4 (0 : Int32) r4), (g_X7_changeDrift_66 I4 G4 (0 : Int32) r4), G4))))))))
set_option maxRecDepth 20000 in
set_option maxHeartbeats 4000000 in
theorem c_X7_carryOut_66 (rd : Nat) (I : am_I) (G : am_G) (x1 : Int32) {out : Int32 × am_I × am_G} (h : R_X7_carryOut_66 I G x1 = some out) : am_Ct mX7_carryOut 6 gS [.ref 66, .int x1] I G (gP rd) (pI out.1 out.2.1 out.2.2 (gP rd)) := by
  refine am_ofF (by decide +kernel) rfl (by decide) (by omega) (Nat.le_of_ble_eq_true rfl) (fun X ad hX hi => ?_)
  have hi : am_info X 7 cX7_carryOut 6 false (Option.some Jvm.ClassFile.FieldType.boolean) 6 := hi
  show am_V X 0 0 _ _ ad (0, [(0, .ref 66), (1, .int x1)], [], I, G, (gP rd))
  unfold R_X7_carryOut_66 at h
  refine am_blk 0 [(.aload_n 0, 1, 0, 0, .null), (.getfield 44, 3, 7, 0, .null), (.getfield 114, 3, 5, 8, .null), (.getfield 133, 3, 3, 3, .null), (.iload_n 1, 1, 1, 0, .null)] (11, [(0, .ref 66), (1, .int x1)], [.int x1, .ref 20], I, G, (gP rd)) (True) hX hi (by decide +kernel) rfl trivial ?_
  refine am_callS hX hi (M := mX0_at) (idx := 85) (d' := 1) (As := [.ref 20, .int x1]) (rest := []) mkX0_at msX0_at (by decide +kernel) (by decide +kernel) rfl ⟨by omega, by decide, Nat.le_of_ble_eq_true rfl⟩ rfl (c_at rfl (by decide) x1) ?_
  rintro r9 I9 G9 P9 ⟨e0, e1, e2, e3⟩
  rw [e0, e1, e2, e3]
  show am_V X 0 0 _ _ ad (14, [(0, .ref 66), (1, .int x1)], [.int (gAt (I 20) 20 x1)], I, G, (gP rd))
  refine am_blk 14 [(.istore_n 2, 1, 2, 0, .null), (.aload_n 0, 1, 0, 0, .null), (.getfield 44, 3, 7, 0, .null), (.getfield 114, 3, 5, 8, .null), (.getfield 136, 3, 3, 4, .null), (.iload_n 1, 1, 1, 0, .null)] (26, [(0, .ref 66), (1, .int x1), (2, .int (gAt (I 20) 20 x1))], [.int x1, .ref 21], I, G, (gP rd)) (True) hX hi (by decide +kernel) rfl trivial ?_
  refine am_callS hX hi (M := mX0_at) (idx := 85) (d' := 1) (As := [.ref 21, .int x1]) (rest := []) mkX0_at msX0_at (by decide +kernel) (by decide +kernel) rfl ⟨by omega, by decide, Nat.le_of_ble_eq_true rfl⟩ rfl (c_at rfl (by decide) x1) ?_
  rintro r9 I9 G9 P9 ⟨e0, e1, e2, e3⟩
  rw [e0, e1, e2, e3]
  show am_V X 0 0 _ _ ad (29, [(0, .ref 66), (1, .int x1), (2, .int (gAt (I 20) 20 x1))], [.int (gAt (I 21) 20 x1)], I, G, (gP rd))
  refine am_blk 29 [(.istore_n 3, 1, 3, 0, .null), (.iload_n 2, 1, 2, 0, .null), (.iload_n 3, 1, 3, 0, .null)] (32, [(0, .ref 66), (1, .int x1), (2, .int (gAt (I 20) 20 x1)), (3, .int (gAt (I 21) 20 x1))], [.int (gAt (I 21) 20 x1), .int (gAt (I 20) 20 x1)], I, G, (gP rd)) (True) hX hi (by decide +kernel) rfl trivial ?_
  refine am_icmp_ge (tgt := 46) hX hi (off := (14)) (by decide +kernel) (by decide) (fun c32 => ?_) (fun c32 => ?_)
  · rw [if_pos c32] at h
    refine am_blk 46 [(.aload_n 0, 1, 0, 0, .null), (.aload_n 0, 1, 0, 0, .null), (.getfield 44, 3, 7, 0, .null), (.getfield 114, 3, 5, 8, .null), (.getfield 143, 3, 3, 2, .null), (.iload_n 1, 1, 1, 0, .null)] (58, [(0, .ref 66), (1, .int x1), (2, .int (gAt (I 20) 20 x1)), (3, .int (gAt (I 21) 20 x1))], [.int x1, .ref 19, .ref 66], I, G, (gP rd)) (True) hX hi (by decide +kernel) rfl trivial ?_
    refine am_callS hX hi (M := mX0_at) (idx := 85) (d' := 1) (As := [.ref 19, .int x1]) (rest := [.ref 66]) mkX0_at msX0_at (by decide +kernel) (by decide +kernel) rfl ⟨by omega, by decide, Nat.le_of_ble_eq_true rfl⟩ rfl (c_at rfl (by decide) x1) ?_
    rintro r9 I9 G9 P9 ⟨e0, e1, e2, e3⟩
    rw [e0, e1, e2, e3]
    show am_V X 0 0 _ _ ad (61, [(0, .ref 66), (1, .int x1), (2, .int (gAt (I 20) 20 x1)), (3, .int (gAt (I 21) 20 x1))], [.int (gAt (I 19) 20 x1), .ref 66], I, G, (gP rd))
    refine am_blk 61 [(.iload_n 2, 1, 2, 0, .null)] (62, [(0, .ref 66), (1, .int x1), (2, .int (gAt (I 20) 20 x1)), (3, .int (gAt (I 21) 20 x1))], [.int (gAt (I 20) 20 x1), .int (gAt (I 19) 20 x1), .ref 66], I, G, (gP rd)) (True) hX hi (by decide +kernel) rfl trivial ?_
    obtain ⟨r1, I1, G1, hc, h⟩ := rb_some h
    refine am_callV hX hi (M := mX7_reckon) (idx := 139) (d' := 5) (b := 66) (ci := 7) (As := [.int (gAt (I 19) 20 x1), .int (gAt (I 20) 20 x1)]) (rest := []) mkX7_reckon miX7_reckon mvX7_reckon (by decide +kernel) (by decide +kernel) rfl (by decide +kernel) rfl ⟨by omega, by decide, Nat.le_of_ble_eq_true rfl⟩ rfl (c_X7_reckon_66 _ I G (gAt (I 19) 20 x1) (gAt (I 20) 20 x1) hc) ?_
    rintro r9 I9 G9 P9 ⟨e0, e1, e2, e3⟩
    rw [e0, e1, e2, e3]
    show am_V X 0 0 _ _ ad (65, [(0, .ref 66), (1, .int x1), (2, .int (gAt (I 20) 20 x1)), (3, .int (gAt (I 21) 20 x1))], [.int r1], I1, G1, (gP rd))
    refine am_blk 65 [(.istore 4, 2, 4, 0, .null), (.aload_n 0, 1, 0, 0, .null), (.getfield 44, 3, 7, 0, .null), (.getfield 114, 3, 5, 8, .null), (.getfield 146, 3, 3, 1, .null), (.iload_n 1, 1, 1, 0, .null)] (78, [(0, .ref 66), (1, .int x1), (2, .int (gAt (I 20) 20 x1)), (3, .int (gAt (I 21) 20 x1)), (4, .int r1)], [.int x1, .ref 18], I1, G1, (gP rd)) (True) hX hi (by decide +kernel) rfl trivial ?_
    refine am_callS hX hi (M := mX0_at) (idx := 85) (d' := 1) (As := [.ref 18, .int x1]) (rest := []) mkX0_at msX0_at (by decide +kernel) (by decide +kernel) rfl ⟨by omega, by decide, Nat.le_of_ble_eq_true rfl⟩ rfl (c_at rfl (by decide) x1) ?_
    rintro r9 I9 G9 P9 ⟨e0, e1, e2, e3⟩
    rw [e0, e1, e2, e3]
    show am_V X 0 0 _ _ ad (81, [(0, .ref 66), (1, .int x1), (2, .int (gAt (I 20) 20 x1)), (3, .int (gAt (I 21) 20 x1)), (4, .int r1)], [.int (gAt (I1 18) 20 x1)], I1, G1, (gP rd))
    refine am_blk 81 [(.istore 5, 2, 5, 0, .null), (.aload_n 0, 1, 0, 0, .null), (.getfield 44, 3, 7, 0, .null), (.getfield 114, 3, 5, 8, .null), (.getfield 149, 3, 3, 0, .null), (.iload_n 1, 1, 1, 0, .null)] (94, [(0, .ref 66), (1, .int x1), (2, .int (gAt (I 20) 20 x1)), (3, .int (gAt (I 21) 20 x1)), (4, .int r1), (5, .int (gAt (I1 18) 20 x1))], [.int x1, .ref 17], I1, G1, (gP rd)) (True) hX hi (by decide +kernel) rfl trivial ?_
    refine am_callS hX hi (M := mX0_at) (idx := 85) (d' := 1) (As := [.ref 17, .int x1]) (rest := []) mkX0_at msX0_at (by decide +kernel) (by decide +kernel) rfl ⟨by omega, by decide, Nat.le_of_ble_eq_true rfl⟩ rfl (c_at rfl (by decide) x1) ?_
    rintro r9 I9 G9 P9 ⟨e0, e1, e2, e3⟩
    rw [e0, e1, e2, e3]
    show am_V X 0 0 _ _ ad (97, [(0, .ref 66), (1, .int x1), (2, .int (gAt (I 20) 20 x1)), (3, .int (gAt (I 21) 20 x1)), (4, .int r1), (5, .int (gAt (I1 18) 20 x1))], [.int (gAt (I1 17) 20 x1)], I1, G1, (gP rd))
    by_cases s97_6 : (gAt (I1 17) 20 x1) = (6 : Int32)
    · rw [if_pos s97_6] at h
      refine am_lsw hX hi (dflt := (58)) (ps := #[((6), (42)), ((9), (27))]) (len := 27) (off := (42)) (tgt := 139) (by decide +kernel) (by decide +kernel) (by rw [s97_6]; rfl) (by decide) ?_
      refine am_blk 139 [(.aload_n 0, 1, 0, 0, .null), (.iload 5, 2, 5, 0, .null), (.iload 4, 2, 4, 0, .null), (.iconst (0), 1, 0, 0, .int (0 : Int32)), (.sipush (999), 3, 0, 0, .int (999 : Int32))] (148, [(0, .ref 66), (1, .int x1), (2, .int (gAt (I 20) 20 x1)), (3, .int (gAt (I 21) 20 x1)), (4, .int r1), (5, .int (gAt (I1 18) 20 x1))], [.int (999 : Int32), .int (0 : Int32), .int r1, .int (gAt (I1 18) 20 x1), .ref 66], I1, G1, (gP rd)) (True) hX hi (by decide +kernel) rfl trivial ?_
      refine am_callS hX hi (M := mX0_hold) (idx := 152) (d' := 1) (As := [.int r1, .int (0 : Int32), .int (999 : Int32)]) (rest := [.int (gAt (I1 18) 20 x1), .ref 66]) mkX0_hold msX0_hold (by decide +kernel) (by decide +kernel) rfl ⟨by omega, by decide, Nat.le_of_ble_eq_true rfl⟩ rfl (c_hold r1 (0 : Int32) (999 : Int32)) ?_
      rintro r9 I9 G9 P9 ⟨e0, e1, e2, e3⟩
      rw [e0, e1, e2, e3]
      show am_V X 0 0 _ _ ad (151, [(0, .ref 66), (1, .int x1), (2, .int (gAt (I 20) 20 x1)), (3, .int (gAt (I 21) 20 x1)), (4, .int r1), (5, .int (gAt (I1 18) 20 x1))], [.int (gHo r1 (0 : Int32) (999 : Int32)), .int (gAt (I1 18) 20 x1), .ref 66], I1, G1, (gP rd))
      refine am_callV hX hi (M := mX7_changeSeed) (idx := 160) (d' := 2) (b := 66) (ci := 7) (As := [.int (gAt (I1 18) 20 x1), .int (gHo r1 (0 : Int32) (999 : Int32))]) (rest := []) mkX7_changeSeed miX7_changeSeed mvX7_changeSeed (by decide +kernel) (by decide +kernel) rfl (by decide +kernel) rfl ⟨by omega, by decide, Nat.le_of_ble_eq_true rfl⟩ rfl (c_X7_changeSeed_66 _ I1 G1 (gAt (I1 18) 20 x1) (gHo r1 (0 : Int32) (999 : Int32))) ?_
      rintro r9 I9 G9 P9 ⟨e0, e1, e2, e3⟩
      rw [e0, e1, e2, e3]
      show am_V X 0 0 _ _ ad (154, [(0, .ref 66), (1, .int x1), (2, .int (gAt (I 20) 20 x1)), (3, .int (gAt (I 21) 20 x1)), (4, .int r1), (5, .int (gAt (I1 18) 20 x1))], [.int (f_X7_changeSeed_66 I1 G1 (gAt (I1 18) 20 x1) (gHo r1 (0 : Int32) (999 : Int32)))], (g_X7_changeSeed_66 I1 G1 (gAt (I1 18) 20 x1) (gHo r1 (0 : Int32) (999 : Int32))), G1, (gP rd))
      obtain ⟨gb, h⟩ := rg_some h
      cases h
      refine am_iret hX hi rfl (by rcases gb with gb | gb <;> rw [gb] <;> rfl) (by decide +kernel) ?_
      exact ⟨rfl, rfl, rfl, rfl⟩
    rw [if_neg s97_6] at h
    by_cases s97_9 : (gAt (I1 17) 20 x1) = (9 : Int32)
    · rw [if_pos s97_9] at h
      refine am_lsw hX hi (dflt := (58)) (ps := #[((6), (42)), ((9), (27))]) (len := 27) (off := (27)) (tgt := 124) (by decide +kernel) (by decide +kernel) (by rw [s97_9]; rfl) (by decide) ?_
      refine am_blk 124 [(.aload_n 0, 1, 0, 0, .null), (.iload 5, 2, 5, 0, .null), (.iload 4, 2, 4, 0, .null), (.iconst (0), 1, 0, 0, .int (0 : Int32)), (.bipush (16), 2, 0, 0, .int (16 : Int32))] (132, [(0, .ref 66), (1, .int x1), (2, .int (gAt (I 20) 20 x1)), (3, .int (gAt (I 21) 20 x1)), (4, .int r1), (5, .int (gAt (I1 18) 20 x1))], [.int (16 : Int32), .int (0 : Int32), .int r1, .int (gAt (I1 18) 20 x1), .ref 66], I1, G1, (gP rd)) (True) hX hi (by decide +kernel) rfl trivial ?_
      refine am_callS hX hi (M := mX0_hold) (idx := 152) (d' := 1) (As := [.int r1, .int (0 : Int32), .int (16 : Int32)]) (rest := [.int (gAt (I1 18) 20 x1), .ref 66]) mkX0_hold msX0_hold (by decide +kernel) (by decide +kernel) rfl ⟨by omega, by decide, Nat.le_of_ble_eq_true rfl⟩ rfl (c_hold r1 (0 : Int32) (16 : Int32)) ?_
      rintro r9 I9 G9 P9 ⟨e0, e1, e2, e3⟩
      rw [e0, e1, e2, e3]
      show am_V X 0 0 _ _ ad (135, [(0, .ref 66), (1, .int x1), (2, .int (gAt (I 20) 20 x1)), (3, .int (gAt (I 21) 20 x1)), (4, .int r1), (5, .int (gAt (I1 18) 20 x1))], [.int (gHo r1 (0 : Int32) (16 : Int32)), .int (gAt (I1 18) 20 x1), .ref 66], I1, G1, (gP rd))
      obtain ⟨r2, I2, G2, hc, h⟩ := rb_some h
      refine am_callV hX hi (M := mX7_changePull) (idx := 156) (d' := 4) (b := 66) (ci := 7) (As := [.int (gAt (I1 18) 20 x1), .int (gHo r1 (0 : Int32) (16 : Int32))]) (rest := []) mkX7_changePull miX7_changePull mvX7_changePull (by decide +kernel) (by decide +kernel) rfl (by decide +kernel) rfl ⟨by omega, by decide, Nat.le_of_ble_eq_true rfl⟩ rfl (c_X7_changePull_66 _ I1 G1 (gAt (I1 18) 20 x1) (gHo r1 (0 : Int32) (16 : Int32)) hc) ?_
      rintro r9 I9 G9 P9 ⟨e0, e1, e2, e3⟩
      rw [e0, e1, e2, e3]
      show am_V X 0 0 _ _ ad (138, [(0, .ref 66), (1, .int x1), (2, .int (gAt (I 20) 20 x1)), (3, .int (gAt (I 21) 20 x1)), (4, .int r1), (5, .int (gAt (I1 18) 20 x1))], [.int r2], I2, G2, (gP rd))
      obtain ⟨gb, h⟩ := rg_some h
      cases h
      refine am_iret hX hi rfl (by rcases gb with gb | gb <;> rw [gb] <;> rfl) (by decide +kernel) ?_
      exact ⟨rfl, rfl, rfl, rfl⟩
    rw [if_neg s97_9] at h
    refine am_lsw hX hi (dflt := (58)) (ps := #[((6), (42)), ((9), (27))]) (len := 27) (off := (58)) (tgt := 155) (by decide +kernel) (by decide +kernel) ?_ (by decide) ?_
    · have eF : ∀ v : Int32, ¬ (gAt (I1 17) 20 x1) = v → ¬ ((gAt (I1 17) 20 x1)).toInt = v.toInt := fun v q z => q ((i_eq _ _).mpr z)
      have e6 := eF (6 : Int32) s97_6
      have e9 := eF (9 : Int32) s97_9
      simp only [show ((6 : Int32) : Int32).toInt = 6 from rfl, show ((9 : Int32) : Int32).toInt = 9 from rfl] at e6 e9
      simp [Op.lookupswitch.offset, e6, Ne.symm e6, e9, Ne.symm e9]
    refine am_blk 155 [(.iload 5, 2, 5, 0, .null)] (157, [(0, .ref 66), (1, .int x1), (2, .int (gAt (I 20) 20 x1)), (3, .int (gAt (I 21) 20 x1)), (4, .int r1), (5, .int (gAt (I1 18) 20 x1))], [.int (gAt (I1 18) 20 x1)], I1, G1, (gP rd)) (True) hX hi (by decide +kernel) rfl trivial ?_
    refine am_if_ne (tgt := 170) hX hi (off := (13)) (by decide +kernel) (by decide) (fun c157 => ?_) (fun c157 => ?_)
    · rw [if_neg c157] at h
      refine am_blk 170 [(.aload_n 0, 1, 0, 0, .null), (.iconst (0), 1, 0, 0, .int (0 : Int32)), (.iload 4, 2, 4, 0, .null)] (174, [(0, .ref 66), (1, .int x1), (2, .int (gAt (I 20) 20 x1)), (3, .int (gAt (I 21) 20 x1)), (4, .int r1), (5, .int (gAt (I1 18) 20 x1))], [.int r1, .int (0 : Int32), .ref 66], I1, G1, (gP rd)) (True) hX hi (by decide +kernel) rfl trivial ?_
      refine am_callV hX hi (M := mX7_changeDrift) (idx := 163) (d' := 3) (b := 66) (ci := 7) (As := [.int (0 : Int32), .int r1]) (rest := []) mkX7_changeDrift miX7_changeDrift mvX7_changeDrift (by decide +kernel) (by decide +kernel) rfl (by decide +kernel) rfl ⟨by omega, by decide, Nat.le_of_ble_eq_true rfl⟩ rfl (c_X7_changeDrift_66 _ I1 G1 (0 : Int32) r1) ?_
      rintro r9 I9 G9 P9 ⟨e0, e1, e2, e3⟩
      rw [e0, e1, e2, e3]
      show am_V X 0 0 _ _ ad (177, [(0, .ref 66), (1, .int x1), (2, .int (gAt (I 20) 20 x1)), (3, .int (gAt (I 21) 20 x1)), (4, .int r1), (5, .int (gAt (I1 18) 20 x1))], [.int (f_X7_changeDrift_66 I1 G1 (0 : Int32) r1)], (g_X7_changeDrift_66 I1 G1 (0 : Int32) r1), G1, (gP rd))
      obtain ⟨gb, h⟩ := rg_some h
      cases h
      refine am_iret hX hi rfl (by rcases gb with gb | gb <;> rw [gb] <;> rfl) (by decide +kernel) ?_
      exact ⟨rfl, rfl, rfl, rfl⟩
    · rw [if_pos c157] at h
      refine am_blk 160 [(.aload_n 0, 1, 0, 0, .null), (.iload 4, 2, 4, 0, .null), (.iconst (0), 1, 0, 0, .int (0 : Int32))] (164, [(0, .ref 66), (1, .int x1), (2, .int (gAt (I 20) 20 x1)), (3, .int (gAt (I 21) 20 x1)), (4, .int r1), (5, .int (gAt (I1 18) 20 x1))], [.int (0 : Int32), .int r1, .ref 66], I1, G1, (gP rd)) (True) hX hi (by decide +kernel) rfl trivial ?_
      refine am_callV hX hi (M := mX7_changeDrift) (idx := 163) (d' := 3) (b := 66) (ci := 7) (As := [.int r1, .int (0 : Int32)]) (rest := []) mkX7_changeDrift miX7_changeDrift mvX7_changeDrift (by decide +kernel) (by decide +kernel) rfl (by decide +kernel) rfl ⟨by omega, by decide, Nat.le_of_ble_eq_true rfl⟩ rfl (c_X7_changeDrift_66 _ I1 G1 r1 (0 : Int32)) ?_
      rintro r9 I9 G9 P9 ⟨e0, e1, e2, e3⟩
      rw [e0, e1, e2, e3]
      show am_V X 0 0 _ _ ad (167, [(0, .ref 66), (1, .int x1), (2, .int (gAt (I 20) 20 x1)), (3, .int (gAt (I 21) 20 x1)), (4, .int r1), (5, .int (gAt (I1 18) 20 x1))], [.int (f_X7_changeDrift_66 I1 G1 r1 (0 : Int32))], (g_X7_changeDrift_66 I1 G1 r1 (0 : Int32)), G1, (gP rd))
      refine am_blk 167 [(.goto (10), 3, 0, 177, .null)] (177, [(0, .ref 66), (1, .int x1), (2, .int (gAt (I 20) 20 x1)), (3, .int (gAt (I 21) 20 x1)), (4, .int r1), (5, .int (gAt (I1 18) 20 x1))], [.int (f_X7_changeDrift_66 I1 G1 r1 (0 : Int32))], (g_X7_changeDrift_66 I1 G1 r1 (0 : Int32)), G1, (gP rd)) (True) hX hi (by decide +kernel) rfl trivial ?_
      obtain ⟨gb, h⟩ := rg_some h
      cases h
      refine am_iret hX hi rfl (by rcases gb with gb | gb <;> rw [gb] <;> rfl) (by decide +kernel) ?_
      exact ⟨rfl, rfl, rfl, rfl⟩
  · rw [if_neg c32] at h
    refine am_blk 35 [(.aload_n 0, 1, 0, 0, .null), (.iload_n 2, 1, 2, 0, .null), (.iload_n 3, 1, 3, 0, .null)] (38, [(0, .ref 66), (1, .int x1), (2, .int (gAt (I 20) 20 x1)), (3, .int (gAt (I 21) 20 x1))], [.int (gAt (I 21) 20 x1), .int (gAt (I 20) 20 x1), .ref 66], I, G, (gP rd)) (True) hX hi (by decide +kernel) rfl trivial ?_
    obtain ⟨r3, I3, G3, hc, h⟩ := rb_some h
    refine am_callV hX hi (M := mX7_reckon) (idx := 139) (d' := 5) (b := 66) (ci := 7) (As := [.int (gAt (I 20) 20 x1), .int (gAt (I 21) 20 x1)]) (rest := []) mkX7_reckon miX7_reckon mvX7_reckon (by decide +kernel) (by decide +kernel) rfl (by decide +kernel) rfl ⟨by omega, by decide, Nat.le_of_ble_eq_true rfl⟩ rfl (c_X7_reckon_66 _ I G (gAt (I 20) 20 x1) (gAt (I 21) 20 x1) hc) ?_
    rintro r9 I9 G9 P9 ⟨e0, e1, e2, e3⟩
    rw [e0, e1, e2, e3]
    show am_V X 0 0 _ _ ad (41, [(0, .ref 66), (1, .int x1), (2, .int (gAt (I 20) 20 x1)), (3, .int (gAt (I 21) 20 x1))], [.int r3], I3, G3, (gP rd))
    refine am_if_ne (tgt := 46) hX hi (off := (5)) (by decide +kernel) (by decide) (fun c41 => ?_) (fun c41 => ?_)
    · rw [if_neg c41] at h
      refine am_blk 46 [(.aload_n 0, 1, 0, 0, .null), (.aload_n 0, 1, 0, 0, .null), (.getfield 44, 3, 7, 0, .null), (.getfield 114, 3, 5, 8, .null), (.getfield 143, 3, 3, 2, .null), (.iload_n 1, 1, 1, 0, .null)] (58, [(0, .ref 66), (1, .int x1), (2, .int (gAt (I 20) 20 x1)), (3, .int (gAt (I 21) 20 x1))], [.int x1, .ref 19, .ref 66], I3, G3, (gP rd)) (True) hX hi (by decide +kernel) rfl trivial ?_
      refine am_callS hX hi (M := mX0_at) (idx := 85) (d' := 1) (As := [.ref 19, .int x1]) (rest := [.ref 66]) mkX0_at msX0_at (by decide +kernel) (by decide +kernel) rfl ⟨by omega, by decide, Nat.le_of_ble_eq_true rfl⟩ rfl (c_at rfl (by decide) x1) ?_
      rintro r9 I9 G9 P9 ⟨e0, e1, e2, e3⟩
      rw [e0, e1, e2, e3]
      show am_V X 0 0 _ _ ad (61, [(0, .ref 66), (1, .int x1), (2, .int (gAt (I 20) 20 x1)), (3, .int (gAt (I 21) 20 x1))], [.int (gAt (I3 19) 20 x1), .ref 66], I3, G3, (gP rd))
      refine am_blk 61 [(.iload_n 2, 1, 2, 0, .null)] (62, [(0, .ref 66), (1, .int x1), (2, .int (gAt (I 20) 20 x1)), (3, .int (gAt (I 21) 20 x1))], [.int (gAt (I 20) 20 x1), .int (gAt (I3 19) 20 x1), .ref 66], I3, G3, (gP rd)) (True) hX hi (by decide +kernel) rfl trivial ?_
      obtain ⟨r4, I4, G4, hc, h⟩ := rb_some h
      refine am_callV hX hi (M := mX7_reckon) (idx := 139) (d' := 5) (b := 66) (ci := 7) (As := [.int (gAt (I3 19) 20 x1), .int (gAt (I 20) 20 x1)]) (rest := []) mkX7_reckon miX7_reckon mvX7_reckon (by decide +kernel) (by decide +kernel) rfl (by decide +kernel) rfl ⟨by omega, by decide, Nat.le_of_ble_eq_true rfl⟩ rfl (c_X7_reckon_66 _ I3 G3 (gAt (I3 19) 20 x1) (gAt (I 20) 20 x1) hc) ?_
      rintro r9 I9 G9 P9 ⟨e0, e1, e2, e3⟩
      rw [e0, e1, e2, e3]
      show am_V X 0 0 _ _ ad (65, [(0, .ref 66), (1, .int x1), (2, .int (gAt (I 20) 20 x1)), (3, .int (gAt (I 21) 20 x1))], [.int r4], I4, G4, (gP rd))
      refine am_blk 65 [(.istore 4, 2, 4, 0, .null), (.aload_n 0, 1, 0, 0, .null), (.getfield 44, 3, 7, 0, .null), (.getfield 114, 3, 5, 8, .null), (.getfield 146, 3, 3, 1, .null), (.iload_n 1, 1, 1, 0, .null)] (78, [(0, .ref 66), (1, .int x1), (2, .int (gAt (I 20) 20 x1)), (3, .int (gAt (I 21) 20 x1)), (4, .int r4)], [.int x1, .ref 18], I4, G4, (gP rd)) (True) hX hi (by decide +kernel) rfl trivial ?_
      refine am_callS hX hi (M := mX0_at) (idx := 85) (d' := 1) (As := [.ref 18, .int x1]) (rest := []) mkX0_at msX0_at (by decide +kernel) (by decide +kernel) rfl ⟨by omega, by decide, Nat.le_of_ble_eq_true rfl⟩ rfl (c_at rfl (by decide) x1) ?_
      rintro r9 I9 G9 P9 ⟨e0, e1, e2, e3⟩
      rw [e0, e1, e2, e3]
      show am_V X 0 0 _ _ ad (81, [(0, .ref 66), (1, .int x1), (2, .int (gAt (I 20) 20 x1)), (3, .int (gAt (I 21) 20 x1)), (4, .int r4)], [.int (gAt (I4 18) 20 x1)], I4, G4, (gP rd))
      refine am_blk 81 [(.istore 5, 2, 5, 0, .null), (.aload_n 0, 1, 0, 0, .null), (.getfield 44, 3, 7, 0, .null), (.getfield 114, 3, 5, 8, .null), (.getfield 149, 3, 3, 0, .null), (.iload_n 1, 1, 1, 0, .null)] (94, [(0, .ref 66), (1, .int x1), (2, .int (gAt (I 20) 20 x1)), (3, .int (gAt (I 21) 20 x1)), (4, .int r4), (5, .int (gAt (I4 18) 20 x1))], [.int x1, .ref 17], I4, G4, (gP rd)) (True) hX hi (by decide +kernel) rfl trivial ?_
      refine am_callS hX hi (M := mX0_at) (idx := 85) (d' := 1) (As := [.ref 17, .int x1]) (rest := []) mkX0_at msX0_at (by decide +kernel) (by decide +kernel) rfl ⟨by omega, by decide, Nat.le_of_ble_eq_true rfl⟩ rfl (c_at rfl (by decide) x1) ?_
      rintro r9 I9 G9 P9 ⟨e0, e1, e2, e3⟩
      rw [e0, e1, e2, e3]
      show am_V X 0 0 _ _ ad (97, [(0, .ref 66), (1, .int x1), (2, .int (gAt (I 20) 20 x1)), (3, .int (gAt (I 21) 20 x1)), (4, .int r4), (5, .int (gAt (I4 18) 20 x1))], [.int (gAt (I4 17) 20 x1)], I4, G4, (gP rd))
      by_cases s97_6 : (gAt (I4 17) 20 x1) = (6 : Int32)
      · rw [if_pos s97_6] at h
        refine am_lsw hX hi (dflt := (58)) (ps := #[((6), (42)), ((9), (27))]) (len := 27) (off := (42)) (tgt := 139) (by decide +kernel) (by decide +kernel) (by rw [s97_6]; rfl) (by decide) ?_
        refine am_blk 139 [(.aload_n 0, 1, 0, 0, .null), (.iload 5, 2, 5, 0, .null), (.iload 4, 2, 4, 0, .null), (.iconst (0), 1, 0, 0, .int (0 : Int32)), (.sipush (999), 3, 0, 0, .int (999 : Int32))] (148, [(0, .ref 66), (1, .int x1), (2, .int (gAt (I 20) 20 x1)), (3, .int (gAt (I 21) 20 x1)), (4, .int r4), (5, .int (gAt (I4 18) 20 x1))], [.int (999 : Int32), .int (0 : Int32), .int r4, .int (gAt (I4 18) 20 x1), .ref 66], I4, G4, (gP rd)) (True) hX hi (by decide +kernel) rfl trivial ?_
        refine am_callS hX hi (M := mX0_hold) (idx := 152) (d' := 1) (As := [.int r4, .int (0 : Int32), .int (999 : Int32)]) (rest := [.int (gAt (I4 18) 20 x1), .ref 66]) mkX0_hold msX0_hold (by decide +kernel) (by decide +kernel) rfl ⟨by omega, by decide, Nat.le_of_ble_eq_true rfl⟩ rfl (c_hold r4 (0 : Int32) (999 : Int32)) ?_
        rintro r9 I9 G9 P9 ⟨e0, e1, e2, e3⟩
        rw [e0, e1, e2, e3]
        show am_V X 0 0 _ _ ad (151, [(0, .ref 66), (1, .int x1), (2, .int (gAt (I 20) 20 x1)), (3, .int (gAt (I 21) 20 x1)), (4, .int r4), (5, .int (gAt (I4 18) 20 x1))], [.int (gHo r4 (0 : Int32) (999 : Int32)), .int (gAt (I4 18) 20 x1), .ref 66], I4, G4, (gP rd))
        refine am_callV hX hi (M := mX7_changeSeed) (idx := 160) (d' := 2) (b := 66) (ci := 7) (As := [.int (gAt (I4 18) 20 x1), .int (gHo r4 (0 : Int32) (999 : Int32))]) (rest := []) mkX7_changeSeed miX7_changeSeed mvX7_changeSeed (by decide +kernel) (by decide +kernel) rfl (by decide +kernel) rfl ⟨by omega, by decide, Nat.le_of_ble_eq_true rfl⟩ rfl (c_X7_changeSeed_66 _ I4 G4 (gAt (I4 18) 20 x1) (gHo r4 (0 : Int32) (999 : Int32))) ?_
        rintro r9 I9 G9 P9 ⟨e0, e1, e2, e3⟩
        rw [e0, e1, e2, e3]
        show am_V X 0 0 _ _ ad (154, [(0, .ref 66), (1, .int x1), (2, .int (gAt (I 20) 20 x1)), (3, .int (gAt (I 21) 20 x1)), (4, .int r4), (5, .int (gAt (I4 18) 20 x1))], [.int (f_X7_changeSeed_66 I4 G4 (gAt (I4 18) 20 x1) (gHo r4 (0 : Int32) (999 : Int32)))], (g_X7_changeSeed_66 I4 G4 (gAt (I4 18) 20 x1) (gHo r4 (0 : Int32) (999 : Int32))), G4, (gP rd))
        obtain ⟨gb, h⟩ := rg_some h
        cases h
        refine am_iret hX hi rfl (by rcases gb with gb | gb <;> rw [gb] <;> rfl) (by decide +kernel) ?_
        exact ⟨rfl, rfl, rfl, rfl⟩
      rw [if_neg s97_6] at h
      by_cases s97_9 : (gAt (I4 17) 20 x1) = (9 : Int32)
      · rw [if_pos s97_9] at h
        refine am_lsw hX hi (dflt := (58)) (ps := #[((6), (42)), ((9), (27))]) (len := 27) (off := (27)) (tgt := 124) (by decide +kernel) (by decide +kernel) (by rw [s97_9]; rfl) (by decide) ?_
        refine am_blk 124 [(.aload_n 0, 1, 0, 0, .null), (.iload 5, 2, 5, 0, .null), (.iload 4, 2, 4, 0, .null), (.iconst (0), 1, 0, 0, .int (0 : Int32)), (.bipush (16), 2, 0, 0, .int (16 : Int32))] (132, [(0, .ref 66), (1, .int x1), (2, .int (gAt (I 20) 20 x1)), (3, .int (gAt (I 21) 20 x1)), (4, .int r4), (5, .int (gAt (I4 18) 20 x1))], [.int (16 : Int32), .int (0 : Int32), .int r4, .int (gAt (I4 18) 20 x1), .ref 66], I4, G4, (gP rd)) (True) hX hi (by decide +kernel) rfl trivial ?_
        refine am_callS hX hi (M := mX0_hold) (idx := 152) (d' := 1) (As := [.int r4, .int (0 : Int32), .int (16 : Int32)]) (rest := [.int (gAt (I4 18) 20 x1), .ref 66]) mkX0_hold msX0_hold (by decide +kernel) (by decide +kernel) rfl ⟨by omega, by decide, Nat.le_of_ble_eq_true rfl⟩ rfl (c_hold r4 (0 : Int32) (16 : Int32)) ?_
        rintro r9 I9 G9 P9 ⟨e0, e1, e2, e3⟩
        rw [e0, e1, e2, e3]
        show am_V X 0 0 _ _ ad (135, [(0, .ref 66), (1, .int x1), (2, .int (gAt (I 20) 20 x1)), (3, .int (gAt (I 21) 20 x1)), (4, .int r4), (5, .int (gAt (I4 18) 20 x1))], [.int (gHo r4 (0 : Int32) (16 : Int32)), .int (gAt (I4 18) 20 x1), .ref 66], I4, G4, (gP rd))
        obtain ⟨r5, I5, G5, hc, h⟩ := rb_some h
        refine am_callV hX hi (M := mX7_changePull) (idx := 156) (d' := 4) (b := 66) (ci := 7) (As := [.int (gAt (I4 18) 20 x1), .int (gHo r4 (0 : Int32) (16 : Int32))]) (rest := []) mkX7_changePull miX7_changePull mvX7_changePull (by decide +kernel) (by decide +kernel) rfl (by decide +kernel) rfl ⟨by omega, by decide, Nat.le_of_ble_eq_true rfl⟩ rfl (c_X7_changePull_66 _ I4 G4 (gAt (I4 18) 20 x1) (gHo r4 (0 : Int32) (16 : Int32)) hc) ?_
        rintro r9 I9 G9 P9 ⟨e0, e1, e2, e3⟩
        rw [e0, e1, e2, e3]
        show am_V X 0 0 _ _ ad (138, [(0, .ref 66), (1, .int x1), (2, .int (gAt (I 20) 20 x1)), (3, .int (gAt (I 21) 20 x1)), (4, .int r4), (5, .int (gAt (I4 18) 20 x1))], [.int r5], I5, G5, (gP rd))
        obtain ⟨gb, h⟩ := rg_some h
        cases h
        refine am_iret hX hi rfl (by rcases gb with gb | gb <;> rw [gb] <;> rfl) (by decide +kernel) ?_
        exact ⟨rfl, rfl, rfl, rfl⟩
      rw [if_neg s97_9] at h
      refine am_lsw hX hi (dflt := (58)) (ps := #[((6), (42)), ((9), (27))]) (len := 27) (off := (58)) (tgt := 155) (by decide +kernel) (by decide +kernel) ?_ (by decide) ?_
      · have eF : ∀ v : Int32, ¬ (gAt (I4 17) 20 x1) = v → ¬ ((gAt (I4 17) 20 x1)).toInt = v.toInt := fun v q z => q ((i_eq _ _).mpr z)
        have e6 := eF (6 : Int32) s97_6
        have e9 := eF (9 : Int32) s97_9
        simp only [show ((6 : Int32) : Int32).toInt = 6 from rfl, show ((9 : Int32) : Int32).toInt = 9 from rfl] at e6 e9
        simp [Op.lookupswitch.offset, e6, Ne.symm e6, e9, Ne.symm e9]
      refine am_blk 155 [(.iload 5, 2, 5, 0, .null)] (157, [(0, .ref 66), (1, .int x1), (2, .int (gAt (I 20) 20 x1)), (3, .int (gAt (I 21) 20 x1)), (4, .int r4), (5, .int (gAt (I4 18) 20 x1))], [.int (gAt (I4 18) 20 x1)], I4, G4, (gP rd)) (True) hX hi (by decide +kernel) rfl trivial ?_
      refine am_if_ne (tgt := 170) hX hi (off := (13)) (by decide +kernel) (by decide) (fun c157 => ?_) (fun c157 => ?_)
      · rw [if_neg c157] at h
        refine am_blk 170 [(.aload_n 0, 1, 0, 0, .null), (.iconst (0), 1, 0, 0, .int (0 : Int32)), (.iload 4, 2, 4, 0, .null)] (174, [(0, .ref 66), (1, .int x1), (2, .int (gAt (I 20) 20 x1)), (3, .int (gAt (I 21) 20 x1)), (4, .int r4), (5, .int (gAt (I4 18) 20 x1))], [.int r4, .int (0 : Int32), .ref 66], I4, G4, (gP rd)) (True) hX hi (by decide +kernel) rfl trivial ?_
        refine am_callV hX hi (M := mX7_changeDrift) (idx := 163) (d' := 3) (b := 66) (ci := 7) (As := [.int (0 : Int32), .int r4]) (rest := []) mkX7_changeDrift miX7_changeDrift mvX7_changeDrift (by decide +kernel) (by decide +kernel) rfl (by decide +kernel) rfl ⟨by omega, by decide, Nat.le_of_ble_eq_true rfl⟩ rfl (c_X7_changeDrift_66 _ I4 G4 (0 : Int32) r4) ?_
        rintro r9 I9 G9 P9 ⟨e0, e1, e2, e3⟩
        rw [e0, e1, e2, e3]
        show am_V X 0 0 _ _ ad (177, [(0, .ref 66), (1, .int x1), (2, .int (gAt (I 20) 20 x1)), (3, .int (gAt (I 21) 20 x1)), (4, .int r4), (5, .int (gAt (I4 18) 20 x1))], [.int (f_X7_changeDrift_66 I4 G4 (0 : Int32) r4)], (g_X7_changeDrift_66 I4 G4 (0 : Int32) r4), G4, (gP rd))
        obtain ⟨gb, h⟩ := rg_some h
        cases h
        refine am_iret hX hi rfl (by rcases gb with gb | gb <;> rw [gb] <;> rfl) (by decide +kernel) ?_
        exact ⟨rfl, rfl, rfl, rfl⟩
      · rw [if_pos c157] at h
        refine am_blk 160 [(.aload_n 0, 1, 0, 0, .null), (.iload 4, 2, 4, 0, .null), (.iconst (0), 1, 0, 0, .int (0 : Int32))] (164, [(0, .ref 66), (1, .int x1), (2, .int (gAt (I 20) 20 x1)), (3, .int (gAt (I 21) 20 x1)), (4, .int r4), (5, .int (gAt (I4 18) 20 x1))], [.int (0 : Int32), .int r4, .ref 66], I4, G4, (gP rd)) (True) hX hi (by decide +kernel) rfl trivial ?_
        refine am_callV hX hi (M := mX7_changeDrift) (idx := 163) (d' := 3) (b := 66) (ci := 7) (As := [.int r4, .int (0 : Int32)]) (rest := []) mkX7_changeDrift miX7_changeDrift mvX7_changeDrift (by decide +kernel) (by decide +kernel) rfl (by decide +kernel) rfl ⟨by omega, by decide, Nat.le_of_ble_eq_true rfl⟩ rfl (c_X7_changeDrift_66 _ I4 G4 r4 (0 : Int32)) ?_
        rintro r9 I9 G9 P9 ⟨e0, e1, e2, e3⟩
        rw [e0, e1, e2, e3]
        show am_V X 0 0 _ _ ad (167, [(0, .ref 66), (1, .int x1), (2, .int (gAt (I 20) 20 x1)), (3, .int (gAt (I 21) 20 x1)), (4, .int r4), (5, .int (gAt (I4 18) 20 x1))], [.int (f_X7_changeDrift_66 I4 G4 r4 (0 : Int32))], (g_X7_changeDrift_66 I4 G4 r4 (0 : Int32)), G4, (gP rd))
        refine am_blk 167 [(.goto (10), 3, 0, 177, .null)] (177, [(0, .ref 66), (1, .int x1), (2, .int (gAt (I 20) 20 x1)), (3, .int (gAt (I 21) 20 x1)), (4, .int r4), (5, .int (gAt (I4 18) 20 x1))], [.int (f_X7_changeDrift_66 I4 G4 r4 (0 : Int32))], (g_X7_changeDrift_66 I4 G4 r4 (0 : Int32)), G4, (gP rd)) (True) hX hi (by decide +kernel) rfl trivial ?_
        obtain ⟨gb, h⟩ := rg_some h
        cases h
        refine am_iret hX hi rfl (by rcases gb with gb | gb <;> rw [gb] <;> rfl) (by decide +kernel) ?_
        exact ⟨rfl, rfl, rfl, rfl⟩
    · rw [if_pos c41] at h
      refine am_blk 44 [(.iconst (0), 1, 0, 0, .int (0 : Int32))] (45, [(0, .ref 66), (1, .int x1), (2, .int (gAt (I 20) 20 x1)), (3, .int (gAt (I 21) 20 x1))], [.int (0 : Int32)], I3, G3, (gP rd)) (True) hX hi (by decide +kernel) rfl trivial ?_
      cases h
      refine am_iret hX hi rfl (by first | rfl | decide | (simp [narrow]; done)) (by decide +kernel) ?_
      exact ⟨rfl, rfl, rfl, rfl⟩
noncomputable def L_X7_dipOnce_53 (n0 : Nat) (hd : Nat) (I : am_I) (G : am_G) (v1 : Int32) : Option (Unit × am_I × am_G) := match n0 with
  | 0 => none
  | n + 1 => match hd with
    | _ => (if (I 16 8) ≤ v1 then some ((), (am_up I 53 12 ((I 53 12) + (1 : Int32))), G) else (if (f_X3_looksAtSpots_16 I G v1) = 0 then rb (R_X7_carryOut_53 I G v1) (fun r101 I101 G101 => (if r101 = 0 then L_X7_dipOnce_53 n 0 I101 G101 (v1 + (1 : Int32)) else L_X7_dipOnce_53 n 0 (am_up I101 53 13 ((I101 53 13) + (1 : Int32))) G101 (v1 + (1 : Int32)))) else rb (R_X7_refresh_53 I G ) (fun r102 I102 G102 => rb (R_X7_carryOut_53 I102 G102 v1) (fun r103 I103 G103 => (if r103 = 0 then L_X7_dipOnce_53 n 0 I103 G103 (v1 + (1 : Int32)) else L_X7_dipOnce_53 n 0 (am_up I103 53 13 ((I103 53 13) + (1 : Int32))) G103 (v1 + (1 : Int32)))))))
theorem L_X7_dipOnce_53_0 (n : Nat) (I : am_I) (G : am_G) (v1 : Int32) : L_X7_dipOnce_53 (n + 1) 0 I G v1 = (if (I 16 8) ≤ v1 then some ((), (am_up I 53 12 ((I 53 12) + (1 : Int32))), G) else (if (f_X3_looksAtSpots_16 I G v1) = 0 then rb (R_X7_carryOut_53 I G v1) (fun r101 I101 G101 => (if r101 = 0 then L_X7_dipOnce_53 n 0 I101 G101 (v1 + (1 : Int32)) else L_X7_dipOnce_53 n 0 (am_up I101 53 13 ((I101 53 13) + (1 : Int32))) G101 (v1 + (1 : Int32)))) else rb (R_X7_refresh_53 I G ) (fun r102 I102 G102 => rb (R_X7_carryOut_53 I102 G102 v1) (fun r103 I103 G103 => (if r103 = 0 then L_X7_dipOnce_53 n 0 I103 G103 (v1 + (1 : Int32)) else L_X7_dipOnce_53 n 0 (am_up I103 53 13 ((I103 53 13) + (1 : Int32))) G103 (v1 + (1 : Int32))))))) := rfl
theorem L_X7_dipOnce_53_z (h : Nat) (I : am_I) (G : am_G) (v1 : Int32) : L_X7_dipOnce_53 0 h I G v1 = none := rfl
noncomputable def R_X7_dipOnce_53 (I : am_I) (G : am_G)  : Option (Unit × am_I × am_G) := L_X7_dipOnce_53 FU 0 I G (0 : Int32)
set_option maxRecDepth 20000 in
set_option maxHeartbeats 4000000 in
theorem l_X7_dipOnce_53 (rd : Nat) {X : am_X} {ad : Nat → Nat} (hX : am_okz X ad) (hi : am_info X 7 cX7_dipOnce 2 false none 8) (n : Nat) : (∀ (I : am_I) (G : am_G) (v1 : Int32) (out : Unit × am_I × am_G), L_X7_dipOnce_53 n 0 I G v1 = some out → am_V X 0 0 (am_Rt X gS ad (pV out.2.1 out.2.2 (gP rd))) gS ad (2, [(0, .ref 53), (1, .int v1)], [], I, G, (gP rd))) := by
  induction n with
  | zero => exact fun I G v1 out h => by rw [L_X7_dipOnce_53_z] at h; cases h
  | succ n ih =>
    · intro I G v1 out h
      rw [L_X7_dipOnce_53_0] at h
      refine am_blk 2 [(.iload_n 1, 1, 1, 0, .null), (.aload_n 0, 1, 0, 0, .null), (.getfield 44, 3, 7, 0, .null), (.getfield 114, 3, 5, 8, .null), (.getfield 118, 3, 3, 8, .null)] (13, [(0, .ref 53), (1, .int v1)], [.int (I 16 8), .int v1], I, G, (gP rd)) (True) hX hi (by decide +kernel) rfl trivial ?_
      refine am_icmp_ge (tgt := 58) hX hi (off := (45)) (by decide +kernel) (by decide) (fun c13 => ?_) (fun c13 => ?_)
      · rw [if_pos c13] at h
        refine am_blk 58 [(.aload_n 0, 1, 0, 0, .null), (.dup, 1, 0, 0, .null), (.getfield 59, 3, 7, 12, .null), (.iconst (1), 1, 0, 0, .int (1 : Int32)), (.iadd, 1, 0, 0, .null), (.putfield 59, 3, 7, 12, .null)] (68, [(0, .ref 53), (1, .int v1)], [], (am_up I 53 12 ((I 53 12) + (1 : Int32))), G, (gP rd)) (True) hX hi (by decide +kernel) rfl trivial ?_
        cases h
        refine am_vret hX hi rfl (by decide +kernel) ?_
        exact ⟨rfl, rfl, rfl, rfl⟩
      · rw [if_neg c13] at h
        refine am_blk 16 [(.aload_n 0, 1, 0, 0, .null), (.getfield 44, 3, 7, 0, .null), (.getfield 114, 3, 5, 8, .null), (.iload_n 1, 1, 1, 0, .null)] (24, [(0, .ref 53), (1, .int v1)], [.int v1, .ref 16], I, G, (gP rd)) (True) hX hi (by decide +kernel) rfl trivial ?_
        refine am_callV hX hi (M := mX3_looksAtSpots) (idx := 123) (d' := 2) (b := 16) (ci := 3) (As := [.int v1]) (rest := []) mkX3_looksAtSpots miX3_looksAtSpots mvX3_looksAtSpots (by decide +kernel) (by decide +kernel) rfl (by decide +kernel) rfl ⟨by omega, by decide, Nat.le_of_ble_eq_true rfl⟩ rfl (c_X3_looksAtSpots_16 _ I G v1) ?_
        rintro r9 I9 G9 P9 ⟨e0, e1, e2, e3⟩
        rw [e0, e1, e2, e3]
        show am_V X 0 0 _ _ ad (27, [(0, .ref 53), (1, .int v1)], [.int (f_X3_looksAtSpots_16 I G v1)], I, G, (gP rd))
        refine am_if_eq (tgt := 34) hX hi (off := (7)) (by decide +kernel) (by decide) (fun c27 => ?_) (fun c27 => ?_)
        · rw [if_pos c27] at h
          refine am_blk 34 [(.aload_n 0, 1, 0, 0, .null), (.iload_n 1, 1, 1, 0, .null)] (36, [(0, .ref 53), (1, .int v1)], [.int v1, .ref 53], I, G, (gP rd)) (True) hX hi (by decide +kernel) rfl trivial ?_
          obtain ⟨r101, I101, G101, hc, h⟩ := rb_some h
          refine am_callV hX hi (M := mX7_carryOut) (idx := 130) (d' := 6) (b := 53) (ci := 7) (As := [.int v1]) (rest := []) mkX7_carryOut miX7_carryOut mvX7_carryOut (by decide +kernel) (by decide +kernel) rfl (by decide +kernel) rfl ⟨by omega, by decide, Nat.le_of_ble_eq_true rfl⟩ rfl (c_X7_carryOut_53 _ I G v1 hc) ?_
          rintro r9 I9 G9 P9 ⟨e0, e1, e2, e3⟩
          rw [e0, e1, e2, e3]
          show am_V X 0 0 _ _ ad (39, [(0, .ref 53), (1, .int v1)], [.int r101], I101, G101, (gP rd))
          refine am_if_eq (tgt := 52) hX hi (off := (13)) (by decide +kernel) (by decide) (fun c39 => ?_) (fun c39 => ?_)
          · rw [if_pos c39] at h
            refine am_blk 52 [(.iinc 1 (1), 3, 1, 0, .int (1 : Int32)), (.goto (-53), 3, 0, 2, .null)] (2, [(0, .ref 53), (1, .int (v1 + (1 : Int32)))], [], I101, G101, (gP rd)) (True) hX hi (by decide +kernel) rfl trivial ?_
            exact ih _ _ _ _ h
          · rw [if_neg c39] at h
            refine am_blk 42 [(.aload_n 0, 1, 0, 0, .null), (.dup, 1, 0, 0, .null), (.getfield 62, 3, 7, 13, .null), (.iconst (1), 1, 0, 0, .int (1 : Int32)), (.iadd, 1, 0, 0, .null), (.putfield 62, 3, 7, 13, .null), (.iinc 1 (1), 3, 1, 0, .int (1 : Int32)), (.goto (-53), 3, 0, 2, .null)] (2, [(0, .ref 53), (1, .int (v1 + (1 : Int32)))], [], (am_up I101 53 13 ((I101 53 13) + (1 : Int32))), G101, (gP rd)) (True) hX hi (by decide +kernel) rfl trivial ?_
            exact ih _ _ _ _ h
        · rw [if_neg c27] at h
          refine am_blk 30 [(.aload_n 0, 1, 0, 0, .null)] (31, [(0, .ref 53), (1, .int v1)], [.ref 53], I, G, (gP rd)) (True) hX hi (by decide +kernel) rfl trivial ?_
          obtain ⟨r102, I102, G102, hc, h⟩ := rb_some h
          refine am_callV hX hi (M := mX7_refresh) (idx := 127) (d' := 7) (b := 53) (ci := 7) (As := []) (rest := []) mkX7_refresh miX7_refresh mvX7_refresh (by decide +kernel) (by decide +kernel) rfl (by decide +kernel) rfl ⟨by omega, by decide, Nat.le_of_ble_eq_true rfl⟩ rfl (c_X7_refresh_53 _ I G  hc) ?_
          rintro r9 I9 G9 P9 ⟨e0, e1, e2, e3⟩
          rw [e0, e1, e2, e3]
          show am_V X 0 0 _ _ ad (34, [(0, .ref 53), (1, .int v1)], [], I102, G102, (gP rd))
          refine am_blk 34 [(.aload_n 0, 1, 0, 0, .null), (.iload_n 1, 1, 1, 0, .null)] (36, [(0, .ref 53), (1, .int v1)], [.int v1, .ref 53], I102, G102, (gP rd)) (True) hX hi (by decide +kernel) rfl trivial ?_
          obtain ⟨r103, I103, G103, hc, h⟩ := rb_some h
          refine am_callV hX hi (M := mX7_carryOut) (idx := 130) (d' := 6) (b := 53) (ci := 7) (As := [.int v1]) (rest := []) mkX7_carryOut miX7_carryOut mvX7_carryOut (by decide +kernel) (by decide +kernel) rfl (by decide +kernel) rfl ⟨by omega, by decide, Nat.le_of_ble_eq_true rfl⟩ rfl (c_X7_carryOut_53 _ I102 G102 v1 hc) ?_
          rintro r9 I9 G9 P9 ⟨e0, e1, e2, e3⟩
          rw [e0, e1, e2, e3]
          show am_V X 0 0 _ _ ad (39, [(0, .ref 53), (1, .int v1)], [.int r103], I103, G103, (gP rd))
          refine am_if_eq (tgt := 52) hX hi (off := (13)) (by decide +kernel) (by decide) (fun c39 => ?_) (fun c39 => ?_)
          · rw [if_pos c39] at h
            refine am_blk 52 [(.iinc 1 (1), 3, 1, 0, .int (1 : Int32)), (.goto (-53), 3, 0, 2, .null)] (2, [(0, .ref 53), (1, .int (v1 + (1 : Int32)))], [], I103, G103, (gP rd)) (True) hX hi (by decide +kernel) rfl trivial ?_
            exact ih _ _ _ _ h
          · rw [if_neg c39] at h
            refine am_blk 42 [(.aload_n 0, 1, 0, 0, .null), (.dup, 1, 0, 0, .null), (.getfield 62, 3, 7, 13, .null), (.iconst (1), 1, 0, 0, .int (1 : Int32)), (.iadd, 1, 0, 0, .null), (.putfield 62, 3, 7, 13, .null), (.iinc 1 (1), 3, 1, 0, .int (1 : Int32)), (.goto (-53), 3, 0, 2, .null)] (2, [(0, .ref 53), (1, .int (v1 + (1 : Int32)))], [], (am_up I103 53 13 ((I103 53 13) + (1 : Int32))), G103, (gP rd)) (True) hX hi (by decide +kernel) rfl trivial ?_
            exact ih _ _ _ _ h
set_option maxRecDepth 20000 in
set_option maxHeartbeats 4000000 in
theorem c_X7_dipOnce_53 (rd : Nat) (I : am_I) (G : am_G)  {out : Unit × am_I × am_G} (h : R_X7_dipOnce_53 I G  = some out) : am_Ct mX7_dipOnce 8 gS [.ref 53] I G (gP rd) (pV out.2.1 out.2.2 (gP rd)) := by
  refine am_ofF (by decide +kernel) rfl (by decide) (by omega) (Nat.le_of_ble_eq_true rfl) (fun X ad hX hi => ?_)
  have hi : am_info X 7 cX7_dipOnce 2 false none 8 := hi
  show am_V X 0 0 _ _ ad (0, [(0, .ref 53)], [], I, G, (gP rd))
  unfold R_X7_dipOnce_53 at h
  refine am_blk 0 [(.iconst (0), 1, 0, 0, .int (0 : Int32)), (.istore_n 1, 1, 1, 0, .null)] (2, [(0, .ref 53), (1, .int (0 : Int32))], [], I, G, (gP rd)) (True) hX hi (by decide +kernel) rfl trivial ?_
  exact (l_X7_dipOnce_53 rd hX hi FU) _ _ _ _ h
noncomputable def L_X7_dipOnce_66 (n0 : Nat) (hd : Nat) (I : am_I) (G : am_G) (v1 : Int32) : Option (Unit × am_I × am_G) := match n0 with
  | 0 => none
  | n + 1 => match hd with
    | _ => (if (I 16 8) ≤ v1 then some ((), (am_up I 66 12 ((I 66 12) + (1 : Int32))), G) else (if (f_X3_looksAtSpots_16 I G v1) = 0 then rb (R_X7_carryOut_66 I G v1) (fun r101 I101 G101 => (if r101 = 0 then L_X7_dipOnce_66 n 0 I101 G101 (v1 + (1 : Int32)) else L_X7_dipOnce_66 n 0 (am_up I101 66 13 ((I101 66 13) + (1 : Int32))) G101 (v1 + (1 : Int32)))) else rb (R_X7_refresh_66 I G ) (fun r102 I102 G102 => rb (R_X7_carryOut_66 I102 G102 v1) (fun r103 I103 G103 => (if r103 = 0 then L_X7_dipOnce_66 n 0 I103 G103 (v1 + (1 : Int32)) else L_X7_dipOnce_66 n 0 (am_up I103 66 13 ((I103 66 13) + (1 : Int32))) G103 (v1 + (1 : Int32)))))))
theorem L_X7_dipOnce_66_0 (n : Nat) (I : am_I) (G : am_G) (v1 : Int32) : L_X7_dipOnce_66 (n + 1) 0 I G v1 = (if (I 16 8) ≤ v1 then some ((), (am_up I 66 12 ((I 66 12) + (1 : Int32))), G) else (if (f_X3_looksAtSpots_16 I G v1) = 0 then rb (R_X7_carryOut_66 I G v1) (fun r101 I101 G101 => (if r101 = 0 then L_X7_dipOnce_66 n 0 I101 G101 (v1 + (1 : Int32)) else L_X7_dipOnce_66 n 0 (am_up I101 66 13 ((I101 66 13) + (1 : Int32))) G101 (v1 + (1 : Int32)))) else rb (R_X7_refresh_66 I G ) (fun r102 I102 G102 => rb (R_X7_carryOut_66 I102 G102 v1) (fun r103 I103 G103 => (if r103 = 0 then L_X7_dipOnce_66 n 0 I103 G103 (v1 + (1 : Int32)) else L_X7_dipOnce_66 n 0 (am_up I103 66 13 ((I103 66 13) + (1 : Int32))) G103 (v1 + (1 : Int32))))))) := rfl
theorem L_X7_dipOnce_66_z (h : Nat) (I : am_I) (G : am_G) (v1 : Int32) : L_X7_dipOnce_66 0 h I G v1 = none := rfl
noncomputable def R_X7_dipOnce_66 (I : am_I) (G : am_G)  : Option (Unit × am_I × am_G) := L_X7_dipOnce_66 FU 0 I G (0 : Int32)
set_option maxRecDepth 20000 in
set_option maxHeartbeats 4000000 in
theorem l_X7_dipOnce_66 (rd : Nat) {X : am_X} {ad : Nat → Nat} (hX : am_okz X ad) (hi : am_info X 7 cX7_dipOnce 2 false none 8) (n : Nat) : (∀ (I : am_I) (G : am_G) (v1 : Int32) (out : Unit × am_I × am_G), L_X7_dipOnce_66 n 0 I G v1 = some out → am_V X 0 0 (am_Rt X gS ad (pV out.2.1 out.2.2 (gP rd))) gS ad (2, [(0, .ref 66), (1, .int v1)], [], I, G, (gP rd))) := by
  induction n with
  | zero => exact fun I G v1 out h => by rw [L_X7_dipOnce_66_z] at h; cases h
  | succ n ih =>
    · intro I G v1 out h
      rw [L_X7_dipOnce_66_0] at h
      refine am_blk 2 [(.iload_n 1, 1, 1, 0, .null), (.aload_n 0, 1, 0, 0, .null), (.getfield 44, 3, 7, 0, .null), (.getfield 114, 3, 5, 8, .null), (.getfield 118, 3, 3, 8, .null)] (13, [(0, .ref 66), (1, .int v1)], [.int (I 16 8), .int v1], I, G, (gP rd)) (True) hX hi (by decide +kernel) rfl trivial ?_
      refine am_icmp_ge (tgt := 58) hX hi (off := (45)) (by decide +kernel) (by decide) (fun c13 => ?_) (fun c13 => ?_)
      · rw [if_pos c13] at h
        refine am_blk 58 [(.aload_n 0, 1, 0, 0, .null), (.dup, 1, 0, 0, .null), (.getfield 59, 3, 7, 12, .null), (.iconst (1), 1, 0, 0, .int (1 : Int32)), (.iadd, 1, 0, 0, .null), (.putfield 59, 3, 7, 12, .null)] (68, [(0, .ref 66), (1, .int v1)], [], (am_up I 66 12 ((I 66 12) + (1 : Int32))), G, (gP rd)) (True) hX hi (by decide +kernel) rfl trivial ?_
        cases h
        refine am_vret hX hi rfl (by decide +kernel) ?_
        exact ⟨rfl, rfl, rfl, rfl⟩
      · rw [if_neg c13] at h
        refine am_blk 16 [(.aload_n 0, 1, 0, 0, .null), (.getfield 44, 3, 7, 0, .null), (.getfield 114, 3, 5, 8, .null), (.iload_n 1, 1, 1, 0, .null)] (24, [(0, .ref 66), (1, .int v1)], [.int v1, .ref 16], I, G, (gP rd)) (True) hX hi (by decide +kernel) rfl trivial ?_
        refine am_callV hX hi (M := mX3_looksAtSpots) (idx := 123) (d' := 2) (b := 16) (ci := 3) (As := [.int v1]) (rest := []) mkX3_looksAtSpots miX3_looksAtSpots mvX3_looksAtSpots (by decide +kernel) (by decide +kernel) rfl (by decide +kernel) rfl ⟨by omega, by decide, Nat.le_of_ble_eq_true rfl⟩ rfl (c_X3_looksAtSpots_16 _ I G v1) ?_
        rintro r9 I9 G9 P9 ⟨e0, e1, e2, e3⟩
        rw [e0, e1, e2, e3]
        show am_V X 0 0 _ _ ad (27, [(0, .ref 66), (1, .int v1)], [.int (f_X3_looksAtSpots_16 I G v1)], I, G, (gP rd))
        refine am_if_eq (tgt := 34) hX hi (off := (7)) (by decide +kernel) (by decide) (fun c27 => ?_) (fun c27 => ?_)
        · rw [if_pos c27] at h
          refine am_blk 34 [(.aload_n 0, 1, 0, 0, .null), (.iload_n 1, 1, 1, 0, .null)] (36, [(0, .ref 66), (1, .int v1)], [.int v1, .ref 66], I, G, (gP rd)) (True) hX hi (by decide +kernel) rfl trivial ?_
          obtain ⟨r101, I101, G101, hc, h⟩ := rb_some h
          refine am_callV hX hi (M := mX7_carryOut) (idx := 130) (d' := 6) (b := 66) (ci := 7) (As := [.int v1]) (rest := []) mkX7_carryOut miX7_carryOut mvX7_carryOut (by decide +kernel) (by decide +kernel) rfl (by decide +kernel) rfl ⟨by omega, by decide, Nat.le_of_ble_eq_true rfl⟩ rfl (c_X7_carryOut_66 _ I G v1 hc) ?_
          rintro r9 I9 G9 P9 ⟨e0, e1, e2, e3⟩
          rw [e0, e1, e2, e3]
          show am_V X 0 0 _ _ ad (39, [(0, .ref 66), (1, .int v1)], [.int r101], I101, G101, (gP rd))
          refine am_if_eq (tgt := 52) hX hi (off := (13)) (by decide +kernel) (by decide) (fun c39 => ?_) (fun c39 => ?_)
          · rw [if_pos c39] at h
            refine am_blk 52 [(.iinc 1 (1), 3, 1, 0, .int (1 : Int32)), (.goto (-53), 3, 0, 2, .null)] (2, [(0, .ref 66), (1, .int (v1 + (1 : Int32)))], [], I101, G101, (gP rd)) (True) hX hi (by decide +kernel) rfl trivial ?_
            exact ih _ _ _ _ h
          · rw [if_neg c39] at h
            refine am_blk 42 [(.aload_n 0, 1, 0, 0, .null), (.dup, 1, 0, 0, .null), (.getfield 62, 3, 7, 13, .null), (.iconst (1), 1, 0, 0, .int (1 : Int32)), (.iadd, 1, 0, 0, .null), (.putfield 62, 3, 7, 13, .null), (.iinc 1 (1), 3, 1, 0, .int (1 : Int32)), (.goto (-53), 3, 0, 2, .null)] (2, [(0, .ref 66), (1, .int (v1 + (1 : Int32)))], [], (am_up I101 66 13 ((I101 66 13) + (1 : Int32))), G101, (gP rd)) (True) hX hi (by decide +kernel) rfl trivial ?_
            exact ih _ _ _ _ h
        · rw [if_neg c27] at h
          refine am_blk 30 [(.aload_n 0, 1, 0, 0, .null)] (31, [(0, .ref 66), (1, .int v1)], [.ref 66], I, G, (gP rd)) (True) hX hi (by decide +kernel) rfl trivial ?_
          obtain ⟨r102, I102, G102, hc, h⟩ := rb_some h
          refine am_callV hX hi (M := mX7_refresh) (idx := 127) (d' := 7) (b := 66) (ci := 7) (As := []) (rest := []) mkX7_refresh miX7_refresh mvX7_refresh (by decide +kernel) (by decide +kernel) rfl (by decide +kernel) rfl ⟨by omega, by decide, Nat.le_of_ble_eq_true rfl⟩ rfl (c_X7_refresh_66 _ I G  hc) ?_
          rintro r9 I9 G9 P9 ⟨e0, e1, e2, e3⟩
          rw [e0, e1, e2, e3]
          show am_V X 0 0 _ _ ad (34, [(0, .ref 66), (1, .int v1)], [], I102, G102, (gP rd))
          refine am_blk 34 [(.aload_n 0, 1, 0, 0, .null), (.iload_n 1, 1, 1, 0, .null)] (36, [(0, .ref 66), (1, .int v1)], [.int v1, .ref 66], I102, G102, (gP rd)) (True) hX hi (by decide +kernel) rfl trivial ?_
          obtain ⟨r103, I103, G103, hc, h⟩ := rb_some h
          refine am_callV hX hi (M := mX7_carryOut) (idx := 130) (d' := 6) (b := 66) (ci := 7) (As := [.int v1]) (rest := []) mkX7_carryOut miX7_carryOut mvX7_carryOut (by decide +kernel) (by decide +kernel) rfl (by decide +kernel) rfl ⟨by omega, by decide, Nat.le_of_ble_eq_true rfl⟩ rfl (c_X7_carryOut_66 _ I102 G102 v1 hc) ?_
          rintro r9 I9 G9 P9 ⟨e0, e1, e2, e3⟩
          rw [e0, e1, e2, e3]
          show am_V X 0 0 _ _ ad (39, [(0, .ref 66), (1, .int v1)], [.int r103], I103, G103, (gP rd))
          refine am_if_eq (tgt := 52) hX hi (off := (13)) (by decide +kernel) (by decide) (fun c39 => ?_) (fun c39 => ?_)
          · rw [if_pos c39] at h
            refine am_blk 52 [(.iinc 1 (1), 3, 1, 0, .int (1 : Int32)), (.goto (-53), 3, 0, 2, .null)] (2, [(0, .ref 66), (1, .int (v1 + (1 : Int32)))], [], I103, G103, (gP rd)) (True) hX hi (by decide +kernel) rfl trivial ?_
            exact ih _ _ _ _ h
          · rw [if_neg c39] at h
            refine am_blk 42 [(.aload_n 0, 1, 0, 0, .null), (.dup, 1, 0, 0, .null), (.getfield 62, 3, 7, 13, .null), (.iconst (1), 1, 0, 0, .int (1 : Int32)), (.iadd, 1, 0, 0, .null), (.putfield 62, 3, 7, 13, .null), (.iinc 1 (1), 3, 1, 0, .int (1 : Int32)), (.goto (-53), 3, 0, 2, .null)] (2, [(0, .ref 66), (1, .int (v1 + (1 : Int32)))], [], (am_up I103 66 13 ((I103 66 13) + (1 : Int32))), G103, (gP rd)) (True) hX hi (by decide +kernel) rfl trivial ?_
            exact ih _ _ _ _ h
set_option maxRecDepth 20000 in
set_option maxHeartbeats 4000000 in
theorem c_X7_dipOnce_66 (rd : Nat) (I : am_I) (G : am_G)  {out : Unit × am_I × am_G} (h : R_X7_dipOnce_66 I G  = some out) : am_Ct mX7_dipOnce 8 gS [.ref 66] I G (gP rd) (pV out.2.1 out.2.2 (gP rd)) := by
  refine am_ofF (by decide +kernel) rfl (by decide) (by omega) (Nat.le_of_ble_eq_true rfl) (fun X ad hX hi => ?_)
  have hi : am_info X 7 cX7_dipOnce 2 false none 8 := hi
  show am_V X 0 0 _ _ ad (0, [(0, .ref 66)], [], I, G, (gP rd))
  unfold R_X7_dipOnce_66 at h
  refine am_blk 0 [(.iconst (0), 1, 0, 0, .int (0 : Int32)), (.istore_n 1, 1, 1, 0, .null)] (2, [(0, .ref 66), (1, .int (0 : Int32))], [], I, G, (gP rd)) (True) hX hi (by decide +kernel) rfl trivial ?_
  exact (l_X7_dipOnce_66 rd hX hi FU) _ _ _ _ h
