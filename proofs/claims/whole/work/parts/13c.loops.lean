theorem am_hd132 : (1 : Nat) = 1 := rfl  -- methods with loops, and those that call them, further on
noncomputable def R_X13_pushed_112 (I : am_I) (G : am_G) (x1 : Int32) (x2 : Int32) : Option (Int32 × am_I × am_G) := (if x1 = (6 : Int32) then rg (vp_in x2 4) (some ((I 113 x2.toNatClampNeg), I, G)) else if x1 = (9 : Int32) then rg (vp_in x2 4) (some ((I 114 x2.toNatClampNeg), I, G)) else if x1 = (16 : Int32) then rb (R_X13_share_112 I G (x2 + (1 : Int32))) (fun r1 I1 G1 => some (r1, I1, G1)) else if x1 = (18 : Int32) then rb (R_X13_isAtEdge_112 I G (x2 + (1 : Int32))) (fun r2 I2 G2 => (if r2 = 0 then some ((0 : Int32), I2, G2) else some ((1 : Int32), I2, G2))) else some (x2, I, G))
set_option maxRecDepth 20000 in
set_option maxHeartbeats 4000000 in
theorem c_X13_pushed_112 (rd : Nat) (I : am_I) (G : am_G) (x1 : Int32) (x2 : Int32) {out : Int32 × am_I × am_G} (h : R_X13_pushed_112 I G x1 x2 = some out) : am_Ct mX13_pushed 11 gS [.ref 112, .int x1, .int x2] I G (gP rd) (pI out.1 out.2.1 out.2.2 (gP rd)) := by
  refine am_ofF (by decide +kernel) rfl (by decide) (by omega) (Nat.le_of_ble_eq_true rfl) (fun X ad hX hi => ?_)
  have hi : am_info X 11 cX13_pushed 3 false (Option.some Jvm.ClassFile.FieldType.int) 11 := hi
  show am_V X 0 0 _ _ ad (0, [(0, .ref 112), (1, .int x1), (2, .int x2)], [], I, G, (gP rd))
  unfold R_X13_pushed_112 at h
  refine am_blk 0 [(.iload_n 1, 1, 1, 0, .null)] (1, [(0, .ref 112), (1, .int x1), (2, .int x2)], [.int x1], I, G, (gP rd)) (True) hX hi (by decide +kernel) rfl trivial ?_
  by_cases s1_6 : x1 = (6 : Int32)
  · rw [if_pos s1_6] at h
    refine am_lsw hX hi (dflt := (81)) (ps := #[((6), (58)), ((9), (43)), ((16), (50)), ((18), (65))]) (len := 43) (off := (58)) (tgt := 59) (by decide +kernel) (by decide +kernel) (by rw [s1_6]; rfl) (by decide) ?_
    obtain ⟨g0, h⟩ := rg_some h
    refine am_blk 59 [(.aload_n 0, 1, 0, 0, .null), (.getfield 15, 3, 11, 4, .null), (.iload_n 2, 1, 2, 0, .null), (.iaload, 1, 0, 0, .null)] (65, [(0, .ref 112), (1, .int x1), (2, .int x2)], [.int (I 113 x2.toNatClampNeg)], I, G, (gP rd)) (vp_in x2 4 ∧ True) hX hi (by decide +kernel) rfl ⟨g0, trivial⟩ ?_
    cases h
    refine am_iret hX hi rfl rfl (by decide +kernel) ?_
    exact ⟨rfl, rfl, rfl, rfl⟩
  rw [if_neg s1_6] at h
  by_cases s1_9 : x1 = (9 : Int32)
  · rw [if_pos s1_9] at h
    refine am_lsw hX hi (dflt := (81)) (ps := #[((6), (58)), ((9), (43)), ((16), (50)), ((18), (65))]) (len := 43) (off := (43)) (tgt := 44) (by decide +kernel) (by decide +kernel) (by rw [s1_9]; rfl) (by decide) ?_
    obtain ⟨g0, h⟩ := rg_some h
    refine am_blk 44 [(.aload_n 0, 1, 0, 0, .null), (.getfield 19, 3, 11, 5, .null), (.iload_n 2, 1, 2, 0, .null), (.iaload, 1, 0, 0, .null)] (50, [(0, .ref 112), (1, .int x1), (2, .int x2)], [.int (I 114 x2.toNatClampNeg)], I, G, (gP rd)) (vp_in x2 4 ∧ True) hX hi (by decide +kernel) rfl ⟨g0, trivial⟩ ?_
    cases h
    refine am_iret hX hi rfl rfl (by decide +kernel) ?_
    exact ⟨rfl, rfl, rfl, rfl⟩
  rw [if_neg s1_9] at h
  by_cases s1_16 : x1 = (16 : Int32)
  · rw [if_pos s1_16] at h
    refine am_lsw hX hi (dflt := (81)) (ps := #[((6), (58)), ((9), (43)), ((16), (50)), ((18), (65))]) (len := 43) (off := (50)) (tgt := 51) (by decide +kernel) (by decide +kernel) (by rw [s1_16]; rfl) (by decide) ?_
    refine am_blk 51 [(.aload_n 0, 1, 0, 0, .null), (.iload_n 2, 1, 2, 0, .null), (.iconst (1), 1, 0, 0, .int (1 : Int32)), (.iadd, 1, 0, 0, .null)] (55, [(0, .ref 112), (1, .int x1), (2, .int x2)], [.int (x2 + (1 : Int32)), .ref 112], I, G, (gP rd)) (True) hX hi (by decide +kernel) rfl trivial ?_
    obtain ⟨r1, I1, G1, hc, h⟩ := rb_some h
    refine am_callV hX hi (M := mX13_share) (idx := 250) (d' := 10) (b := 112) (ci := 11) (As := [.int (x2 + (1 : Int32))]) (rest := []) mkX13_share miX13_share mvX13_share (by decide +kernel) (by decide +kernel) rfl (by decide +kernel) rfl ⟨by omega, by decide, Nat.le_of_ble_eq_true rfl⟩ rfl (c_X13_share_112 _ I G (x2 + (1 : Int32)) hc) ?_
    rintro r9 I9 G9 P9 ⟨e0, e1, e2, e3⟩
    rw [e0, e1, e2, e3]
    show am_V X 0 0 _ _ ad (58, [(0, .ref 112), (1, .int x1), (2, .int x2)], [.int r1], I1, G1, (gP rd))
    cases h
    refine am_iret hX hi rfl rfl (by decide +kernel) ?_
    exact ⟨rfl, rfl, rfl, rfl⟩
  rw [if_neg s1_16] at h
  by_cases s1_18 : x1 = (18 : Int32)
  · rw [if_pos s1_18] at h
    refine am_lsw hX hi (dflt := (81)) (ps := #[((6), (58)), ((9), (43)), ((16), (50)), ((18), (65))]) (len := 43) (off := (65)) (tgt := 66) (by decide +kernel) (by decide +kernel) (by rw [s1_18]; rfl) (by decide) ?_
    refine am_blk 66 [(.aload_n 0, 1, 0, 0, .null), (.iload_n 2, 1, 2, 0, .null), (.iconst (1), 1, 0, 0, .int (1 : Int32)), (.iadd, 1, 0, 0, .null)] (70, [(0, .ref 112), (1, .int x1), (2, .int x2)], [.int (x2 + (1 : Int32)), .ref 112], I, G, (gP rd)) (True) hX hi (by decide +kernel) rfl trivial ?_
    obtain ⟨r2, I2, G2, hc, h⟩ := rb_some h
    refine am_callV hX hi (M := mX13_isAtEdge) (idx := 253) (d' := 10) (b := 112) (ci := 11) (As := [.int (x2 + (1 : Int32))]) (rest := []) mkX13_isAtEdge miX13_isAtEdge mvX13_isAtEdge (by decide +kernel) (by decide +kernel) rfl (by decide +kernel) rfl ⟨by omega, by decide, Nat.le_of_ble_eq_true rfl⟩ rfl (c_X13_isAtEdge_112 _ I G (x2 + (1 : Int32)) hc) ?_
    rintro r9 I9 G9 P9 ⟨e0, e1, e2, e3⟩
    rw [e0, e1, e2, e3]
    show am_V X 0 0 _ _ ad (73, [(0, .ref 112), (1, .int x1), (2, .int x2)], [.int r2], I2, G2, (gP rd))
    refine am_if_eq (tgt := 80) hX hi (off := (7)) (by decide +kernel) (by decide) (fun c73 => ?_) (fun c73 => ?_)
    · rw [if_pos c73] at h
      refine am_blk 80 [(.iconst (0), 1, 0, 0, .int (0 : Int32))] (81, [(0, .ref 112), (1, .int x1), (2, .int x2)], [.int (0 : Int32)], I2, G2, (gP rd)) (True) hX hi (by decide +kernel) rfl trivial ?_
      cases h
      refine am_iret hX hi rfl rfl (by decide +kernel) ?_
      exact ⟨rfl, rfl, rfl, rfl⟩
    · rw [if_neg c73] at h
      refine am_blk 76 [(.iconst (1), 1, 0, 0, .int (1 : Int32)), (.goto (4), 3, 0, 81, .null)] (81, [(0, .ref 112), (1, .int x1), (2, .int x2)], [.int (1 : Int32)], I2, G2, (gP rd)) (True) hX hi (by decide +kernel) rfl trivial ?_
      cases h
      refine am_iret hX hi rfl rfl (by decide +kernel) ?_
      exact ⟨rfl, rfl, rfl, rfl⟩
  rw [if_neg s1_18] at h
  refine am_lsw hX hi (dflt := (81)) (ps := #[((6), (58)), ((9), (43)), ((16), (50)), ((18), (65))]) (len := 43) (off := (81)) (tgt := 82) (by decide +kernel) (by decide +kernel) ?_ (by decide) ?_
  · have eF : ∀ v : Int32, ¬ x1 = v → ¬ (x1).toInt = v.toInt := fun v q z => q ((i_eq _ _).mpr z)
    have e6 := eF (6 : Int32) s1_6
    have e9 := eF (9 : Int32) s1_9
    have e16 := eF (16 : Int32) s1_16
    have e18 := eF (18 : Int32) s1_18
    simp only [show ((6 : Int32) : Int32).toInt = 6 from rfl, show ((9 : Int32) : Int32).toInt = 9 from rfl, show ((16 : Int32) : Int32).toInt = 16 from rfl, show ((18 : Int32) : Int32).toInt = 18 from rfl] at e6 e9 e16 e18
    simp [Op.lookupswitch.offset, e6, Ne.symm e6, e9, Ne.symm e9, e16, Ne.symm e16, e18, Ne.symm e18]
  refine am_blk 82 [(.iload_n 2, 1, 2, 0, .null)] (83, [(0, .ref 112), (1, .int x1), (2, .int x2)], [.int x2], I, G, (gP rd)) (True) hX hi (by decide +kernel) rfl trivial ?_
  cases h
  refine am_iret hX hi rfl rfl (by decide +kernel) ?_
  exact ⟨rfl, rfl, rfl, rfl⟩
noncomputable def R_X14_isOctave_79 (I : am_I) (G : am_G) (x1 : Int32) : Option (Int32 × am_I × am_G) := rg ((f_X14_isIn I G x1 (0 : Int32) ((I 86 2) - (1 : Int32))) = 0 ∨ (f_X14_isIn I G x1 (0 : Int32) ((I 86 2) - (1 : Int32))) = 1) (some ((f_X14_isIn I G x1 (0 : Int32) ((I 86 2) - (1 : Int32))), I, G))
set_option maxRecDepth 20000 in
set_option maxHeartbeats 4000000 in
theorem c_X14_isOctave_79 (rd : Nat) (I : am_I) (G : am_G) (x1 : Int32) {out : Int32 × am_I × am_G} (h : R_X14_isOctave_79 I G x1 = some out) : am_Ct mX14_isOctave 2 gS [.ref 79, .int x1] I G (gP rd) (pI out.1 out.2.1 out.2.2 (gP rd)) := by
  refine am_ofF (by decide +kernel) rfl (by decide) (by omega) (Nat.le_of_ble_eq_true rfl) (fun X ad hX hi => ?_)
  have hi : am_info X 12 cX14_isOctave 2 false (Option.some Jvm.ClassFile.FieldType.boolean) 2 := hi
  show am_V X 0 0 _ _ ad (0, [(0, .ref 79), (1, .int x1)], [], I, G, (gP rd))
  unfold R_X14_isOctave_79 at h
  refine am_blk 0 [(.iload_n 1, 1, 1, 0, .null), (.iconst (0), 1, 0, 0, .int (0 : Int32)), (.aload_n 0, 1, 0, 0, .null), (.getfield 35, 3, 12, 11, .null), (.getfield 60, 3, 10, 2, .null), (.iconst (1), 1, 0, 0, .int (1 : Int32)), (.isub, 1, 0, 0, .null)] (11, [(0, .ref 79), (1, .int x1)], [.int ((I 86 2) - (1 : Int32)), .int (0 : Int32), .int x1], I, G, (gP rd)) (True) hX hi (by decide +kernel) rfl trivial ?_
  refine am_callS hX hi (M := mX14_isIn) (idx := 63) (d' := 1) (As := [.int x1, .int (0 : Int32), .int ((I 86 2) - (1 : Int32))]) (rest := []) mkX14_isIn msX14_isIn (by decide +kernel) (by decide +kernel) rfl ⟨by omega, by decide, Nat.le_of_ble_eq_true rfl⟩ rfl (c_X14_isIn I G x1 (0 : Int32) ((I 86 2) - (1 : Int32))) ?_
  rintro r9 I9 G9 P9 ⟨e0, e1, e2, e3⟩
  rw [e0, e1, e2, e3]
  show am_V X 0 0 _ _ ad (14, [(0, .ref 79), (1, .int x1)], [.int (f_X14_isIn I G x1 (0 : Int32) ((I 86 2) - (1 : Int32)))], I, G, (gP rd))
  obtain ⟨gb, h⟩ := rg_some h
  cases h
  refine am_iret hX hi rfl (by rcases gb with gb | gb <;> rw [gb] <;> rfl) (by decide +kernel) ?_
  exact ⟨rfl, rfl, rfl, rfl⟩
noncomputable def R_X14_isComb_79 (I : am_I) (G : am_G) (x1 : Int32) : Option (Int32 × am_I × am_G) := rg ((f_X14_isIn I G x1 (0 : Int32) ((I 86 3) - (1 : Int32))) = 0 ∨ (f_X14_isIn I G x1 (0 : Int32) ((I 86 3) - (1 : Int32))) = 1) (some ((f_X14_isIn I G x1 (0 : Int32) ((I 86 3) - (1 : Int32))), I, G))
set_option maxRecDepth 20000 in
set_option maxHeartbeats 4000000 in
theorem c_X14_isComb_79 (rd : Nat) (I : am_I) (G : am_G) (x1 : Int32) {out : Int32 × am_I × am_G} (h : R_X14_isComb_79 I G x1 = some out) : am_Ct mX14_isComb 2 gS [.ref 79, .int x1] I G (gP rd) (pI out.1 out.2.1 out.2.2 (gP rd)) := by
  refine am_ofF (by decide +kernel) rfl (by decide) (by omega) (Nat.le_of_ble_eq_true rfl) (fun X ad hX hi => ?_)
  have hi : am_info X 12 cX14_isComb 2 false (Option.some Jvm.ClassFile.FieldType.boolean) 2 := hi
  show am_V X 0 0 _ _ ad (0, [(0, .ref 79), (1, .int x1)], [], I, G, (gP rd))
  unfold R_X14_isComb_79 at h
  refine am_blk 0 [(.iload_n 1, 1, 1, 0, .null), (.iconst (0), 1, 0, 0, .int (0 : Int32)), (.aload_n 0, 1, 0, 0, .null), (.getfield 35, 3, 12, 11, .null), (.getfield 67, 3, 10, 3, .null), (.iconst (1), 1, 0, 0, .int (1 : Int32)), (.isub, 1, 0, 0, .null)] (11, [(0, .ref 79), (1, .int x1)], [.int ((I 86 3) - (1 : Int32)), .int (0 : Int32), .int x1], I, G, (gP rd)) (True) hX hi (by decide +kernel) rfl trivial ?_
  refine am_callS hX hi (M := mX14_isIn) (idx := 63) (d' := 1) (As := [.int x1, .int (0 : Int32), .int ((I 86 3) - (1 : Int32))]) (rest := []) mkX14_isIn msX14_isIn (by decide +kernel) (by decide +kernel) rfl ⟨by omega, by decide, Nat.le_of_ble_eq_true rfl⟩ rfl (c_X14_isIn I G x1 (0 : Int32) ((I 86 3) - (1 : Int32))) ?_
  rintro r9 I9 G9 P9 ⟨e0, e1, e2, e3⟩
  rw [e0, e1, e2, e3]
  show am_V X 0 0 _ _ ad (14, [(0, .ref 79), (1, .int x1)], [.int (f_X14_isIn I G x1 (0 : Int32) ((I 86 3) - (1 : Int32)))], I, G, (gP rd))
  obtain ⟨gb, h⟩ := rg_some h
  cases h
  refine am_iret hX hi rfl (by rcases gb with gb | gb <;> rw [gb] <;> rfl) (by decide +kernel) ?_
  exact ⟨rfl, rfl, rfl, rfl⟩
noncomputable def R_X14_isInk_79 (I : am_I) (G : am_G) (x1 : Int32) : Option (Int32 × am_I × am_G) := rg ((f_X14_isIn I G x1 (0 : Int32) (I 86 4)) = 0 ∨ (f_X14_isIn I G x1 (0 : Int32) (I 86 4)) = 1) (some ((f_X14_isIn I G x1 (0 : Int32) (I 86 4)), I, G))
set_option maxRecDepth 20000 in
set_option maxHeartbeats 4000000 in
theorem c_X14_isInk_79 (rd : Nat) (I : am_I) (G : am_G) (x1 : Int32) {out : Int32 × am_I × am_G} (h : R_X14_isInk_79 I G x1 = some out) : am_Ct mX14_isInk 2 gS [.ref 79, .int x1] I G (gP rd) (pI out.1 out.2.1 out.2.2 (gP rd)) := by
  refine am_ofF (by decide +kernel) rfl (by decide) (by omega) (Nat.le_of_ble_eq_true rfl) (fun X ad hX hi => ?_)
  have hi : am_info X 12 cX14_isInk 2 false (Option.some Jvm.ClassFile.FieldType.boolean) 2 := hi
  show am_V X 0 0 _ _ ad (0, [(0, .ref 79), (1, .int x1)], [], I, G, (gP rd))
  unfold R_X14_isInk_79 at h
  refine am_blk 0 [(.iload_n 1, 1, 1, 0, .null), (.iconst (0), 1, 0, 0, .int (0 : Int32)), (.aload_n 0, 1, 0, 0, .null), (.getfield 35, 3, 12, 11, .null), (.getfield 70, 3, 10, 4, .null)] (9, [(0, .ref 79), (1, .int x1)], [.int (I 86 4), .int (0 : Int32), .int x1], I, G, (gP rd)) (True) hX hi (by decide +kernel) rfl trivial ?_
  refine am_callS hX hi (M := mX14_isIn) (idx := 63) (d' := 1) (As := [.int x1, .int (0 : Int32), .int (I 86 4)]) (rest := []) mkX14_isIn msX14_isIn (by decide +kernel) (by decide +kernel) rfl ⟨by omega, by decide, Nat.le_of_ble_eq_true rfl⟩ rfl (c_X14_isIn I G x1 (0 : Int32) (I 86 4)) ?_
  rintro r9 I9 G9 P9 ⟨e0, e1, e2, e3⟩
  rw [e0, e1, e2, e3]
  show am_V X 0 0 _ _ ad (12, [(0, .ref 79), (1, .int x1)], [.int (f_X14_isIn I G x1 (0 : Int32) (I 86 4))], I, G, (gP rd))
  obtain ⟨gb, h⟩ := rg_some h
  cases h
  refine am_iret hX hi rfl (by rcases gb with gb | gb <;> rw [gb] <;> rfl) (by decide +kernel) ?_
  exact ⟨rfl, rfl, rfl, rfl⟩
noncomputable def R_X14_height_79 (I : am_I) (G : am_G) (x1 : Int32) (x2 : Int32) : Option (Int32 × am_I × am_G) := rg (q_X12_spot_86 (am_up I 79 0 (0 : Int32)) G x1 x2) (rb (R_X13_height_102 (am_up I 79 0 (0 : Int32)) G (f_X12_spot_86 (am_up I 79 0 (0 : Int32)) G x1 x2)) (fun r1 I1 G1 => some (r1, I1, G1)))
set_option maxRecDepth 20000 in
set_option maxHeartbeats 4000000 in
theorem c_X14_height_79 (rd : Nat) (I : am_I) (G : am_G) (x1 : Int32) (x2 : Int32) {out : Int32 × am_I × am_G} (h : R_X14_height_79 I G x1 x2 = some out) : am_Ct mX14_height 10 gS [.ref 79, .int x1, .int x2] I G (gP rd) (pI out.1 out.2.1 out.2.2 (gP rd)) := by
  refine am_ofF (by decide +kernel) rfl (by decide) (by omega) (Nat.le_of_ble_eq_true rfl) (fun X ad hX hi => ?_)
  have hi : am_info X 12 cX14_height 3 false (Option.some Jvm.ClassFile.FieldType.int) 10 := hi
  show am_V X 0 0 _ _ ad (0, [(0, .ref 79), (1, .int x1), (2, .int x2)], [], I, G, (gP rd))
  unfold R_X14_height_79 at h
  refine am_blk 0 [(.aload_n 0, 1, 0, 0, .null), (.iconst (0), 1, 0, 0, .int (0 : Int32)), (.putfield 57, 3, 12, 0, .null), (.aload_n 0, 1, 0, 0, .null), (.getfield 47, 3, 12, 13, .null), (.aload_n 0, 1, 0, 0, .null), (.getfield 35, 3, 12, 11, .null), (.iload_n 1, 1, 1, 0, .null), (.iload_n 2, 1, 2, 0, .null)] (15, [(0, .ref 79), (1, .int x1), (2, .int x2)], [.int x2, .int x1, .ref 86, .ref 102], (am_up I 79 0 (0 : Int32)), G, (gP rd)) (True) hX hi (by decide +kernel) rfl trivial ?_
  obtain ⟨hq1, h⟩ := rg_some h
  refine am_callV hX hi (M := mX12_spot) (idx := 329) (d' := 2) (b := 86) (ci := 10) (As := [.int x1, .int x2]) (rest := [.ref 102]) mkX12_spot miX12_spot mvX12_spot (by decide +kernel) (by decide +kernel) rfl (by decide +kernel) rfl ⟨by omega, by decide, Nat.le_of_ble_eq_true rfl⟩ rfl (c_X12_spot_86 _ (am_up I 79 0 (0 : Int32)) G x1 x2 hq1) ?_
  rintro r9 I9 G9 P9 ⟨e0, e1, e2, e3⟩
  rw [e0, e1, e2, e3]
  show am_V X 0 0 _ _ ad (18, [(0, .ref 79), (1, .int x1), (2, .int x2)], [.int (f_X12_spot_86 (am_up I 79 0 (0 : Int32)) G x1 x2), .ref 102], (am_up I 79 0 (0 : Int32)), G, (gP rd))
  obtain ⟨r1, I1, G1, hc, h⟩ := rb_some h
  refine am_callV hX hi (M := mX13_height) (idx := 332) (d' := 9) (b := 102) (ci := 11) (As := [.int (f_X12_spot_86 (am_up I 79 0 (0 : Int32)) G x1 x2)]) (rest := []) mkX13_height miX13_height mvX13_height (by decide +kernel) (by decide +kernel) rfl (by decide +kernel) rfl ⟨by omega, by decide, Nat.le_of_ble_eq_true rfl⟩ rfl (c_X13_height_102 _ (am_up I 79 0 (0 : Int32)) G (f_X12_spot_86 (am_up I 79 0 (0 : Int32)) G x1 x2) hc) ?_
  rintro r9 I9 G9 P9 ⟨e0, e1, e2, e3⟩
  rw [e0, e1, e2, e3]
  show am_V X 0 0 _ _ ad (21, [(0, .ref 79), (1, .int x1), (2, .int x2)], [.int r1], I1, G1, (gP rd))
  cases h
  refine am_iret hX hi rfl rfl (by decide +kernel) ?_
  exact ⟨rfl, rfl, rfl, rfl⟩
noncomputable def R_X14_ink_79 (I : am_I) (G : am_G) (x1 : Int32) (x2 : Int32) : Option (Int32 × am_I × am_G) := rg (q_X12_spot_86 (am_up I 79 0 (0 : Int32)) G x1 x2) (rb (R_X13_ink_102 (am_up I 79 0 (0 : Int32)) G (f_X12_spot_86 (am_up I 79 0 (0 : Int32)) G x1 x2)) (fun r1 I1 G1 => some (r1, I1, G1)))
set_option maxRecDepth 20000 in
set_option maxHeartbeats 4000000 in
theorem c_X14_ink_79 (rd : Nat) (I : am_I) (G : am_G) (x1 : Int32) (x2 : Int32) {out : Int32 × am_I × am_G} (h : R_X14_ink_79 I G x1 x2 = some out) : am_Ct mX14_ink 10 gS [.ref 79, .int x1, .int x2] I G (gP rd) (pI out.1 out.2.1 out.2.2 (gP rd)) := by
  refine am_ofF (by decide +kernel) rfl (by decide) (by omega) (Nat.le_of_ble_eq_true rfl) (fun X ad hX hi => ?_)
  have hi : am_info X 12 cX14_ink 3 false (Option.some Jvm.ClassFile.FieldType.int) 10 := hi
  show am_V X 0 0 _ _ ad (0, [(0, .ref 79), (1, .int x1), (2, .int x2)], [], I, G, (gP rd))
  unfold R_X14_ink_79 at h
  refine am_blk 0 [(.aload_n 0, 1, 0, 0, .null), (.iconst (0), 1, 0, 0, .int (0 : Int32)), (.putfield 57, 3, 12, 0, .null), (.aload_n 0, 1, 0, 0, .null), (.getfield 47, 3, 12, 13, .null), (.aload_n 0, 1, 0, 0, .null), (.getfield 35, 3, 12, 11, .null), (.iload_n 1, 1, 1, 0, .null), (.iload_n 2, 1, 2, 0, .null)] (15, [(0, .ref 79), (1, .int x1), (2, .int x2)], [.int x2, .int x1, .ref 86, .ref 102], (am_up I 79 0 (0 : Int32)), G, (gP rd)) (True) hX hi (by decide +kernel) rfl trivial ?_
  obtain ⟨hq1, h⟩ := rg_some h
  refine am_callV hX hi (M := mX12_spot) (idx := 329) (d' := 2) (b := 86) (ci := 10) (As := [.int x1, .int x2]) (rest := [.ref 102]) mkX12_spot miX12_spot mvX12_spot (by decide +kernel) (by decide +kernel) rfl (by decide +kernel) rfl ⟨by omega, by decide, Nat.le_of_ble_eq_true rfl⟩ rfl (c_X12_spot_86 _ (am_up I 79 0 (0 : Int32)) G x1 x2 hq1) ?_
  rintro r9 I9 G9 P9 ⟨e0, e1, e2, e3⟩
  rw [e0, e1, e2, e3]
  show am_V X 0 0 _ _ ad (18, [(0, .ref 79), (1, .int x1), (2, .int x2)], [.int (f_X12_spot_86 (am_up I 79 0 (0 : Int32)) G x1 x2), .ref 102], (am_up I 79 0 (0 : Int32)), G, (gP rd))
  obtain ⟨r1, I1, G1, hc, h⟩ := rb_some h
  refine am_callV hX hi (M := mX13_ink) (idx := 335) (d' := 9) (b := 102) (ci := 11) (As := [.int (f_X12_spot_86 (am_up I 79 0 (0 : Int32)) G x1 x2)]) (rest := []) mkX13_ink miX13_ink mvX13_ink (by decide +kernel) (by decide +kernel) rfl (by decide +kernel) rfl ⟨by omega, by decide, Nat.le_of_ble_eq_true rfl⟩ rfl (c_X13_ink_102 _ (am_up I 79 0 (0 : Int32)) G (f_X12_spot_86 (am_up I 79 0 (0 : Int32)) G x1 x2) hc) ?_
  rintro r9 I9 G9 P9 ⟨e0, e1, e2, e3⟩
  rw [e0, e1, e2, e3]
  show am_V X 0 0 _ _ ad (21, [(0, .ref 79), (1, .int x1), (2, .int x2)], [.int r1], I1, G1, (gP rd))
  cases h
  refine am_iret hX hi rfl rfl (by decide +kernel) ?_
  exact ⟨rfl, rfl, rfl, rfl⟩
noncomputable def R_X14_patch_79 (I : am_I) (G : am_G) (x1 : Int32) (x2 : Int32) : Option (Int32 × am_I × am_G) := rg (q_X12_spot_86 (am_up I 79 0 (0 : Int32)) G x1 x2) (rb (R_X13_patch_102 (am_up I 79 0 (0 : Int32)) G (f_X12_spot_86 (am_up I 79 0 (0 : Int32)) G x1 x2)) (fun r1 I1 G1 => some (r1, I1, G1)))
set_option maxRecDepth 20000 in
set_option maxHeartbeats 4000000 in
theorem c_X14_patch_79 (rd : Nat) (I : am_I) (G : am_G) (x1 : Int32) (x2 : Int32) {out : Int32 × am_I × am_G} (h : R_X14_patch_79 I G x1 x2 = some out) : am_Ct mX14_patch 12 gS [.ref 79, .int x1, .int x2] I G (gP rd) (pI out.1 out.2.1 out.2.2 (gP rd)) := by
  refine am_ofF (by decide +kernel) rfl (by decide) (by omega) (Nat.le_of_ble_eq_true rfl) (fun X ad hX hi => ?_)
  have hi : am_info X 12 cX14_patch 3 false (Option.some Jvm.ClassFile.FieldType.int) 12 := hi
  show am_V X 0 0 _ _ ad (0, [(0, .ref 79), (1, .int x1), (2, .int x2)], [], I, G, (gP rd))
  unfold R_X14_patch_79 at h
  refine am_blk 0 [(.aload_n 0, 1, 0, 0, .null), (.iconst (0), 1, 0, 0, .int (0 : Int32)), (.putfield 57, 3, 12, 0, .null), (.aload_n 0, 1, 0, 0, .null), (.getfield 47, 3, 12, 13, .null), (.aload_n 0, 1, 0, 0, .null), (.getfield 35, 3, 12, 11, .null), (.iload_n 1, 1, 1, 0, .null), (.iload_n 2, 1, 2, 0, .null)] (15, [(0, .ref 79), (1, .int x1), (2, .int x2)], [.int x2, .int x1, .ref 86, .ref 102], (am_up I 79 0 (0 : Int32)), G, (gP rd)) (True) hX hi (by decide +kernel) rfl trivial ?_
  obtain ⟨hq1, h⟩ := rg_some h
  refine am_callV hX hi (M := mX12_spot) (idx := 329) (d' := 2) (b := 86) (ci := 10) (As := [.int x1, .int x2]) (rest := [.ref 102]) mkX12_spot miX12_spot mvX12_spot (by decide +kernel) (by decide +kernel) rfl (by decide +kernel) rfl ⟨by omega, by decide, Nat.le_of_ble_eq_true rfl⟩ rfl (c_X12_spot_86 _ (am_up I 79 0 (0 : Int32)) G x1 x2 hq1) ?_
  rintro r9 I9 G9 P9 ⟨e0, e1, e2, e3⟩
  rw [e0, e1, e2, e3]
  show am_V X 0 0 _ _ ad (18, [(0, .ref 79), (1, .int x1), (2, .int x2)], [.int (f_X12_spot_86 (am_up I 79 0 (0 : Int32)) G x1 x2), .ref 102], (am_up I 79 0 (0 : Int32)), G, (gP rd))
  obtain ⟨r1, I1, G1, hc, h⟩ := rb_some h
  refine am_callV hX hi (M := mX13_patch) (idx := 338) (d' := 11) (b := 102) (ci := 11) (As := [.int (f_X12_spot_86 (am_up I 79 0 (0 : Int32)) G x1 x2)]) (rest := []) mkX13_patch miX13_patch mvX13_patch (by decide +kernel) (by decide +kernel) rfl (by decide +kernel) rfl ⟨by omega, by decide, Nat.le_of_ble_eq_true rfl⟩ rfl (c_X13_patch_102 _ (am_up I 79 0 (0 : Int32)) G (f_X12_spot_86 (am_up I 79 0 (0 : Int32)) G x1 x2) hc) ?_
  rintro r9 I9 G9 P9 ⟨e0, e1, e2, e3⟩
  rw [e0, e1, e2, e3]
  show am_V X 0 0 _ _ ad (21, [(0, .ref 79), (1, .int x1), (2, .int x2)], [.int r1], I1, G1, (gP rd))
  cases h
  refine am_iret hX hi rfl rfl (by decide +kernel) ?_
  exact ⟨rfl, rfl, rfl, rfl⟩
noncomputable def R_X14_whence_79 (I : am_I) (G : am_G) (x1 : Int32) (x2 : Int32) : Option (Int32 × am_I × am_G) := rg (q_X12_spot_86 (am_up I 79 0 (0 : Int32)) G x1 x2) (rb (R_X13_whence_102 (am_up I 79 0 (0 : Int32)) G (f_X12_spot_86 (am_up I 79 0 (0 : Int32)) G x1 x2)) (fun r1 I1 G1 => some (r1, I1, G1)))
set_option maxRecDepth 20000 in
set_option maxHeartbeats 4000000 in
theorem c_X14_whence_79 (rd : Nat) (I : am_I) (G : am_G) (x1 : Int32) (x2 : Int32) {out : Int32 × am_I × am_G} (h : R_X14_whence_79 I G x1 x2 = some out) : am_Ct mX14_whence 4 gS [.ref 79, .int x1, .int x2] I G (gP rd) (pI out.1 out.2.1 out.2.2 (gP rd)) := by
  refine am_ofF (by decide +kernel) rfl (by decide) (by omega) (Nat.le_of_ble_eq_true rfl) (fun X ad hX hi => ?_)
  have hi : am_info X 12 cX14_whence 3 false (Option.some Jvm.ClassFile.FieldType.int) 4 := hi
  show am_V X 0 0 _ _ ad (0, [(0, .ref 79), (1, .int x1), (2, .int x2)], [], I, G, (gP rd))
  unfold R_X14_whence_79 at h
  refine am_blk 0 [(.aload_n 0, 1, 0, 0, .null), (.iconst (0), 1, 0, 0, .int (0 : Int32)), (.putfield 57, 3, 12, 0, .null), (.aload_n 0, 1, 0, 0, .null), (.getfield 47, 3, 12, 13, .null), (.aload_n 0, 1, 0, 0, .null), (.getfield 35, 3, 12, 11, .null), (.iload_n 1, 1, 1, 0, .null), (.iload_n 2, 1, 2, 0, .null)] (15, [(0, .ref 79), (1, .int x1), (2, .int x2)], [.int x2, .int x1, .ref 86, .ref 102], (am_up I 79 0 (0 : Int32)), G, (gP rd)) (True) hX hi (by decide +kernel) rfl trivial ?_
  obtain ⟨hq1, h⟩ := rg_some h
  refine am_callV hX hi (M := mX12_spot) (idx := 329) (d' := 2) (b := 86) (ci := 10) (As := [.int x1, .int x2]) (rest := [.ref 102]) mkX12_spot miX12_spot mvX12_spot (by decide +kernel) (by decide +kernel) rfl (by decide +kernel) rfl ⟨by omega, by decide, Nat.le_of_ble_eq_true rfl⟩ rfl (c_X12_spot_86 _ (am_up I 79 0 (0 : Int32)) G x1 x2 hq1) ?_
  rintro r9 I9 G9 P9 ⟨e0, e1, e2, e3⟩
  rw [e0, e1, e2, e3]
  show am_V X 0 0 _ _ ad (18, [(0, .ref 79), (1, .int x1), (2, .int x2)], [.int (f_X12_spot_86 (am_up I 79 0 (0 : Int32)) G x1 x2), .ref 102], (am_up I 79 0 (0 : Int32)), G, (gP rd))
  obtain ⟨r1, I1, G1, hc, h⟩ := rb_some h
  refine am_callV hX hi (M := mX13_whence) (idx := 341) (d' := 3) (b := 102) (ci := 11) (As := [.int (f_X12_spot_86 (am_up I 79 0 (0 : Int32)) G x1 x2)]) (rest := []) mkX13_whence miX13_whence mvX13_whence (by decide +kernel) (by decide +kernel) rfl (by decide +kernel) rfl ⟨by omega, by decide, Nat.le_of_ble_eq_true rfl⟩ rfl (c_X13_whence_102 _ (am_up I 79 0 (0 : Int32)) G (f_X12_spot_86 (am_up I 79 0 (0 : Int32)) G x1 x2) hc) ?_
  rintro r9 I9 G9 P9 ⟨e0, e1, e2, e3⟩
  rw [e0, e1, e2, e3]
  show am_V X 0 0 _ _ ad (21, [(0, .ref 79), (1, .int x1), (2, .int x2)], [.int r1], I1, G1, (gP rd))
  cases h
  refine am_iret hX hi rfl rfl (by decide +kernel) ?_
  exact ⟨rfl, rfl, rfl, rfl⟩
noncomputable def R_X14_share_79 (I : am_I) (G : am_G) (x1 : Int32) : Option (Int32 × am_I × am_G) := rb (R_X14_isInk_79 (am_up I 79 0 (0 : Int32)) G x1) (fun r1 I1 G1 => (if r1 = 0 then some ((f_X14_no_79 I1 G1 (1 : Int32)), (g_X14_no_79 I1 G1 (1 : Int32)), G1) else rb (R_X13_share_102 I1 G1 x1) (fun r2 I2 G2 => some (r2, I2, G2))))
set_option maxRecDepth 20000 in
set_option maxHeartbeats 4000000 in
theorem c_X14_share_79 (rd : Nat) (I : am_I) (G : am_G) (x1 : Int32) {out : Int32 × am_I × am_G} (h : R_X14_share_79 I G x1 = some out) : am_Ct mX14_share 11 gS [.ref 79, .int x1] I G (gP rd) (pI out.1 out.2.1 out.2.2 (gP rd)) := by
  refine am_ofF (by decide +kernel) rfl (by decide) (by omega) (Nat.le_of_ble_eq_true rfl) (fun X ad hX hi => ?_)
  have hi : am_info X 12 cX14_share 2 false (Option.some Jvm.ClassFile.FieldType.int) 11 := hi
  show am_V X 0 0 _ _ ad (0, [(0, .ref 79), (1, .int x1)], [], I, G, (gP rd))
  unfold R_X14_share_79 at h
  refine am_blk 0 [(.aload_n 0, 1, 0, 0, .null), (.iconst (0), 1, 0, 0, .int (0 : Int32)), (.putfield 57, 3, 12, 0, .null), (.aload_n 0, 1, 0, 0, .null), (.iload_n 1, 1, 1, 0, .null)] (7, [(0, .ref 79), (1, .int x1)], [.int x1, .ref 79], (am_up I 79 0 (0 : Int32)), G, (gP rd)) (True) hX hi (by decide +kernel) rfl trivial ?_
  obtain ⟨r1, I1, G1, hc, h⟩ := rb_some h
  refine am_callV hX hi (M := mX14_isInk) (idx := 344) (d' := 2) (b := 79) (ci := 12) (As := [.int x1]) (rest := []) mkX14_isInk miX14_isInk mvX14_isInk (by decide +kernel) (by decide +kernel) rfl (by decide +kernel) rfl ⟨by omega, by decide, Nat.le_of_ble_eq_true rfl⟩ rfl (c_X14_isInk_79 _ (am_up I 79 0 (0 : Int32)) G x1 hc) ?_
  rintro r9 I9 G9 P9 ⟨e0, e1, e2, e3⟩
  rw [e0, e1, e2, e3]
  show am_V X 0 0 _ _ ad (10, [(0, .ref 79), (1, .int x1)], [.int r1], I1, G1, (gP rd))
  refine am_if_eq (tgt := 24) hX hi (off := (14)) (by decide +kernel) (by decide) (fun c10 => ?_) (fun c10 => ?_)
  · rw [if_pos c10] at h
    refine am_blk 24 [(.aload_n 0, 1, 0, 0, .null), (.iconst (1), 1, 0, 0, .int (1 : Int32))] (26, [(0, .ref 79), (1, .int x1)], [.int (1 : Int32), .ref 79], I1, G1, (gP rd)) (True) hX hi (by decide +kernel) rfl trivial ?_
    refine am_callV hX hi (M := mX14_no) (idx := 316) (d' := 1) (b := 79) (ci := 12) (As := [.int (1 : Int32)]) (rest := []) mkX14_no miX14_no mvX14_no (by decide +kernel) (by decide +kernel) rfl (by decide +kernel) rfl ⟨by omega, by decide, Nat.le_of_ble_eq_true rfl⟩ rfl (c_X14_no_79 _ I1 G1 (1 : Int32)) ?_
    rintro r9 I9 G9 P9 ⟨e0, e1, e2, e3⟩
    rw [e0, e1, e2, e3]
    show am_V X 0 0 _ _ ad (29, [(0, .ref 79), (1, .int x1)], [.int (f_X14_no_79 I1 G1 (1 : Int32))], (g_X14_no_79 I1 G1 (1 : Int32)), G1, (gP rd))
    cases h
    refine am_iret hX hi rfl rfl (by decide +kernel) ?_
    exact ⟨rfl, rfl, rfl, rfl⟩
  · rw [if_neg c10] at h
    refine am_blk 13 [(.aload_n 0, 1, 0, 0, .null), (.getfield 47, 3, 12, 13, .null), (.iload_n 1, 1, 1, 0, .null)] (18, [(0, .ref 79), (1, .int x1)], [.int x1, .ref 102], I1, G1, (gP rd)) (True) hX hi (by decide +kernel) rfl trivial ?_
    obtain ⟨r2, I2, G2, hc, h⟩ := rb_some h
    refine am_callV hX hi (M := mX13_share) (idx := 347) (d' := 10) (b := 102) (ci := 11) (As := [.int x1]) (rest := []) mkX13_share miX13_share mvX13_share (by decide +kernel) (by decide +kernel) rfl (by decide +kernel) rfl ⟨by omega, by decide, Nat.le_of_ble_eq_true rfl⟩ rfl (c_X13_share_102 _ I1 G1 x1 hc) ?_
    rintro r9 I9 G9 P9 ⟨e0, e1, e2, e3⟩
    rw [e0, e1, e2, e3]
    show am_V X 0 0 _ _ ad (21, [(0, .ref 79), (1, .int x1)], [.int r2], I2, G2, (gP rd))
    refine am_blk 21 [(.goto (8), 3, 0, 29, .null)] (29, [(0, .ref 79), (1, .int x1)], [.int r2], I2, G2, (gP rd)) (True) hX hi (by decide +kernel) rfl trivial ?_
    cases h
    refine am_iret hX hi rfl rfl (by decide +kernel) ?_
    exact ⟨rfl, rfl, rfl, rfl⟩
noncomputable def R_X14_octave_79 (I : am_I) (G : am_G) (x1 : Int32) (x2 : Int32) : Option (Int32 × am_I × am_G) := rb (R_X14_isOctave_79 (am_up I 79 0 (0 : Int32)) G x1) (fun r1 I1 G1 => (if r1 = 0 then some ((f_X14_no_79 I1 G1 (1 : Int32)), (g_X14_no_79 I1 G1 (1 : Int32)), G1) else (if (f_X14_isIn I1 G1 x2 (0 : Int32) (3 : Int32)) = 0 then some ((f_X14_no_79 I1 G1 (1 : Int32)), (g_X14_no_79 I1 G1 (1 : Int32)), G1) else rg (q_X14_octaveTold_79 I1 G1 x1 x2) (some ((f_X14_octaveTold_79 I1 G1 x1 x2), I1, G1)))))
set_option maxRecDepth 20000 in
set_option maxHeartbeats 4000000 in
theorem c_X14_octave_79 (rd : Nat) (I : am_I) (G : am_G) (x1 : Int32) (x2 : Int32) {out : Int32 × am_I × am_G} (h : R_X14_octave_79 I G x1 x2 = some out) : am_Ct mX14_octave 3 gS [.ref 79, .int x1, .int x2] I G (gP rd) (pI out.1 out.2.1 out.2.2 (gP rd)) := by
  refine am_ofF (by decide +kernel) rfl (by decide) (by omega) (Nat.le_of_ble_eq_true rfl) (fun X ad hX hi => ?_)
  have hi : am_info X 12 cX14_octave 3 false (Option.some Jvm.ClassFile.FieldType.int) 3 := hi
  show am_V X 0 0 _ _ ad (0, [(0, .ref 79), (1, .int x1), (2, .int x2)], [], I, G, (gP rd))
  unfold R_X14_octave_79 at h
  refine am_blk 0 [(.aload_n 0, 1, 0, 0, .null), (.iconst (0), 1, 0, 0, .int (0 : Int32)), (.putfield 57, 3, 12, 0, .null), (.aload_n 0, 1, 0, 0, .null), (.iload_n 1, 1, 1, 0, .null)] (7, [(0, .ref 79), (1, .int x1), (2, .int x2)], [.int x1, .ref 79], (am_up I 79 0 (0 : Int32)), G, (gP rd)) (True) hX hi (by decide +kernel) rfl trivial ?_
  obtain ⟨r1, I1, G1, hc, h⟩ := rb_some h
  refine am_callV hX hi (M := mX14_isOctave) (idx := 351) (d' := 2) (b := 79) (ci := 12) (As := [.int x1]) (rest := []) mkX14_isOctave miX14_isOctave mvX14_isOctave (by decide +kernel) (by decide +kernel) rfl (by decide +kernel) rfl ⟨by omega, by decide, Nat.le_of_ble_eq_true rfl⟩ rfl (c_X14_isOctave_79 _ (am_up I 79 0 (0 : Int32)) G x1 hc) ?_
  rintro r9 I9 G9 P9 ⟨e0, e1, e2, e3⟩
  rw [e0, e1, e2, e3]
  show am_V X 0 0 _ _ ad (10, [(0, .ref 79), (1, .int x1), (2, .int x2)], [.int r1], I1, G1, (gP rd))
  refine am_if_eq (tgt := 31) hX hi (off := (21)) (by decide +kernel) (by decide) (fun c10 => ?_) (fun c10 => ?_)
  · rw [if_pos c10] at h
    refine am_blk 31 [(.aload_n 0, 1, 0, 0, .null), (.iconst (1), 1, 0, 0, .int (1 : Int32))] (33, [(0, .ref 79), (1, .int x1), (2, .int x2)], [.int (1 : Int32), .ref 79], I1, G1, (gP rd)) (True) hX hi (by decide +kernel) rfl trivial ?_
    refine am_callV hX hi (M := mX14_no) (idx := 316) (d' := 1) (b := 79) (ci := 12) (As := [.int (1 : Int32)]) (rest := []) mkX14_no miX14_no mvX14_no (by decide +kernel) (by decide +kernel) rfl (by decide +kernel) rfl ⟨by omega, by decide, Nat.le_of_ble_eq_true rfl⟩ rfl (c_X14_no_79 _ I1 G1 (1 : Int32)) ?_
    rintro r9 I9 G9 P9 ⟨e0, e1, e2, e3⟩
    rw [e0, e1, e2, e3]
    show am_V X 0 0 _ _ ad (36, [(0, .ref 79), (1, .int x1), (2, .int x2)], [.int (f_X14_no_79 I1 G1 (1 : Int32))], (g_X14_no_79 I1 G1 (1 : Int32)), G1, (gP rd))
    cases h
    refine am_iret hX hi rfl rfl (by decide +kernel) ?_
    exact ⟨rfl, rfl, rfl, rfl⟩
  · rw [if_neg c10] at h
    refine am_blk 13 [(.iload_n 2, 1, 2, 0, .null), (.iconst (0), 1, 0, 0, .int (0 : Int32)), (.iconst (3), 1, 0, 0, .int (3 : Int32))] (16, [(0, .ref 79), (1, .int x1), (2, .int x2)], [.int (3 : Int32), .int (0 : Int32), .int x2], I1, G1, (gP rd)) (True) hX hi (by decide +kernel) rfl trivial ?_
    refine am_callS hX hi (M := mX14_isIn) (idx := 63) (d' := 1) (As := [.int x2, .int (0 : Int32), .int (3 : Int32)]) (rest := []) mkX14_isIn msX14_isIn (by decide +kernel) (by decide +kernel) rfl ⟨by omega, by decide, Nat.le_of_ble_eq_true rfl⟩ rfl (c_X14_isIn I1 G1 x2 (0 : Int32) (3 : Int32)) ?_
    rintro r9 I9 G9 P9 ⟨e0, e1, e2, e3⟩
    rw [e0, e1, e2, e3]
    show am_V X 0 0 _ _ ad (19, [(0, .ref 79), (1, .int x1), (2, .int x2)], [.int (f_X14_isIn I1 G1 x2 (0 : Int32) (3 : Int32))], I1, G1, (gP rd))
    refine am_if_eq (tgt := 31) hX hi (off := (12)) (by decide +kernel) (by decide) (fun c19 => ?_) (fun c19 => ?_)
    · rw [if_pos c19] at h
      refine am_blk 31 [(.aload_n 0, 1, 0, 0, .null), (.iconst (1), 1, 0, 0, .int (1 : Int32))] (33, [(0, .ref 79), (1, .int x1), (2, .int x2)], [.int (1 : Int32), .ref 79], I1, G1, (gP rd)) (True) hX hi (by decide +kernel) rfl trivial ?_
      refine am_callV hX hi (M := mX14_no) (idx := 316) (d' := 1) (b := 79) (ci := 12) (As := [.int (1 : Int32)]) (rest := []) mkX14_no miX14_no mvX14_no (by decide +kernel) (by decide +kernel) rfl (by decide +kernel) rfl ⟨by omega, by decide, Nat.le_of_ble_eq_true rfl⟩ rfl (c_X14_no_79 _ I1 G1 (1 : Int32)) ?_
      rintro r9 I9 G9 P9 ⟨e0, e1, e2, e3⟩
      rw [e0, e1, e2, e3]
      show am_V X 0 0 _ _ ad (36, [(0, .ref 79), (1, .int x1), (2, .int x2)], [.int (f_X14_no_79 I1 G1 (1 : Int32))], (g_X14_no_79 I1 G1 (1 : Int32)), G1, (gP rd))
      cases h
      refine am_iret hX hi rfl rfl (by decide +kernel) ?_
      exact ⟨rfl, rfl, rfl, rfl⟩
    · rw [if_neg c19] at h
      refine am_blk 22 [(.aload_n 0, 1, 0, 0, .null), (.iload_n 1, 1, 1, 0, .null), (.iload_n 2, 1, 2, 0, .null)] (25, [(0, .ref 79), (1, .int x1), (2, .int x2)], [.int x2, .int x1, .ref 79], I1, G1, (gP rd)) (True) hX hi (by decide +kernel) rfl trivial ?_
      obtain ⟨hq1, h⟩ := rg_some h
      refine am_callV hX hi (M := mX14_octaveTold) (idx := 354) (d' := 1) (b := 79) (ci := 12) (As := [.int x1, .int x2]) (rest := []) mkX14_octaveTold miX14_octaveTold mvX14_octaveTold (by decide +kernel) (by decide +kernel) rfl (by decide +kernel) rfl ⟨by omega, by decide, Nat.le_of_ble_eq_true rfl⟩ rfl (c_X14_octaveTold_79 _ I1 G1 x1 x2 hq1) ?_
      rintro r9 I9 G9 P9 ⟨e0, e1, e2, e3⟩
      rw [e0, e1, e2, e3]
      show am_V X 0 0 _ _ ad (28, [(0, .ref 79), (1, .int x1), (2, .int x2)], [.int (f_X14_octaveTold_79 I1 G1 x1 x2)], I1, G1, (gP rd))
      refine am_blk 28 [(.goto (8), 3, 0, 36, .null)] (36, [(0, .ref 79), (1, .int x1), (2, .int x2)], [.int (f_X14_octaveTold_79 I1 G1 x1 x2)], I1, G1, (gP rd)) (True) hX hi (by decide +kernel) rfl trivial ?_
      cases h
      refine am_iret hX hi rfl rfl (by decide +kernel) ?_
      exact ⟨rfl, rfl, rfl, rfl⟩
noncomputable def R_X14_gradient_79 (I : am_I) (G : am_G) (x1 : Int32) (x2 : Int32) (x3 : Int32) : Option (Int32 × am_I × am_G) := rb (R_X14_isOctave_79 (am_up I 79 0 (0 : Int32)) G x1) (fun r1 I1 G1 => (if r1 = 0 then some ((f_X14_no_79 I1 G1 (1 : Int32)), (g_X14_no_79 I1 G1 (1 : Int32)), G1) else (if (f_X14_isIn I1 G1 x2 (0 : Int32) (8 : Int32)) = 0 then some ((f_X14_no_79 I1 G1 (1 : Int32)), (g_X14_no_79 I1 G1 (1 : Int32)), G1) else (if (f_X14_isIn I1 G1 x3 (0 : Int32) (8 : Int32)) = 0 then some ((f_X14_no_79 I1 G1 (1 : Int32)), (g_X14_no_79 I1 G1 (1 : Int32)), G1) else rg (vp_in x1 4) (rg (q_X12_gradient_86 I1 G1 x1 (I1 103 x1.toNatClampNeg) x2 x3) (some ((f_X12_gradient_86 I1 G1 x1 (I1 103 x1.toNatClampNeg) x2 x3), I1, G1)))))))
set_option maxRecDepth 20000 in
set_option maxHeartbeats 4000000 in
theorem c_X14_gradient_79 (rd : Nat) (I : am_I) (G : am_G) (x1 : Int32) (x2 : Int32) (x3 : Int32) {out : Int32 × am_I × am_G} (h : R_X14_gradient_79 I G x1 x2 x3 = some out) : am_Ct mX14_gradient 3 gS [.ref 79, .int x1, .int x2, .int x3] I G (gP rd) (pI out.1 out.2.1 out.2.2 (gP rd)) := by
  refine am_ofF (by decide +kernel) rfl (by decide) (by omega) (Nat.le_of_ble_eq_true rfl) (fun X ad hX hi => ?_)
  have hi : am_info X 12 cX14_gradient 4 false (Option.some Jvm.ClassFile.FieldType.int) 3 := hi
  show am_V X 0 0 _ _ ad (0, [(0, .ref 79), (1, .int x1), (2, .int x2), (3, .int x3)], [], I, G, (gP rd))
  unfold R_X14_gradient_79 at h
  refine am_blk 0 [(.aload_n 0, 1, 0, 0, .null), (.iconst (0), 1, 0, 0, .int (0 : Int32)), (.putfield 57, 3, 12, 0, .null), (.aload_n 0, 1, 0, 0, .null), (.iload_n 1, 1, 1, 0, .null)] (7, [(0, .ref 79), (1, .int x1), (2, .int x2), (3, .int x3)], [.int x1, .ref 79], (am_up I 79 0 (0 : Int32)), G, (gP rd)) (True) hX hi (by decide +kernel) rfl trivial ?_
  obtain ⟨r1, I1, G1, hc, h⟩ := rb_some h
  refine am_callV hX hi (M := mX14_isOctave) (idx := 351) (d' := 2) (b := 79) (ci := 12) (As := [.int x1]) (rest := []) mkX14_isOctave miX14_isOctave mvX14_isOctave (by decide +kernel) (by decide +kernel) rfl (by decide +kernel) rfl ⟨by omega, by decide, Nat.le_of_ble_eq_true rfl⟩ rfl (c_X14_isOctave_79 _ (am_up I 79 0 (0 : Int32)) G x1 hc) ?_
  rintro r9 I9 G9 P9 ⟨e0, e1, e2, e3⟩
  rw [e0, e1, e2, e3]
  show am_V X 0 0 _ _ ad (10, [(0, .ref 79), (1, .int x1), (2, .int x2), (3, .int x3)], [.int r1], I1, G1, (gP rd))
  refine am_if_eq (tgt := 55) hX hi (off := (45)) (by decide +kernel) (by decide) (fun c10 => ?_) (fun c10 => ?_)
  · rw [if_pos c10] at h
    refine am_blk 55 [(.aload_n 0, 1, 0, 0, .null), (.iconst (1), 1, 0, 0, .int (1 : Int32))] (57, [(0, .ref 79), (1, .int x1), (2, .int x2), (3, .int x3)], [.int (1 : Int32), .ref 79], I1, G1, (gP rd)) (True) hX hi (by decide +kernel) rfl trivial ?_
    refine am_callV hX hi (M := mX14_no) (idx := 316) (d' := 1) (b := 79) (ci := 12) (As := [.int (1 : Int32)]) (rest := []) mkX14_no miX14_no mvX14_no (by decide +kernel) (by decide +kernel) rfl (by decide +kernel) rfl ⟨by omega, by decide, Nat.le_of_ble_eq_true rfl⟩ rfl (c_X14_no_79 _ I1 G1 (1 : Int32)) ?_
    rintro r9 I9 G9 P9 ⟨e0, e1, e2, e3⟩
    rw [e0, e1, e2, e3]
    show am_V X 0 0 _ _ ad (60, [(0, .ref 79), (1, .int x1), (2, .int x2), (3, .int x3)], [.int (f_X14_no_79 I1 G1 (1 : Int32))], (g_X14_no_79 I1 G1 (1 : Int32)), G1, (gP rd))
    cases h
    refine am_iret hX hi rfl rfl (by decide +kernel) ?_
    exact ⟨rfl, rfl, rfl, rfl⟩
  · rw [if_neg c10] at h
    refine am_blk 13 [(.iload_n 2, 1, 2, 0, .null), (.iconst (0), 1, 0, 0, .int (0 : Int32)), (.bipush (8), 2, 0, 0, .int (8 : Int32))] (17, [(0, .ref 79), (1, .int x1), (2, .int x2), (3, .int x3)], [.int (8 : Int32), .int (0 : Int32), .int x2], I1, G1, (gP rd)) (True) hX hi (by decide +kernel) rfl trivial ?_
    refine am_callS hX hi (M := mX14_isIn) (idx := 63) (d' := 1) (As := [.int x2, .int (0 : Int32), .int (8 : Int32)]) (rest := []) mkX14_isIn msX14_isIn (by decide +kernel) (by decide +kernel) rfl ⟨by omega, by decide, Nat.le_of_ble_eq_true rfl⟩ rfl (c_X14_isIn I1 G1 x2 (0 : Int32) (8 : Int32)) ?_
    rintro r9 I9 G9 P9 ⟨e0, e1, e2, e3⟩
    rw [e0, e1, e2, e3]
    show am_V X 0 0 _ _ ad (20, [(0, .ref 79), (1, .int x1), (2, .int x2), (3, .int x3)], [.int (f_X14_isIn I1 G1 x2 (0 : Int32) (8 : Int32))], I1, G1, (gP rd))
    refine am_if_eq (tgt := 55) hX hi (off := (35)) (by decide +kernel) (by decide) (fun c20 => ?_) (fun c20 => ?_)
    · rw [if_pos c20] at h
      refine am_blk 55 [(.aload_n 0, 1, 0, 0, .null), (.iconst (1), 1, 0, 0, .int (1 : Int32))] (57, [(0, .ref 79), (1, .int x1), (2, .int x2), (3, .int x3)], [.int (1 : Int32), .ref 79], I1, G1, (gP rd)) (True) hX hi (by decide +kernel) rfl trivial ?_
      refine am_callV hX hi (M := mX14_no) (idx := 316) (d' := 1) (b := 79) (ci := 12) (As := [.int (1 : Int32)]) (rest := []) mkX14_no miX14_no mvX14_no (by decide +kernel) (by decide +kernel) rfl (by decide +kernel) rfl ⟨by omega, by decide, Nat.le_of_ble_eq_true rfl⟩ rfl (c_X14_no_79 _ I1 G1 (1 : Int32)) ?_
      rintro r9 I9 G9 P9 ⟨e0, e1, e2, e3⟩
      rw [e0, e1, e2, e3]
      show am_V X 0 0 _ _ ad (60, [(0, .ref 79), (1, .int x1), (2, .int x2), (3, .int x3)], [.int (f_X14_no_79 I1 G1 (1 : Int32))], (g_X14_no_79 I1 G1 (1 : Int32)), G1, (gP rd))
      cases h
      refine am_iret hX hi rfl rfl (by decide +kernel) ?_
      exact ⟨rfl, rfl, rfl, rfl⟩
    · rw [if_neg c20] at h
      refine am_blk 23 [(.iload_n 3, 1, 3, 0, .null), (.iconst (0), 1, 0, 0, .int (0 : Int32)), (.bipush (8), 2, 0, 0, .int (8 : Int32))] (27, [(0, .ref 79), (1, .int x1), (2, .int x2), (3, .int x3)], [.int (8 : Int32), .int (0 : Int32), .int x3], I1, G1, (gP rd)) (True) hX hi (by decide +kernel) rfl trivial ?_
      refine am_callS hX hi (M := mX14_isIn) (idx := 63) (d' := 1) (As := [.int x3, .int (0 : Int32), .int (8 : Int32)]) (rest := []) mkX14_isIn msX14_isIn (by decide +kernel) (by decide +kernel) rfl ⟨by omega, by decide, Nat.le_of_ble_eq_true rfl⟩ rfl (c_X14_isIn I1 G1 x3 (0 : Int32) (8 : Int32)) ?_
      rintro r9 I9 G9 P9 ⟨e0, e1, e2, e3⟩
      rw [e0, e1, e2, e3]
      show am_V X 0 0 _ _ ad (30, [(0, .ref 79), (1, .int x1), (2, .int x2), (3, .int x3)], [.int (f_X14_isIn I1 G1 x3 (0 : Int32) (8 : Int32))], I1, G1, (gP rd))
      refine am_if_eq (tgt := 55) hX hi (off := (25)) (by decide +kernel) (by decide) (fun c30 => ?_) (fun c30 => ?_)
      · rw [if_pos c30] at h
        refine am_blk 55 [(.aload_n 0, 1, 0, 0, .null), (.iconst (1), 1, 0, 0, .int (1 : Int32))] (57, [(0, .ref 79), (1, .int x1), (2, .int x2), (3, .int x3)], [.int (1 : Int32), .ref 79], I1, G1, (gP rd)) (True) hX hi (by decide +kernel) rfl trivial ?_
        refine am_callV hX hi (M := mX14_no) (idx := 316) (d' := 1) (b := 79) (ci := 12) (As := [.int (1 : Int32)]) (rest := []) mkX14_no miX14_no mvX14_no (by decide +kernel) (by decide +kernel) rfl (by decide +kernel) rfl ⟨by omega, by decide, Nat.le_of_ble_eq_true rfl⟩ rfl (c_X14_no_79 _ I1 G1 (1 : Int32)) ?_
        rintro r9 I9 G9 P9 ⟨e0, e1, e2, e3⟩
        rw [e0, e1, e2, e3]
        show am_V X 0 0 _ _ ad (60, [(0, .ref 79), (1, .int x1), (2, .int x2), (3, .int x3)], [.int (f_X14_no_79 I1 G1 (1 : Int32))], (g_X14_no_79 I1 G1 (1 : Int32)), G1, (gP rd))
        cases h
        refine am_iret hX hi rfl rfl (by decide +kernel) ?_
        exact ⟨rfl, rfl, rfl, rfl⟩
      · rw [if_neg c30] at h
        obtain ⟨g0, h⟩ := rg_some h
        refine am_blk 33 [(.aload_n 0, 1, 0, 0, .null), (.getfield 35, 3, 12, 11, .null), (.iload_n 1, 1, 1, 0, .null), (.aload_n 0, 1, 0, 0, .null), (.getfield 47, 3, 12, 13, .null), (.getfield 350, 3, 11, 4, .null), (.iload_n 1, 1, 1, 0, .null), (.iaload, 1, 0, 0, .null), (.iload_n 2, 1, 2, 0, .null), (.iload_n 3, 1, 3, 0, .null)] (49, [(0, .ref 79), (1, .int x1), (2, .int x2), (3, .int x3)], [.int x3, .int x2, .int (I1 103 x1.toNatClampNeg), .int x1, .ref 86], I1, G1, (gP rd)) (vp_in x1 4 ∧ True) hX hi (by decide +kernel) rfl ⟨g0, trivial⟩ ?_
        obtain ⟨hq1, h⟩ := rg_some h
        refine am_callV hX hi (M := mX12_gradient) (idx := 357) (d' := 1) (b := 86) (ci := 10) (As := [.int x1, .int (I1 103 x1.toNatClampNeg), .int x2, .int x3]) (rest := []) mkX12_gradient miX12_gradient mvX12_gradient (by decide +kernel) (by decide +kernel) rfl (by decide +kernel) rfl ⟨by omega, by decide, Nat.le_of_ble_eq_true rfl⟩ rfl (c_X12_gradient_86 _ I1 G1 x1 (I1 103 x1.toNatClampNeg) x2 x3 hq1) ?_
        rintro r9 I9 G9 P9 ⟨e0, e1, e2, e3⟩
        rw [e0, e1, e2, e3]
        show am_V X 0 0 _ _ ad (52, [(0, .ref 79), (1, .int x1), (2, .int x2), (3, .int x3)], [.int (f_X12_gradient_86 I1 G1 x1 (I1 103 x1.toNatClampNeg) x2 x3)], I1, G1, (gP rd))
        refine am_blk 52 [(.goto (8), 3, 0, 60, .null)] (60, [(0, .ref 79), (1, .int x1), (2, .int x2), (3, .int x3)], [.int (f_X12_gradient_86 I1 G1 x1 (I1 103 x1.toNatClampNeg) x2 x3)], I1, G1, (gP rd)) (True) hX hi (by decide +kernel) rfl trivial ?_
        cases h
        refine am_iret hX hi rfl rfl (by decide +kernel) ?_
        exact ⟨rfl, rfl, rfl, rfl⟩
noncomputable def R_X14_value_79 (I : am_I) (G : am_G) (x1 : Int32) (x2 : Int32) (x3 : Int32) : Option (Int32 × am_I × am_G) := rb (R_X14_isOctave_79 (am_up I 79 0 (0 : Int32)) G x1) (fun r1 I1 G1 => (if r1 = 0 then some ((f_X14_no_79 I1 G1 (1 : Int32)), (g_X14_no_79 I1 G1 (1 : Int32)), G1) else rg (q_X12_spot_86 I1 G1 x2 x3) (rb (R_X13_value_102 I1 G1 x1 (f_X12_spot_86 I1 G1 x2 x3)) (fun r2 I2 G2 => some (r2, I2, G2)))))
set_option maxRecDepth 20000 in
set_option maxHeartbeats 4000000 in
theorem c_X14_value_79 (rd : Nat) (I : am_I) (G : am_G) (x1 : Int32) (x2 : Int32) (x3 : Int32) {out : Int32 × am_I × am_G} (h : R_X14_value_79 I G x1 x2 x3 = some out) : am_Ct mX14_value 7 gS [.ref 79, .int x1, .int x2, .int x3] I G (gP rd) (pI out.1 out.2.1 out.2.2 (gP rd)) := by
  refine am_ofF (by decide +kernel) rfl (by decide) (by omega) (Nat.le_of_ble_eq_true rfl) (fun X ad hX hi => ?_)
  have hi : am_info X 12 cX14_value 4 false (Option.some Jvm.ClassFile.FieldType.int) 7 := hi
  show am_V X 0 0 _ _ ad (0, [(0, .ref 79), (1, .int x1), (2, .int x2), (3, .int x3)], [], I, G, (gP rd))
  unfold R_X14_value_79 at h
  refine am_blk 0 [(.aload_n 0, 1, 0, 0, .null), (.iconst (0), 1, 0, 0, .int (0 : Int32)), (.putfield 57, 3, 12, 0, .null), (.aload_n 0, 1, 0, 0, .null), (.iload_n 1, 1, 1, 0, .null)] (7, [(0, .ref 79), (1, .int x1), (2, .int x2), (3, .int x3)], [.int x1, .ref 79], (am_up I 79 0 (0 : Int32)), G, (gP rd)) (True) hX hi (by decide +kernel) rfl trivial ?_
  obtain ⟨r1, I1, G1, hc, h⟩ := rb_some h
  refine am_callV hX hi (M := mX14_isOctave) (idx := 351) (d' := 2) (b := 79) (ci := 12) (As := [.int x1]) (rest := []) mkX14_isOctave miX14_isOctave mvX14_isOctave (by decide +kernel) (by decide +kernel) rfl (by decide +kernel) rfl ⟨by omega, by decide, Nat.le_of_ble_eq_true rfl⟩ rfl (c_X14_isOctave_79 _ (am_up I 79 0 (0 : Int32)) G x1 hc) ?_
  rintro r9 I9 G9 P9 ⟨e0, e1, e2, e3⟩
  rw [e0, e1, e2, e3]
  show am_V X 0 0 _ _ ad (10, [(0, .ref 79), (1, .int x1), (2, .int x2), (3, .int x3)], [.int r1], I1, G1, (gP rd))
  refine am_if_eq (tgt := 33) hX hi (off := (23)) (by decide +kernel) (by decide) (fun c10 => ?_) (fun c10 => ?_)
  · rw [if_pos c10] at h
    refine am_blk 33 [(.aload_n 0, 1, 0, 0, .null), (.iconst (1), 1, 0, 0, .int (1 : Int32))] (35, [(0, .ref 79), (1, .int x1), (2, .int x2), (3, .int x3)], [.int (1 : Int32), .ref 79], I1, G1, (gP rd)) (True) hX hi (by decide +kernel) rfl trivial ?_
    refine am_callV hX hi (M := mX14_no) (idx := 316) (d' := 1) (b := 79) (ci := 12) (As := [.int (1 : Int32)]) (rest := []) mkX14_no miX14_no mvX14_no (by decide +kernel) (by decide +kernel) rfl (by decide +kernel) rfl ⟨by omega, by decide, Nat.le_of_ble_eq_true rfl⟩ rfl (c_X14_no_79 _ I1 G1 (1 : Int32)) ?_
    rintro r9 I9 G9 P9 ⟨e0, e1, e2, e3⟩
    rw [e0, e1, e2, e3]
    show am_V X 0 0 _ _ ad (38, [(0, .ref 79), (1, .int x1), (2, .int x2), (3, .int x3)], [.int (f_X14_no_79 I1 G1 (1 : Int32))], (g_X14_no_79 I1 G1 (1 : Int32)), G1, (gP rd))
    cases h
    refine am_iret hX hi rfl rfl (by decide +kernel) ?_
    exact ⟨rfl, rfl, rfl, rfl⟩
  · rw [if_neg c10] at h
    refine am_blk 13 [(.aload_n 0, 1, 0, 0, .null), (.getfield 47, 3, 12, 13, .null), (.iload_n 1, 1, 1, 0, .null), (.aload_n 0, 1, 0, 0, .null), (.getfield 35, 3, 12, 11, .null), (.iload_n 2, 1, 2, 0, .null), (.iload_n 3, 1, 3, 0, .null)] (24, [(0, .ref 79), (1, .int x1), (2, .int x2), (3, .int x3)], [.int x3, .int x2, .ref 86, .int x1, .ref 102], I1, G1, (gP rd)) (True) hX hi (by decide +kernel) rfl trivial ?_
    obtain ⟨hq1, h⟩ := rg_some h
    refine am_callV hX hi (M := mX12_spot) (idx := 329) (d' := 2) (b := 86) (ci := 10) (As := [.int x2, .int x3]) (rest := [.int x1, .ref 102]) mkX12_spot miX12_spot mvX12_spot (by decide +kernel) (by decide +kernel) rfl (by decide +kernel) rfl ⟨by omega, by decide, Nat.le_of_ble_eq_true rfl⟩ rfl (c_X12_spot_86 _ I1 G1 x2 x3 hq1) ?_
    rintro r9 I9 G9 P9 ⟨e0, e1, e2, e3⟩
    rw [e0, e1, e2, e3]
    show am_V X 0 0 _ _ ad (27, [(0, .ref 79), (1, .int x1), (2, .int x2), (3, .int x3)], [.int (f_X12_spot_86 I1 G1 x2 x3), .int x1, .ref 102], I1, G1, (gP rd))
    obtain ⟨r2, I2, G2, hc, h⟩ := rb_some h
    refine am_callV hX hi (M := mX13_value) (idx := 361) (d' := 6) (b := 102) (ci := 11) (As := [.int x1, .int (f_X12_spot_86 I1 G1 x2 x3)]) (rest := []) mkX13_value miX13_value mvX13_value (by decide +kernel) (by decide +kernel) rfl (by decide +kernel) rfl ⟨by omega, by decide, Nat.le_of_ble_eq_true rfl⟩ rfl (c_X13_value_102 _ I1 G1 x1 (f_X12_spot_86 I1 G1 x2 x3) hc) ?_
    rintro r9 I9 G9 P9 ⟨e0, e1, e2, e3⟩
    rw [e0, e1, e2, e3]
    show am_V X 0 0 _ _ ad (30, [(0, .ref 79), (1, .int x1), (2, .int x2), (3, .int x3)], [.int r2], I2, G2, (gP rd))
    refine am_blk 30 [(.goto (8), 3, 0, 38, .null)] (38, [(0, .ref 79), (1, .int x1), (2, .int x2), (3, .int x3)], [.int r2], I2, G2, (gP rd)) (True) hX hi (by decide +kernel) rfl trivial ?_
    cases h
    refine am_iret hX hi rfl rfl (by decide +kernel) ?_
    exact ⟨rfl, rfl, rfl, rfl⟩
noncomputable def R_X14_comb_79 (I : am_I) (G : am_G) (x1 : Int32) (x2 : Int32) : Option (Int32 × am_I × am_G) := rb (R_X14_isComb_79 (am_up I 79 0 (0 : Int32)) G x1) (fun r1 I1 G1 => (if r1 = 0 then some ((f_X14_no_79 I1 G1 (1 : Int32)), (g_X14_no_79 I1 G1 (1 : Int32)), G1) else (if (f_X14_isIn I1 G1 x2 (0 : Int32) (2 : Int32)) = 0 then some ((f_X14_no_79 I1 G1 (1 : Int32)), (g_X14_no_79 I1 G1 (1 : Int32)), G1) else rg (q_X14_combTold_79 I1 G1 x1 x2) (some ((f_X14_combTold_79 I1 G1 x1 x2), I1, G1)))))
set_option maxRecDepth 20000 in
set_option maxHeartbeats 4000000 in
theorem c_X14_comb_79 (rd : Nat) (I : am_I) (G : am_G) (x1 : Int32) (x2 : Int32) {out : Int32 × am_I × am_G} (h : R_X14_comb_79 I G x1 x2 = some out) : am_Ct mX14_comb 3 gS [.ref 79, .int x1, .int x2] I G (gP rd) (pI out.1 out.2.1 out.2.2 (gP rd)) := by
  refine am_ofF (by decide +kernel) rfl (by decide) (by omega) (Nat.le_of_ble_eq_true rfl) (fun X ad hX hi => ?_)
  have hi : am_info X 12 cX14_comb 3 false (Option.some Jvm.ClassFile.FieldType.int) 3 := hi
  show am_V X 0 0 _ _ ad (0, [(0, .ref 79), (1, .int x1), (2, .int x2)], [], I, G, (gP rd))
  unfold R_X14_comb_79 at h
  refine am_blk 0 [(.aload_n 0, 1, 0, 0, .null), (.iconst (0), 1, 0, 0, .int (0 : Int32)), (.putfield 57, 3, 12, 0, .null), (.aload_n 0, 1, 0, 0, .null), (.iload_n 1, 1, 1, 0, .null)] (7, [(0, .ref 79), (1, .int x1), (2, .int x2)], [.int x1, .ref 79], (am_up I 79 0 (0 : Int32)), G, (gP rd)) (True) hX hi (by decide +kernel) rfl trivial ?_
  obtain ⟨r1, I1, G1, hc, h⟩ := rb_some h
  refine am_callV hX hi (M := mX14_isComb) (idx := 365) (d' := 2) (b := 79) (ci := 12) (As := [.int x1]) (rest := []) mkX14_isComb miX14_isComb mvX14_isComb (by decide +kernel) (by decide +kernel) rfl (by decide +kernel) rfl ⟨by omega, by decide, Nat.le_of_ble_eq_true rfl⟩ rfl (c_X14_isComb_79 _ (am_up I 79 0 (0 : Int32)) G x1 hc) ?_
  rintro r9 I9 G9 P9 ⟨e0, e1, e2, e3⟩
  rw [e0, e1, e2, e3]
  show am_V X 0 0 _ _ ad (10, [(0, .ref 79), (1, .int x1), (2, .int x2)], [.int r1], I1, G1, (gP rd))
  refine am_if_eq (tgt := 31) hX hi (off := (21)) (by decide +kernel) (by decide) (fun c10 => ?_) (fun c10 => ?_)
  · rw [if_pos c10] at h
    refine am_blk 31 [(.aload_n 0, 1, 0, 0, .null), (.iconst (1), 1, 0, 0, .int (1 : Int32))] (33, [(0, .ref 79), (1, .int x1), (2, .int x2)], [.int (1 : Int32), .ref 79], I1, G1, (gP rd)) (True) hX hi (by decide +kernel) rfl trivial ?_
    refine am_callV hX hi (M := mX14_no) (idx := 316) (d' := 1) (b := 79) (ci := 12) (As := [.int (1 : Int32)]) (rest := []) mkX14_no miX14_no mvX14_no (by decide +kernel) (by decide +kernel) rfl (by decide +kernel) rfl ⟨by omega, by decide, Nat.le_of_ble_eq_true rfl⟩ rfl (c_X14_no_79 _ I1 G1 (1 : Int32)) ?_
    rintro r9 I9 G9 P9 ⟨e0, e1, e2, e3⟩
    rw [e0, e1, e2, e3]
    show am_V X 0 0 _ _ ad (36, [(0, .ref 79), (1, .int x1), (2, .int x2)], [.int (f_X14_no_79 I1 G1 (1 : Int32))], (g_X14_no_79 I1 G1 (1 : Int32)), G1, (gP rd))
    cases h
    refine am_iret hX hi rfl rfl (by decide +kernel) ?_
    exact ⟨rfl, rfl, rfl, rfl⟩
  · rw [if_neg c10] at h
    refine am_blk 13 [(.iload_n 2, 1, 2, 0, .null), (.iconst (0), 1, 0, 0, .int (0 : Int32)), (.iconst (2), 1, 0, 0, .int (2 : Int32))] (16, [(0, .ref 79), (1, .int x1), (2, .int x2)], [.int (2 : Int32), .int (0 : Int32), .int x2], I1, G1, (gP rd)) (True) hX hi (by decide +kernel) rfl trivial ?_
    refine am_callS hX hi (M := mX14_isIn) (idx := 63) (d' := 1) (As := [.int x2, .int (0 : Int32), .int (2 : Int32)]) (rest := []) mkX14_isIn msX14_isIn (by decide +kernel) (by decide +kernel) rfl ⟨by omega, by decide, Nat.le_of_ble_eq_true rfl⟩ rfl (c_X14_isIn I1 G1 x2 (0 : Int32) (2 : Int32)) ?_
    rintro r9 I9 G9 P9 ⟨e0, e1, e2, e3⟩
    rw [e0, e1, e2, e3]
    show am_V X 0 0 _ _ ad (19, [(0, .ref 79), (1, .int x1), (2, .int x2)], [.int (f_X14_isIn I1 G1 x2 (0 : Int32) (2 : Int32))], I1, G1, (gP rd))
    refine am_if_eq (tgt := 31) hX hi (off := (12)) (by decide +kernel) (by decide) (fun c19 => ?_) (fun c19 => ?_)
    · rw [if_pos c19] at h
      refine am_blk 31 [(.aload_n 0, 1, 0, 0, .null), (.iconst (1), 1, 0, 0, .int (1 : Int32))] (33, [(0, .ref 79), (1, .int x1), (2, .int x2)], [.int (1 : Int32), .ref 79], I1, G1, (gP rd)) (True) hX hi (by decide +kernel) rfl trivial ?_
      refine am_callV hX hi (M := mX14_no) (idx := 316) (d' := 1) (b := 79) (ci := 12) (As := [.int (1 : Int32)]) (rest := []) mkX14_no miX14_no mvX14_no (by decide +kernel) (by decide +kernel) rfl (by decide +kernel) rfl ⟨by omega, by decide, Nat.le_of_ble_eq_true rfl⟩ rfl (c_X14_no_79 _ I1 G1 (1 : Int32)) ?_
      rintro r9 I9 G9 P9 ⟨e0, e1, e2, e3⟩
      rw [e0, e1, e2, e3]
      show am_V X 0 0 _ _ ad (36, [(0, .ref 79), (1, .int x1), (2, .int x2)], [.int (f_X14_no_79 I1 G1 (1 : Int32))], (g_X14_no_79 I1 G1 (1 : Int32)), G1, (gP rd))
      cases h
      refine am_iret hX hi rfl rfl (by decide +kernel) ?_
      exact ⟨rfl, rfl, rfl, rfl⟩
    · rw [if_neg c19] at h
      refine am_blk 22 [(.aload_n 0, 1, 0, 0, .null), (.iload_n 1, 1, 1, 0, .null), (.iload_n 2, 1, 2, 0, .null)] (25, [(0, .ref 79), (1, .int x1), (2, .int x2)], [.int x2, .int x1, .ref 79], I1, G1, (gP rd)) (True) hX hi (by decide +kernel) rfl trivial ?_
      obtain ⟨hq1, h⟩ := rg_some h
      refine am_callV hX hi (M := mX14_combTold) (idx := 368) (d' := 1) (b := 79) (ci := 12) (As := [.int x1, .int x2]) (rest := []) mkX14_combTold miX14_combTold mvX14_combTold (by decide +kernel) (by decide +kernel) rfl (by decide +kernel) rfl ⟨by omega, by decide, Nat.le_of_ble_eq_true rfl⟩ rfl (c_X14_combTold_79 _ I1 G1 x1 x2 hq1) ?_
      rintro r9 I9 G9 P9 ⟨e0, e1, e2, e3⟩
      rw [e0, e1, e2, e3]
      show am_V X 0 0 _ _ ad (28, [(0, .ref 79), (1, .int x1), (2, .int x2)], [.int (f_X14_combTold_79 I1 G1 x1 x2)], I1, G1, (gP rd))
      refine am_blk 28 [(.goto (8), 3, 0, 36, .null)] (36, [(0, .ref 79), (1, .int x1), (2, .int x2)], [.int (f_X14_combTold_79 I1 G1 x1 x2)], I1, G1, (gP rd)) (True) hX hi (by decide +kernel) rfl trivial ?_
      cases h
      refine am_iret hX hi rfl rfl (by decide +kernel) ?_
      exact ⟨rfl, rfl, rfl, rfl⟩
noncomputable def R_X14_moves_79 (I : am_I) (G : am_G) (x1 : Int32) (x2 : Int32) : Option (Int32 × am_I × am_G) := rb (R_X14_isComb_79 (am_up I 79 0 (0 : Int32)) G x1) (fun r1 I1 G1 => (if r1 = 0 then some ((f_X14_no_79 I1 G1 (1 : Int32)), (g_X14_no_79 I1 G1 (1 : Int32)), G1) else rg (q_X13_moves_102 I1 G1 x1 x2) (some ((f_X13_moves_102 I1 G1 x1 x2), I1, G1))))
set_option maxRecDepth 20000 in
set_option maxHeartbeats 4000000 in
theorem c_X14_moves_79 (rd : Nat) (I : am_I) (G : am_G) (x1 : Int32) (x2 : Int32) {out : Int32 × am_I × am_G} (h : R_X14_moves_79 I G x1 x2 = some out) : am_Ct mX14_moves 3 gS [.ref 79, .int x1, .int x2] I G (gP rd) (pI out.1 out.2.1 out.2.2 (gP rd)) := by
  refine am_ofF (by decide +kernel) rfl (by decide) (by omega) (Nat.le_of_ble_eq_true rfl) (fun X ad hX hi => ?_)
  have hi : am_info X 12 cX14_moves 3 false (Option.some Jvm.ClassFile.FieldType.int) 3 := hi
  show am_V X 0 0 _ _ ad (0, [(0, .ref 79), (1, .int x1), (2, .int x2)], [], I, G, (gP rd))
  unfold R_X14_moves_79 at h
  refine am_blk 0 [(.aload_n 0, 1, 0, 0, .null), (.iconst (0), 1, 0, 0, .int (0 : Int32)), (.putfield 57, 3, 12, 0, .null), (.aload_n 0, 1, 0, 0, .null), (.iload_n 1, 1, 1, 0, .null)] (7, [(0, .ref 79), (1, .int x1), (2, .int x2)], [.int x1, .ref 79], (am_up I 79 0 (0 : Int32)), G, (gP rd)) (True) hX hi (by decide +kernel) rfl trivial ?_
  obtain ⟨r1, I1, G1, hc, h⟩ := rb_some h
  refine am_callV hX hi (M := mX14_isComb) (idx := 365) (d' := 2) (b := 79) (ci := 12) (As := [.int x1]) (rest := []) mkX14_isComb miX14_isComb mvX14_isComb (by decide +kernel) (by decide +kernel) rfl (by decide +kernel) rfl ⟨by omega, by decide, Nat.le_of_ble_eq_true rfl⟩ rfl (c_X14_isComb_79 _ (am_up I 79 0 (0 : Int32)) G x1 hc) ?_
  rintro r9 I9 G9 P9 ⟨e0, e1, e2, e3⟩
  rw [e0, e1, e2, e3]
  show am_V X 0 0 _ _ ad (10, [(0, .ref 79), (1, .int x1), (2, .int x2)], [.int r1], I1, G1, (gP rd))
  refine am_if_eq (tgt := 25) hX hi (off := (15)) (by decide +kernel) (by decide) (fun c10 => ?_) (fun c10 => ?_)
  · rw [if_pos c10] at h
    refine am_blk 25 [(.aload_n 0, 1, 0, 0, .null), (.iconst (1), 1, 0, 0, .int (1 : Int32))] (27, [(0, .ref 79), (1, .int x1), (2, .int x2)], [.int (1 : Int32), .ref 79], I1, G1, (gP rd)) (True) hX hi (by decide +kernel) rfl trivial ?_
    refine am_callV hX hi (M := mX14_no) (idx := 316) (d' := 1) (b := 79) (ci := 12) (As := [.int (1 : Int32)]) (rest := []) mkX14_no miX14_no mvX14_no (by decide +kernel) (by decide +kernel) rfl (by decide +kernel) rfl ⟨by omega, by decide, Nat.le_of_ble_eq_true rfl⟩ rfl (c_X14_no_79 _ I1 G1 (1 : Int32)) ?_
    rintro r9 I9 G9 P9 ⟨e0, e1, e2, e3⟩
    rw [e0, e1, e2, e3]
    show am_V X 0 0 _ _ ad (30, [(0, .ref 79), (1, .int x1), (2, .int x2)], [.int (f_X14_no_79 I1 G1 (1 : Int32))], (g_X14_no_79 I1 G1 (1 : Int32)), G1, (gP rd))
    cases h
    refine am_iret hX hi rfl rfl (by decide +kernel) ?_
    exact ⟨rfl, rfl, rfl, rfl⟩
  · rw [if_neg c10] at h
    refine am_blk 13 [(.aload_n 0, 1, 0, 0, .null), (.getfield 47, 3, 12, 13, .null), (.iload_n 1, 1, 1, 0, .null), (.iload_n 2, 1, 2, 0, .null)] (19, [(0, .ref 79), (1, .int x1), (2, .int x2)], [.int x2, .int x1, .ref 102], I1, G1, (gP rd)) (True) hX hi (by decide +kernel) rfl trivial ?_
    obtain ⟨hq1, h⟩ := rg_some h
    refine am_callV hX hi (M := mX13_moves) (idx := 371) (d' := 2) (b := 102) (ci := 11) (As := [.int x1, .int x2]) (rest := []) mkX13_moves miX13_moves mvX13_moves (by decide +kernel) (by decide +kernel) rfl (by decide +kernel) rfl ⟨by omega, by decide, Nat.le_of_ble_eq_true rfl⟩ rfl (c_X13_moves_102 _ I1 G1 x1 x2 hq1) ?_
    rintro r9 I9 G9 P9 ⟨e0, e1, e2, e3⟩
    rw [e0, e1, e2, e3]
    show am_V X 0 0 _ _ ad (22, [(0, .ref 79), (1, .int x1), (2, .int x2)], [.int (f_X13_moves_102 I1 G1 x1 x2)], I1, G1, (gP rd))
    refine am_blk 22 [(.goto (8), 3, 0, 30, .null)] (30, [(0, .ref 79), (1, .int x1), (2, .int x2)], [.int (f_X13_moves_102 I1 G1 x1 x2)], I1, G1, (gP rd)) (True) hX hi (by decide +kernel) rfl trivial ?_
    cases h
    refine am_iret hX hi rfl rfl (by decide +kernel) ?_
    exact ⟨rfl, rfl, rfl, rfl⟩
noncomputable def R_X14_setPull_79 (I : am_I) (G : am_G) (x1 : Int32) (x2 : Int32) : Option (Int32 × am_I × am_G) := rb (R_X14_isComb_79 (am_up I 79 0 (0 : Int32)) G x1) (fun r1 I1 G1 => (if r1 = 0 then some ((f_X14_no_79 I1 G1 (1 : Int32)), (g_X14_no_79 I1 G1 (1 : Int32)), G1) else (if (f_X14_isIn I1 G1 x2 (0 : Int32) (16 : Int32)) = 0 then some ((f_X14_no_79 I1 G1 (2 : Int32)), (g_X14_no_79 I1 G1 (2 : Int32)), G1) else rg (vp_in x1 4) (rg (q_X13_letPull_102 I1 G1 x1 x2) (some ((I1 104 x1.toNatClampNeg), (g_X13_letPull_102 I1 G1 x1 x2), G1))))))
set_option maxRecDepth 20000 in
set_option maxHeartbeats 4000000 in
theorem c_X14_setPull_79 (rd : Nat) (I : am_I) (G : am_G) (x1 : Int32) (x2 : Int32) {out : Int32 × am_I × am_G} (h : R_X14_setPull_79 I G x1 x2 = some out) : am_Ct mX14_setPull 3 gS [.ref 79, .int x1, .int x2] I G (gP rd) (pI out.1 out.2.1 out.2.2 (gP rd)) := by
  refine am_ofF (by decide +kernel) rfl (by decide) (by omega) (Nat.le_of_ble_eq_true rfl) (fun X ad hX hi => ?_)
  have hi : am_info X 12 cX14_setPull 4 false (Option.some Jvm.ClassFile.FieldType.int) 3 := hi
  show am_V X 0 0 _ _ ad (0, [(0, .ref 79), (1, .int x1), (2, .int x2)], [], I, G, (gP rd))
  unfold R_X14_setPull_79 at h
  refine am_blk 0 [(.aload_n 0, 1, 0, 0, .null), (.iconst (0), 1, 0, 0, .int (0 : Int32)), (.putfield 57, 3, 12, 0, .null), (.aload_n 0, 1, 0, 0, .null), (.iload_n 1, 1, 1, 0, .null)] (7, [(0, .ref 79), (1, .int x1), (2, .int x2)], [.int x1, .ref 79], (am_up I 79 0 (0 : Int32)), G, (gP rd)) (True) hX hi (by decide +kernel) rfl trivial ?_
  obtain ⟨r1, I1, G1, hc, h⟩ := rb_some h
  refine am_callV hX hi (M := mX14_isComb) (idx := 365) (d' := 2) (b := 79) (ci := 12) (As := [.int x1]) (rest := []) mkX14_isComb miX14_isComb mvX14_isComb (by decide +kernel) (by decide +kernel) rfl (by decide +kernel) rfl ⟨by omega, by decide, Nat.le_of_ble_eq_true rfl⟩ rfl (c_X14_isComb_79 _ (am_up I 79 0 (0 : Int32)) G x1 hc) ?_
  rintro r9 I9 G9 P9 ⟨e0, e1, e2, e3⟩
  rw [e0, e1, e2, e3]
  show am_V X 0 0 _ _ ad (10, [(0, .ref 79), (1, .int x1), (2, .int x2)], [.int r1], I1, G1, (gP rd))
  refine am_if_ne (tgt := 19) hX hi (off := (9)) (by decide +kernel) (by decide) (fun c10 => ?_) (fun c10 => ?_)
  · rw [if_neg c10] at h
    refine am_blk 19 [(.iload_n 2, 1, 2, 0, .null), (.iconst (0), 1, 0, 0, .int (0 : Int32)), (.bipush (16), 2, 0, 0, .int (16 : Int32))] (23, [(0, .ref 79), (1, .int x1), (2, .int x2)], [.int (16 : Int32), .int (0 : Int32), .int x2], I1, G1, (gP rd)) (True) hX hi (by decide +kernel) rfl trivial ?_
    refine am_callS hX hi (M := mX14_isIn) (idx := 63) (d' := 1) (As := [.int x2, .int (0 : Int32), .int (16 : Int32)]) (rest := []) mkX14_isIn msX14_isIn (by decide +kernel) (by decide +kernel) rfl ⟨by omega, by decide, Nat.le_of_ble_eq_true rfl⟩ rfl (c_X14_isIn I1 G1 x2 (0 : Int32) (16 : Int32)) ?_
    rintro r9 I9 G9 P9 ⟨e0, e1, e2, e3⟩
    rw [e0, e1, e2, e3]
    show am_V X 0 0 _ _ ad (26, [(0, .ref 79), (1, .int x1), (2, .int x2)], [.int (f_X14_isIn I1 G1 x2 (0 : Int32) (16 : Int32))], I1, G1, (gP rd))
    refine am_if_ne (tgt := 35) hX hi (off := (9)) (by decide +kernel) (by decide) (fun c26 => ?_) (fun c26 => ?_)
    · rw [if_neg c26] at h
      obtain ⟨g0, h⟩ := rg_some h
      refine am_blk 35 [(.aload_n 0, 1, 0, 0, .null), (.getfield 47, 3, 12, 13, .null), (.getfield 364, 3, 11, 5, .null), (.iload_n 1, 1, 1, 0, .null), (.iaload, 1, 0, 0, .null), (.istore_n 3, 1, 3, 0, .null), (.aload_n 0, 1, 0, 0, .null), (.getfield 47, 3, 12, 13, .null), (.iload_n 1, 1, 1, 0, .null), (.iload_n 2, 1, 2, 0, .null)] (51, [(0, .ref 79), (1, .int x1), (2, .int x2), (3, .int (I1 104 x1.toNatClampNeg))], [.int x2, .int x1, .ref 102], I1, G1, (gP rd)) (vp_in x1 4 ∧ True) hX hi (by decide +kernel) rfl ⟨g0, trivial⟩ ?_
      obtain ⟨hq1, h⟩ := rg_some h
      refine am_callV hX hi (M := mX13_letPull) (idx := 374) (d' := 1) (b := 102) (ci := 11) (As := [.int x1, .int x2]) (rest := []) mkX13_letPull miX13_letPull mvX13_letPull (by decide +kernel) (by decide +kernel) rfl (by decide +kernel) rfl ⟨by omega, by decide, Nat.le_of_ble_eq_true rfl⟩ rfl (c_X13_letPull_102 _ I1 G1 x1 x2 hq1) ?_
      rintro r9 I9 G9 P9 ⟨e0, e1, e2, e3⟩
      rw [e0, e1, e2, e3]
      show am_V X 0 0 _ _ ad (54, [(0, .ref 79), (1, .int x1), (2, .int x2), (3, .int (I1 104 x1.toNatClampNeg))], [.int (f_X13_letPull_102 I1 G1 x1 x2)], (g_X13_letPull_102 I1 G1 x1 x2), G1, (gP rd))
      refine am_blk 54 [(.pop, 1, 0, 0, .null), (.iload_n 3, 1, 3, 0, .null)] (56, [(0, .ref 79), (1, .int x1), (2, .int x2), (3, .int (I1 104 x1.toNatClampNeg))], [.int (I1 104 x1.toNatClampNeg)], (g_X13_letPull_102 I1 G1 x1 x2), G1, (gP rd)) (True) hX hi (by decide +kernel) rfl trivial ?_
      cases h
      refine am_iret hX hi rfl rfl (by decide +kernel) ?_
      exact ⟨rfl, rfl, rfl, rfl⟩
    · rw [if_pos c26] at h
      refine am_blk 29 [(.aload_n 0, 1, 0, 0, .null), (.iconst (2), 1, 0, 0, .int (2 : Int32))] (31, [(0, .ref 79), (1, .int x1), (2, .int x2)], [.int (2 : Int32), .ref 79], I1, G1, (gP rd)) (True) hX hi (by decide +kernel) rfl trivial ?_
      refine am_callV hX hi (M := mX14_no) (idx := 316) (d' := 1) (b := 79) (ci := 12) (As := [.int (2 : Int32)]) (rest := []) mkX14_no miX14_no mvX14_no (by decide +kernel) (by decide +kernel) rfl (by decide +kernel) rfl ⟨by omega, by decide, Nat.le_of_ble_eq_true rfl⟩ rfl (c_X14_no_79 _ I1 G1 (2 : Int32)) ?_
      rintro r9 I9 G9 P9 ⟨e0, e1, e2, e3⟩
      rw [e0, e1, e2, e3]
      show am_V X 0 0 _ _ ad (34, [(0, .ref 79), (1, .int x1), (2, .int x2)], [.int (f_X14_no_79 I1 G1 (2 : Int32))], (g_X14_no_79 I1 G1 (2 : Int32)), G1, (gP rd))
      cases h
      refine am_iret hX hi rfl rfl (by decide +kernel) ?_
      exact ⟨rfl, rfl, rfl, rfl⟩
  · rw [if_pos c10] at h
    refine am_blk 13 [(.aload_n 0, 1, 0, 0, .null), (.iconst (1), 1, 0, 0, .int (1 : Int32))] (15, [(0, .ref 79), (1, .int x1), (2, .int x2)], [.int (1 : Int32), .ref 79], I1, G1, (gP rd)) (True) hX hi (by decide +kernel) rfl trivial ?_
    refine am_callV hX hi (M := mX14_no) (idx := 316) (d' := 1) (b := 79) (ci := 12) (As := [.int (1 : Int32)]) (rest := []) mkX14_no miX14_no mvX14_no (by decide +kernel) (by decide +kernel) rfl (by decide +kernel) rfl ⟨by omega, by decide, Nat.le_of_ble_eq_true rfl⟩ rfl (c_X14_no_79 _ I1 G1 (1 : Int32)) ?_
    rintro r9 I9 G9 P9 ⟨e0, e1, e2, e3⟩
    rw [e0, e1, e2, e3]
    show am_V X 0 0 _ _ ad (18, [(0, .ref 79), (1, .int x1), (2, .int x2)], [.int (f_X14_no_79 I1 G1 (1 : Int32))], (g_X14_no_79 I1 G1 (1 : Int32)), G1, (gP rd))
    cases h
    refine am_iret hX hi rfl rfl (by decide +kernel) ?_
    exact ⟨rfl, rfl, rfl, rfl⟩
noncomputable def R_X14_setSeed_79 (I : am_I) (G : am_G) (x1 : Int32) (x2 : Int32) : Option (Int32 × am_I × am_G) := rb (R_X14_isOctave_79 (am_up I 79 0 (0 : Int32)) G x1) (fun r1 I1 G1 => (if r1 = 0 then some ((f_X14_no_79 I1 G1 (1 : Int32)), (g_X14_no_79 I1 G1 (1 : Int32)), G1) else (if (f_X14_isIn I1 G1 x2 (0 : Int32) (999 : Int32)) = 0 then some ((f_X14_no_79 I1 G1 (2 : Int32)), (g_X14_no_79 I1 G1 (2 : Int32)), G1) else rg (vp_in x1 4) (rg (q_X13_letSeed_102 I1 G1 x1 x2) (some ((I1 103 x1.toNatClampNeg), (g_X13_letSeed_102 I1 G1 x1 x2), G1))))))
set_option maxRecDepth 20000 in
set_option maxHeartbeats 4000000 in
theorem c_X14_setSeed_79 (rd : Nat) (I : am_I) (G : am_G) (x1 : Int32) (x2 : Int32) {out : Int32 × am_I × am_G} (h : R_X14_setSeed_79 I G x1 x2 = some out) : am_Ct mX14_setSeed 3 gS [.ref 79, .int x1, .int x2] I G (gP rd) (pI out.1 out.2.1 out.2.2 (gP rd)) := by
  refine am_ofF (by decide +kernel) rfl (by decide) (by omega) (Nat.le_of_ble_eq_true rfl) (fun X ad hX hi => ?_)
  have hi : am_info X 12 cX14_setSeed 4 false (Option.some Jvm.ClassFile.FieldType.int) 3 := hi
  show am_V X 0 0 _ _ ad (0, [(0, .ref 79), (1, .int x1), (2, .int x2)], [], I, G, (gP rd))
  unfold R_X14_setSeed_79 at h
  refine am_blk 0 [(.aload_n 0, 1, 0, 0, .null), (.iconst (0), 1, 0, 0, .int (0 : Int32)), (.putfield 57, 3, 12, 0, .null), (.aload_n 0, 1, 0, 0, .null), (.iload_n 1, 1, 1, 0, .null)] (7, [(0, .ref 79), (1, .int x1), (2, .int x2)], [.int x1, .ref 79], (am_up I 79 0 (0 : Int32)), G, (gP rd)) (True) hX hi (by decide +kernel) rfl trivial ?_
  obtain ⟨r1, I1, G1, hc, h⟩ := rb_some h
  refine am_callV hX hi (M := mX14_isOctave) (idx := 351) (d' := 2) (b := 79) (ci := 12) (As := [.int x1]) (rest := []) mkX14_isOctave miX14_isOctave mvX14_isOctave (by decide +kernel) (by decide +kernel) rfl (by decide +kernel) rfl ⟨by omega, by decide, Nat.le_of_ble_eq_true rfl⟩ rfl (c_X14_isOctave_79 _ (am_up I 79 0 (0 : Int32)) G x1 hc) ?_
  rintro r9 I9 G9 P9 ⟨e0, e1, e2, e3⟩
  rw [e0, e1, e2, e3]
  show am_V X 0 0 _ _ ad (10, [(0, .ref 79), (1, .int x1), (2, .int x2)], [.int r1], I1, G1, (gP rd))
  refine am_if_ne (tgt := 19) hX hi (off := (9)) (by decide +kernel) (by decide) (fun c10 => ?_) (fun c10 => ?_)
  · rw [if_neg c10] at h
    refine am_blk 19 [(.iload_n 2, 1, 2, 0, .null), (.iconst (0), 1, 0, 0, .int (0 : Int32)), (.sipush (999), 3, 0, 0, .int (999 : Int32))] (24, [(0, .ref 79), (1, .int x1), (2, .int x2)], [.int (999 : Int32), .int (0 : Int32), .int x2], I1, G1, (gP rd)) (True) hX hi (by decide +kernel) rfl trivial ?_
    refine am_callS hX hi (M := mX14_isIn) (idx := 63) (d' := 1) (As := [.int x2, .int (0 : Int32), .int (999 : Int32)]) (rest := []) mkX14_isIn msX14_isIn (by decide +kernel) (by decide +kernel) rfl ⟨by omega, by decide, Nat.le_of_ble_eq_true rfl⟩ rfl (c_X14_isIn I1 G1 x2 (0 : Int32) (999 : Int32)) ?_
    rintro r9 I9 G9 P9 ⟨e0, e1, e2, e3⟩
    rw [e0, e1, e2, e3]
    show am_V X 0 0 _ _ ad (27, [(0, .ref 79), (1, .int x1), (2, .int x2)], [.int (f_X14_isIn I1 G1 x2 (0 : Int32) (999 : Int32))], I1, G1, (gP rd))
    refine am_if_ne (tgt := 36) hX hi (off := (9)) (by decide +kernel) (by decide) (fun c27 => ?_) (fun c27 => ?_)
    · rw [if_neg c27] at h
      obtain ⟨g0, h⟩ := rg_some h
      refine am_blk 36 [(.aload_n 0, 1, 0, 0, .null), (.getfield 47, 3, 12, 13, .null), (.getfield 350, 3, 11, 4, .null), (.iload_n 1, 1, 1, 0, .null), (.iaload, 1, 0, 0, .null), (.istore_n 3, 1, 3, 0, .null), (.aload_n 0, 1, 0, 0, .null), (.getfield 47, 3, 12, 13, .null), (.iload_n 1, 1, 1, 0, .null), (.iload_n 2, 1, 2, 0, .null)] (52, [(0, .ref 79), (1, .int x1), (2, .int x2), (3, .int (I1 103 x1.toNatClampNeg))], [.int x2, .int x1, .ref 102], I1, G1, (gP rd)) (vp_in x1 4 ∧ True) hX hi (by decide +kernel) rfl ⟨g0, trivial⟩ ?_
      obtain ⟨hq1, h⟩ := rg_some h
      refine am_callV hX hi (M := mX13_letSeed) (idx := 377) (d' := 1) (b := 102) (ci := 11) (As := [.int x1, .int x2]) (rest := []) mkX13_letSeed miX13_letSeed mvX13_letSeed (by decide +kernel) (by decide +kernel) rfl (by decide +kernel) rfl ⟨by omega, by decide, Nat.le_of_ble_eq_true rfl⟩ rfl (c_X13_letSeed_102 _ I1 G1 x1 x2 hq1) ?_
      rintro r9 I9 G9 P9 ⟨e0, e1, e2, e3⟩
      rw [e0, e1, e2, e3]
      show am_V X 0 0 _ _ ad (55, [(0, .ref 79), (1, .int x1), (2, .int x2), (3, .int (I1 103 x1.toNatClampNeg))], [.int (f_X13_letSeed_102 I1 G1 x1 x2)], (g_X13_letSeed_102 I1 G1 x1 x2), G1, (gP rd))
      refine am_blk 55 [(.pop, 1, 0, 0, .null), (.iload_n 3, 1, 3, 0, .null)] (57, [(0, .ref 79), (1, .int x1), (2, .int x2), (3, .int (I1 103 x1.toNatClampNeg))], [.int (I1 103 x1.toNatClampNeg)], (g_X13_letSeed_102 I1 G1 x1 x2), G1, (gP rd)) (True) hX hi (by decide +kernel) rfl trivial ?_
      cases h
      refine am_iret hX hi rfl rfl (by decide +kernel) ?_
      exact ⟨rfl, rfl, rfl, rfl⟩
    · rw [if_pos c27] at h
      refine am_blk 30 [(.aload_n 0, 1, 0, 0, .null), (.iconst (2), 1, 0, 0, .int (2 : Int32))] (32, [(0, .ref 79), (1, .int x1), (2, .int x2)], [.int (2 : Int32), .ref 79], I1, G1, (gP rd)) (True) hX hi (by decide +kernel) rfl trivial ?_
      refine am_callV hX hi (M := mX14_no) (idx := 316) (d' := 1) (b := 79) (ci := 12) (As := [.int (2 : Int32)]) (rest := []) mkX14_no miX14_no mvX14_no (by decide +kernel) (by decide +kernel) rfl (by decide +kernel) rfl ⟨by omega, by decide, Nat.le_of_ble_eq_true rfl⟩ rfl (c_X14_no_79 _ I1 G1 (2 : Int32)) ?_
      rintro r9 I9 G9 P9 ⟨e0, e1, e2, e3⟩
      rw [e0, e1, e2, e3]
      show am_V X 0 0 _ _ ad (35, [(0, .ref 79), (1, .int x1), (2, .int x2)], [.int (f_X14_no_79 I1 G1 (2 : Int32))], (g_X14_no_79 I1 G1 (2 : Int32)), G1, (gP rd))
      cases h
      refine am_iret hX hi rfl rfl (by decide +kernel) ?_
      exact ⟨rfl, rfl, rfl, rfl⟩
  · rw [if_pos c10] at h
    refine am_blk 13 [(.aload_n 0, 1, 0, 0, .null), (.iconst (1), 1, 0, 0, .int (1 : Int32))] (15, [(0, .ref 79), (1, .int x1), (2, .int x2)], [.int (1 : Int32), .ref 79], I1, G1, (gP rd)) (True) hX hi (by decide +kernel) rfl trivial ?_
    refine am_callV hX hi (M := mX14_no) (idx := 316) (d' := 1) (b := 79) (ci := 12) (As := [.int (1 : Int32)]) (rest := []) mkX14_no miX14_no mvX14_no (by decide +kernel) (by decide +kernel) rfl (by decide +kernel) rfl ⟨by omega, by decide, Nat.le_of_ble_eq_true rfl⟩ rfl (c_X14_no_79 _ I1 G1 (1 : Int32)) ?_
    rintro r9 I9 G9 P9 ⟨e0, e1, e2, e3⟩
    rw [e0, e1, e2, e3]
    show am_V X 0 0 _ _ ad (18, [(0, .ref 79), (1, .int x1), (2, .int x2)], [.int (f_X14_no_79 I1 G1 (1 : Int32))], (g_X14_no_79 I1 G1 (1 : Int32)), G1, (gP rd))
    cases h
    refine am_iret hX hi rfl rfl (by decide +kernel) ?_
    exact ⟨rfl, rfl, rfl, rfl⟩
noncomputable def L_X14_advise_79 (n0 : Nat) (hd : Nat) (I : am_I) (G : am_G) (v1 : Int32) (v2 : Int32) (v3 : Int32) (v4 : Int32) : Option (Int32 × am_I × am_G) := match n0 with
  | 0 => none
  | n + 1 => match hd with
    | _ => (if (16 : Int32) < v4 then some (v2, I, G) else rg (q_X13_letPull_112 I G v1 v4) (rb (R_X13_patches_112 (g_X13_letPull_112 I G v1 v4) G ) (fun r101 I101 G101 => (if r101 < v3 then L_X14_advise_79 n 0 I101 G101 v1 v4 r101 (v4 + (1 : Int32)) else L_X14_advise_79 n 0 I101 G101 v1 v2 v3 (v4 + (1 : Int32))))))
theorem L_X14_advise_79_0 (n : Nat) (I : am_I) (G : am_G) (v1 : Int32) (v2 : Int32) (v3 : Int32) (v4 : Int32) : L_X14_advise_79 (n + 1) 0 I G v1 v2 v3 v4 = (if (16 : Int32) < v4 then some (v2, I, G) else rg (q_X13_letPull_112 I G v1 v4) (rb (R_X13_patches_112 (g_X13_letPull_112 I G v1 v4) G ) (fun r101 I101 G101 => (if r101 < v3 then L_X14_advise_79 n 0 I101 G101 v1 v4 r101 (v4 + (1 : Int32)) else L_X14_advise_79 n 0 I101 G101 v1 v2 v3 (v4 + (1 : Int32)))))) := rfl
theorem L_X14_advise_79_z (h : Nat) (I : am_I) (G : am_G) (v1 : Int32) (v2 : Int32) (v3 : Int32) (v4 : Int32) : L_X14_advise_79 0 h I G v1 v2 v3 v4 = none := rfl
noncomputable def R_X14_advise_79 (I : am_I) (G : am_G) (x1 : Int32) : Option (Int32 × am_I × am_G) := rb (R_X14_isComb_79 (am_up I 79 0 (0 : Int32)) G x1) (fun r1 I1 G1 => (if r1 = 0 then some ((f_X14_no_79 I1 G1 (1 : Int32)), (g_X14_no_79 I1 G1 (1 : Int32)), G1) else rb (R_X13_become_112_102 I1 G1 ) (fun r2 I2 G2 => L_X14_advise_79 FU 0 I2 G2 x1 (0 : Int32) (577 : Int32) (0 : Int32))))
set_option maxRecDepth 20000 in
set_option maxHeartbeats 4000000 in
theorem l_X14_advise_79 (rd : Nat) {X : am_X} {ad : Nat → Nat} (hX : am_okz X ad) (hi : am_info X 12 cX14_advise 6 false (Option.some Jvm.ClassFile.FieldType.int) 12) (n : Nat) : (∀ (I : am_I) (G : am_G) (v1 : Int32) (v2 : Int32) (v3 : Int32) (v4 : Int32) (out : Int32 × am_I × am_G), L_X14_advise_79 n 0 I G v1 v2 v3 v4 = some out → am_V X 0 0 (am_Rt X gS ad (pI out.1 out.2.1 out.2.2 (gP rd))) gS ad (40, [(0, .ref 79), (1, .int v1), (2, .int v2), (3, .int v3), (4, .int v4)], [], I, G, (gP rd))) := by
  induction n with
  | zero => exact fun I G v1 v2 v3 v4 out h => by rw [L_X14_advise_79_z] at h; cases h
  | succ n ih =>
    · intro I G v1 v2 v3 v4 out h
      rw [L_X14_advise_79_0] at h
      refine am_blk 40 [(.iload 4, 2, 4, 0, .null), (.bipush (16), 2, 0, 0, .int (16 : Int32))] (44, [(0, .ref 79), (1, .int v1), (2, .int v2), (3, .int v3), (4, .int v4)], [.int (16 : Int32), .int v4], I, G, (gP rd)) (True) hX hi (by decide +kernel) rfl trivial ?_
      refine am_icmp_gt (tgt := 88) hX hi (off := (44)) (by decide +kernel) (by decide) (fun c44 => ?_) (fun c44 => ?_)
      · rw [if_pos c44] at h
        refine am_blk 88 [(.iload_n 2, 1, 2, 0, .null)] (89, [(0, .ref 79), (1, .int v1), (2, .int v2), (3, .int v3), (4, .int v4)], [.int v2], I, G, (gP rd)) (True) hX hi (by decide +kernel) rfl trivial ?_
        cases h
        refine am_iret hX hi rfl rfl (by decide +kernel) ?_
        exact ⟨rfl, rfl, rfl, rfl⟩
      · rw [if_neg c44] at h
        refine am_blk 47 [(.aload_n 0, 1, 0, 0, .null), (.getfield 51, 3, 12, 14, .null), (.iload_n 1, 1, 1, 0, .null), (.iload 4, 2, 4, 0, .null)] (54, [(0, .ref 79), (1, .int v1), (2, .int v2), (3, .int v3), (4, .int v4)], [.int v4, .int v1, .ref 112], I, G, (gP rd)) (True) hX hi (by decide +kernel) rfl trivial ?_
        obtain ⟨hq1, h⟩ := rg_some h
        refine am_callV hX hi (M := mX13_letPull) (idx := 374) (d' := 1) (b := 112) (ci := 11) (As := [.int v1, .int v4]) (rest := []) mkX13_letPull miX13_letPull mvX13_letPull (by decide +kernel) (by decide +kernel) rfl (by decide +kernel) rfl ⟨by omega, by decide, Nat.le_of_ble_eq_true rfl⟩ rfl (c_X13_letPull_112 _ I G v1 v4 hq1) ?_
        rintro r9 I9 G9 P9 ⟨e0, e1, e2, e3⟩
        rw [e0, e1, e2, e3]
        show am_V X 0 0 _ _ ad (57, [(0, .ref 79), (1, .int v1), (2, .int v2), (3, .int v3), (4, .int v4)], [.int (f_X13_letPull_112 I G v1 v4)], (g_X13_letPull_112 I G v1 v4), G, (gP rd))
        refine am_blk 57 [(.pop, 1, 0, 0, .null), (.aload_n 0, 1, 0, 0, .null), (.getfield 51, 3, 12, 14, .null)] (62, [(0, .ref 79), (1, .int v1), (2, .int v2), (3, .int v3), (4, .int v4)], [.ref 112], (g_X13_letPull_112 I G v1 v4), G, (gP rd)) (True) hX hi (by decide +kernel) rfl trivial ?_
        obtain ⟨r101, I101, G101, hc, h⟩ := rb_some h
        refine am_callV hX hi (M := mX13_patches) (idx := 401) (d' := 11) (b := 112) (ci := 11) (As := []) (rest := []) mkX13_patches miX13_patches mvX13_patches (by decide +kernel) (by decide +kernel) rfl (by decide +kernel) rfl ⟨by omega, by decide, Nat.le_of_ble_eq_true rfl⟩ rfl (c_X13_patches_112 _ (g_X13_letPull_112 I G v1 v4) G  hc) ?_
        rintro r9 I9 G9 P9 ⟨e0, e1, e2, e3⟩
        rw [e0, e1, e2, e3]
        show am_V X 0 0 _ _ ad (65, [(0, .ref 79), (1, .int v1), (2, .int v2), (3, .int v3), (4, .int v4)], [.int r101], I101, G101, (gP rd))
        refine am_blk 65 [(.istore 5, 2, 5, 0, .null), (.iload 5, 2, 5, 0, .null), (.iload_n 3, 1, 3, 0, .null)] (70, [(0, .ref 79), (1, .int v1), (2, .int v2), (3, .int v3), (4, .int v4), (5, .int r101)], [.int v3, .int r101], I101, G101, (gP rd)) (True) hX hi (by decide +kernel) rfl trivial ?_
        refine am_icmp_lt (tgt := 76) hX hi (off := (6)) (by decide +kernel) (by decide) (fun c70 => ?_) (fun c70 => ?_)
        · rw [if_pos c70] at h
          refine am_blk 76 [(.iload 4, 2, 4, 0, .null), (.istore_n 2, 1, 2, 0, .null), (.iload 5, 2, 5, 0, .null), (.istore_n 3, 1, 3, 0, .null), (.iinc 4 (1), 3, 4, 0, .int (1 : Int32)), (.goto (-45), 3, 0, 40, .null)] (40, [(0, .ref 79), (1, .int v1), (2, .int v4), (3, .int r101), (4, .int (v4 + (1 : Int32))), (5, .int r101)], [], I101, G101, (gP rd)) (True) hX hi (by decide +kernel) rfl trivial ?_
          refine am_sub (L' := [(0, .ref 79), (1, .int v1), (2, .int v4), (3, .int r101), (4, .int (v4 + (1 : Int32)))]) (by simp) ?_
          exact ih _ _ _ _ _ _ _ h
        · rw [if_neg c70] at h
          refine am_blk 73 [(.goto (9), 3, 0, 82, .null), (.iinc 4 (1), 3, 4, 0, .int (1 : Int32)), (.goto (-45), 3, 0, 40, .null)] (40, [(0, .ref 79), (1, .int v1), (2, .int v2), (3, .int v3), (4, .int (v4 + (1 : Int32))), (5, .int r101)], [], I101, G101, (gP rd)) (True) hX hi (by decide +kernel) rfl trivial ?_
          refine am_sub (L' := [(0, .ref 79), (1, .int v1), (2, .int v2), (3, .int v3), (4, .int (v4 + (1 : Int32)))]) (by simp) ?_
          exact ih _ _ _ _ _ _ _ h
set_option maxRecDepth 20000 in
set_option maxHeartbeats 4000000 in
theorem c_X14_advise_79 (rd : Nat) (I : am_I) (G : am_G) (x1 : Int32) {out : Int32 × am_I × am_G} (h : R_X14_advise_79 I G x1 = some out) : am_Ct mX14_advise 12 gS [.ref 79, .int x1] I G (gP rd) (pI out.1 out.2.1 out.2.2 (gP rd)) := by
  refine am_ofF (by decide +kernel) rfl (by decide) (by omega) (Nat.le_of_ble_eq_true rfl) (fun X ad hX hi => ?_)
  have hi : am_info X 12 cX14_advise 6 false (Option.some Jvm.ClassFile.FieldType.int) 12 := hi
  show am_V X 0 0 _ _ ad (0, [(0, .ref 79), (1, .int x1)], [], I, G, (gP rd))
  unfold R_X14_advise_79 at h
  refine am_blk 0 [(.aload_n 0, 1, 0, 0, .null), (.iconst (0), 1, 0, 0, .int (0 : Int32)), (.putfield 57, 3, 12, 0, .null), (.aload_n 0, 1, 0, 0, .null), (.iload_n 1, 1, 1, 0, .null)] (7, [(0, .ref 79), (1, .int x1)], [.int x1, .ref 79], (am_up I 79 0 (0 : Int32)), G, (gP rd)) (True) hX hi (by decide +kernel) rfl trivial ?_
  obtain ⟨r1, I1, G1, hc, h⟩ := rb_some h
  refine am_callV hX hi (M := mX14_isComb) (idx := 365) (d' := 2) (b := 79) (ci := 12) (As := [.int x1]) (rest := []) mkX14_isComb miX14_isComb mvX14_isComb (by decide +kernel) (by decide +kernel) rfl (by decide +kernel) rfl ⟨by omega, by decide, Nat.le_of_ble_eq_true rfl⟩ rfl (c_X14_isComb_79 _ (am_up I 79 0 (0 : Int32)) G x1 hc) ?_
  rintro r9 I9 G9 P9 ⟨e0, e1, e2, e3⟩
  rw [e0, e1, e2, e3]
  show am_V X 0 0 _ _ ad (10, [(0, .ref 79), (1, .int x1)], [.int r1], I1, G1, (gP rd))
  refine am_if_ne (tgt := 19) hX hi (off := (9)) (by decide +kernel) (by decide) (fun c10 => ?_) (fun c10 => ?_)
  · rw [if_neg c10] at h
    refine am_blk 19 [(.aload_n 0, 1, 0, 0, .null), (.getfield 51, 3, 12, 14, .null), (.aload_n 0, 1, 0, 0, .null), (.getfield 47, 3, 12, 13, .null)] (27, [(0, .ref 79), (1, .int x1)], [.ref 102, .ref 112], I1, G1, (gP rd)) (True) hX hi (by decide +kernel) rfl trivial ?_
    obtain ⟨r2, I2, G2, hc, h⟩ := rb_some h
    refine am_callV hX hi (M := mX13_become) (idx := 395) (d' := 2) (b := 112) (ci := 11) (As := [.ref 102]) (rest := []) mkX13_become miX13_become mvX13_become (by decide +kernel) (by decide +kernel) rfl (by decide +kernel) rfl ⟨by omega, by decide, Nat.le_of_ble_eq_true rfl⟩ rfl (c_X13_become_112_102 _ I1 G1  hc) ?_
    rintro r9 I9 G9 P9 ⟨e0, e1, e2, e3⟩
    rw [e0, e1, e2, e3]
    show am_V X 0 0 _ _ ad (30, [(0, .ref 79), (1, .int x1)], [.ref 112], I2, G2, (gP rd))
    refine am_blk 30 [(.pop, 1, 0, 0, .null), (.iconst (0), 1, 0, 0, .int (0 : Int32)), (.istore_n 2, 1, 2, 0, .null), (.sipush (577), 3, 0, 0, .int (577 : Int32)), (.istore_n 3, 1, 3, 0, .null), (.iconst (0), 1, 0, 0, .int (0 : Int32)), (.istore 4, 2, 4, 0, .null)] (40, [(0, .ref 79), (1, .int x1), (2, .int (0 : Int32)), (3, .int (577 : Int32)), (4, .int (0 : Int32))], [], I2, G2, (gP rd)) (True) hX hi (by decide +kernel) rfl trivial ?_
    exact (l_X14_advise_79 rd hX hi FU) _ _ _ _ _ _ _ h
  · rw [if_pos c10] at h
    refine am_blk 13 [(.aload_n 0, 1, 0, 0, .null), (.iconst (1), 1, 0, 0, .int (1 : Int32))] (15, [(0, .ref 79), (1, .int x1)], [.int (1 : Int32), .ref 79], I1, G1, (gP rd)) (True) hX hi (by decide +kernel) rfl trivial ?_
    refine am_callV hX hi (M := mX14_no) (idx := 316) (d' := 1) (b := 79) (ci := 12) (As := [.int (1 : Int32)]) (rest := []) mkX14_no miX14_no mvX14_no (by decide +kernel) (by decide +kernel) rfl (by decide +kernel) rfl ⟨by omega, by decide, Nat.le_of_ble_eq_true rfl⟩ rfl (c_X14_no_79 _ I1 G1 (1 : Int32)) ?_
    rintro r9 I9 G9 P9 ⟨e0, e1, e2, e3⟩
    rw [e0, e1, e2, e3]
    show am_V X 0 0 _ _ ad (18, [(0, .ref 79), (1, .int x1)], [.int (f_X14_no_79 I1 G1 (1 : Int32))], (g_X14_no_79 I1 G1 (1 : Int32)), G1, (gP rd))
    cases h
    refine am_iret hX hi rfl rfl (by decide +kernel) ?_
    exact ⟨rfl, rfl, rfl, rfl⟩
noncomputable def R_X14_eatSign_79 (I : am_I) (G : am_G) (x1 : Int32) : Option (Int32 × am_I × am_G) := rg (q_X14_eat_79 I G ((50 : Int32) + x1)) (rg ((f_X14_eat_79 I G ((50 : Int32) + x1)) = 0 ∨ (f_X14_eat_79 I G ((50 : Int32) + x1)) = 1) (some ((f_X14_eat_79 I G ((50 : Int32) + x1)), (g_X14_eat_79 I G ((50 : Int32) + x1)), G)))
set_option maxRecDepth 20000 in
set_option maxHeartbeats 4000000 in
theorem c_X14_eatSign_79 (I : am_I) (G : am_G) (x1 : Int32) {out : Int32 × am_I × am_G} (h : R_X14_eatSign_79 I G x1 = some out) : am_Ct mX14_eatSign 3 gS2 [.ref 79, .int x1] I G (gP 123) (pI out.1 out.2.1 out.2.2 (gP 123)) := by
  refine am_ofF (by decide +kernel) rfl (by decide) (by omega) (Nat.le_of_ble_eq_true rfl) (fun X ad hX hi => ?_)
  have hi : am_info X 12 cX14_eatSign 2 false (Option.some Jvm.ClassFile.FieldType.boolean) 3 := hi
  show am_V X 0 0 _ _ ad (0, [(0, .ref 79), (1, .int x1)], [], I, G, (gP 123))
  unfold R_X14_eatSign_79 at h
  refine am_blk 0 [(.aload_n 0, 1, 0, 0, .null), (.bipush (50), 2, 0, 0, .int (50 : Int32)), (.iload_n 1, 1, 1, 0, .null), (.iadd, 1, 0, 0, .null)] (5, [(0, .ref 79), (1, .int x1)], [.int ((50 : Int32) + x1), .ref 79], I, G, (gP 123)) (True) hX hi (by decide +kernel) rfl trivial ?_
  obtain ⟨hq1, h⟩ := rg_some h
  refine am_callV hX hi (M := mX14_eat) (idx := 128) (d' := 2) (b := 79) (ci := 12) (As := [.int ((50 : Int32) + x1)]) (rest := []) mkX14_eat miX14_eat mvX14_eat (by decide +kernel) (by decide +kernel) rfl (by decide +kernel) rfl ⟨by omega, by decide, Nat.le_of_ble_eq_true rfl⟩ rfl (c_X14_eat_79 I G ((50 : Int32) + x1) hq1) ?_
  rintro r9 I9 G9 P9 ⟨e0, e1, e2, e3⟩
  rw [e0, e1, e2, e3]
  show am_V X 0 0 _ _ ad (8, [(0, .ref 79), (1, .int x1)], [.int (f_X14_eat_79 I G ((50 : Int32) + x1))], (g_X14_eat_79 I G ((50 : Int32) + x1)), G, (gP 123))
  obtain ⟨gb, h⟩ := rg_some h
  cases h
  refine am_iret hX hi rfl (by rcases gb with gb | gb <;> rw [gb] <;> rfl) (by decide +kernel) ?_
  exact ⟨rfl, rfl, rfl, rfl⟩
noncomputable def R_X14_eatAs_79 (I : am_I) (G : am_G) (x1 : Int32) (x2 : Int32) : Option (Int32 × am_I × am_G) := rg (vp_in (I 79 9) 401) (rg (q_X14_eat_79 (am_up I 84 (I 79 9).toNatClampNeg x2) G x1) (rg ((f_X14_eat_79 (am_up I 84 (I 79 9).toNatClampNeg x2) G x1) = 0 ∨ (f_X14_eat_79 (am_up I 84 (I 79 9).toNatClampNeg x2) G x1) = 1) (some ((f_X14_eat_79 (am_up I 84 (I 79 9).toNatClampNeg x2) G x1), (g_X14_eat_79 (am_up I 84 (I 79 9).toNatClampNeg x2) G x1), G))))
set_option maxRecDepth 20000 in
set_option maxHeartbeats 4000000 in
theorem c_X14_eatAs_79 (I : am_I) (G : am_G) (x1 : Int32) (x2 : Int32) {out : Int32 × am_I × am_G} (h : R_X14_eatAs_79 I G x1 x2 = some out) : am_Ct mX14_eatAs 3 gS2 [.ref 79, .int x1, .int x2] I G (gP 123) (pI out.1 out.2.1 out.2.2 (gP 123)) := by
  refine am_ofF (by decide +kernel) rfl (by decide) (by omega) (Nat.le_of_ble_eq_true rfl) (fun X ad hX hi => ?_)
  have hi : am_info X 12 cX14_eatAs 3 false (Option.some Jvm.ClassFile.FieldType.boolean) 3 := hi
  show am_V X 0 0 _ _ ad (0, [(0, .ref 79), (1, .int x1), (2, .int x2)], [], I, G, (gP 123))
  unfold R_X14_eatAs_79 at h
  obtain ⟨g0, h⟩ := rg_some h
  refine am_blk 0 [(.aload_n 0, 1, 0, 0, .null), (.getfield 26, 3, 12, 7, .null), (.aload_n 0, 1, 0, 0, .null), (.getfield 122, 3, 12, 9, .null), (.iload_n 2, 1, 2, 0, .null), (.iastore, 1, 0, 0, .null), (.aload_n 0, 1, 0, 0, .null), (.iload_n 1, 1, 1, 0, .null)] (12, [(0, .ref 79), (1, .int x1), (2, .int x2)], [.int x1, .ref 79], (am_up I 84 (I 79 9).toNatClampNeg x2), G, (gP 123)) (vp_in (I 79 9) 401 ∧ True) hX hi (by decide +kernel) rfl ⟨g0, trivial⟩ ?_
  obtain ⟨hq1, h⟩ := rg_some h
  refine am_callV hX hi (M := mX14_eat) (idx := 128) (d' := 2) (b := 79) (ci := 12) (As := [.int x1]) (rest := []) mkX14_eat miX14_eat mvX14_eat (by decide +kernel) (by decide +kernel) rfl (by decide +kernel) rfl ⟨by omega, by decide, Nat.le_of_ble_eq_true rfl⟩ rfl (c_X14_eat_79 (am_up I 84 (I 79 9).toNatClampNeg x2) G x1 hq1) ?_
  rintro r9 I9 G9 P9 ⟨e0, e1, e2, e3⟩
  rw [e0, e1, e2, e3]
  show am_V X 0 0 _ _ ad (15, [(0, .ref 79), (1, .int x1), (2, .int x2)], [.int (f_X14_eat_79 (am_up I 84 (I 79 9).toNatClampNeg x2) G x1)], (g_X14_eat_79 (am_up I 84 (I 79 9).toNatClampNeg x2) G x1), G, (gP 123))
  obtain ⟨gb, h⟩ := rg_some h
  cases h
  refine am_iret hX hi rfl (by rcases gb with gb | gb <;> rw [gb] <;> rfl) (by decide +kernel) ?_
  exact ⟨rfl, rfl, rfl, rfl⟩
noncomputable def R_X14_isPaper_79 (I : am_I) (G : am_G)  : Option (Int32 × am_I × am_G) := rb (R_X14_eatAs_79 (am_up I 79 9 ((I 79 9) + (1 : Int32))) G (41 : Int32) (1 : Int32)) (fun r1 I1 G1 => (if r1 = 0 then some ((0 : Int32), I1, G1) else rg (q_X14_eat_79 I1 G1 (1 : Int32)) ((if (f_X14_eat_79 I1 G1 (1 : Int32)) = 0 then some ((0 : Int32), (g_X14_eat_79 I1 G1 (1 : Int32)), G1) else rb (R_X14_eatAs_79 (g_X14_eat_79 I1 G1 (1 : Int32)) G1 (41 : Int32) (2 : Int32)) (fun r2 I2 G2 => (if r2 = 0 then some ((0 : Int32), I2, G2) else some ((1 : Int32), I2, G2)))))))
set_option maxRecDepth 20000 in
set_option maxHeartbeats 4000000 in
theorem c_X14_isPaper_79 (I : am_I) (G : am_G)  {out : Int32 × am_I × am_G} (h : R_X14_isPaper_79 I G  = some out) : am_Ct mX14_isPaper 4 gS2 [.ref 79] I G (gP 123) (pI out.1 out.2.1 out.2.2 (gP 123)) := by
  refine am_ofF (by decide +kernel) rfl (by decide) (by omega) (Nat.le_of_ble_eq_true rfl) (fun X ad hX hi => ?_)
  have hi : am_info X 12 cX14_isPaper 1 false (Option.some Jvm.ClassFile.FieldType.boolean) 4 := hi
  show am_V X 0 0 _ _ ad (0, [(0, .ref 79)], [], I, G, (gP 123))
  unfold R_X14_isPaper_79 at h
  refine am_blk 0 [(.aload_n 0, 1, 0, 0, .null), (.dup, 1, 0, 0, .null), (.getfield 122, 3, 12, 9, .null), (.iconst (1), 1, 0, 0, .int (1 : Int32)), (.iadd, 1, 0, 0, .null), (.putfield 122, 3, 12, 9, .null), (.aload_n 0, 1, 0, 0, .null), (.bipush (41), 2, 0, 0, .int (41 : Int32)), (.iconst (1), 1, 0, 0, .int (1 : Int32))] (14, [(0, .ref 79)], [.int (1 : Int32), .int (41 : Int32), .ref 79], (am_up I 79 9 ((I 79 9) + (1 : Int32))), G, (gP 123)) (True) hX hi (by decide +kernel) rfl trivial ?_
  obtain ⟨r1, I1, G1, hc, h⟩ := rb_some h
  refine am_callV hX hi (M := mX14_eatAs) (idx := 155) (d' := 3) (b := 79) (ci := 12) (As := [.int (41 : Int32), .int (1 : Int32)]) (rest := []) mkX14_eatAs miX14_eatAs mvX14_eatAs (by decide +kernel) (by decide +kernel) rfl (by decide +kernel) rfl ⟨by omega, by decide, Nat.le_of_ble_eq_true rfl⟩ rfl (c_X14_eatAs_79 (am_up I 79 9 ((I 79 9) + (1 : Int32))) G (41 : Int32) (1 : Int32) hc) ?_
  rintro r9 I9 G9 P9 ⟨e0, e1, e2, e3⟩
  rw [e0, e1, e2, e3]
  show am_V X 0 0 _ _ ad (17, [(0, .ref 79)], [.int r1], I1, G1, (gP 123))
  refine am_if_eq (tgt := 42) hX hi (off := (25)) (by decide +kernel) (by decide) (fun c17 => ?_) (fun c17 => ?_)
  · rw [if_pos c17] at h
    refine am_blk 42 [(.iconst (0), 1, 0, 0, .int (0 : Int32))] (43, [(0, .ref 79)], [.int (0 : Int32)], I1, G1, (gP 123)) (True) hX hi (by decide +kernel) rfl trivial ?_
    cases h
    refine am_iret hX hi rfl (by first | rfl | decide | (simp [narrow]; done)) (by decide +kernel) ?_
    exact ⟨rfl, rfl, rfl, rfl⟩
  · rw [if_neg c17] at h
    refine am_blk 20 [(.aload_n 0, 1, 0, 0, .null), (.iconst (1), 1, 0, 0, .int (1 : Int32))] (22, [(0, .ref 79)], [.int (1 : Int32), .ref 79], I1, G1, (gP 123)) (True) hX hi (by decide +kernel) rfl trivial ?_
    obtain ⟨hq1, h⟩ := rg_some h
    refine am_callV hX hi (M := mX14_eat) (idx := 128) (d' := 2) (b := 79) (ci := 12) (As := [.int (1 : Int32)]) (rest := []) mkX14_eat miX14_eat mvX14_eat (by decide +kernel) (by decide +kernel) rfl (by decide +kernel) rfl ⟨by omega, by decide, Nat.le_of_ble_eq_true rfl⟩ rfl (c_X14_eat_79 I1 G1 (1 : Int32) hq1) ?_
    rintro r9 I9 G9 P9 ⟨e0, e1, e2, e3⟩
    rw [e0, e1, e2, e3]
    show am_V X 0 0 _ _ ad (25, [(0, .ref 79)], [.int (f_X14_eat_79 I1 G1 (1 : Int32))], (g_X14_eat_79 I1 G1 (1 : Int32)), G1, (gP 123))
    refine am_if_eq (tgt := 42) hX hi (off := (17)) (by decide +kernel) (by decide) (fun c25 => ?_) (fun c25 => ?_)
    · rw [if_pos c25] at h
      refine am_blk 42 [(.iconst (0), 1, 0, 0, .int (0 : Int32))] (43, [(0, .ref 79)], [.int (0 : Int32)], (g_X14_eat_79 I1 G1 (1 : Int32)), G1, (gP 123)) (True) hX hi (by decide +kernel) rfl trivial ?_
      cases h
      refine am_iret hX hi rfl (by first | rfl | decide | (simp [narrow]; done)) (by decide +kernel) ?_
      exact ⟨rfl, rfl, rfl, rfl⟩
    · rw [if_neg c25] at h
      refine am_blk 28 [(.aload_n 0, 1, 0, 0, .null), (.bipush (41), 2, 0, 0, .int (41 : Int32)), (.iconst (2), 1, 0, 0, .int (2 : Int32))] (32, [(0, .ref 79)], [.int (2 : Int32), .int (41 : Int32), .ref 79], (g_X14_eat_79 I1 G1 (1 : Int32)), G1, (gP 123)) (True) hX hi (by decide +kernel) rfl trivial ?_
      obtain ⟨r2, I2, G2, hc, h⟩ := rb_some h
      refine am_callV hX hi (M := mX14_eatAs) (idx := 155) (d' := 3) (b := 79) (ci := 12) (As := [.int (41 : Int32), .int (2 : Int32)]) (rest := []) mkX14_eatAs miX14_eatAs mvX14_eatAs (by decide +kernel) (by decide +kernel) rfl (by decide +kernel) rfl ⟨by omega, by decide, Nat.le_of_ble_eq_true rfl⟩ rfl (c_X14_eatAs_79 (g_X14_eat_79 I1 G1 (1 : Int32)) G1 (41 : Int32) (2 : Int32) hc) ?_
      rintro r9 I9 G9 P9 ⟨e0, e1, e2, e3⟩
      rw [e0, e1, e2, e3]
      show am_V X 0 0 _ _ ad (35, [(0, .ref 79)], [.int r2], I2, G2, (gP 123))
      refine am_if_eq (tgt := 42) hX hi (off := (7)) (by decide +kernel) (by decide) (fun c35 => ?_) (fun c35 => ?_)
      · rw [if_pos c35] at h
        refine am_blk 42 [(.iconst (0), 1, 0, 0, .int (0 : Int32))] (43, [(0, .ref 79)], [.int (0 : Int32)], I2, G2, (gP 123)) (True) hX hi (by decide +kernel) rfl trivial ?_
        cases h
        refine am_iret hX hi rfl (by first | rfl | decide | (simp [narrow]; done)) (by decide +kernel) ?_
        exact ⟨rfl, rfl, rfl, rfl⟩
      · rw [if_neg c35] at h
        refine am_blk 38 [(.iconst (1), 1, 0, 0, .int (1 : Int32)), (.goto (4), 3, 0, 43, .null)] (43, [(0, .ref 79)], [.int (1 : Int32)], I2, G2, (gP 123)) (True) hX hi (by decide +kernel) rfl trivial ?_
        cases h
        refine am_iret hX hi rfl (by first | rfl | decide | (simp [narrow]; done)) (by decide +kernel) ?_
        exact ⟨rfl, rfl, rfl, rfl⟩
noncomputable def R_X14_isOctaveLine_79 (I : am_I) (G : am_G)  : Option (Int32 × am_I × am_G) := rb (R_X14_eatAs_79 (am_up I 79 9 ((I 79 9) + (1 : Int32))) G (40 : Int32) (3 : Int32)) (fun r1 I1 G1 => (if r1 = 0 then some ((0 : Int32), I1, G1) else rg (q_X14_eat_79 I1 G1 (3 : Int32)) ((if (f_X14_eat_79 I1 G1 (3 : Int32)) = 0 then some ((0 : Int32), (g_X14_eat_79 I1 G1 (3 : Int32)), G1) else rb (R_X14_eatAs_79 (g_X14_eat_79 I1 G1 (3 : Int32)) G1 (41 : Int32) (4 : Int32)) (fun r2 I2 G2 => (if r2 = 0 then some ((0 : Int32), I2, G2) else rg (q_X14_eat_79 I2 G2 (4 : Int32)) ((if (f_X14_eat_79 I2 G2 (4 : Int32)) = 0 then some ((0 : Int32), (g_X14_eat_79 I2 G2 (4 : Int32)), G2) else rb (R_X14_eatAs_79 (g_X14_eat_79 I2 G2 (4 : Int32)) G2 (41 : Int32) (5 : Int32)) (fun r3 I3 G3 => (if r3 = 0 then some ((0 : Int32), I3, G3) else rg (q_X14_eat_79 I3 G3 (5 : Int32)) ((if (f_X14_eat_79 I3 G3 (5 : Int32)) = 0 then some ((0 : Int32), (g_X14_eat_79 I3 G3 (5 : Int32)), G3) else rb (R_X14_eatAs_79 (g_X14_eat_79 I3 G3 (5 : Int32)) G3 (41 : Int32) (6 : Int32)) (fun r4 I4 G4 => (if r4 = 0 then some ((0 : Int32), I4, G4) else rg (q_X14_eat_79 I4 G4 (6 : Int32)) ((if (f_X14_eat_79 I4 G4 (6 : Int32)) = 0 then some ((0 : Int32), (g_X14_eat_79 I4 G4 (6 : Int32)), G4) else rb (R_X14_eatAs_79 (g_X14_eat_79 I4 G4 (6 : Int32)) G4 (41 : Int32) (7 : Int32)) (fun r5 I5 G5 => (if r5 = 0 then some ((0 : Int32), I5, G5) else some ((1 : Int32), I5, G5)))))))))))))))))))
set_option maxRecDepth 20000 in
set_option maxHeartbeats 4000000 in
theorem c_X14_isOctaveLine_79 (I : am_I) (G : am_G)  {out : Int32 × am_I × am_G} (h : R_X14_isOctaveLine_79 I G  = some out) : am_Ct mX14_isOctaveLine 4 gS2 [.ref 79] I G (gP 123) (pI out.1 out.2.1 out.2.2 (gP 123)) := by
  refine am_ofF (by decide +kernel) rfl (by decide) (by omega) (Nat.le_of_ble_eq_true rfl) (fun X ad hX hi => ?_)
  have hi : am_info X 12 cX14_isOctaveLine 1 false (Option.some Jvm.ClassFile.FieldType.boolean) 4 := hi
  show am_V X 0 0 _ _ ad (0, [(0, .ref 79)], [], I, G, (gP 123))
  unfold R_X14_isOctaveLine_79 at h
  refine am_blk 0 [(.aload_n 0, 1, 0, 0, .null), (.dup, 1, 0, 0, .null), (.getfield 122, 3, 12, 9, .null), (.iconst (1), 1, 0, 0, .int (1 : Int32)), (.iadd, 1, 0, 0, .null), (.putfield 122, 3, 12, 9, .null), (.aload_n 0, 1, 0, 0, .null), (.bipush (40), 2, 0, 0, .int (40 : Int32)), (.iconst (3), 1, 0, 0, .int (3 : Int32))] (14, [(0, .ref 79)], [.int (3 : Int32), .int (40 : Int32), .ref 79], (am_up I 79 9 ((I 79 9) + (1 : Int32))), G, (gP 123)) (True) hX hi (by decide +kernel) rfl trivial ?_
  obtain ⟨r1, I1, G1, hc, h⟩ := rb_some h
  refine am_callV hX hi (M := mX14_eatAs) (idx := 155) (d' := 3) (b := 79) (ci := 12) (As := [.int (40 : Int32), .int (3 : Int32)]) (rest := []) mkX14_eatAs miX14_eatAs mvX14_eatAs (by decide +kernel) (by decide +kernel) rfl (by decide +kernel) rfl ⟨by omega, by decide, Nat.le_of_ble_eq_true rfl⟩ rfl (c_X14_eatAs_79 (am_up I 79 9 ((I 79 9) + (1 : Int32))) G (40 : Int32) (3 : Int32) hc) ?_
  rintro r9 I9 G9 P9 ⟨e0, e1, e2, e3⟩
  rw [e0, e1, e2, e3]
  show am_V X 0 0 _ _ ad (17, [(0, .ref 79)], [.int r1], I1, G1, (gP 123))
  refine am_if_eq (tgt := 99) hX hi (off := (82)) (by decide +kernel) (by decide) (fun c17 => ?_) (fun c17 => ?_)
  · rw [if_pos c17] at h
    refine am_blk 99 [(.iconst (0), 1, 0, 0, .int (0 : Int32))] (100, [(0, .ref 79)], [.int (0 : Int32)], I1, G1, (gP 123)) (True) hX hi (by decide +kernel) rfl trivial ?_
    cases h
    refine am_iret hX hi rfl (by first | rfl | decide | (simp [narrow]; done)) (by decide +kernel) ?_
    exact ⟨rfl, rfl, rfl, rfl⟩
  · rw [if_neg c17] at h
    refine am_blk 20 [(.aload_n 0, 1, 0, 0, .null), (.iconst (3), 1, 0, 0, .int (3 : Int32))] (22, [(0, .ref 79)], [.int (3 : Int32), .ref 79], I1, G1, (gP 123)) (True) hX hi (by decide +kernel) rfl trivial ?_
    obtain ⟨hq1, h⟩ := rg_some h
    refine am_callV hX hi (M := mX14_eat) (idx := 128) (d' := 2) (b := 79) (ci := 12) (As := [.int (3 : Int32)]) (rest := []) mkX14_eat miX14_eat mvX14_eat (by decide +kernel) (by decide +kernel) rfl (by decide +kernel) rfl ⟨by omega, by decide, Nat.le_of_ble_eq_true rfl⟩ rfl (c_X14_eat_79 I1 G1 (3 : Int32) hq1) ?_
    rintro r9 I9 G9 P9 ⟨e0, e1, e2, e3⟩
    rw [e0, e1, e2, e3]
    show am_V X 0 0 _ _ ad (25, [(0, .ref 79)], [.int (f_X14_eat_79 I1 G1 (3 : Int32))], (g_X14_eat_79 I1 G1 (3 : Int32)), G1, (gP 123))
    refine am_if_eq (tgt := 99) hX hi (off := (74)) (by decide +kernel) (by decide) (fun c25 => ?_) (fun c25 => ?_)
    · rw [if_pos c25] at h
      refine am_blk 99 [(.iconst (0), 1, 0, 0, .int (0 : Int32))] (100, [(0, .ref 79)], [.int (0 : Int32)], (g_X14_eat_79 I1 G1 (3 : Int32)), G1, (gP 123)) (True) hX hi (by decide +kernel) rfl trivial ?_
      cases h
      refine am_iret hX hi rfl (by first | rfl | decide | (simp [narrow]; done)) (by decide +kernel) ?_
      exact ⟨rfl, rfl, rfl, rfl⟩
    · rw [if_neg c25] at h
      refine am_blk 28 [(.aload_n 0, 1, 0, 0, .null), (.bipush (41), 2, 0, 0, .int (41 : Int32)), (.iconst (4), 1, 0, 0, .int (4 : Int32))] (32, [(0, .ref 79)], [.int (4 : Int32), .int (41 : Int32), .ref 79], (g_X14_eat_79 I1 G1 (3 : Int32)), G1, (gP 123)) (True) hX hi (by decide +kernel) rfl trivial ?_
      obtain ⟨r2, I2, G2, hc, h⟩ := rb_some h
      refine am_callV hX hi (M := mX14_eatAs) (idx := 155) (d' := 3) (b := 79) (ci := 12) (As := [.int (41 : Int32), .int (4 : Int32)]) (rest := []) mkX14_eatAs miX14_eatAs mvX14_eatAs (by decide +kernel) (by decide +kernel) rfl (by decide +kernel) rfl ⟨by omega, by decide, Nat.le_of_ble_eq_true rfl⟩ rfl (c_X14_eatAs_79 (g_X14_eat_79 I1 G1 (3 : Int32)) G1 (41 : Int32) (4 : Int32) hc) ?_
      rintro r9 I9 G9 P9 ⟨e0, e1, e2, e3⟩
      rw [e0, e1, e2, e3]
      show am_V X 0 0 _ _ ad (35, [(0, .ref 79)], [.int r2], I2, G2, (gP 123))
      refine am_if_eq (tgt := 99) hX hi (off := (64)) (by decide +kernel) (by decide) (fun c35 => ?_) (fun c35 => ?_)
      · rw [if_pos c35] at h
        refine am_blk 99 [(.iconst (0), 1, 0, 0, .int (0 : Int32))] (100, [(0, .ref 79)], [.int (0 : Int32)], I2, G2, (gP 123)) (True) hX hi (by decide +kernel) rfl trivial ?_
        cases h
        refine am_iret hX hi rfl (by first | rfl | decide | (simp [narrow]; done)) (by decide +kernel) ?_
        exact ⟨rfl, rfl, rfl, rfl⟩
      · rw [if_neg c35] at h
        refine am_blk 38 [(.aload_n 0, 1, 0, 0, .null), (.iconst (4), 1, 0, 0, .int (4 : Int32))] (40, [(0, .ref 79)], [.int (4 : Int32), .ref 79], I2, G2, (gP 123)) (True) hX hi (by decide +kernel) rfl trivial ?_
        obtain ⟨hq1, h⟩ := rg_some h
        refine am_callV hX hi (M := mX14_eat) (idx := 128) (d' := 2) (b := 79) (ci := 12) (As := [.int (4 : Int32)]) (rest := []) mkX14_eat miX14_eat mvX14_eat (by decide +kernel) (by decide +kernel) rfl (by decide +kernel) rfl ⟨by omega, by decide, Nat.le_of_ble_eq_true rfl⟩ rfl (c_X14_eat_79 I2 G2 (4 : Int32) hq1) ?_
        rintro r9 I9 G9 P9 ⟨e0, e1, e2, e3⟩
        rw [e0, e1, e2, e3]
        show am_V X 0 0 _ _ ad (43, [(0, .ref 79)], [.int (f_X14_eat_79 I2 G2 (4 : Int32))], (g_X14_eat_79 I2 G2 (4 : Int32)), G2, (gP 123))
        refine am_if_eq (tgt := 99) hX hi (off := (56)) (by decide +kernel) (by decide) (fun c43 => ?_) (fun c43 => ?_)
        · rw [if_pos c43] at h
          refine am_blk 99 [(.iconst (0), 1, 0, 0, .int (0 : Int32))] (100, [(0, .ref 79)], [.int (0 : Int32)], (g_X14_eat_79 I2 G2 (4 : Int32)), G2, (gP 123)) (True) hX hi (by decide +kernel) rfl trivial ?_
          cases h
          refine am_iret hX hi rfl (by first | rfl | decide | (simp [narrow]; done)) (by decide +kernel) ?_
          exact ⟨rfl, rfl, rfl, rfl⟩
        · rw [if_neg c43] at h
          refine am_blk 46 [(.aload_n 0, 1, 0, 0, .null), (.bipush (41), 2, 0, 0, .int (41 : Int32)), (.iconst (5), 1, 0, 0, .int (5 : Int32))] (50, [(0, .ref 79)], [.int (5 : Int32), .int (41 : Int32), .ref 79], (g_X14_eat_79 I2 G2 (4 : Int32)), G2, (gP 123)) (True) hX hi (by decide +kernel) rfl trivial ?_
          obtain ⟨r3, I3, G3, hc, h⟩ := rb_some h
          refine am_callV hX hi (M := mX14_eatAs) (idx := 155) (d' := 3) (b := 79) (ci := 12) (As := [.int (41 : Int32), .int (5 : Int32)]) (rest := []) mkX14_eatAs miX14_eatAs mvX14_eatAs (by decide +kernel) (by decide +kernel) rfl (by decide +kernel) rfl ⟨by omega, by decide, Nat.le_of_ble_eq_true rfl⟩ rfl (c_X14_eatAs_79 (g_X14_eat_79 I2 G2 (4 : Int32)) G2 (41 : Int32) (5 : Int32) hc) ?_
          rintro r9 I9 G9 P9 ⟨e0, e1, e2, e3⟩
          rw [e0, e1, e2, e3]
          show am_V X 0 0 _ _ ad (53, [(0, .ref 79)], [.int r3], I3, G3, (gP 123))
          refine am_if_eq (tgt := 99) hX hi (off := (46)) (by decide +kernel) (by decide) (fun c53 => ?_) (fun c53 => ?_)
          · rw [if_pos c53] at h
            refine am_blk 99 [(.iconst (0), 1, 0, 0, .int (0 : Int32))] (100, [(0, .ref 79)], [.int (0 : Int32)], I3, G3, (gP 123)) (True) hX hi (by decide +kernel) rfl trivial ?_
            cases h
            refine am_iret hX hi rfl (by first | rfl | decide | (simp [narrow]; done)) (by decide +kernel) ?_
            exact ⟨rfl, rfl, rfl, rfl⟩
          · rw [if_neg c53] at h
            refine am_blk 56 [(.aload_n 0, 1, 0, 0, .null), (.iconst (5), 1, 0, 0, .int (5 : Int32))] (58, [(0, .ref 79)], [.int (5 : Int32), .ref 79], I3, G3, (gP 123)) (True) hX hi (by decide +kernel) rfl trivial ?_
            obtain ⟨hq1, h⟩ := rg_some h
            refine am_callV hX hi (M := mX14_eat) (idx := 128) (d' := 2) (b := 79) (ci := 12) (As := [.int (5 : Int32)]) (rest := []) mkX14_eat miX14_eat mvX14_eat (by decide +kernel) (by decide +kernel) rfl (by decide +kernel) rfl ⟨by omega, by decide, Nat.le_of_ble_eq_true rfl⟩ rfl (c_X14_eat_79 I3 G3 (5 : Int32) hq1) ?_
            rintro r9 I9 G9 P9 ⟨e0, e1, e2, e3⟩
            rw [e0, e1, e2, e3]
            show am_V X 0 0 _ _ ad (61, [(0, .ref 79)], [.int (f_X14_eat_79 I3 G3 (5 : Int32))], (g_X14_eat_79 I3 G3 (5 : Int32)), G3, (gP 123))
            refine am_if_eq (tgt := 99) hX hi (off := (38)) (by decide +kernel) (by decide) (fun c61 => ?_) (fun c61 => ?_)
            · rw [if_pos c61] at h
              refine am_blk 99 [(.iconst (0), 1, 0, 0, .int (0 : Int32))] (100, [(0, .ref 79)], [.int (0 : Int32)], (g_X14_eat_79 I3 G3 (5 : Int32)), G3, (gP 123)) (True) hX hi (by decide +kernel) rfl trivial ?_
              cases h
              refine am_iret hX hi rfl (by first | rfl | decide | (simp [narrow]; done)) (by decide +kernel) ?_
              exact ⟨rfl, rfl, rfl, rfl⟩
            · rw [if_neg c61] at h
              refine am_blk 64 [(.aload_n 0, 1, 0, 0, .null), (.bipush (41), 2, 0, 0, .int (41 : Int32)), (.bipush (6), 2, 0, 0, .int (6 : Int32))] (69, [(0, .ref 79)], [.int (6 : Int32), .int (41 : Int32), .ref 79], (g_X14_eat_79 I3 G3 (5 : Int32)), G3, (gP 123)) (True) hX hi (by decide +kernel) rfl trivial ?_
              obtain ⟨r4, I4, G4, hc, h⟩ := rb_some h
              refine am_callV hX hi (M := mX14_eatAs) (idx := 155) (d' := 3) (b := 79) (ci := 12) (As := [.int (41 : Int32), .int (6 : Int32)]) (rest := []) mkX14_eatAs miX14_eatAs mvX14_eatAs (by decide +kernel) (by decide +kernel) rfl (by decide +kernel) rfl ⟨by omega, by decide, Nat.le_of_ble_eq_true rfl⟩ rfl (c_X14_eatAs_79 (g_X14_eat_79 I3 G3 (5 : Int32)) G3 (41 : Int32) (6 : Int32) hc) ?_
              rintro r9 I9 G9 P9 ⟨e0, e1, e2, e3⟩
              rw [e0, e1, e2, e3]
              show am_V X 0 0 _ _ ad (72, [(0, .ref 79)], [.int r4], I4, G4, (gP 123))
              refine am_if_eq (tgt := 99) hX hi (off := (27)) (by decide +kernel) (by decide) (fun c72 => ?_) (fun c72 => ?_)
              · rw [if_pos c72] at h
                refine am_blk 99 [(.iconst (0), 1, 0, 0, .int (0 : Int32))] (100, [(0, .ref 79)], [.int (0 : Int32)], I4, G4, (gP 123)) (True) hX hi (by decide +kernel) rfl trivial ?_
                cases h
                refine am_iret hX hi rfl (by first | rfl | decide | (simp [narrow]; done)) (by decide +kernel) ?_
                exact ⟨rfl, rfl, rfl, rfl⟩
              · rw [if_neg c72] at h
                refine am_blk 75 [(.aload_n 0, 1, 0, 0, .null), (.bipush (6), 2, 0, 0, .int (6 : Int32))] (78, [(0, .ref 79)], [.int (6 : Int32), .ref 79], I4, G4, (gP 123)) (True) hX hi (by decide +kernel) rfl trivial ?_
                obtain ⟨hq1, h⟩ := rg_some h
                refine am_callV hX hi (M := mX14_eat) (idx := 128) (d' := 2) (b := 79) (ci := 12) (As := [.int (6 : Int32)]) (rest := []) mkX14_eat miX14_eat mvX14_eat (by decide +kernel) (by decide +kernel) rfl (by decide +kernel) rfl ⟨by omega, by decide, Nat.le_of_ble_eq_true rfl⟩ rfl (c_X14_eat_79 I4 G4 (6 : Int32) hq1) ?_
                rintro r9 I9 G9 P9 ⟨e0, e1, e2, e3⟩
                rw [e0, e1, e2, e3]
                show am_V X 0 0 _ _ ad (81, [(0, .ref 79)], [.int (f_X14_eat_79 I4 G4 (6 : Int32))], (g_X14_eat_79 I4 G4 (6 : Int32)), G4, (gP 123))
                refine am_if_eq (tgt := 99) hX hi (off := (18)) (by decide +kernel) (by decide) (fun c81 => ?_) (fun c81 => ?_)
                · rw [if_pos c81] at h
                  refine am_blk 99 [(.iconst (0), 1, 0, 0, .int (0 : Int32))] (100, [(0, .ref 79)], [.int (0 : Int32)], (g_X14_eat_79 I4 G4 (6 : Int32)), G4, (gP 123)) (True) hX hi (by decide +kernel) rfl trivial ?_
                  cases h
                  refine am_iret hX hi rfl (by first | rfl | decide | (simp [narrow]; done)) (by decide +kernel) ?_
                  exact ⟨rfl, rfl, rfl, rfl⟩
                · rw [if_neg c81] at h
                  refine am_blk 84 [(.aload_n 0, 1, 0, 0, .null), (.bipush (41), 2, 0, 0, .int (41 : Int32)), (.bipush (7), 2, 0, 0, .int (7 : Int32))] (89, [(0, .ref 79)], [.int (7 : Int32), .int (41 : Int32), .ref 79], (g_X14_eat_79 I4 G4 (6 : Int32)), G4, (gP 123)) (True) hX hi (by decide +kernel) rfl trivial ?_
                  obtain ⟨r5, I5, G5, hc, h⟩ := rb_some h
                  refine am_callV hX hi (M := mX14_eatAs) (idx := 155) (d' := 3) (b := 79) (ci := 12) (As := [.int (41 : Int32), .int (7 : Int32)]) (rest := []) mkX14_eatAs miX14_eatAs mvX14_eatAs (by decide +kernel) (by decide +kernel) rfl (by decide +kernel) rfl ⟨by omega, by decide, Nat.le_of_ble_eq_true rfl⟩ rfl (c_X14_eatAs_79 (g_X14_eat_79 I4 G4 (6 : Int32)) G4 (41 : Int32) (7 : Int32) hc) ?_
                  rintro r9 I9 G9 P9 ⟨e0, e1, e2, e3⟩
                  rw [e0, e1, e2, e3]
                  show am_V X 0 0 _ _ ad (92, [(0, .ref 79)], [.int r5], I5, G5, (gP 123))
                  refine am_if_eq (tgt := 99) hX hi (off := (7)) (by decide +kernel) (by decide) (fun c92 => ?_) (fun c92 => ?_)
                  · rw [if_pos c92] at h
                    refine am_blk 99 [(.iconst (0), 1, 0, 0, .int (0 : Int32))] (100, [(0, .ref 79)], [.int (0 : Int32)], I5, G5, (gP 123)) (True) hX hi (by decide +kernel) rfl trivial ?_
                    cases h
                    refine am_iret hX hi rfl (by first | rfl | decide | (simp [narrow]; done)) (by decide +kernel) ?_
                    exact ⟨rfl, rfl, rfl, rfl⟩
                  · rw [if_neg c92] at h
                    refine am_blk 95 [(.iconst (1), 1, 0, 0, .int (1 : Int32)), (.goto (4), 3, 0, 100, .null)] (100, [(0, .ref 79)], [.int (1 : Int32)], I5, G5, (gP 123)) (True) hX hi (by decide +kernel) rfl trivial ?_
                    cases h
                    refine am_iret hX hi rfl (by first | rfl | decide | (simp [narrow]; done)) (by decide +kernel) ?_
                    exact ⟨rfl, rfl, rfl, rfl⟩
noncomputable def R_X14_isCombLine_79 (I : am_I) (G : am_G)  : Option (Int32 × am_I × am_G) := rb (R_X14_eatAs_79 (am_up I 79 9 ((I 79 9) + (1 : Int32))) G (40 : Int32) (8 : Int32)) (fun r1 I1 G1 => (if r1 = 0 then some ((0 : Int32), I1, G1) else rg (q_X14_isWay_79 I1 G1 (9 : Int32)) ((if (f_X14_isWay_79 I1 G1 (9 : Int32)) = 0 then some ((0 : Int32), (g_X14_isWay_79 I1 G1 (9 : Int32)), G1) else rg (q_X14_eat_79 (g_X14_isWay_79 I1 G1 (9 : Int32)) G1 (8 : Int32)) ((if (f_X14_eat_79 (g_X14_isWay_79 I1 G1 (9 : Int32)) G1 (8 : Int32)) = 0 then some ((0 : Int32), (g_X14_eat_79 (g_X14_isWay_79 I1 G1 (9 : Int32)) G1 (8 : Int32)), G1) else rb (R_X14_eatAs_79 (g_X14_eat_79 (g_X14_isWay_79 I1 G1 (9 : Int32)) G1 (8 : Int32)) G1 (41 : Int32) (10 : Int32)) (fun r2 I2 G2 => (if r2 = 0 then some ((0 : Int32), I2, G2) else rg (q_X14_eat_79 I2 G2 (9 : Int32)) ((if (f_X14_eat_79 I2 G2 (9 : Int32)) = 0 then some ((0 : Int32), (g_X14_eat_79 I2 G2 (9 : Int32)), G2) else rb (R_X14_eatAs_79 (g_X14_eat_79 I2 G2 (9 : Int32)) G2 (41 : Int32) (11 : Int32)) (fun r3 I3 G3 => (if r3 = 0 then some ((0 : Int32), I3, G3) else some ((1 : Int32), I3, G3)))))))))))))
set_option maxRecDepth 20000 in
set_option maxHeartbeats 4000000 in
theorem c_X14_isCombLine_79 (I : am_I) (G : am_G)  {out : Int32 × am_I × am_G} (h : R_X14_isCombLine_79 I G  = some out) : am_Ct mX14_isCombLine 4 gS2 [.ref 79] I G (gP 123) (pI out.1 out.2.1 out.2.2 (gP 123)) := by
  refine am_ofF (by decide +kernel) rfl (by decide) (by omega) (Nat.le_of_ble_eq_true rfl) (fun X ad hX hi => ?_)
  have hi : am_info X 12 cX14_isCombLine 1 false (Option.some Jvm.ClassFile.FieldType.boolean) 4 := hi
  show am_V X 0 0 _ _ ad (0, [(0, .ref 79)], [], I, G, (gP 123))
  unfold R_X14_isCombLine_79 at h
  refine am_blk 0 [(.aload_n 0, 1, 0, 0, .null), (.dup, 1, 0, 0, .null), (.getfield 122, 3, 12, 9, .null), (.iconst (1), 1, 0, 0, .int (1 : Int32)), (.iadd, 1, 0, 0, .null), (.putfield 122, 3, 12, 9, .null), (.aload_n 0, 1, 0, 0, .null), (.bipush (40), 2, 0, 0, .int (40 : Int32)), (.bipush (8), 2, 0, 0, .int (8 : Int32))] (15, [(0, .ref 79)], [.int (8 : Int32), .int (40 : Int32), .ref 79], (am_up I 79 9 ((I 79 9) + (1 : Int32))), G, (gP 123)) (True) hX hi (by decide +kernel) rfl trivial ?_
  obtain ⟨r1, I1, G1, hc, h⟩ := rb_some h
  refine am_callV hX hi (M := mX14_eatAs) (idx := 155) (d' := 3) (b := 79) (ci := 12) (As := [.int (40 : Int32), .int (8 : Int32)]) (rest := []) mkX14_eatAs miX14_eatAs mvX14_eatAs (by decide +kernel) (by decide +kernel) rfl (by decide +kernel) rfl ⟨by omega, by decide, Nat.le_of_ble_eq_true rfl⟩ rfl (c_X14_eatAs_79 (am_up I 79 9 ((I 79 9) + (1 : Int32))) G (40 : Int32) (8 : Int32) hc) ?_
  rintro r9 I9 G9 P9 ⟨e0, e1, e2, e3⟩
  rw [e0, e1, e2, e3]
  show am_V X 0 0 _ _ ad (18, [(0, .ref 79)], [.int r1], I1, G1, (gP 123))
  refine am_if_eq (tgt := 74) hX hi (off := (56)) (by decide +kernel) (by decide) (fun c18 => ?_) (fun c18 => ?_)
  · rw [if_pos c18] at h
    refine am_blk 74 [(.iconst (0), 1, 0, 0, .int (0 : Int32))] (75, [(0, .ref 79)], [.int (0 : Int32)], I1, G1, (gP 123)) (True) hX hi (by decide +kernel) rfl trivial ?_
    cases h
    refine am_iret hX hi rfl (by first | rfl | decide | (simp [narrow]; done)) (by decide +kernel) ?_
    exact ⟨rfl, rfl, rfl, rfl⟩
  · rw [if_neg c18] at h
    refine am_blk 21 [(.aload_n 0, 1, 0, 0, .null), (.bipush (9), 2, 0, 0, .int (9 : Int32))] (24, [(0, .ref 79)], [.int (9 : Int32), .ref 79], I1, G1, (gP 123)) (True) hX hi (by decide +kernel) rfl trivial ?_
    obtain ⟨hq1, h⟩ := rg_some h
    refine am_callV hX hi (M := mX14_isWay) (idx := 159) (d' := 3) (b := 79) (ci := 12) (As := [.int (9 : Int32)]) (rest := []) mkX14_isWay miX14_isWay mvX14_isWay (by decide +kernel) (by decide +kernel) rfl (by decide +kernel) rfl ⟨by omega, by decide, Nat.le_of_ble_eq_true rfl⟩ rfl (c_X14_isWay_79 I1 G1 (9 : Int32) hq1) ?_
    rintro r9 I9 G9 P9 ⟨e0, e1, e2, e3⟩
    rw [e0, e1, e2, e3]
    show am_V X 0 0 _ _ ad (27, [(0, .ref 79)], [.int (f_X14_isWay_79 I1 G1 (9 : Int32))], (g_X14_isWay_79 I1 G1 (9 : Int32)), G1, (gP 123))
    refine am_if_eq (tgt := 74) hX hi (off := (47)) (by decide +kernel) (by decide) (fun c27 => ?_) (fun c27 => ?_)
    · rw [if_pos c27] at h
      refine am_blk 74 [(.iconst (0), 1, 0, 0, .int (0 : Int32))] (75, [(0, .ref 79)], [.int (0 : Int32)], (g_X14_isWay_79 I1 G1 (9 : Int32)), G1, (gP 123)) (True) hX hi (by decide +kernel) rfl trivial ?_
      cases h
      refine am_iret hX hi rfl (by first | rfl | decide | (simp [narrow]; done)) (by decide +kernel) ?_
      exact ⟨rfl, rfl, rfl, rfl⟩
    · rw [if_neg c27] at h
      refine am_blk 30 [(.aload_n 0, 1, 0, 0, .null), (.bipush (8), 2, 0, 0, .int (8 : Int32))] (33, [(0, .ref 79)], [.int (8 : Int32), .ref 79], (g_X14_isWay_79 I1 G1 (9 : Int32)), G1, (gP 123)) (True) hX hi (by decide +kernel) rfl trivial ?_
      obtain ⟨hq1, h⟩ := rg_some h
      refine am_callV hX hi (M := mX14_eat) (idx := 128) (d' := 2) (b := 79) (ci := 12) (As := [.int (8 : Int32)]) (rest := []) mkX14_eat miX14_eat mvX14_eat (by decide +kernel) (by decide +kernel) rfl (by decide +kernel) rfl ⟨by omega, by decide, Nat.le_of_ble_eq_true rfl⟩ rfl (c_X14_eat_79 (g_X14_isWay_79 I1 G1 (9 : Int32)) G1 (8 : Int32) hq1) ?_
      rintro r9 I9 G9 P9 ⟨e0, e1, e2, e3⟩
      rw [e0, e1, e2, e3]
      show am_V X 0 0 _ _ ad (36, [(0, .ref 79)], [.int (f_X14_eat_79 (g_X14_isWay_79 I1 G1 (9 : Int32)) G1 (8 : Int32))], (g_X14_eat_79 (g_X14_isWay_79 I1 G1 (9 : Int32)) G1 (8 : Int32)), G1, (gP 123))
      refine am_if_eq (tgt := 74) hX hi (off := (38)) (by decide +kernel) (by decide) (fun c36 => ?_) (fun c36 => ?_)
      · rw [if_pos c36] at h
        refine am_blk 74 [(.iconst (0), 1, 0, 0, .int (0 : Int32))] (75, [(0, .ref 79)], [.int (0 : Int32)], (g_X14_eat_79 (g_X14_isWay_79 I1 G1 (9 : Int32)) G1 (8 : Int32)), G1, (gP 123)) (True) hX hi (by decide +kernel) rfl trivial ?_
        cases h
        refine am_iret hX hi rfl (by first | rfl | decide | (simp [narrow]; done)) (by decide +kernel) ?_
        exact ⟨rfl, rfl, rfl, rfl⟩
      · rw [if_neg c36] at h
        refine am_blk 39 [(.aload_n 0, 1, 0, 0, .null), (.bipush (41), 2, 0, 0, .int (41 : Int32)), (.bipush (10), 2, 0, 0, .int (10 : Int32))] (44, [(0, .ref 79)], [.int (10 : Int32), .int (41 : Int32), .ref 79], (g_X14_eat_79 (g_X14_isWay_79 I1 G1 (9 : Int32)) G1 (8 : Int32)), G1, (gP 123)) (True) hX hi (by decide +kernel) rfl trivial ?_
        obtain ⟨r2, I2, G2, hc, h⟩ := rb_some h
        refine am_callV hX hi (M := mX14_eatAs) (idx := 155) (d' := 3) (b := 79) (ci := 12) (As := [.int (41 : Int32), .int (10 : Int32)]) (rest := []) mkX14_eatAs miX14_eatAs mvX14_eatAs (by decide +kernel) (by decide +kernel) rfl (by decide +kernel) rfl ⟨by omega, by decide, Nat.le_of_ble_eq_true rfl⟩ rfl (c_X14_eatAs_79 (g_X14_eat_79 (g_X14_isWay_79 I1 G1 (9 : Int32)) G1 (8 : Int32)) G1 (41 : Int32) (10 : Int32) hc) ?_
        rintro r9 I9 G9 P9 ⟨e0, e1, e2, e3⟩
        rw [e0, e1, e2, e3]
        show am_V X 0 0 _ _ ad (47, [(0, .ref 79)], [.int r2], I2, G2, (gP 123))
        refine am_if_eq (tgt := 74) hX hi (off := (27)) (by decide +kernel) (by decide) (fun c47 => ?_) (fun c47 => ?_)
        · rw [if_pos c47] at h
          refine am_blk 74 [(.iconst (0), 1, 0, 0, .int (0 : Int32))] (75, [(0, .ref 79)], [.int (0 : Int32)], I2, G2, (gP 123)) (True) hX hi (by decide +kernel) rfl trivial ?_
          cases h
          refine am_iret hX hi rfl (by first | rfl | decide | (simp [narrow]; done)) (by decide +kernel) ?_
          exact ⟨rfl, rfl, rfl, rfl⟩
        · rw [if_neg c47] at h
          refine am_blk 50 [(.aload_n 0, 1, 0, 0, .null), (.bipush (9), 2, 0, 0, .int (9 : Int32))] (53, [(0, .ref 79)], [.int (9 : Int32), .ref 79], I2, G2, (gP 123)) (True) hX hi (by decide +kernel) rfl trivial ?_
          obtain ⟨hq1, h⟩ := rg_some h
          refine am_callV hX hi (M := mX14_eat) (idx := 128) (d' := 2) (b := 79) (ci := 12) (As := [.int (9 : Int32)]) (rest := []) mkX14_eat miX14_eat mvX14_eat (by decide +kernel) (by decide +kernel) rfl (by decide +kernel) rfl ⟨by omega, by decide, Nat.le_of_ble_eq_true rfl⟩ rfl (c_X14_eat_79 I2 G2 (9 : Int32) hq1) ?_
          rintro r9 I9 G9 P9 ⟨e0, e1, e2, e3⟩
          rw [e0, e1, e2, e3]
          show am_V X 0 0 _ _ ad (56, [(0, .ref 79)], [.int (f_X14_eat_79 I2 G2 (9 : Int32))], (g_X14_eat_79 I2 G2 (9 : Int32)), G2, (gP 123))
          refine am_if_eq (tgt := 74) hX hi (off := (18)) (by decide +kernel) (by decide) (fun c56 => ?_) (fun c56 => ?_)
          · rw [if_pos c56] at h
            refine am_blk 74 [(.iconst (0), 1, 0, 0, .int (0 : Int32))] (75, [(0, .ref 79)], [.int (0 : Int32)], (g_X14_eat_79 I2 G2 (9 : Int32)), G2, (gP 123)) (True) hX hi (by decide +kernel) rfl trivial ?_
            cases h
            refine am_iret hX hi rfl (by first | rfl | decide | (simp [narrow]; done)) (by decide +kernel) ?_
            exact ⟨rfl, rfl, rfl, rfl⟩
          · rw [if_neg c56] at h
            refine am_blk 59 [(.aload_n 0, 1, 0, 0, .null), (.bipush (41), 2, 0, 0, .int (41 : Int32)), (.bipush (11), 2, 0, 0, .int (11 : Int32))] (64, [(0, .ref 79)], [.int (11 : Int32), .int (41 : Int32), .ref 79], (g_X14_eat_79 I2 G2 (9 : Int32)), G2, (gP 123)) (True) hX hi (by decide +kernel) rfl trivial ?_
            obtain ⟨r3, I3, G3, hc, h⟩ := rb_some h
            refine am_callV hX hi (M := mX14_eatAs) (idx := 155) (d' := 3) (b := 79) (ci := 12) (As := [.int (41 : Int32), .int (11 : Int32)]) (rest := []) mkX14_eatAs miX14_eatAs mvX14_eatAs (by decide +kernel) (by decide +kernel) rfl (by decide +kernel) rfl ⟨by omega, by decide, Nat.le_of_ble_eq_true rfl⟩ rfl (c_X14_eatAs_79 (g_X14_eat_79 I2 G2 (9 : Int32)) G2 (41 : Int32) (11 : Int32) hc) ?_
            rintro r9 I9 G9 P9 ⟨e0, e1, e2, e3⟩
            rw [e0, e1, e2, e3]
            show am_V X 0 0 _ _ ad (67, [(0, .ref 79)], [.int r3], I3, G3, (gP 123))
            refine am_if_eq (tgt := 74) hX hi (off := (7)) (by decide +kernel) (by decide) (fun c67 => ?_) (fun c67 => ?_)
            · rw [if_pos c67] at h
              refine am_blk 74 [(.iconst (0), 1, 0, 0, .int (0 : Int32))] (75, [(0, .ref 79)], [.int (0 : Int32)], I3, G3, (gP 123)) (True) hX hi (by decide +kernel) rfl trivial ?_
              cases h
              refine am_iret hX hi rfl (by first | rfl | decide | (simp [narrow]; done)) (by decide +kernel) ?_
              exact ⟨rfl, rfl, rfl, rfl⟩
            · rw [if_neg c67] at h
              refine am_blk 70 [(.iconst (1), 1, 0, 0, .int (1 : Int32)), (.goto (4), 3, 0, 75, .null)] (75, [(0, .ref 79)], [.int (1 : Int32)], I3, G3, (gP 123)) (True) hX hi (by decide +kernel) rfl trivial ?_
              cases h
              refine am_iret hX hi rfl (by first | rfl | decide | (simp [narrow]; done)) (by decide +kernel) ?_
              exact ⟨rfl, rfl, rfl, rfl⟩
noncomputable def R_X14_isInkLine_79 (I : am_I) (G : am_G)  : Option (Int32 × am_I × am_G) := rb (R_X14_eatAs_79 (am_up I 79 9 ((I 79 9) + (1 : Int32))) G (40 : Int32) (12 : Int32)) (fun r1 I1 G1 => (if r1 = 0 then some ((0 : Int32), I1, G1) else rg (q_X14_eat_79 I1 G1 (11 : Int32)) ((if (f_X14_eat_79 I1 G1 (11 : Int32)) = 0 then some ((0 : Int32), (g_X14_eat_79 I1 G1 (11 : Int32)), G1) else rb (R_X14_eatAs_79 (g_X14_eat_79 I1 G1 (11 : Int32)) G1 (41 : Int32) (13 : Int32)) (fun r2 I2 G2 => (if r2 = 0 then some ((0 : Int32), I2, G2) else some ((1 : Int32), I2, G2)))))))
set_option maxRecDepth 20000 in
set_option maxHeartbeats 4000000 in
theorem c_X14_isInkLine_79 (I : am_I) (G : am_G)  {out : Int32 × am_I × am_G} (h : R_X14_isInkLine_79 I G  = some out) : am_Ct mX14_isInkLine 4 gS2 [.ref 79] I G (gP 123) (pI out.1 out.2.1 out.2.2 (gP 123)) := by
  refine am_ofF (by decide +kernel) rfl (by decide) (by omega) (Nat.le_of_ble_eq_true rfl) (fun X ad hX hi => ?_)
  have hi : am_info X 12 cX14_isInkLine 1 false (Option.some Jvm.ClassFile.FieldType.boolean) 4 := hi
  show am_V X 0 0 _ _ ad (0, [(0, .ref 79)], [], I, G, (gP 123))
  unfold R_X14_isInkLine_79 at h
  refine am_blk 0 [(.aload_n 0, 1, 0, 0, .null), (.dup, 1, 0, 0, .null), (.getfield 122, 3, 12, 9, .null), (.iconst (1), 1, 0, 0, .int (1 : Int32)), (.iadd, 1, 0, 0, .null), (.putfield 122, 3, 12, 9, .null), (.aload_n 0, 1, 0, 0, .null), (.bipush (40), 2, 0, 0, .int (40 : Int32)), (.bipush (12), 2, 0, 0, .int (12 : Int32))] (15, [(0, .ref 79)], [.int (12 : Int32), .int (40 : Int32), .ref 79], (am_up I 79 9 ((I 79 9) + (1 : Int32))), G, (gP 123)) (True) hX hi (by decide +kernel) rfl trivial ?_
  obtain ⟨r1, I1, G1, hc, h⟩ := rb_some h
  refine am_callV hX hi (M := mX14_eatAs) (idx := 155) (d' := 3) (b := 79) (ci := 12) (As := [.int (40 : Int32), .int (12 : Int32)]) (rest := []) mkX14_eatAs miX14_eatAs mvX14_eatAs (by decide +kernel) (by decide +kernel) rfl (by decide +kernel) rfl ⟨by omega, by decide, Nat.le_of_ble_eq_true rfl⟩ rfl (c_X14_eatAs_79 (am_up I 79 9 ((I 79 9) + (1 : Int32))) G (40 : Int32) (12 : Int32) hc) ?_
  rintro r9 I9 G9 P9 ⟨e0, e1, e2, e3⟩
  rw [e0, e1, e2, e3]
  show am_V X 0 0 _ _ ad (18, [(0, .ref 79)], [.int r1], I1, G1, (gP 123))
  refine am_if_eq (tgt := 45) hX hi (off := (27)) (by decide +kernel) (by decide) (fun c18 => ?_) (fun c18 => ?_)
  · rw [if_pos c18] at h
    refine am_blk 45 [(.iconst (0), 1, 0, 0, .int (0 : Int32))] (46, [(0, .ref 79)], [.int (0 : Int32)], I1, G1, (gP 123)) (True) hX hi (by decide +kernel) rfl trivial ?_
    cases h
    refine am_iret hX hi rfl (by first | rfl | decide | (simp [narrow]; done)) (by decide +kernel) ?_
    exact ⟨rfl, rfl, rfl, rfl⟩
  · rw [if_neg c18] at h
    refine am_blk 21 [(.aload_n 0, 1, 0, 0, .null), (.bipush (11), 2, 0, 0, .int (11 : Int32))] (24, [(0, .ref 79)], [.int (11 : Int32), .ref 79], I1, G1, (gP 123)) (True) hX hi (by decide +kernel) rfl trivial ?_
    obtain ⟨hq1, h⟩ := rg_some h
    refine am_callV hX hi (M := mX14_eat) (idx := 128) (d' := 2) (b := 79) (ci := 12) (As := [.int (11 : Int32)]) (rest := []) mkX14_eat miX14_eat mvX14_eat (by decide +kernel) (by decide +kernel) rfl (by decide +kernel) rfl ⟨by omega, by decide, Nat.le_of_ble_eq_true rfl⟩ rfl (c_X14_eat_79 I1 G1 (11 : Int32) hq1) ?_
    rintro r9 I9 G9 P9 ⟨e0, e1, e2, e3⟩
    rw [e0, e1, e2, e3]
    show am_V X 0 0 _ _ ad (27, [(0, .ref 79)], [.int (f_X14_eat_79 I1 G1 (11 : Int32))], (g_X14_eat_79 I1 G1 (11 : Int32)), G1, (gP 123))
    refine am_if_eq (tgt := 45) hX hi (off := (18)) (by decide +kernel) (by decide) (fun c27 => ?_) (fun c27 => ?_)
    · rw [if_pos c27] at h
      refine am_blk 45 [(.iconst (0), 1, 0, 0, .int (0 : Int32))] (46, [(0, .ref 79)], [.int (0 : Int32)], (g_X14_eat_79 I1 G1 (11 : Int32)), G1, (gP 123)) (True) hX hi (by decide +kernel) rfl trivial ?_
      cases h
      refine am_iret hX hi rfl (by first | rfl | decide | (simp [narrow]; done)) (by decide +kernel) ?_
      exact ⟨rfl, rfl, rfl, rfl⟩
    · rw [if_neg c27] at h
      refine am_blk 30 [(.aload_n 0, 1, 0, 0, .null), (.bipush (41), 2, 0, 0, .int (41 : Int32)), (.bipush (13), 2, 0, 0, .int (13 : Int32))] (35, [(0, .ref 79)], [.int (13 : Int32), .int (41 : Int32), .ref 79], (g_X14_eat_79 I1 G1 (11 : Int32)), G1, (gP 123)) (True) hX hi (by decide +kernel) rfl trivial ?_
      obtain ⟨r2, I2, G2, hc, h⟩ := rb_some h
      refine am_callV hX hi (M := mX14_eatAs) (idx := 155) (d' := 3) (b := 79) (ci := 12) (As := [.int (41 : Int32), .int (13 : Int32)]) (rest := []) mkX14_eatAs miX14_eatAs mvX14_eatAs (by decide +kernel) (by decide +kernel) rfl (by decide +kernel) rfl ⟨by omega, by decide, Nat.le_of_ble_eq_true rfl⟩ rfl (c_X14_eatAs_79 (g_X14_eat_79 I1 G1 (11 : Int32)) G1 (41 : Int32) (13 : Int32) hc) ?_
      rintro r9 I9 G9 P9 ⟨e0, e1, e2, e3⟩
      rw [e0, e1, e2, e3]
      show am_V X 0 0 _ _ ad (38, [(0, .ref 79)], [.int r2], I2, G2, (gP 123))
      refine am_if_eq (tgt := 45) hX hi (off := (7)) (by decide +kernel) (by decide) (fun c38 => ?_) (fun c38 => ?_)
      · rw [if_pos c38] at h
        refine am_blk 45 [(.iconst (0), 1, 0, 0, .int (0 : Int32))] (46, [(0, .ref 79)], [.int (0 : Int32)], I2, G2, (gP 123)) (True) hX hi (by decide +kernel) rfl trivial ?_
        cases h
        refine am_iret hX hi rfl (by first | rfl | decide | (simp [narrow]; done)) (by decide +kernel) ?_
        exact ⟨rfl, rfl, rfl, rfl⟩
      · rw [if_neg c38] at h
        refine am_blk 41 [(.iconst (1), 1, 0, 0, .int (1 : Int32)), (.goto (4), 3, 0, 46, .null)] (46, [(0, .ref 79)], [.int (1 : Int32)], I2, G2, (gP 123)) (True) hX hi (by decide +kernel) rfl trivial ?_
        cases h
        refine am_iret hX hi rfl (by first | rfl | decide | (simp [narrow]; done)) (by decide +kernel) ?_
        exact ⟨rfl, rfl, rfl, rfl⟩
noncomputable def R_X14_isName_79 (I : am_I) (G : am_G) (x1 : Int32) : Option (Int32 × am_I × am_G) := rg (vp_in (I 123 23) 400) (rg (q_X14_put_79 (am_up (am_up I 138 (I 123 23).toNatClampNeg (I 123 21)) 123 23 ((I 123 23) + (1 : Int32))) G (I 79 9)) (rb (R_X14_eatAs_79 (g_X14_put_79 (am_up (am_up I 138 (I 123 23).toNatClampNeg (I 123 21)) 123 23 ((I 123 23) + (1 : Int32))) G (I 79 9)) G (40 : Int32) x1) (fun r1 I1 G1 => rg (r1 = 0 ∨ r1 = 1) (some (r1, I1, G1)))))
set_option maxRecDepth 20000 in
set_option maxHeartbeats 4000000 in
theorem c_X14_isName_79 (I : am_I) (G : am_G) (x1 : Int32) {out : Int32 × am_I × am_G} (h : R_X14_isName_79 I G x1 = some out) : am_Ct mX14_isName 4 gS2 [.ref 79, .int x1] I G (gP 123) (pI out.1 out.2.1 out.2.2 (gP 123)) := by
  refine am_ofF (by decide +kernel) rfl (by decide) (by omega) (Nat.le_of_ble_eq_true rfl) (fun X ad hX hi => ?_)
  have hi : am_info X 12 cX14_isName 2 false (Option.some Jvm.ClassFile.FieldType.boolean) 4 := hi
  show am_V X 0 0 _ _ ad (0, [(0, .ref 79), (1, .int x1)], [], I, G, (gP 123))
  unfold R_X14_isName_79 at h
  obtain ⟨g0, h⟩ := rg_some h
  refine am_blk 0 [(.aload_n 0, 1, 0, 0, .null), (.getfield 39, 3, 12, 12, .null), (.getfield 193, 3, 10, 22, .null), (.aload_n 0, 1, 0, 0, .null), (.getfield 39, 3, 12, 12, .null), (.getfield 196, 3, 10, 23, .null), (.aload_n 0, 1, 0, 0, .null), (.getfield 39, 3, 12, 12, .null), (.getfield 134, 3, 10, 21, .null), (.iastore, 1, 0, 0, .null), (.aload_n 0, 1, 0, 0, .null), (.getfield 39, 3, 12, 12, .null), (.dup, 1, 0, 0, .null), (.getfield 196, 3, 10, 23, .null), (.iconst (1), 1, 0, 0, .int (1 : Int32)), (.iadd, 1, 0, 0, .null), (.putfield 196, 3, 10, 23, .null), (.aload_n 0, 1, 0, 0, .null), (.aload_n 0, 1, 0, 0, .null), (.getfield 122, 3, 12, 9, .null)] (40, [(0, .ref 79), (1, .int x1)], [.int (I 79 9), .ref 79], (am_up (am_up I 138 (I 123 23).toNatClampNeg (I 123 21)) 123 23 ((I 123 23) + (1 : Int32))), G, (gP 123)) (vp_in (I 123 23) 400 ∧ True) hX hi (by decide +kernel) rfl ⟨g0, trivial⟩ ?_
  obtain ⟨hq1, h⟩ := rg_some h
  refine am_callV hX hi (M := mX14_put) (idx := 183) (d' := 1) (b := 79) (ci := 12) (As := [.int (I 79 9)]) (rest := []) mkX14_put miX14_put mvX14_put (by decide +kernel) (by decide +kernel) rfl (by decide +kernel) rfl ⟨by omega, by decide, Nat.le_of_ble_eq_true rfl⟩ rfl (c_X14_put_79 (am_up (am_up I 138 (I 123 23).toNatClampNeg (I 123 21)) 123 23 ((I 123 23) + (1 : Int32))) G (I 79 9) hq1) ?_
  rintro r9 I9 G9 P9 ⟨e0, e1, e2, e3⟩
  rw [e0, e1, e2, e3]
  show am_V X 0 0 _ _ ad (43, [(0, .ref 79), (1, .int x1)], [], (g_X14_put_79 (am_up (am_up I 138 (I 123 23).toNatClampNeg (I 123 21)) 123 23 ((I 123 23) + (1 : Int32))) G (I 79 9)), G, (gP 123))
  refine am_blk 43 [(.aload_n 0, 1, 0, 0, .null), (.bipush (40), 2, 0, 0, .int (40 : Int32)), (.iload_n 1, 1, 1, 0, .null)] (47, [(0, .ref 79), (1, .int x1)], [.int x1, .int (40 : Int32), .ref 79], (g_X14_put_79 (am_up (am_up I 138 (I 123 23).toNatClampNeg (I 123 21)) 123 23 ((I 123 23) + (1 : Int32))) G (I 79 9)), G, (gP 123)) (True) hX hi (by decide +kernel) rfl trivial ?_
  obtain ⟨r1, I1, G1, hc, h⟩ := rb_some h
  refine am_callV hX hi (M := mX14_eatAs) (idx := 155) (d' := 3) (b := 79) (ci := 12) (As := [.int (40 : Int32), .int x1]) (rest := []) mkX14_eatAs miX14_eatAs mvX14_eatAs (by decide +kernel) (by decide +kernel) rfl (by decide +kernel) rfl ⟨by omega, by decide, Nat.le_of_ble_eq_true rfl⟩ rfl (c_X14_eatAs_79 (g_X14_put_79 (am_up (am_up I 138 (I 123 23).toNatClampNeg (I 123 21)) 123 23 ((I 123 23) + (1 : Int32))) G (I 79 9)) G (40 : Int32) x1 hc) ?_
  rintro r9 I9 G9 P9 ⟨e0, e1, e2, e3⟩
  rw [e0, e1, e2, e3]
  show am_V X 0 0 _ _ ad (50, [(0, .ref 79), (1, .int x1)], [.int r1], I1, G1, (gP 123))
  obtain ⟨gb, h⟩ := rg_some h
  cases h
  refine am_iret hX hi rfl (by rcases gb with gb | gb <;> rw [gb] <;> rfl) (by decide +kernel) ?_
  exact ⟨rfl, rfl, rfl, rfl⟩
noncomputable def R_X14_isNamed_79 (I : am_I) (G : am_G) (x1 : Int32) : Option (Int32 × am_I × am_G) := rg (vp_in (I 79 9) 401) (rg (q_X14_put_79 I G (I 81 (I 79 9).toNatClampNeg)) (rb (R_X14_isName_79 (am_up (g_X14_put_79 I G (I 81 (I 79 9).toNatClampNeg)) 79 9 (((g_X14_put_79 I G (I 81 (I 79 9).toNatClampNeg)) 79 9) + (1 : Int32))) G x1) (fun r1 I1 G1 => rg (r1 = 0 ∨ r1 = 1) (some (r1, I1, G1)))))
set_option maxRecDepth 20000 in
set_option maxHeartbeats 4000000 in
theorem c_X14_isNamed_79 (I : am_I) (G : am_G) (x1 : Int32) {out : Int32 × am_I × am_G} (h : R_X14_isNamed_79 I G x1 = some out) : am_Ct mX14_isNamed 5 gS2 [.ref 79, .int x1] I G (gP 123) (pI out.1 out.2.1 out.2.2 (gP 123)) := by
  refine am_ofF (by decide +kernel) rfl (by decide) (by omega) (Nat.le_of_ble_eq_true rfl) (fun X ad hX hi => ?_)
  have hi : am_info X 12 cX14_isNamed 2 false (Option.some Jvm.ClassFile.FieldType.boolean) 5 := hi
  show am_V X 0 0 _ _ ad (0, [(0, .ref 79), (1, .int x1)], [], I, G, (gP 123))
  unfold R_X14_isNamed_79 at h
  obtain ⟨g0, h⟩ := rg_some h
  refine am_blk 0 [(.aload_n 0, 1, 0, 0, .null), (.aload_n 0, 1, 0, 0, .null), (.getfield 17, 3, 12, 4, .null), (.aload_n 0, 1, 0, 0, .null), (.getfield 122, 3, 12, 9, .null), (.iaload, 1, 0, 0, .null)] (10, [(0, .ref 79), (1, .int x1)], [.int (I 81 (I 79 9).toNatClampNeg), .ref 79], I, G, (gP 123)) (vp_in (I 79 9) 401 ∧ True) hX hi (by decide +kernel) rfl ⟨g0, trivial⟩ ?_
  obtain ⟨hq1, h⟩ := rg_some h
  refine am_callV hX hi (M := mX14_put) (idx := 183) (d' := 1) (b := 79) (ci := 12) (As := [.int (I 81 (I 79 9).toNatClampNeg)]) (rest := []) mkX14_put miX14_put mvX14_put (by decide +kernel) (by decide +kernel) rfl (by decide +kernel) rfl ⟨by omega, by decide, Nat.le_of_ble_eq_true rfl⟩ rfl (c_X14_put_79 I G (I 81 (I 79 9).toNatClampNeg) hq1) ?_
  rintro r9 I9 G9 P9 ⟨e0, e1, e2, e3⟩
  rw [e0, e1, e2, e3]
  show am_V X 0 0 _ _ ad (13, [(0, .ref 79), (1, .int x1)], [], (g_X14_put_79 I G (I 81 (I 79 9).toNatClampNeg)), G, (gP 123))
  refine am_blk 13 [(.aload_n 0, 1, 0, 0, .null), (.dup, 1, 0, 0, .null), (.getfield 122, 3, 12, 9, .null), (.iconst (1), 1, 0, 0, .int (1 : Int32)), (.iadd, 1, 0, 0, .null), (.putfield 122, 3, 12, 9, .null), (.aload_n 0, 1, 0, 0, .null), (.iload_n 1, 1, 1, 0, .null)] (25, [(0, .ref 79), (1, .int x1)], [.int x1, .ref 79], (am_up (g_X14_put_79 I G (I 81 (I 79 9).toNatClampNeg)) 79 9 (((g_X14_put_79 I G (I 81 (I 79 9).toNatClampNeg)) 79 9) + (1 : Int32))), G, (gP 123)) (True) hX hi (by decide +kernel) rfl trivial ?_
  obtain ⟨r1, I1, G1, hc, h⟩ := rb_some h
  refine am_callV hX hi (M := mX14_isName) (idx := 199) (d' := 4) (b := 79) (ci := 12) (As := [.int x1]) (rest := []) mkX14_isName miX14_isName mvX14_isName (by decide +kernel) (by decide +kernel) rfl (by decide +kernel) rfl ⟨by omega, by decide, Nat.le_of_ble_eq_true rfl⟩ rfl (c_X14_isName_79 (am_up (g_X14_put_79 I G (I 81 (I 79 9).toNatClampNeg)) 79 9 (((g_X14_put_79 I G (I 81 (I 79 9).toNatClampNeg)) 79 9) + (1 : Int32))) G x1 hc) ?_
  rintro r9 I9 G9 P9 ⟨e0, e1, e2, e3⟩
  rw [e0, e1, e2, e3]
  show am_V X 0 0 _ _ ad (28, [(0, .ref 79), (1, .int x1)], [.int r1], I1, G1, (gP 123))
  obtain ⟨gb, h⟩ := rg_some h
  cases h
  refine am_iret hX hi rfl (by rcases gb with gb | gb <;> rw [gb] <;> rfl) (by decide +kernel) ?_
  exact ⟨rfl, rfl, rfl, rfl⟩
noncomputable def L_X14_numberAt_79 (n0 : Nat) (hd : Nat) (I : am_I) (G : am_G) (v1 : Int32) (v2 : Int32) (v3 : Int32) : Option (Int32 × am_I × am_G) := match n0 with
  | 0 => none
  | n + 1 => match hd with
    | _ => rg (vp_in v1 401) ((if (I 83 v1.toNatClampNeg) ≤ v3 then some (v2, I, G) else rg (vp_in v1 401) (rg (vp_in ((I 82 v1.toNatClampNeg) + v3) 2000) (L_X14_numberAt_79 n 0 I G v1 ((((10 : Int32) * v2) + (I 80 ((I 82 v1.toNatClampNeg) + v3).toNatClampNeg)) - (48 : Int32)) (v3 + (1 : Int32))))))
theorem L_X14_numberAt_79_0 (n : Nat) (I : am_I) (G : am_G) (v1 : Int32) (v2 : Int32) (v3 : Int32) : L_X14_numberAt_79 (n + 1) 0 I G v1 v2 v3 = rg (vp_in v1 401) ((if (I 83 v1.toNatClampNeg) ≤ v3 then some (v2, I, G) else rg (vp_in v1 401) (rg (vp_in ((I 82 v1.toNatClampNeg) + v3) 2000) (L_X14_numberAt_79 n 0 I G v1 ((((10 : Int32) * v2) + (I 80 ((I 82 v1.toNatClampNeg) + v3).toNatClampNeg)) - (48 : Int32)) (v3 + (1 : Int32)))))) := rfl
theorem L_X14_numberAt_79_z (h : Nat) (I : am_I) (G : am_G) (v1 : Int32) (v2 : Int32) (v3 : Int32) : L_X14_numberAt_79 0 h I G v1 v2 v3 = none := rfl
noncomputable def R_X14_numberAt_79 (I : am_I) (G : am_G) (x1 : Int32) : Option (Int32 × am_I × am_G) := L_X14_numberAt_79 FU 0 I G x1 (0 : Int32) (0 : Int32)
set_option maxRecDepth 20000 in
set_option maxHeartbeats 4000000 in
theorem l_X14_numberAt_79 {X : am_X} {ad : Nat → Nat} (hX : am_okz X ad) (hi : am_info X 12 cX14_numberAt 4 false (Option.some Jvm.ClassFile.FieldType.int) 1) (n : Nat) : (∀ (I : am_I) (G : am_G) (v1 : Int32) (v2 : Int32) (v3 : Int32) (out : Int32 × am_I × am_G), L_X14_numberAt_79 n 0 I G v1 v2 v3 = some out → am_V X 0 0 (am_Rt X gS2 ad (pI out.1 out.2.1 out.2.2 (gP 123))) gS2 ad (4, [(0, .ref 79), (1, .int v1), (2, .int v2), (3, .int v3)], [], I, G, (gP 123))) := by
  induction n with
  | zero => exact fun I G v1 v2 v3 out h => by rw [L_X14_numberAt_79_z] at h; cases h
  | succ n ih =>
    · intro I G v1 v2 v3 out h
      rw [L_X14_numberAt_79_0] at h
      obtain ⟨g0, h⟩ := rg_some h
      refine am_blk 4 [(.iload_n 3, 1, 3, 0, .null), (.aload_n 0, 1, 0, 0, .null), (.getfield 23, 3, 12, 6, .null), (.iload_n 1, 1, 1, 0, .null), (.iaload, 1, 0, 0, .null)] (11, [(0, .ref 79), (1, .int v1), (2, .int v2), (3, .int v3)], [.int (I 83 v1.toNatClampNeg), .int v3], I, G, (gP 123)) (vp_in v1 401 ∧ True) hX hi (by decide +kernel) rfl ⟨g0, trivial⟩ ?_
      refine am_icmp_ge (tgt := 42) hX hi (off := (31)) (by decide +kernel) (by decide) (fun c11 => ?_) (fun c11 => ?_)
      · rw [if_pos c11] at h
        refine am_blk 42 [(.iload_n 2, 1, 2, 0, .null)] (43, [(0, .ref 79), (1, .int v1), (2, .int v2), (3, .int v3)], [.int v2], I, G, (gP 123)) (True) hX hi (by decide +kernel) rfl trivial ?_
        cases h
        refine am_iret hX hi rfl rfl (by decide +kernel) ?_
        exact ⟨rfl, rfl, rfl, rfl⟩
      · rw [if_neg c11] at h
        obtain ⟨g0, h⟩ := rg_some h
        obtain ⟨g1, h⟩ := rg_some h
        refine am_blk 14 [(.bipush (10), 2, 0, 0, .int (10 : Int32)), (.iload_n 2, 1, 2, 0, .null), (.imul, 1, 0, 0, .null), (.aload_n 0, 1, 0, 0, .null), (.getfield 9, 3, 12, 1, .null), (.aload_n 0, 1, 0, 0, .null), (.getfield 20, 3, 12, 5, .null), (.iload_n 1, 1, 1, 0, .null), (.iaload, 1, 0, 0, .null), (.iload_n 3, 1, 3, 0, .null), (.iadd, 1, 0, 0, .null), (.iaload, 1, 0, 0, .null), (.iadd, 1, 0, 0, .null), (.bipush (48), 2, 0, 0, .int (48 : Int32)), (.isub, 1, 0, 0, .null), (.istore_n 2, 1, 2, 0, .null), (.iinc 3 (1), 3, 3, 0, .int (1 : Int32)), (.goto (-35), 3, 0, 4, .null)] (4, [(0, .ref 79), (1, .int v1), (2, .int ((((10 : Int32) * v2) + (I 80 ((I 82 v1.toNatClampNeg) + v3).toNatClampNeg)) - (48 : Int32))), (3, .int (v3 + (1 : Int32)))], [], I, G, (gP 123)) (vp_in v1 401 ∧ vp_in ((I 82 v1.toNatClampNeg) + v3) 2000 ∧ True) hX hi (by decide +kernel) rfl ⟨g0, g1, trivial⟩ ?_
        exact ih _ _ _ _ _ _ h
set_option maxRecDepth 20000 in
set_option maxHeartbeats 4000000 in
theorem c_X14_numberAt_79 (I : am_I) (G : am_G) (x1 : Int32) {out : Int32 × am_I × am_G} (h : R_X14_numberAt_79 I G x1 = some out) : am_Ct mX14_numberAt 1 gS2 [.ref 79, .int x1] I G (gP 123) (pI out.1 out.2.1 out.2.2 (gP 123)) := by
  refine am_ofF (by decide +kernel) rfl (by decide) (by omega) (Nat.le_of_ble_eq_true rfl) (fun X ad hX hi => ?_)
  have hi : am_info X 12 cX14_numberAt 4 false (Option.some Jvm.ClassFile.FieldType.int) 1 := hi
  show am_V X 0 0 _ _ ad (0, [(0, .ref 79), (1, .int x1)], [], I, G, (gP 123))
  unfold R_X14_numberAt_79 at h
  refine am_blk 0 [(.iconst (0), 1, 0, 0, .int (0 : Int32)), (.istore_n 2, 1, 2, 0, .null), (.iconst (0), 1, 0, 0, .int (0 : Int32)), (.istore_n 3, 1, 3, 0, .null)] (4, [(0, .ref 79), (1, .int x1), (2, .int (0 : Int32)), (3, .int (0 : Int32))], [], I, G, (gP 123)) (True) hX hi (by decide +kernel) rfl trivial ?_
  exact (l_X14_numberAt_79 hX hi FU) _ _ _ _ _ _ h
noncomputable def L_X14_isSame_79 (n0 : Nat) (hd : Nat) (I : am_I) (G : am_G) (v1 : Int32) (v2 : Int32) (v3 : Int32) : Option (Int32 × am_I × am_G) := match n0 with
  | 0 => none
  | n + 1 => match hd with
    | _ => rg (vp_in v1 401) ((if (I 83 v1.toNatClampNeg) ≤ v3 then some ((1 : Int32), I, G) else rg (vp_in v1 401) (rg (vp_in ((I 82 v1.toNatClampNeg) + v3) 2000) (rg (vp_in v2 401) (rg (vp_in ((I 82 v2.toNatClampNeg) + v3) 2000) ((if (I 80 ((I 82 v1.toNatClampNeg) + v3).toNatClampNeg) = (I 80 ((I 82 v2.toNatClampNeg) + v3).toNatClampNeg) then L_X14_isSame_79 n 0 I G v1 v2 (v3 + (1 : Int32)) else some ((0 : Int32), I, G))))))))
theorem L_X14_isSame_79_0 (n : Nat) (I : am_I) (G : am_G) (v1 : Int32) (v2 : Int32) (v3 : Int32) : L_X14_isSame_79 (n + 1) 0 I G v1 v2 v3 = rg (vp_in v1 401) ((if (I 83 v1.toNatClampNeg) ≤ v3 then some ((1 : Int32), I, G) else rg (vp_in v1 401) (rg (vp_in ((I 82 v1.toNatClampNeg) + v3) 2000) (rg (vp_in v2 401) (rg (vp_in ((I 82 v2.toNatClampNeg) + v3) 2000) ((if (I 80 ((I 82 v1.toNatClampNeg) + v3).toNatClampNeg) = (I 80 ((I 82 v2.toNatClampNeg) + v3).toNatClampNeg) then L_X14_isSame_79 n 0 I G v1 v2 (v3 + (1 : Int32)) else some ((0 : Int32), I, G)))))))) := rfl
theorem L_X14_isSame_79_z (h : Nat) (I : am_I) (G : am_G) (v1 : Int32) (v2 : Int32) (v3 : Int32) : L_X14_isSame_79 0 h I G v1 v2 v3 = none := rfl
noncomputable def R_X14_isSame_79 (I : am_I) (G : am_G) (x1 : Int32) (x2 : Int32) : Option (Int32 × am_I × am_G) := rg (vp_in x1 401) (rg (vp_in x2 401) ((if (I 83 x1.toNatClampNeg) = (I 83 x2.toNatClampNeg) then L_X14_isSame_79 FU 0 I G x1 x2 (0 : Int32) else some ((0 : Int32), I, G))))
set_option maxRecDepth 20000 in
set_option maxHeartbeats 4000000 in
theorem l_X14_isSame_79 {X : am_X} {ad : Nat → Nat} (hX : am_okz X ad) (hi : am_info X 12 cX14_isSame 4 false (Option.some Jvm.ClassFile.FieldType.boolean) 1) (n : Nat) : (∀ (I : am_I) (G : am_G) (v1 : Int32) (v2 : Int32) (v3 : Int32) (out : Int32 × am_I × am_G), L_X14_isSame_79 n 0 I G v1 v2 v3 = some out → am_V X 0 0 (am_Rt X gS2 ad (pI out.1 out.2.1 out.2.2 (gP 123))) gS2 ad (19, [(0, .ref 79), (1, .int v1), (2, .int v2), (3, .int v3)], [], I, G, (gP 123))) := by
  induction n with
  | zero => exact fun I G v1 v2 v3 out h => by rw [L_X14_isSame_79_z] at h; cases h
  | succ n ih =>
    · intro I G v1 v2 v3 out h
      rw [L_X14_isSame_79_0] at h
      obtain ⟨g0, h⟩ := rg_some h
      refine am_blk 19 [(.iload_n 3, 1, 3, 0, .null), (.aload_n 0, 1, 0, 0, .null), (.getfield 23, 3, 12, 6, .null), (.iload_n 1, 1, 1, 0, .null), (.iaload, 1, 0, 0, .null)] (26, [(0, .ref 79), (1, .int v1), (2, .int v2), (3, .int v3)], [.int (I 83 v1.toNatClampNeg), .int v3], I, G, (gP 123)) (vp_in v1 401 ∧ True) hX hi (by decide +kernel) rfl ⟨g0, trivial⟩ ?_
      refine am_icmp_ge (tgt := 66) hX hi (off := (40)) (by decide +kernel) (by decide) (fun c26 => ?_) (fun c26 => ?_)
      · rw [if_pos c26] at h
        refine am_blk 66 [(.iconst (1), 1, 0, 0, .int (1 : Int32))] (67, [(0, .ref 79), (1, .int v1), (2, .int v2), (3, .int v3)], [.int (1 : Int32)], I, G, (gP 123)) (True) hX hi (by decide +kernel) rfl trivial ?_
        cases h
        refine am_iret hX hi rfl (by first | rfl | decide | (simp [narrow]; done)) (by decide +kernel) ?_
        exact ⟨rfl, rfl, rfl, rfl⟩
      · rw [if_neg c26] at h
        obtain ⟨g0, h⟩ := rg_some h
        obtain ⟨g1, h⟩ := rg_some h
        obtain ⟨g2, h⟩ := rg_some h
        obtain ⟨g3, h⟩ := rg_some h
        refine am_blk 29 [(.aload_n 0, 1, 0, 0, .null), (.getfield 9, 3, 12, 1, .null), (.aload_n 0, 1, 0, 0, .null), (.getfield 20, 3, 12, 5, .null), (.iload_n 1, 1, 1, 0, .null), (.iaload, 1, 0, 0, .null), (.iload_n 3, 1, 3, 0, .null), (.iadd, 1, 0, 0, .null), (.iaload, 1, 0, 0, .null), (.aload_n 0, 1, 0, 0, .null), (.getfield 9, 3, 12, 1, .null), (.aload_n 0, 1, 0, 0, .null), (.getfield 20, 3, 12, 5, .null), (.iload_n 2, 1, 2, 0, .null), (.iaload, 1, 0, 0, .null), (.iload_n 3, 1, 3, 0, .null), (.iadd, 1, 0, 0, .null), (.iaload, 1, 0, 0, .null)] (55, [(0, .ref 79), (1, .int v1), (2, .int v2), (3, .int v3)], [.int (I 80 ((I 82 v2.toNatClampNeg) + v3).toNatClampNeg), .int (I 80 ((I 82 v1.toNatClampNeg) + v3).toNatClampNeg)], I, G, (gP 123)) (vp_in v1 401 ∧ vp_in ((I 82 v1.toNatClampNeg) + v3) 2000 ∧ vp_in v2 401 ∧ vp_in ((I 82 v2.toNatClampNeg) + v3) 2000 ∧ True) hX hi (by decide +kernel) rfl ⟨g0, g1, g2, g3, trivial⟩ ?_
        refine am_icmp_eq (tgt := 60) hX hi (off := (5)) (by decide +kernel) (by decide) (fun c55 => ?_) (fun c55 => ?_)
        · rw [if_pos c55] at h
          refine am_blk 60 [(.iinc 3 (1), 3, 3, 0, .int (1 : Int32)), (.goto (-44), 3, 0, 19, .null)] (19, [(0, .ref 79), (1, .int v1), (2, .int v2), (3, .int (v3 + (1 : Int32)))], [], I, G, (gP 123)) (True) hX hi (by decide +kernel) rfl trivial ?_
          exact ih _ _ _ _ _ _ h
        · rw [if_neg c55] at h
          refine am_blk 58 [(.iconst (0), 1, 0, 0, .int (0 : Int32))] (59, [(0, .ref 79), (1, .int v1), (2, .int v2), (3, .int v3)], [.int (0 : Int32)], I, G, (gP 123)) (True) hX hi (by decide +kernel) rfl trivial ?_
          cases h
          refine am_iret hX hi rfl (by first | rfl | decide | (simp [narrow]; done)) (by decide +kernel) ?_
          exact ⟨rfl, rfl, rfl, rfl⟩
set_option maxRecDepth 20000 in
set_option maxHeartbeats 4000000 in
theorem c_X14_isSame_79 (I : am_I) (G : am_G) (x1 : Int32) (x2 : Int32) {out : Int32 × am_I × am_G} (h : R_X14_isSame_79 I G x1 x2 = some out) : am_Ct mX14_isSame 1 gS2 [.ref 79, .int x1, .int x2] I G (gP 123) (pI out.1 out.2.1 out.2.2 (gP 123)) := by
  refine am_ofF (by decide +kernel) rfl (by decide) (by omega) (Nat.le_of_ble_eq_true rfl) (fun X ad hX hi => ?_)
  have hi : am_info X 12 cX14_isSame 4 false (Option.some Jvm.ClassFile.FieldType.boolean) 1 := hi
  show am_V X 0 0 _ _ ad (0, [(0, .ref 79), (1, .int x1), (2, .int x2)], [], I, G, (gP 123))
  unfold R_X14_isSame_79 at h
  obtain ⟨g0, h⟩ := rg_some h
  obtain ⟨g1, h⟩ := rg_some h
  refine am_blk 0 [(.aload_n 0, 1, 0, 0, .null), (.getfield 23, 3, 12, 6, .null), (.iload_n 1, 1, 1, 0, .null), (.iaload, 1, 0, 0, .null), (.aload_n 0, 1, 0, 0, .null), (.getfield 23, 3, 12, 6, .null), (.iload_n 2, 1, 2, 0, .null), (.iaload, 1, 0, 0, .null)] (12, [(0, .ref 79), (1, .int x1), (2, .int x2)], [.int (I 83 x2.toNatClampNeg), .int (I 83 x1.toNatClampNeg)], I, G, (gP 123)) (vp_in x1 401 ∧ vp_in x2 401 ∧ True) hX hi (by decide +kernel) rfl ⟨g0, g1, trivial⟩ ?_
  refine am_icmp_eq (tgt := 17) hX hi (off := (5)) (by decide +kernel) (by decide) (fun c12 => ?_) (fun c12 => ?_)
  · rw [if_pos c12] at h
    refine am_blk 17 [(.iconst (0), 1, 0, 0, .int (0 : Int32)), (.istore_n 3, 1, 3, 0, .null)] (19, [(0, .ref 79), (1, .int x1), (2, .int x2), (3, .int (0 : Int32))], [], I, G, (gP 123)) (True) hX hi (by decide +kernel) rfl trivial ?_
    exact (l_X14_isSame_79 hX hi FU) _ _ _ _ _ _ h
  · rw [if_neg c12] at h
    refine am_blk 15 [(.iconst (0), 1, 0, 0, .int (0 : Int32))] (16, [(0, .ref 79), (1, .int x1), (2, .int x2)], [.int (0 : Int32)], I, G, (gP 123)) (True) hX hi (by decide +kernel) rfl trivial ?_
    cases h
    refine am_iret hX hi rfl (by first | rfl | decide | (simp [narrow]; done)) (by decide +kernel) ?_
    exact ⟨rfl, rfl, rfl, rfl⟩
noncomputable def L_X14_told_79 (n0 : Nat) (hd : Nat) (I : am_I) (G : am_G) (v1 : Int32) (v2 : Int32) (v3 : Int32) (v4 : Int32) : Option (Int32 × am_I × am_G) := match n0 with
  | 0 => none
  | n + 1 => match hd with
    | _ => (if v1 ≤ v4 then some ((-1 : Int32), I, G) else rg (vp_in v4 401) ((if (I 84 v4.toNatClampNeg) = v2 then rb (R_X14_isSame_79 I G v4 v1) (fun r101 I101 G101 => (if r101 = 0 then L_X14_told_79 n 0 I101 G101 v1 v2 (v3 + (1 : Int32)) (v4 + (1 : Int32)) else some (v3, I101, G101))) else L_X14_told_79 n 0 I G v1 v2 v3 (v4 + (1 : Int32)))))
theorem L_X14_told_79_0 (n : Nat) (I : am_I) (G : am_G) (v1 : Int32) (v2 : Int32) (v3 : Int32) (v4 : Int32) : L_X14_told_79 (n + 1) 0 I G v1 v2 v3 v4 = (if v1 ≤ v4 then some ((-1 : Int32), I, G) else rg (vp_in v4 401) ((if (I 84 v4.toNatClampNeg) = v2 then rb (R_X14_isSame_79 I G v4 v1) (fun r101 I101 G101 => (if r101 = 0 then L_X14_told_79 n 0 I101 G101 v1 v2 (v3 + (1 : Int32)) (v4 + (1 : Int32)) else some (v3, I101, G101))) else L_X14_told_79 n 0 I G v1 v2 v3 (v4 + (1 : Int32))))) := rfl
theorem L_X14_told_79_z (h : Nat) (I : am_I) (G : am_G) (v1 : Int32) (v2 : Int32) (v3 : Int32) (v4 : Int32) : L_X14_told_79 0 h I G v1 v2 v3 v4 = none := rfl
noncomputable def R_X14_told_79 (I : am_I) (G : am_G) (x1 : Int32) (x2 : Int32) : Option (Int32 × am_I × am_G) := L_X14_told_79 FU 0 I G x1 x2 (0 : Int32) (0 : Int32)
set_option maxRecDepth 20000 in
set_option maxHeartbeats 4000000 in
theorem l_X14_told_79 {X : am_X} {ad : Nat → Nat} (hX : am_okz X ad) (hi : am_info X 12 cX14_told 5 false (Option.some Jvm.ClassFile.FieldType.int) 2) (n : Nat) : (∀ (I : am_I) (G : am_G) (v1 : Int32) (v2 : Int32) (v3 : Int32) (v4 : Int32) (out : Int32 × am_I × am_G), L_X14_told_79 n 0 I G v1 v2 v3 v4 = some out → am_V X 0 0 (am_Rt X gS2 ad (pI out.1 out.2.1 out.2.2 (gP 123))) gS2 ad (5, [(0, .ref 79), (1, .int v1), (2, .int v2), (3, .int v3), (4, .int v4)], [], I, G, (gP 123))) := by
  induction n with
  | zero => exact fun I G v1 v2 v3 v4 out h => by rw [L_X14_told_79_z] at h; cases h
  | succ n ih =>
    · intro I G v1 v2 v3 v4 out h
      rw [L_X14_told_79_0] at h
      refine am_blk 5 [(.iload 4, 2, 4, 0, .null), (.iload_n 1, 1, 1, 0, .null)] (8, [(0, .ref 79), (1, .int v1), (2, .int v2), (3, .int v3), (4, .int v4)], [.int v1, .int v4], I, G, (gP 123)) (True) hX hi (by decide +kernel) rfl trivial ?_
      refine am_icmp_ge (tgt := 46) hX hi (off := (38)) (by decide +kernel) (by decide) (fun c8 => ?_) (fun c8 => ?_)
      · rw [if_pos c8] at h
        refine am_blk 46 [(.iconst (-1), 1, 0, 0, .int (-1 : Int32))] (47, [(0, .ref 79), (1, .int v1), (2, .int v2), (3, .int v3), (4, .int v4)], [.int (-1 : Int32)], I, G, (gP 123)) (True) hX hi (by decide +kernel) rfl trivial ?_
        cases h
        refine am_iret hX hi rfl rfl (by decide +kernel) ?_
        exact ⟨rfl, rfl, rfl, rfl⟩
      · rw [if_neg c8] at h
        obtain ⟨g0, h⟩ := rg_some h
        refine am_blk 11 [(.aload_n 0, 1, 0, 0, .null), (.getfield 26, 3, 12, 7, .null), (.iload 4, 2, 4, 0, .null), (.iaload, 1, 0, 0, .null), (.iload_n 2, 1, 2, 0, .null)] (19, [(0, .ref 79), (1, .int v1), (2, .int v2), (3, .int v3), (4, .int v4)], [.int v2, .int (I 84 v4.toNatClampNeg)], I, G, (gP 123)) (vp_in v4 401 ∧ True) hX hi (by decide +kernel) rfl ⟨g0, trivial⟩ ?_
        refine am_icmp_eq (tgt := 25) hX hi (off := (6)) (by decide +kernel) (by decide) (fun c19 => ?_) (fun c19 => ?_)
        · rw [if_pos c19] at h
          refine am_blk 25 [(.aload_n 0, 1, 0, 0, .null), (.iload 4, 2, 4, 0, .null), (.iload_n 1, 1, 1, 0, .null)] (29, [(0, .ref 79), (1, .int v1), (2, .int v2), (3, .int v3), (4, .int v4)], [.int v1, .int v4, .ref 79], I, G, (gP 123)) (True) hX hi (by decide +kernel) rfl trivial ?_
          obtain ⟨r101, I101, G101, hc, h⟩ := rb_some h
          refine am_callV hX hi (M := mX14_isSame) (idx := 224) (d' := 1) (b := 79) (ci := 12) (As := [.int v4, .int v1]) (rest := []) mkX14_isSame miX14_isSame mvX14_isSame (by decide +kernel) (by decide +kernel) rfl (by decide +kernel) rfl ⟨by omega, by decide, Nat.le_of_ble_eq_true rfl⟩ rfl (c_X14_isSame_79 I G v4 v1 hc) ?_
          rintro r9 I9 G9 P9 ⟨e0, e1, e2, e3⟩
          rw [e0, e1, e2, e3]
          show am_V X 0 0 _ _ ad (32, [(0, .ref 79), (1, .int v1), (2, .int v2), (3, .int v3), (4, .int v4)], [.int r101], I101, G101, (gP 123))
          refine am_if_eq (tgt := 37) hX hi (off := (5)) (by decide +kernel) (by decide) (fun c32 => ?_) (fun c32 => ?_)
          · rw [if_pos c32] at h
            refine am_blk 37 [(.iinc 3 (1), 3, 3, 0, .int (1 : Int32)), (.iinc 4 (1), 3, 4, 0, .int (1 : Int32)), (.goto (-38), 3, 0, 5, .null)] (5, [(0, .ref 79), (1, .int v1), (2, .int v2), (3, .int (v3 + (1 : Int32))), (4, .int (v4 + (1 : Int32)))], [], I101, G101, (gP 123)) (True) hX hi (by decide +kernel) rfl trivial ?_
            exact ih _ _ _ _ _ _ _ h
          · rw [if_neg c32] at h
            refine am_blk 35 [(.iload_n 3, 1, 3, 0, .null)] (36, [(0, .ref 79), (1, .int v1), (2, .int v2), (3, .int v3), (4, .int v4)], [.int v3], I101, G101, (gP 123)) (True) hX hi (by decide +kernel) rfl trivial ?_
            cases h
            refine am_iret hX hi rfl rfl (by decide +kernel) ?_
            exact ⟨rfl, rfl, rfl, rfl⟩
        · rw [if_neg c19] at h
          refine am_blk 22 [(.goto (18), 3, 0, 40, .null), (.iinc 4 (1), 3, 4, 0, .int (1 : Int32)), (.goto (-38), 3, 0, 5, .null)] (5, [(0, .ref 79), (1, .int v1), (2, .int v2), (3, .int v3), (4, .int (v4 + (1 : Int32)))], [], I, G, (gP 123)) (True) hX hi (by decide +kernel) rfl trivial ?_
          exact ih _ _ _ _ _ _ _ h
set_option maxRecDepth 20000 in
set_option maxHeartbeats 4000000 in
theorem c_X14_told_79 (I : am_I) (G : am_G) (x1 : Int32) (x2 : Int32) {out : Int32 × am_I × am_G} (h : R_X14_told_79 I G x1 x2 = some out) : am_Ct mX14_told 2 gS2 [.ref 79, .int x1, .int x2] I G (gP 123) (pI out.1 out.2.1 out.2.2 (gP 123)) := by
  refine am_ofF (by decide +kernel) rfl (by decide) (by omega) (Nat.le_of_ble_eq_true rfl) (fun X ad hX hi => ?_)
  have hi : am_info X 12 cX14_told 5 false (Option.some Jvm.ClassFile.FieldType.int) 2 := hi
  show am_V X 0 0 _ _ ad (0, [(0, .ref 79), (1, .int x1), (2, .int x2)], [], I, G, (gP 123))
  unfold R_X14_told_79 at h
  refine am_blk 0 [(.iconst (0), 1, 0, 0, .int (0 : Int32)), (.istore_n 3, 1, 3, 0, .null), (.iconst (0), 1, 0, 0, .int (0 : Int32)), (.istore 4, 2, 4, 0, .null)] (5, [(0, .ref 79), (1, .int x1), (2, .int x2), (3, .int (0 : Int32)), (4, .int (0 : Int32))], [], I, G, (gP 123)) (True) hX hi (by decide +kernel) rfl trivial ?_
  exact (l_X14_told_79 hX hi FU) _ _ _ _ _ _ _ h
noncomputable def L_X6_readTest_28 (cal : Nat → am_I → am_G → Int32 → Int32 → Option (Unit × am_I × am_G)) (n0 : Nat) (hd : Nat) (I : am_I) (G : am_G) (v1 : Int32) (v2 : Int32) : Option (Unit × am_I × am_G) := match n0 with
  | 0 => none
  | n + 1 => match hd with
    | _ => (if (400 : Int32) ≤ v2 then some ((), I, G) else (if (I 28 6) = (21 : Int32) then rb (cal 1 (g_X6_advance_28 I G ) G v1 (0 : Int32)) (fun r101 I101 G101 => L_X6_readTest_28 cal n 0 (g_X3_add_38 I101 G101 (21 : Int32) (0 : Int32)) G101 v1 (v2 + (1 : Int32))) else some ((), I, G)))
theorem L_X6_readTest_28_0 (cal : Nat → am_I → am_G → Int32 → Int32 → Option (Unit × am_I × am_G)) (n : Nat) (I : am_I) (G : am_G) (v1 : Int32) (v2 : Int32) : L_X6_readTest_28 cal (n + 1) 0 I G v1 v2 = (if (400 : Int32) ≤ v2 then some ((), I, G) else (if (I 28 6) = (21 : Int32) then rb (cal 1 (g_X6_advance_28 I G ) G v1 (0 : Int32)) (fun r101 I101 G101 => L_X6_readTest_28 cal n 0 (g_X3_add_38 I101 G101 (21 : Int32) (0 : Int32)) G101 v1 (v2 + (1 : Int32))) else some ((), I, G))) := rfl
theorem L_X6_readTest_28_z (cal : Nat → am_I → am_G → Int32 → Int32 → Option (Unit × am_I × am_G)) (h : Nat) (I : am_I) (G : am_G) (v1 : Int32) (v2 : Int32) : L_X6_readTest_28 cal 0 h I G v1 v2 = none := rfl
noncomputable def R_X6_readTest_28 (cal : Nat → am_I → am_G → Int32 → Int32 → Option (Unit × am_I × am_G)) (I : am_I) (G : am_G) (x1 : Int32) : Option (Unit × am_I × am_G) := rb (cal 1 I G x1 (0 : Int32)) (fun r1 I1 G1 => L_X6_readTest_28 cal FU 0 I1 G1 x1 (0 : Int32))
set_option maxRecDepth 20000 in
set_option maxHeartbeats 4000000 in
theorem l_X6_readTest_28 {cal : Nat → am_I → am_G → Int32 → Int32 → Option (Unit × am_I × am_G)} {n9 : Nat} (h0 : ∀ (rd : Nat) (I : am_I) (G : am_G) (a : Int32) (out : Unit × am_I × am_G), cal 0 I G a (0 : Int32) = some out → am_Ct mX6_readTest (8 + n9) gS [.ref 28, .int a] I G (gP rd) (pV out.2.1 out.2.2 (gP rd))) (h1 : ∀ (rd : Nat) (I : am_I) (G : am_G) (a : Int32) (out : Unit × am_I × am_G), cal 1 I G a (0 : Int32) = some out → am_Ct mX6_readBoth (8 + n9) gS [.ref 28, .int a] I G (gP rd) (pV out.2.1 out.2.2 (gP rd))) (h2 : ∀ (rd : Nat) (I : am_I) (G : am_G) (a : Int32) (out : Unit × am_I × am_G), cal 2 I G a (0 : Int32) = some out → am_Ct mX6_readSingle (8 + n9) gS [.ref 28, .int a] I G (gP rd) (pV out.2.1 out.2.2 (gP rd))) (h3 : ∀ (rd : Nat) (I : am_I) (G : am_G) (a : Int32) (out : Unit × am_I × am_G), cal 3 I G a (0 : Int32) = some out → am_Ct mX6_readSum (8 + n9) gS [.ref 28, .int a] I G (gP rd) (pV out.2.1 out.2.2 (gP rd))) (h4 : ∀ (rd : Nat) (I : am_I) (G : am_G) (a : Int32) (out : Unit × am_I × am_G), cal 4 I G a (0 : Int32) = some out → am_Ct mX6_readProduct (8 + n9) gS [.ref 28, .int a] I G (gP rd) (pV out.2.1 out.2.2 (gP rd))) (h5 : ∀ (rd : Nat) (I : am_I) (G : am_G) (a : Int32) (out : Unit × am_I × am_G), cal 5 I G a (0 : Int32) = some out → am_Ct mX6_readValue (8 + n9) gS [.ref 28, .int a] I G (gP rd) (pV out.2.1 out.2.2 (gP rd))) (h6 : ∀ (rd : Nat) (I : am_I) (G : am_G) (a : Int32) (out : Unit × am_I × am_G), cal 6 I G a (0 : Int32) = some out → am_Ct mX6_readPair (8 + n9) gS [.ref 28, .int a] I G (gP rd) (pV out.2.1 out.2.2 (gP rd))) (rd : Nat) {X : am_X} {ad : Nat → Nat} (hX : am_okz X ad) (hi : am_info X 4 cX6_readTest 3 false none (8 + n9 + 1)) (n : Nat) : (∀ (I : am_I) (G : am_G) (v1 : Int32) (v2 : Int32) (out : Unit × am_I × am_G), L_X6_readTest_28 cal n 0 I G v1 v2 = some out → am_V X 0 0 (am_Rt X gS ad (pV out.2.1 out.2.2 (gP rd))) gS ad (7, [(0, .ref 28), (1, .int v1), (2, .int v2)], [], I, G, (gP rd))) := by
  induction n with
  | zero => exact fun I G v1 v2 out h => by rw [L_X6_readTest_28_z] at h; cases h
  | succ n ih =>
    · intro I G v1 v2 out h
      rw [L_X6_readTest_28_0] at h
      refine am_blk 7 [(.iload_n 2, 1, 2, 0, .null), (.sipush (400), 3, 0, 0, .int (400 : Int32))] (11, [(0, .ref 28), (1, .int v1), (2, .int v2)], [.int (400 : Int32), .int v2], I, G, (gP rd)) (True) hX hi (by decide +kernel) rfl trivial ?_
      refine am_icmp_ge (tgt := 51) hX hi (off := (40)) (by decide +kernel) (by decide) (fun c11 => ?_) (fun c11 => ?_)
      · rw [if_pos c11] at h
        cases h
        refine am_vret hX hi rfl (by decide +kernel) ?_
        exact ⟨rfl, rfl, rfl, rfl⟩
      · rw [if_neg c11] at h
        refine am_blk 14 [(.aload_n 0, 1, 0, 0, .null), (.getfield 62, 3, 4, 6, .null), (.bipush (21), 2, 0, 0, .int (21 : Int32))] (20, [(0, .ref 28), (1, .int v1), (2, .int v2)], [.int (21 : Int32), .int (I 28 6)], I, G, (gP rd)) (True) hX hi (by decide +kernel) rfl trivial ?_
        refine am_icmp_ne (tgt := 51) hX hi (off := (31)) (by decide +kernel) (by decide) (fun c20 => ?_) (fun c20 => ?_)
        · rw [if_neg c20] at h
          cases h
          refine am_vret hX hi rfl (by decide +kernel) ?_
          exact ⟨rfl, rfl, rfl, rfl⟩
        · rw [if_pos c20] at h
          refine am_blk 23 [(.aload_n 0, 1, 0, 0, .null)] (24, [(0, .ref 28), (1, .int v1), (2, .int v2)], [.ref 28], I, G, (gP rd)) (True) hX hi (by decide +kernel) rfl trivial ?_
          refine am_callV hX hi (M := mX6_advance) (idx := 100) (d' := 2) (b := 28) (ci := 4) (As := []) (rest := []) mkX6_advance miX6_advance mvX6_advance (by decide +kernel) (by decide +kernel) rfl (by decide +kernel) rfl ⟨by omega, by decide, Nat.le_of_ble_eq_true rfl⟩ rfl (c_X6_advance_28 _ I G ) ?_
          rintro r9 I9 G9 P9 ⟨e0, e1, e2, e3⟩
          rw [e0, e1, e2, e3]
          show am_V X 0 0 _ _ ad (27, [(0, .ref 28), (1, .int v1), (2, .int v2)], [], (g_X6_advance_28 I G ), G, (gP rd))
          refine am_blk 27 [(.aload_n 0, 1, 0, 0, .null), (.iload_n 1, 1, 1, 0, .null)] (29, [(0, .ref 28), (1, .int v1), (2, .int v2)], [.int v1, .ref 28], (g_X6_advance_28 I G ), G, (gP rd)) (True) hX hi (by decide +kernel) rfl trivial ?_
          obtain ⟨r101, I101, G101, hc, h⟩ := rb_some h
          refine am_callV hX hi (M := mX6_readBoth) (idx := 158) (d' := (8 + n9)) (b := 28) (ci := 4) (As := [.int v1]) (rest := []) mkX6_readBoth miX6_readBoth mvX6_readBoth (by decide +kernel) (by decide +kernel) rfl (by decide +kernel) rfl ⟨by omega, by decide, Nat.le_of_ble_eq_true rfl⟩ rfl (h1 _ (g_X6_advance_28 I G ) G v1 _ hc) ?_
          rintro r9 I9 G9 P9 ⟨e0, e1, e2, e3⟩
          rw [e0, e1, e2, e3]
          show am_V X 0 0 _ _ ad (32, [(0, .ref 28), (1, .int v1), (2, .int v2)], [], I101, G101, (gP rd))
          refine am_blk 32 [(.aload_n 0, 1, 0, 0, .null), (.getfield 12, 3, 4, 1, .null), (.getfield 91, 3, 3, 8, .null), (.bipush (21), 2, 0, 0, .int (21 : Int32)), (.iconst (0), 1, 0, 0, .int (0 : Int32))] (42, [(0, .ref 28), (1, .int v1), (2, .int v2)], [.int (0 : Int32), .int (21 : Int32), .ref 38], I101, G101, (gP rd)) (True) hX hi (by decide +kernel) rfl trivial ?_
          refine am_callV hX hi (M := mX3_add) (idx := 161) (d' := 2) (b := 38) (ci := 1) (As := [.int (21 : Int32), .int (0 : Int32)]) (rest := []) mkX3_add miX3_add mvX3_add (by decide +kernel) (by decide +kernel) rfl (by decide +kernel) rfl ⟨by omega, by decide, Nat.le_of_ble_eq_true rfl⟩ rfl (c_X3_add_38 _ I101 G101 (21 : Int32) (0 : Int32)) ?_
          rintro r9 I9 G9 P9 ⟨e0, e1, e2, e3⟩
          rw [e0, e1, e2, e3]
          show am_V X 0 0 _ _ ad (45, [(0, .ref 28), (1, .int v1), (2, .int v2)], [], (g_X3_add_38 I101 G101 (21 : Int32) (0 : Int32)), G101, (gP rd))
          refine am_blk 45 [(.iinc 2 (1), 3, 2, 0, .int (1 : Int32)), (.goto (-41), 3, 0, 7, .null)] (7, [(0, .ref 28), (1, .int v1), (2, .int (v2 + (1 : Int32)))], [], (g_X3_add_38 I101 G101 (21 : Int32) (0 : Int32)), G101, (gP rd)) (True) hX hi (by decide +kernel) rfl trivial ?_
          exact ih _ _ _ _ _ h
set_option maxRecDepth 20000 in
set_option maxHeartbeats 4000000 in
theorem c_X6_readTest_28 {cal : Nat → am_I → am_G → Int32 → Int32 → Option (Unit × am_I × am_G)} {n9 : Nat} (h0 : ∀ (rd : Nat) (I : am_I) (G : am_G) (a : Int32) (out : Unit × am_I × am_G), cal 0 I G a (0 : Int32) = some out → am_Ct mX6_readTest (8 + n9) gS [.ref 28, .int a] I G (gP rd) (pV out.2.1 out.2.2 (gP rd))) (h1 : ∀ (rd : Nat) (I : am_I) (G : am_G) (a : Int32) (out : Unit × am_I × am_G), cal 1 I G a (0 : Int32) = some out → am_Ct mX6_readBoth (8 + n9) gS [.ref 28, .int a] I G (gP rd) (pV out.2.1 out.2.2 (gP rd))) (h2 : ∀ (rd : Nat) (I : am_I) (G : am_G) (a : Int32) (out : Unit × am_I × am_G), cal 2 I G a (0 : Int32) = some out → am_Ct mX6_readSingle (8 + n9) gS [.ref 28, .int a] I G (gP rd) (pV out.2.1 out.2.2 (gP rd))) (h3 : ∀ (rd : Nat) (I : am_I) (G : am_G) (a : Int32) (out : Unit × am_I × am_G), cal 3 I G a (0 : Int32) = some out → am_Ct mX6_readSum (8 + n9) gS [.ref 28, .int a] I G (gP rd) (pV out.2.1 out.2.2 (gP rd))) (h4 : ∀ (rd : Nat) (I : am_I) (G : am_G) (a : Int32) (out : Unit × am_I × am_G), cal 4 I G a (0 : Int32) = some out → am_Ct mX6_readProduct (8 + n9) gS [.ref 28, .int a] I G (gP rd) (pV out.2.1 out.2.2 (gP rd))) (h5 : ∀ (rd : Nat) (I : am_I) (G : am_G) (a : Int32) (out : Unit × am_I × am_G), cal 5 I G a (0 : Int32) = some out → am_Ct mX6_readValue (8 + n9) gS [.ref 28, .int a] I G (gP rd) (pV out.2.1 out.2.2 (gP rd))) (h6 : ∀ (rd : Nat) (I : am_I) (G : am_G) (a : Int32) (out : Unit × am_I × am_G), cal 6 I G a (0 : Int32) = some out → am_Ct mX6_readPair (8 + n9) gS [.ref 28, .int a] I G (gP rd) (pV out.2.1 out.2.2 (gP rd))) (rd : Nat) (I : am_I) (G : am_G) (x1 : Int32) {out : Unit × am_I × am_G} (h : R_X6_readTest_28 cal I G x1 = some out) : am_Ct mX6_readTest (8 + n9 + 1) gS [.ref 28, .int x1] I G (gP rd) (pV out.2.1 out.2.2 (gP rd)) := by
  refine am_ofF (by decide +kernel) rfl (by decide) (by omega) (Nat.le_of_ble_eq_true rfl) (fun X ad hX hi => ?_)
  have hi : am_info X 4 cX6_readTest 3 false none (8 + n9 + 1) := hi
  show am_V X 0 0 _ _ ad (0, [(0, .ref 28), (1, .int x1)], [], I, G, (gP rd))
  unfold R_X6_readTest_28 at h
  refine am_blk 0 [(.aload_n 0, 1, 0, 0, .null), (.iload_n 1, 1, 1, 0, .null)] (2, [(0, .ref 28), (1, .int x1)], [.int x1, .ref 28], I, G, (gP rd)) (True) hX hi (by decide +kernel) rfl trivial ?_
  obtain ⟨r1, I1, G1, hc, h⟩ := rb_some h
  refine am_callV hX hi (M := mX6_readBoth) (idx := 158) (d' := (8 + n9)) (b := 28) (ci := 4) (As := [.int x1]) (rest := []) mkX6_readBoth miX6_readBoth mvX6_readBoth (by decide +kernel) (by decide +kernel) rfl (by decide +kernel) rfl ⟨by omega, by decide, Nat.le_of_ble_eq_true rfl⟩ rfl (h1 _ I G x1 _ hc) ?_
  rintro r9 I9 G9 P9 ⟨e0, e1, e2, e3⟩
  rw [e0, e1, e2, e3]
  show am_V X 0 0 _ _ ad (5, [(0, .ref 28), (1, .int x1)], [], I1, G1, (gP rd))
  refine am_blk 5 [(.iconst (0), 1, 0, 0, .int (0 : Int32)), (.istore_n 2, 1, 2, 0, .null)] (7, [(0, .ref 28), (1, .int x1), (2, .int (0 : Int32))], [], I1, G1, (gP rd)) (True) hX hi (by decide +kernel) rfl trivial ?_
  exact (l_X6_readTest_28 h0 h1 h2 h3 h4 h5 h6 rd hX hi FU) _ _ _ _ _ h
noncomputable def L_X6_readBoth_28 (cal : Nat → am_I → am_G → Int32 → Int32 → Option (Unit × am_I × am_G)) (n0 : Nat) (hd : Nat) (I : am_I) (G : am_G) (v1 : Int32) (v2 : Int32) : Option (Unit × am_I × am_G) := match n0 with
  | 0 => none
  | n + 1 => match hd with
    | _ => (if (400 : Int32) ≤ v2 then some ((), I, G) else (if (I 28 6) = (20 : Int32) then rb (cal 2 (g_X6_advance_28 I G ) G v1 (0 : Int32)) (fun r101 I101 G101 => L_X6_readBoth_28 cal n 0 (g_X3_add_38 I101 G101 (20 : Int32) (0 : Int32)) G101 v1 (v2 + (1 : Int32))) else some ((), I, G)))
theorem L_X6_readBoth_28_0 (cal : Nat → am_I → am_G → Int32 → Int32 → Option (Unit × am_I × am_G)) (n : Nat) (I : am_I) (G : am_G) (v1 : Int32) (v2 : Int32) : L_X6_readBoth_28 cal (n + 1) 0 I G v1 v2 = (if (400 : Int32) ≤ v2 then some ((), I, G) else (if (I 28 6) = (20 : Int32) then rb (cal 2 (g_X6_advance_28 I G ) G v1 (0 : Int32)) (fun r101 I101 G101 => L_X6_readBoth_28 cal n 0 (g_X3_add_38 I101 G101 (20 : Int32) (0 : Int32)) G101 v1 (v2 + (1 : Int32))) else some ((), I, G))) := rfl
theorem L_X6_readBoth_28_z (cal : Nat → am_I → am_G → Int32 → Int32 → Option (Unit × am_I × am_G)) (h : Nat) (I : am_I) (G : am_G) (v1 : Int32) (v2 : Int32) : L_X6_readBoth_28 cal 0 h I G v1 v2 = none := rfl
noncomputable def R_X6_readBoth_28 (cal : Nat → am_I → am_G → Int32 → Int32 → Option (Unit × am_I × am_G)) (I : am_I) (G : am_G) (x1 : Int32) : Option (Unit × am_I × am_G) := rb (cal 2 I G x1 (0 : Int32)) (fun r1 I1 G1 => L_X6_readBoth_28 cal FU 0 I1 G1 x1 (0 : Int32))
set_option maxRecDepth 20000 in
set_option maxHeartbeats 4000000 in
theorem l_X6_readBoth_28 {cal : Nat → am_I → am_G → Int32 → Int32 → Option (Unit × am_I × am_G)} {n9 : Nat} (h0 : ∀ (rd : Nat) (I : am_I) (G : am_G) (a : Int32) (out : Unit × am_I × am_G), cal 0 I G a (0 : Int32) = some out → am_Ct mX6_readTest (8 + n9) gS [.ref 28, .int a] I G (gP rd) (pV out.2.1 out.2.2 (gP rd))) (h1 : ∀ (rd : Nat) (I : am_I) (G : am_G) (a : Int32) (out : Unit × am_I × am_G), cal 1 I G a (0 : Int32) = some out → am_Ct mX6_readBoth (8 + n9) gS [.ref 28, .int a] I G (gP rd) (pV out.2.1 out.2.2 (gP rd))) (h2 : ∀ (rd : Nat) (I : am_I) (G : am_G) (a : Int32) (out : Unit × am_I × am_G), cal 2 I G a (0 : Int32) = some out → am_Ct mX6_readSingle (8 + n9) gS [.ref 28, .int a] I G (gP rd) (pV out.2.1 out.2.2 (gP rd))) (h3 : ∀ (rd : Nat) (I : am_I) (G : am_G) (a : Int32) (out : Unit × am_I × am_G), cal 3 I G a (0 : Int32) = some out → am_Ct mX6_readSum (8 + n9) gS [.ref 28, .int a] I G (gP rd) (pV out.2.1 out.2.2 (gP rd))) (h4 : ∀ (rd : Nat) (I : am_I) (G : am_G) (a : Int32) (out : Unit × am_I × am_G), cal 4 I G a (0 : Int32) = some out → am_Ct mX6_readProduct (8 + n9) gS [.ref 28, .int a] I G (gP rd) (pV out.2.1 out.2.2 (gP rd))) (h5 : ∀ (rd : Nat) (I : am_I) (G : am_G) (a : Int32) (out : Unit × am_I × am_G), cal 5 I G a (0 : Int32) = some out → am_Ct mX6_readValue (8 + n9) gS [.ref 28, .int a] I G (gP rd) (pV out.2.1 out.2.2 (gP rd))) (h6 : ∀ (rd : Nat) (I : am_I) (G : am_G) (a : Int32) (out : Unit × am_I × am_G), cal 6 I G a (0 : Int32) = some out → am_Ct mX6_readPair (8 + n9) gS [.ref 28, .int a] I G (gP rd) (pV out.2.1 out.2.2 (gP rd))) (rd : Nat) {X : am_X} {ad : Nat → Nat} (hX : am_okz X ad) (hi : am_info X 4 cX6_readBoth 3 false none (8 + n9 + 1)) (n : Nat) : (∀ (I : am_I) (G : am_G) (v1 : Int32) (v2 : Int32) (out : Unit × am_I × am_G), L_X6_readBoth_28 cal n 0 I G v1 v2 = some out → am_V X 0 0 (am_Rt X gS ad (pV out.2.1 out.2.2 (gP rd))) gS ad (7, [(0, .ref 28), (1, .int v1), (2, .int v2)], [], I, G, (gP rd))) := by
  induction n with
  | zero => exact fun I G v1 v2 out h => by rw [L_X6_readBoth_28_z] at h; cases h
  | succ n ih =>
    · intro I G v1 v2 out h
      rw [L_X6_readBoth_28_0] at h
      refine am_blk 7 [(.iload_n 2, 1, 2, 0, .null), (.sipush (400), 3, 0, 0, .int (400 : Int32))] (11, [(0, .ref 28), (1, .int v1), (2, .int v2)], [.int (400 : Int32), .int v2], I, G, (gP rd)) (True) hX hi (by decide +kernel) rfl trivial ?_
      refine am_icmp_ge (tgt := 51) hX hi (off := (40)) (by decide +kernel) (by decide) (fun c11 => ?_) (fun c11 => ?_)
      · rw [if_pos c11] at h
        cases h
        refine am_vret hX hi rfl (by decide +kernel) ?_
        exact ⟨rfl, rfl, rfl, rfl⟩
      · rw [if_neg c11] at h
        refine am_blk 14 [(.aload_n 0, 1, 0, 0, .null), (.getfield 62, 3, 4, 6, .null), (.bipush (20), 2, 0, 0, .int (20 : Int32))] (20, [(0, .ref 28), (1, .int v1), (2, .int v2)], [.int (20 : Int32), .int (I 28 6)], I, G, (gP rd)) (True) hX hi (by decide +kernel) rfl trivial ?_
        refine am_icmp_ne (tgt := 51) hX hi (off := (31)) (by decide +kernel) (by decide) (fun c20 => ?_) (fun c20 => ?_)
        · rw [if_neg c20] at h
          cases h
          refine am_vret hX hi rfl (by decide +kernel) ?_
          exact ⟨rfl, rfl, rfl, rfl⟩
        · rw [if_pos c20] at h
          refine am_blk 23 [(.aload_n 0, 1, 0, 0, .null)] (24, [(0, .ref 28), (1, .int v1), (2, .int v2)], [.ref 28], I, G, (gP rd)) (True) hX hi (by decide +kernel) rfl trivial ?_
          refine am_callV hX hi (M := mX6_advance) (idx := 100) (d' := 2) (b := 28) (ci := 4) (As := []) (rest := []) mkX6_advance miX6_advance mvX6_advance (by decide +kernel) (by decide +kernel) rfl (by decide +kernel) rfl ⟨by omega, by decide, Nat.le_of_ble_eq_true rfl⟩ rfl (c_X6_advance_28 _ I G ) ?_
          rintro r9 I9 G9 P9 ⟨e0, e1, e2, e3⟩
          rw [e0, e1, e2, e3]
          show am_V X 0 0 _ _ ad (27, [(0, .ref 28), (1, .int v1), (2, .int v2)], [], (g_X6_advance_28 I G ), G, (gP rd))
          refine am_blk 27 [(.aload_n 0, 1, 0, 0, .null), (.iload_n 1, 1, 1, 0, .null)] (29, [(0, .ref 28), (1, .int v1), (2, .int v2)], [.int v1, .ref 28], (g_X6_advance_28 I G ), G, (gP rd)) (True) hX hi (by decide +kernel) rfl trivial ?_
          obtain ⟨r101, I101, G101, hc, h⟩ := rb_some h
          refine am_callV hX hi (M := mX6_readSingle) (idx := 164) (d' := (8 + n9)) (b := 28) (ci := 4) (As := [.int v1]) (rest := []) mkX6_readSingle miX6_readSingle mvX6_readSingle (by decide +kernel) (by decide +kernel) rfl (by decide +kernel) rfl ⟨by omega, by decide, Nat.le_of_ble_eq_true rfl⟩ rfl (h2 _ (g_X6_advance_28 I G ) G v1 _ hc) ?_
          rintro r9 I9 G9 P9 ⟨e0, e1, e2, e3⟩
          rw [e0, e1, e2, e3]
          show am_V X 0 0 _ _ ad (32, [(0, .ref 28), (1, .int v1), (2, .int v2)], [], I101, G101, (gP rd))
          refine am_blk 32 [(.aload_n 0, 1, 0, 0, .null), (.getfield 12, 3, 4, 1, .null), (.getfield 91, 3, 3, 8, .null), (.bipush (20), 2, 0, 0, .int (20 : Int32)), (.iconst (0), 1, 0, 0, .int (0 : Int32))] (42, [(0, .ref 28), (1, .int v1), (2, .int v2)], [.int (0 : Int32), .int (20 : Int32), .ref 38], I101, G101, (gP rd)) (True) hX hi (by decide +kernel) rfl trivial ?_
          refine am_callV hX hi (M := mX3_add) (idx := 161) (d' := 2) (b := 38) (ci := 1) (As := [.int (20 : Int32), .int (0 : Int32)]) (rest := []) mkX3_add miX3_add mvX3_add (by decide +kernel) (by decide +kernel) rfl (by decide +kernel) rfl ⟨by omega, by decide, Nat.le_of_ble_eq_true rfl⟩ rfl (c_X3_add_38 _ I101 G101 (20 : Int32) (0 : Int32)) ?_
          rintro r9 I9 G9 P9 ⟨e0, e1, e2, e3⟩
          rw [e0, e1, e2, e3]
          show am_V X 0 0 _ _ ad (45, [(0, .ref 28), (1, .int v1), (2, .int v2)], [], (g_X3_add_38 I101 G101 (20 : Int32) (0 : Int32)), G101, (gP rd))
          refine am_blk 45 [(.iinc 2 (1), 3, 2, 0, .int (1 : Int32)), (.goto (-41), 3, 0, 7, .null)] (7, [(0, .ref 28), (1, .int v1), (2, .int (v2 + (1 : Int32)))], [], (g_X3_add_38 I101 G101 (20 : Int32) (0 : Int32)), G101, (gP rd)) (True) hX hi (by decide +kernel) rfl trivial ?_
          exact ih _ _ _ _ _ h
set_option maxRecDepth 20000 in
set_option maxHeartbeats 4000000 in
theorem c_X6_readBoth_28 {cal : Nat → am_I → am_G → Int32 → Int32 → Option (Unit × am_I × am_G)} {n9 : Nat} (h0 : ∀ (rd : Nat) (I : am_I) (G : am_G) (a : Int32) (out : Unit × am_I × am_G), cal 0 I G a (0 : Int32) = some out → am_Ct mX6_readTest (8 + n9) gS [.ref 28, .int a] I G (gP rd) (pV out.2.1 out.2.2 (gP rd))) (h1 : ∀ (rd : Nat) (I : am_I) (G : am_G) (a : Int32) (out : Unit × am_I × am_G), cal 1 I G a (0 : Int32) = some out → am_Ct mX6_readBoth (8 + n9) gS [.ref 28, .int a] I G (gP rd) (pV out.2.1 out.2.2 (gP rd))) (h2 : ∀ (rd : Nat) (I : am_I) (G : am_G) (a : Int32) (out : Unit × am_I × am_G), cal 2 I G a (0 : Int32) = some out → am_Ct mX6_readSingle (8 + n9) gS [.ref 28, .int a] I G (gP rd) (pV out.2.1 out.2.2 (gP rd))) (h3 : ∀ (rd : Nat) (I : am_I) (G : am_G) (a : Int32) (out : Unit × am_I × am_G), cal 3 I G a (0 : Int32) = some out → am_Ct mX6_readSum (8 + n9) gS [.ref 28, .int a] I G (gP rd) (pV out.2.1 out.2.2 (gP rd))) (h4 : ∀ (rd : Nat) (I : am_I) (G : am_G) (a : Int32) (out : Unit × am_I × am_G), cal 4 I G a (0 : Int32) = some out → am_Ct mX6_readProduct (8 + n9) gS [.ref 28, .int a] I G (gP rd) (pV out.2.1 out.2.2 (gP rd))) (h5 : ∀ (rd : Nat) (I : am_I) (G : am_G) (a : Int32) (out : Unit × am_I × am_G), cal 5 I G a (0 : Int32) = some out → am_Ct mX6_readValue (8 + n9) gS [.ref 28, .int a] I G (gP rd) (pV out.2.1 out.2.2 (gP rd))) (h6 : ∀ (rd : Nat) (I : am_I) (G : am_G) (a : Int32) (out : Unit × am_I × am_G), cal 6 I G a (0 : Int32) = some out → am_Ct mX6_readPair (8 + n9) gS [.ref 28, .int a] I G (gP rd) (pV out.2.1 out.2.2 (gP rd))) (rd : Nat) (I : am_I) (G : am_G) (x1 : Int32) {out : Unit × am_I × am_G} (h : R_X6_readBoth_28 cal I G x1 = some out) : am_Ct mX6_readBoth (8 + n9 + 1) gS [.ref 28, .int x1] I G (gP rd) (pV out.2.1 out.2.2 (gP rd)) := by
  refine am_ofF (by decide +kernel) rfl (by decide) (by omega) (Nat.le_of_ble_eq_true rfl) (fun X ad hX hi => ?_)
  have hi : am_info X 4 cX6_readBoth 3 false none (8 + n9 + 1) := hi
  show am_V X 0 0 _ _ ad (0, [(0, .ref 28), (1, .int x1)], [], I, G, (gP rd))
  unfold R_X6_readBoth_28 at h
  refine am_blk 0 [(.aload_n 0, 1, 0, 0, .null), (.iload_n 1, 1, 1, 0, .null)] (2, [(0, .ref 28), (1, .int x1)], [.int x1, .ref 28], I, G, (gP rd)) (True) hX hi (by decide +kernel) rfl trivial ?_
  obtain ⟨r1, I1, G1, hc, h⟩ := rb_some h
  refine am_callV hX hi (M := mX6_readSingle) (idx := 164) (d' := (8 + n9)) (b := 28) (ci := 4) (As := [.int x1]) (rest := []) mkX6_readSingle miX6_readSingle mvX6_readSingle (by decide +kernel) (by decide +kernel) rfl (by decide +kernel) rfl ⟨by omega, by decide, Nat.le_of_ble_eq_true rfl⟩ rfl (h2 _ I G x1 _ hc) ?_
  rintro r9 I9 G9 P9 ⟨e0, e1, e2, e3⟩
  rw [e0, e1, e2, e3]
  show am_V X 0 0 _ _ ad (5, [(0, .ref 28), (1, .int x1)], [], I1, G1, (gP rd))
  refine am_blk 5 [(.iconst (0), 1, 0, 0, .int (0 : Int32)), (.istore_n 2, 1, 2, 0, .null)] (7, [(0, .ref 28), (1, .int x1), (2, .int (0 : Int32))], [], I1, G1, (gP rd)) (True) hX hi (by decide +kernel) rfl trivial ?_
  exact (l_X6_readBoth_28 h0 h1 h2 h3 h4 h5 h6 rd hX hi FU) _ _ _ _ _ h
noncomputable def R_X6_readSingle_28 (cal : Nat → am_I → am_G → Int32 → Int32 → Option (Unit × am_I × am_G)) (I : am_I) (G : am_G) (x1 : Int32) : Option (Unit × am_I × am_G) := (if (I 28 6) = (19 : Int32) then (if x1 < (8 : Int32) then (if (I 28 6) = (19 : Int32) then rb (cal 2 (g_X6_advance_28 I G ) G (x1 + (1 : Int32)) (0 : Int32)) (fun r5 I5 G5 => some ((), (g_X3_add_38 I5 G5 (19 : Int32) (0 : Int32)), G5)) else (if (I 28 6) = (26 : Int32) then rb (cal 0 (g_X6_advance_28 I G ) G (x1 + (1 : Int32)) (0 : Int32)) (fun r4 I4 G4 => some ((), (g_X6_expect_28 I4 G4 (27 : Int32)), G4)) else (if (I 28 6) = (18 : Int32) then rb (R_X6_readKnownName_28_51 (g_X6_advance_28 I G ) G ) (fun r3 I3 G3 => some ((), (g_X3_add_38 I3 G3 (18 : Int32) r3), G3)) else rb (cal 3 I G x1 (0 : Int32)) (fun r1 I1 G1 => rb (cal 3 (g_X6_readComparison_28 I1 G1 ) G1 x1 (0 : Int32)) (fun r2 I2 G2 => some ((), (g_X3_add_38 I2 G2 (f_X6_readComparison_28 I1 G1 ) (0 : Int32)), G2)))))) else some ((), (g_X6_refuse_28 I G ), G)) else (if (I 28 6) = (26 : Int32) then (if x1 < (8 : Int32) then (if (I 28 6) = (19 : Int32) then rb (cal 2 (g_X6_advance_28 I G ) G (x1 + (1 : Int32)) (0 : Int32)) (fun r15 I15 G15 => some ((), (g_X3_add_38 I15 G15 (19 : Int32) (0 : Int32)), G15)) else (if (I 28 6) = (26 : Int32) then rb (cal 0 (g_X6_advance_28 I G ) G (x1 + (1 : Int32)) (0 : Int32)) (fun r14 I14 G14 => some ((), (g_X6_expect_28 I14 G14 (27 : Int32)), G14)) else (if (I 28 6) = (18 : Int32) then rb (R_X6_readKnownName_28_51 (g_X6_advance_28 I G ) G ) (fun r13 I13 G13 => some ((), (g_X3_add_38 I13 G13 (18 : Int32) r13), G13)) else rb (cal 3 I G x1 (0 : Int32)) (fun r11 I11 G11 => rb (cal 3 (g_X6_readComparison_28 I11 G11 ) G11 x1 (0 : Int32)) (fun r12 I12 G12 => some ((), (g_X3_add_38 I12 G12 (f_X6_readComparison_28 I11 G11 ) (0 : Int32)), G12)))))) else some ((), (g_X6_refuse_28 I G ), G)) else (if (I 28 6) = (19 : Int32) then rb (cal 2 (g_X6_advance_28 I G ) G (x1 + (1 : Int32)) (0 : Int32)) (fun r10 I10 G10 => some ((), (g_X3_add_38 I10 G10 (19 : Int32) (0 : Int32)), G10)) else (if (I 28 6) = (26 : Int32) then rb (cal 0 (g_X6_advance_28 I G ) G (x1 + (1 : Int32)) (0 : Int32)) (fun r9 I9 G9 => some ((), (g_X6_expect_28 I9 G9 (27 : Int32)), G9)) else (if (I 28 6) = (18 : Int32) then rb (R_X6_readKnownName_28_51 (g_X6_advance_28 I G ) G ) (fun r8 I8 G8 => some ((), (g_X3_add_38 I8 G8 (18 : Int32) r8), G8)) else rb (cal 3 I G x1 (0 : Int32)) (fun r6 I6 G6 => rb (cal 3 (g_X6_readComparison_28 I6 G6 ) G6 x1 (0 : Int32)) (fun r7 I7 G7 => some ((), (g_X3_add_38 I7 G7 (f_X6_readComparison_28 I6 G6 ) (0 : Int32)), G7))))))))
set_option maxRecDepth 20000 in
set_option maxHeartbeats 4000000 in
theorem c_X6_readSingle_28 {cal : Nat → am_I → am_G → Int32 → Int32 → Option (Unit × am_I × am_G)} {n9 : Nat} (h0 : ∀ (rd : Nat) (I : am_I) (G : am_G) (a : Int32) (out : Unit × am_I × am_G), cal 0 I G a (0 : Int32) = some out → am_Ct mX6_readTest (8 + n9) gS [.ref 28, .int a] I G (gP rd) (pV out.2.1 out.2.2 (gP rd))) (h1 : ∀ (rd : Nat) (I : am_I) (G : am_G) (a : Int32) (out : Unit × am_I × am_G), cal 1 I G a (0 : Int32) = some out → am_Ct mX6_readBoth (8 + n9) gS [.ref 28, .int a] I G (gP rd) (pV out.2.1 out.2.2 (gP rd))) (h2 : ∀ (rd : Nat) (I : am_I) (G : am_G) (a : Int32) (out : Unit × am_I × am_G), cal 2 I G a (0 : Int32) = some out → am_Ct mX6_readSingle (8 + n9) gS [.ref 28, .int a] I G (gP rd) (pV out.2.1 out.2.2 (gP rd))) (h3 : ∀ (rd : Nat) (I : am_I) (G : am_G) (a : Int32) (out : Unit × am_I × am_G), cal 3 I G a (0 : Int32) = some out → am_Ct mX6_readSum (8 + n9) gS [.ref 28, .int a] I G (gP rd) (pV out.2.1 out.2.2 (gP rd))) (h4 : ∀ (rd : Nat) (I : am_I) (G : am_G) (a : Int32) (out : Unit × am_I × am_G), cal 4 I G a (0 : Int32) = some out → am_Ct mX6_readProduct (8 + n9) gS [.ref 28, .int a] I G (gP rd) (pV out.2.1 out.2.2 (gP rd))) (h5 : ∀ (rd : Nat) (I : am_I) (G : am_G) (a : Int32) (out : Unit × am_I × am_G), cal 5 I G a (0 : Int32) = some out → am_Ct mX6_readValue (8 + n9) gS [.ref 28, .int a] I G (gP rd) (pV out.2.1 out.2.2 (gP rd))) (h6 : ∀ (rd : Nat) (I : am_I) (G : am_G) (a : Int32) (out : Unit × am_I × am_G), cal 6 I G a (0 : Int32) = some out → am_Ct mX6_readPair (8 + n9) gS [.ref 28, .int a] I G (gP rd) (pV out.2.1 out.2.2 (gP rd))) (rd : Nat) (I : am_I) (G : am_G) (x1 : Int32) {out : Unit × am_I × am_G} (h : R_X6_readSingle_28 cal I G x1 = some out) : am_Ct mX6_readSingle (8 + n9 + 1) gS [.ref 28, .int x1] I G (gP rd) (pV out.2.1 out.2.2 (gP rd)) := by
  refine am_ofF (by decide +kernel) rfl (by decide) (by omega) (Nat.le_of_ble_eq_true rfl) (fun X ad hX hi => ?_)
  have hi : am_info X 4 cX6_readSingle 3 false none (8 + n9 + 1) := hi
  show am_V X 0 0 _ _ ad (0, [(0, .ref 28), (1, .int x1)], [], I, G, (gP rd))
  unfold R_X6_readSingle_28 at h
  refine am_blk 0 [(.aload_n 0, 1, 0, 0, .null), (.getfield 62, 3, 4, 6, .null), (.bipush (19), 2, 0, 0, .int (19 : Int32))] (6, [(0, .ref 28), (1, .int x1)], [.int (19 : Int32), .int (I 28 6)], I, G, (gP rd)) (True) hX hi (by decide +kernel) rfl trivial ?_
  refine am_icmp_eq (tgt := 18) hX hi (off := (12)) (by decide +kernel) (by decide) (fun c6 => ?_) (fun c6 => ?_)
  · rw [if_pos c6] at h
    refine am_blk 18 [(.iload_n 1, 1, 1, 0, .null), (.bipush (8), 2, 0, 0, .int (8 : Int32))] (21, [(0, .ref 28), (1, .int x1)], [.int (8 : Int32), .int x1], I, G, (gP rd)) (True) hX hi (by decide +kernel) rfl trivial ?_
    refine am_icmp_lt (tgt := 31) hX hi (off := (10)) (by decide +kernel) (by decide) (fun c21 => ?_) (fun c21 => ?_)
    · rw [if_pos c21] at h
      refine am_blk 31 [(.aload_n 0, 1, 0, 0, .null), (.getfield 62, 3, 4, 6, .null), (.bipush (19), 2, 0, 0, .int (19 : Int32))] (37, [(0, .ref 28), (1, .int x1)], [.int (19 : Int32), .int (I 28 6)], I, G, (gP rd)) (True) hX hi (by decide +kernel) rfl trivial ?_
      refine am_icmp_ne (tgt := 67) hX hi (off := (30)) (by decide +kernel) (by decide) (fun c37 => ?_) (fun c37 => ?_)
      · rw [if_neg c37] at h
        refine am_blk 67 [(.aload_n 0, 1, 0, 0, .null), (.getfield 62, 3, 4, 6, .null), (.bipush (26), 2, 0, 0, .int (26 : Int32))] (73, [(0, .ref 28), (1, .int x1)], [.int (26 : Int32), .int (I 28 6)], I, G, (gP rd)) (True) hX hi (by decide +kernel) rfl trivial ?_
        refine am_icmp_ne (tgt := 96) hX hi (off := (23)) (by decide +kernel) (by decide) (fun c73 => ?_) (fun c73 => ?_)
        · rw [if_neg c73] at h
          refine am_blk 96 [(.aload_n 0, 1, 0, 0, .null), (.getfield 62, 3, 4, 6, .null), (.bipush (18), 2, 0, 0, .int (18 : Int32))] (102, [(0, .ref 28), (1, .int x1)], [.int (18 : Int32), .int (I 28 6)], I, G, (gP rd)) (True) hX hi (by decide +kernel) rfl trivial ?_
          refine am_icmp_ne (tgt := 132) hX hi (off := (30)) (by decide +kernel) (by decide) (fun c102 => ?_) (fun c102 => ?_)
          · rw [if_neg c102] at h
            refine am_blk 132 [(.aload_n 0, 1, 0, 0, .null), (.iload_n 1, 1, 1, 0, .null)] (134, [(0, .ref 28), (1, .int x1)], [.int x1, .ref 28], I, G, (gP rd)) (True) hX hi (by decide +kernel) rfl trivial ?_
            obtain ⟨r1, I1, G1, hc, h⟩ := rb_some h
            refine am_callV hX hi (M := mX6_readSum) (idx := 88) (d' := (8 + n9)) (b := 28) (ci := 4) (As := [.int x1]) (rest := []) mkX6_readSum miX6_readSum mvX6_readSum (by decide +kernel) (by decide +kernel) rfl (by decide +kernel) rfl ⟨by omega, by decide, Nat.le_of_ble_eq_true rfl⟩ rfl (h3 _ I G x1 _ hc) ?_
            rintro rz Iz Gz Pz ⟨e0, e1, e2, e3⟩
            rw [e0, e1, e2, e3]
            show am_V X 0 0 _ _ ad (137, [(0, .ref 28), (1, .int x1)], [], I1, G1, (gP rd))
            refine am_blk 137 [(.aload_n 0, 1, 0, 0, .null)] (138, [(0, .ref 28), (1, .int x1)], [.ref 28], I1, G1, (gP rd)) (True) hX hi (by decide +kernel) rfl trivial ?_
            refine am_callV hX hi (M := mX6_readComparison) (idx := 167) (d' := 3) (b := 28) (ci := 4) (As := []) (rest := []) mkX6_readComparison miX6_readComparison mvX6_readComparison (by decide +kernel) (by decide +kernel) rfl (by decide +kernel) rfl ⟨by omega, by decide, Nat.le_of_ble_eq_true rfl⟩ rfl (c_X6_readComparison_28 _ I1 G1 ) ?_
            rintro rz Iz Gz Pz ⟨e0, e1, e2, e3⟩
            rw [e0, e1, e2, e3]
            show am_V X 0 0 _ _ ad (141, [(0, .ref 28), (1, .int x1)], [.int (f_X6_readComparison_28 I1 G1 )], (g_X6_readComparison_28 I1 G1 ), G1, (gP rd))
            refine am_blk 141 [(.istore_n 2, 1, 2, 0, .null), (.aload_n 0, 1, 0, 0, .null), (.iload_n 1, 1, 1, 0, .null)] (144, [(0, .ref 28), (1, .int x1), (2, .int (f_X6_readComparison_28 I1 G1 ))], [.int x1, .ref 28], (g_X6_readComparison_28 I1 G1 ), G1, (gP rd)) (True) hX hi (by decide +kernel) rfl trivial ?_
            obtain ⟨r2, I2, G2, hc, h⟩ := rb_some h
            refine am_callV hX hi (M := mX6_readSum) (idx := 88) (d' := (8 + n9)) (b := 28) (ci := 4) (As := [.int x1]) (rest := []) mkX6_readSum miX6_readSum mvX6_readSum (by decide +kernel) (by decide +kernel) rfl (by decide +kernel) rfl ⟨by omega, by decide, Nat.le_of_ble_eq_true rfl⟩ rfl (h3 _ (g_X6_readComparison_28 I1 G1 ) G1 x1 _ hc) ?_
            rintro rz Iz Gz Pz ⟨e0, e1, e2, e3⟩
            rw [e0, e1, e2, e3]
            show am_V X 0 0 _ _ ad (147, [(0, .ref 28), (1, .int x1), (2, .int (f_X6_readComparison_28 I1 G1 ))], [], I2, G2, (gP rd))
            refine am_blk 147 [(.aload_n 0, 1, 0, 0, .null), (.getfield 12, 3, 4, 1, .null), (.getfield 91, 3, 3, 8, .null), (.iload_n 2, 1, 2, 0, .null), (.iconst (0), 1, 0, 0, .int (0 : Int32))] (156, [(0, .ref 28), (1, .int x1), (2, .int (f_X6_readComparison_28 I1 G1 ))], [.int (0 : Int32), .int (f_X6_readComparison_28 I1 G1 ), .ref 38], I2, G2, (gP rd)) (True) hX hi (by decide +kernel) rfl trivial ?_
            refine am_callV hX hi (M := mX3_add) (idx := 161) (d' := 2) (b := 38) (ci := 1) (As := [.int (f_X6_readComparison_28 I1 G1 ), .int (0 : Int32)]) (rest := []) mkX3_add miX3_add mvX3_add (by decide +kernel) (by decide +kernel) rfl (by decide +kernel) rfl ⟨by omega, by decide, Nat.le_of_ble_eq_true rfl⟩ rfl (c_X3_add_38 _ I2 G2 (f_X6_readComparison_28 I1 G1 ) (0 : Int32)) ?_
            rintro rz Iz Gz Pz ⟨e0, e1, e2, e3⟩
            rw [e0, e1, e2, e3]
            show am_V X 0 0 _ _ ad (159, [(0, .ref 28), (1, .int x1), (2, .int (f_X6_readComparison_28 I1 G1 ))], [], (g_X3_add_38 I2 G2 (f_X6_readComparison_28 I1 G1 ) (0 : Int32)), G2, (gP rd))
            cases h
            refine am_vret hX hi rfl (by decide +kernel) ?_
            exact ⟨rfl, rfl, rfl, rfl⟩
          · rw [if_pos c102] at h
            refine am_blk 105 [(.aload_n 0, 1, 0, 0, .null)] (106, [(0, .ref 28), (1, .int x1)], [.ref 28], I, G, (gP rd)) (True) hX hi (by decide +kernel) rfl trivial ?_
            refine am_callV hX hi (M := mX6_advance) (idx := 100) (d' := 2) (b := 28) (ci := 4) (As := []) (rest := []) mkX6_advance miX6_advance mvX6_advance (by decide +kernel) (by decide +kernel) rfl (by decide +kernel) rfl ⟨by omega, by decide, Nat.le_of_ble_eq_true rfl⟩ rfl (c_X6_advance_28 _ I G ) ?_
            rintro rz Iz Gz Pz ⟨e0, e1, e2, e3⟩
            rw [e0, e1, e2, e3]
            show am_V X 0 0 _ _ ad (109, [(0, .ref 28), (1, .int x1)], [], (g_X6_advance_28 I G ), G, (gP rd))
            refine am_blk 109 [(.aload_n 0, 1, 0, 0, .null), (.getfield 12, 3, 4, 1, .null), (.getfield 91, 3, 3, 8, .null), (.bipush (18), 2, 0, 0, .int (18 : Int32)), (.aload_n 0, 1, 0, 0, .null), (.aload_n 0, 1, 0, 0, .null), (.getfield 30, 3, 4, 4, .null)] (123, [(0, .ref 28), (1, .int x1)], [.ref 51, .ref 28, .int (18 : Int32), .ref 38], (g_X6_advance_28 I G ), G, (gP rd)) (True) hX hi (by decide +kernel) rfl trivial ?_
            obtain ⟨r3, I3, G3, hc, h⟩ := rb_some h
            refine am_callV hX hi (M := mX6_readKnownName) (idx := 150) (d' := 3) (b := 28) (ci := 4) (As := [.ref 51]) (rest := [.int (18 : Int32), .ref 38]) mkX6_readKnownName miX6_readKnownName mvX6_readKnownName (by decide +kernel) (by decide +kernel) rfl (by decide +kernel) rfl ⟨by omega, by decide, Nat.le_of_ble_eq_true rfl⟩ rfl (c_X6_readKnownName_28_51 _ (g_X6_advance_28 I G ) G  hc) ?_
            rintro rz Iz Gz Pz ⟨e0, e1, e2, e3⟩
            rw [e0, e1, e2, e3]
            show am_V X 0 0 _ _ ad (126, [(0, .ref 28), (1, .int x1)], [.int r3, .int (18 : Int32), .ref 38], I3, G3, (gP rd))
            refine am_callV hX hi (M := mX3_add) (idx := 161) (d' := 2) (b := 38) (ci := 1) (As := [.int (18 : Int32), .int r3]) (rest := []) mkX3_add miX3_add mvX3_add (by decide +kernel) (by decide +kernel) rfl (by decide +kernel) rfl ⟨by omega, by decide, Nat.le_of_ble_eq_true rfl⟩ rfl (c_X3_add_38 _ I3 G3 (18 : Int32) r3) ?_
            rintro rz Iz Gz Pz ⟨e0, e1, e2, e3⟩
            rw [e0, e1, e2, e3]
            show am_V X 0 0 _ _ ad (129, [(0, .ref 28), (1, .int x1)], [], (g_X3_add_38 I3 G3 (18 : Int32) r3), G3, (gP rd))
            refine am_blk 129 [(.goto (30), 3, 0, 159, .null)] (159, [(0, .ref 28), (1, .int x1)], [], (g_X3_add_38 I3 G3 (18 : Int32) r3), G3, (gP rd)) (True) hX hi (by decide +kernel) rfl trivial ?_
            cases h
            refine am_vret hX hi rfl (by decide +kernel) ?_
            exact ⟨rfl, rfl, rfl, rfl⟩
        · rw [if_pos c73] at h
          refine am_blk 76 [(.aload_n 0, 1, 0, 0, .null)] (77, [(0, .ref 28), (1, .int x1)], [.ref 28], I, G, (gP rd)) (True) hX hi (by decide +kernel) rfl trivial ?_
          refine am_callV hX hi (M := mX6_advance) (idx := 100) (d' := 2) (b := 28) (ci := 4) (As := []) (rest := []) mkX6_advance miX6_advance mvX6_advance (by decide +kernel) (by decide +kernel) rfl (by decide +kernel) rfl ⟨by omega, by decide, Nat.le_of_ble_eq_true rfl⟩ rfl (c_X6_advance_28 _ I G ) ?_
          rintro rz Iz Gz Pz ⟨e0, e1, e2, e3⟩
          rw [e0, e1, e2, e3]
          show am_V X 0 0 _ _ ad (80, [(0, .ref 28), (1, .int x1)], [], (g_X6_advance_28 I G ), G, (gP rd))
          refine am_blk 80 [(.aload_n 0, 1, 0, 0, .null), (.iload_n 1, 1, 1, 0, .null), (.iconst (1), 1, 0, 0, .int (1 : Int32)), (.iadd, 1, 0, 0, .null)] (84, [(0, .ref 28), (1, .int x1)], [.int (x1 + (1 : Int32)), .ref 28], (g_X6_advance_28 I G ), G, (gP rd)) (True) hX hi (by decide +kernel) rfl trivial ?_
          obtain ⟨r4, I4, G4, hc, h⟩ := rb_some h
          refine am_callV hX hi (M := mX6_readTest) (idx := 103) (d' := (8 + n9)) (b := 28) (ci := 4) (As := [.int (x1 + (1 : Int32))]) (rest := []) mkX6_readTest miX6_readTest mvX6_readTest (by decide +kernel) (by decide +kernel) rfl (by decide +kernel) rfl ⟨by omega, by decide, Nat.le_of_ble_eq_true rfl⟩ rfl (h0 _ (g_X6_advance_28 I G ) G (x1 + (1 : Int32)) _ hc) ?_
          rintro rz Iz Gz Pz ⟨e0, e1, e2, e3⟩
          rw [e0, e1, e2, e3]
          show am_V X 0 0 _ _ ad (87, [(0, .ref 28), (1, .int x1)], [], I4, G4, (gP rd))
          refine am_blk 87 [(.aload_n 0, 1, 0, 0, .null), (.bipush (27), 2, 0, 0, .int (27 : Int32))] (90, [(0, .ref 28), (1, .int x1)], [.int (27 : Int32), .ref 28], I4, G4, (gP rd)) (True) hX hi (by decide +kernel) rfl trivial ?_
          refine am_callV hX hi (M := mX6_expect) (idx := 109) (d' := 3) (b := 28) (ci := 4) (As := [.int (27 : Int32)]) (rest := []) mkX6_expect miX6_expect mvX6_expect (by decide +kernel) (by decide +kernel) rfl (by decide +kernel) rfl ⟨by omega, by decide, Nat.le_of_ble_eq_true rfl⟩ rfl (c_X6_expect_28 _ I4 G4 (27 : Int32)) ?_
          rintro rz Iz Gz Pz ⟨e0, e1, e2, e3⟩
          rw [e0, e1, e2, e3]
          show am_V X 0 0 _ _ ad (93, [(0, .ref 28), (1, .int x1)], [], (g_X6_expect_28 I4 G4 (27 : Int32)), G4, (gP rd))
          refine am_blk 93 [(.goto (66), 3, 0, 159, .null)] (159, [(0, .ref 28), (1, .int x1)], [], (g_X6_expect_28 I4 G4 (27 : Int32)), G4, (gP rd)) (True) hX hi (by decide +kernel) rfl trivial ?_
          cases h
          refine am_vret hX hi rfl (by decide +kernel) ?_
          exact ⟨rfl, rfl, rfl, rfl⟩
      · rw [if_pos c37] at h
        refine am_blk 40 [(.aload_n 0, 1, 0, 0, .null)] (41, [(0, .ref 28), (1, .int x1)], [.ref 28], I, G, (gP rd)) (True) hX hi (by decide +kernel) rfl trivial ?_
        refine am_callV hX hi (M := mX6_advance) (idx := 100) (d' := 2) (b := 28) (ci := 4) (As := []) (rest := []) mkX6_advance miX6_advance mvX6_advance (by decide +kernel) (by decide +kernel) rfl (by decide +kernel) rfl ⟨by omega, by decide, Nat.le_of_ble_eq_true rfl⟩ rfl (c_X6_advance_28 _ I G ) ?_
        rintro rz Iz Gz Pz ⟨e0, e1, e2, e3⟩
        rw [e0, e1, e2, e3]
        show am_V X 0 0 _ _ ad (44, [(0, .ref 28), (1, .int x1)], [], (g_X6_advance_28 I G ), G, (gP rd))
        refine am_blk 44 [(.aload_n 0, 1, 0, 0, .null), (.iload_n 1, 1, 1, 0, .null), (.iconst (1), 1, 0, 0, .int (1 : Int32)), (.iadd, 1, 0, 0, .null)] (48, [(0, .ref 28), (1, .int x1)], [.int (x1 + (1 : Int32)), .ref 28], (g_X6_advance_28 I G ), G, (gP rd)) (True) hX hi (by decide +kernel) rfl trivial ?_
        obtain ⟨r5, I5, G5, hc, h⟩ := rb_some h
        refine am_callV hX hi (M := mX6_readSingle) (idx := 164) (d' := (8 + n9)) (b := 28) (ci := 4) (As := [.int (x1 + (1 : Int32))]) (rest := []) mkX6_readSingle miX6_readSingle mvX6_readSingle (by decide +kernel) (by decide +kernel) rfl (by decide +kernel) rfl ⟨by omega, by decide, Nat.le_of_ble_eq_true rfl⟩ rfl (h2 _ (g_X6_advance_28 I G ) G (x1 + (1 : Int32)) _ hc) ?_
        rintro rz Iz Gz Pz ⟨e0, e1, e2, e3⟩
        rw [e0, e1, e2, e3]
        show am_V X 0 0 _ _ ad (51, [(0, .ref 28), (1, .int x1)], [], I5, G5, (gP rd))
        refine am_blk 51 [(.aload_n 0, 1, 0, 0, .null), (.getfield 12, 3, 4, 1, .null), (.getfield 91, 3, 3, 8, .null), (.bipush (19), 2, 0, 0, .int (19 : Int32)), (.iconst (0), 1, 0, 0, .int (0 : Int32))] (61, [(0, .ref 28), (1, .int x1)], [.int (0 : Int32), .int (19 : Int32), .ref 38], I5, G5, (gP rd)) (True) hX hi (by decide +kernel) rfl trivial ?_
        refine am_callV hX hi (M := mX3_add) (idx := 161) (d' := 2) (b := 38) (ci := 1) (As := [.int (19 : Int32), .int (0 : Int32)]) (rest := []) mkX3_add miX3_add mvX3_add (by decide +kernel) (by decide +kernel) rfl (by decide +kernel) rfl ⟨by omega, by decide, Nat.le_of_ble_eq_true rfl⟩ rfl (c_X3_add_38 _ I5 G5 (19 : Int32) (0 : Int32)) ?_
        rintro rz Iz Gz Pz ⟨e0, e1, e2, e3⟩
        rw [e0, e1, e2, e3]
        show am_V X 0 0 _ _ ad (64, [(0, .ref 28), (1, .int x1)], [], (g_X3_add_38 I5 G5 (19 : Int32) (0 : Int32)), G5, (gP rd))
        refine am_blk 64 [(.goto (95), 3, 0, 159, .null)] (159, [(0, .ref 28), (1, .int x1)], [], (g_X3_add_38 I5 G5 (19 : Int32) (0 : Int32)), G5, (gP rd)) (True) hX hi (by decide +kernel) rfl trivial ?_
        cases h
        refine am_vret hX hi rfl (by decide +kernel) ?_
        exact ⟨rfl, rfl, rfl, rfl⟩
    · rw [if_neg c21] at h
      refine am_blk 24 [(.aload_n 0, 1, 0, 0, .null)] (25, [(0, .ref 28), (1, .int x1)], [.ref 28], I, G, (gP rd)) (True) hX hi (by decide +kernel) rfl trivial ?_
      refine am_callV hX hi (M := mX6_refuse) (idx := 70) (d' := 2) (b := 28) (ci := 4) (As := []) (rest := []) mkX6_refuse miX6_refuse mvX6_refuse (by decide +kernel) (by decide +kernel) rfl (by decide +kernel) rfl ⟨by omega, by decide, Nat.le_of_ble_eq_true rfl⟩ rfl (c_X6_refuse_28 _ I G ) ?_
      rintro rz Iz Gz Pz ⟨e0, e1, e2, e3⟩
      rw [e0, e1, e2, e3]
      show am_V X 0 0 _ _ ad (28, [(0, .ref 28), (1, .int x1)], [], (g_X6_refuse_28 I G ), G, (gP rd))
      refine am_blk 28 [(.goto (131), 3, 0, 159, .null)] (159, [(0, .ref 28), (1, .int x1)], [], (g_X6_refuse_28 I G ), G, (gP rd)) (True) hX hi (by decide +kernel) rfl trivial ?_
      cases h
      refine am_vret hX hi rfl (by decide +kernel) ?_
      exact ⟨rfl, rfl, rfl, rfl⟩
  · rw [if_neg c6] at h
    refine am_blk 9 [(.aload_n 0, 1, 0, 0, .null), (.getfield 62, 3, 4, 6, .null), (.bipush (26), 2, 0, 0, .int (26 : Int32))] (15, [(0, .ref 28), (1, .int x1)], [.int (26 : Int32), .int (I 28 6)], I, G, (gP rd)) (True) hX hi (by decide +kernel) rfl trivial ?_
    refine am_icmp_ne (tgt := 31) hX hi (off := (16)) (by decide +kernel) (by decide) (fun c15 => ?_) (fun c15 => ?_)
    · rw [if_neg c15] at h
      refine am_blk 31 [(.aload_n 0, 1, 0, 0, .null), (.getfield 62, 3, 4, 6, .null), (.bipush (19), 2, 0, 0, .int (19 : Int32))] (37, [(0, .ref 28), (1, .int x1)], [.int (19 : Int32), .int (I 28 6)], I, G, (gP rd)) (True) hX hi (by decide +kernel) rfl trivial ?_
      refine am_icmp_ne (tgt := 67) hX hi (off := (30)) (by decide +kernel) (by decide) (fun c37 => ?_) (fun c37 => ?_)
      · rw [if_neg c37] at h
        refine am_blk 67 [(.aload_n 0, 1, 0, 0, .null), (.getfield 62, 3, 4, 6, .null), (.bipush (26), 2, 0, 0, .int (26 : Int32))] (73, [(0, .ref 28), (1, .int x1)], [.int (26 : Int32), .int (I 28 6)], I, G, (gP rd)) (True) hX hi (by decide +kernel) rfl trivial ?_
        refine am_icmp_ne (tgt := 96) hX hi (off := (23)) (by decide +kernel) (by decide) (fun c73 => ?_) (fun c73 => ?_)
        · rw [if_neg c73] at h
          refine am_blk 96 [(.aload_n 0, 1, 0, 0, .null), (.getfield 62, 3, 4, 6, .null), (.bipush (18), 2, 0, 0, .int (18 : Int32))] (102, [(0, .ref 28), (1, .int x1)], [.int (18 : Int32), .int (I 28 6)], I, G, (gP rd)) (True) hX hi (by decide +kernel) rfl trivial ?_
          refine am_icmp_ne (tgt := 132) hX hi (off := (30)) (by decide +kernel) (by decide) (fun c102 => ?_) (fun c102 => ?_)
          · rw [if_neg c102] at h
            refine am_blk 132 [(.aload_n 0, 1, 0, 0, .null), (.iload_n 1, 1, 1, 0, .null)] (134, [(0, .ref 28), (1, .int x1)], [.int x1, .ref 28], I, G, (gP rd)) (True) hX hi (by decide +kernel) rfl trivial ?_
            obtain ⟨r6, I6, G6, hc, h⟩ := rb_some h
            refine am_callV hX hi (M := mX6_readSum) (idx := 88) (d' := (8 + n9)) (b := 28) (ci := 4) (As := [.int x1]) (rest := []) mkX6_readSum miX6_readSum mvX6_readSum (by decide +kernel) (by decide +kernel) rfl (by decide +kernel) rfl ⟨by omega, by decide, Nat.le_of_ble_eq_true rfl⟩ rfl (h3 _ I G x1 _ hc) ?_
            rintro rz Iz Gz Pz ⟨e0, e1, e2, e3⟩
            rw [e0, e1, e2, e3]
            show am_V X 0 0 _ _ ad (137, [(0, .ref 28), (1, .int x1)], [], I6, G6, (gP rd))
            refine am_blk 137 [(.aload_n 0, 1, 0, 0, .null)] (138, [(0, .ref 28), (1, .int x1)], [.ref 28], I6, G6, (gP rd)) (True) hX hi (by decide +kernel) rfl trivial ?_
            refine am_callV hX hi (M := mX6_readComparison) (idx := 167) (d' := 3) (b := 28) (ci := 4) (As := []) (rest := []) mkX6_readComparison miX6_readComparison mvX6_readComparison (by decide +kernel) (by decide +kernel) rfl (by decide +kernel) rfl ⟨by omega, by decide, Nat.le_of_ble_eq_true rfl⟩ rfl (c_X6_readComparison_28 _ I6 G6 ) ?_
            rintro rz Iz Gz Pz ⟨e0, e1, e2, e3⟩
            rw [e0, e1, e2, e3]
            show am_V X 0 0 _ _ ad (141, [(0, .ref 28), (1, .int x1)], [.int (f_X6_readComparison_28 I6 G6 )], (g_X6_readComparison_28 I6 G6 ), G6, (gP rd))
            refine am_blk 141 [(.istore_n 2, 1, 2, 0, .null), (.aload_n 0, 1, 0, 0, .null), (.iload_n 1, 1, 1, 0, .null)] (144, [(0, .ref 28), (1, .int x1), (2, .int (f_X6_readComparison_28 I6 G6 ))], [.int x1, .ref 28], (g_X6_readComparison_28 I6 G6 ), G6, (gP rd)) (True) hX hi (by decide +kernel) rfl trivial ?_
            obtain ⟨r7, I7, G7, hc, h⟩ := rb_some h
            refine am_callV hX hi (M := mX6_readSum) (idx := 88) (d' := (8 + n9)) (b := 28) (ci := 4) (As := [.int x1]) (rest := []) mkX6_readSum miX6_readSum mvX6_readSum (by decide +kernel) (by decide +kernel) rfl (by decide +kernel) rfl ⟨by omega, by decide, Nat.le_of_ble_eq_true rfl⟩ rfl (h3 _ (g_X6_readComparison_28 I6 G6 ) G6 x1 _ hc) ?_
            rintro rz Iz Gz Pz ⟨e0, e1, e2, e3⟩
            rw [e0, e1, e2, e3]
            show am_V X 0 0 _ _ ad (147, [(0, .ref 28), (1, .int x1), (2, .int (f_X6_readComparison_28 I6 G6 ))], [], I7, G7, (gP rd))
            refine am_blk 147 [(.aload_n 0, 1, 0, 0, .null), (.getfield 12, 3, 4, 1, .null), (.getfield 91, 3, 3, 8, .null), (.iload_n 2, 1, 2, 0, .null), (.iconst (0), 1, 0, 0, .int (0 : Int32))] (156, [(0, .ref 28), (1, .int x1), (2, .int (f_X6_readComparison_28 I6 G6 ))], [.int (0 : Int32), .int (f_X6_readComparison_28 I6 G6 ), .ref 38], I7, G7, (gP rd)) (True) hX hi (by decide +kernel) rfl trivial ?_
            refine am_callV hX hi (M := mX3_add) (idx := 161) (d' := 2) (b := 38) (ci := 1) (As := [.int (f_X6_readComparison_28 I6 G6 ), .int (0 : Int32)]) (rest := []) mkX3_add miX3_add mvX3_add (by decide +kernel) (by decide +kernel) rfl (by decide +kernel) rfl ⟨by omega, by decide, Nat.le_of_ble_eq_true rfl⟩ rfl (c_X3_add_38 _ I7 G7 (f_X6_readComparison_28 I6 G6 ) (0 : Int32)) ?_
            rintro rz Iz Gz Pz ⟨e0, e1, e2, e3⟩
            rw [e0, e1, e2, e3]
            show am_V X 0 0 _ _ ad (159, [(0, .ref 28), (1, .int x1), (2, .int (f_X6_readComparison_28 I6 G6 ))], [], (g_X3_add_38 I7 G7 (f_X6_readComparison_28 I6 G6 ) (0 : Int32)), G7, (gP rd))
            cases h
            refine am_vret hX hi rfl (by decide +kernel) ?_
            exact ⟨rfl, rfl, rfl, rfl⟩
          · rw [if_pos c102] at h
            refine am_blk 105 [(.aload_n 0, 1, 0, 0, .null)] (106, [(0, .ref 28), (1, .int x1)], [.ref 28], I, G, (gP rd)) (True) hX hi (by decide +kernel) rfl trivial ?_
            refine am_callV hX hi (M := mX6_advance) (idx := 100) (d' := 2) (b := 28) (ci := 4) (As := []) (rest := []) mkX6_advance miX6_advance mvX6_advance (by decide +kernel) (by decide +kernel) rfl (by decide +kernel) rfl ⟨by omega, by decide, Nat.le_of_ble_eq_true rfl⟩ rfl (c_X6_advance_28 _ I G ) ?_
            rintro rz Iz Gz Pz ⟨e0, e1, e2, e3⟩
            rw [e0, e1, e2, e3]
            show am_V X 0 0 _ _ ad (109, [(0, .ref 28), (1, .int x1)], [], (g_X6_advance_28 I G ), G, (gP rd))
            refine am_blk 109 [(.aload_n 0, 1, 0, 0, .null), (.getfield 12, 3, 4, 1, .null), (.getfield 91, 3, 3, 8, .null), (.bipush (18), 2, 0, 0, .int (18 : Int32)), (.aload_n 0, 1, 0, 0, .null), (.aload_n 0, 1, 0, 0, .null), (.getfield 30, 3, 4, 4, .null)] (123, [(0, .ref 28), (1, .int x1)], [.ref 51, .ref 28, .int (18 : Int32), .ref 38], (g_X6_advance_28 I G ), G, (gP rd)) (True) hX hi (by decide +kernel) rfl trivial ?_
            obtain ⟨r8, I8, G8, hc, h⟩ := rb_some h
            refine am_callV hX hi (M := mX6_readKnownName) (idx := 150) (d' := 3) (b := 28) (ci := 4) (As := [.ref 51]) (rest := [.int (18 : Int32), .ref 38]) mkX6_readKnownName miX6_readKnownName mvX6_readKnownName (by decide +kernel) (by decide +kernel) rfl (by decide +kernel) rfl ⟨by omega, by decide, Nat.le_of_ble_eq_true rfl⟩ rfl (c_X6_readKnownName_28_51 _ (g_X6_advance_28 I G ) G  hc) ?_
            rintro rz Iz Gz Pz ⟨e0, e1, e2, e3⟩
            rw [e0, e1, e2, e3]
            show am_V X 0 0 _ _ ad (126, [(0, .ref 28), (1, .int x1)], [.int r8, .int (18 : Int32), .ref 38], I8, G8, (gP rd))
            refine am_callV hX hi (M := mX3_add) (idx := 161) (d' := 2) (b := 38) (ci := 1) (As := [.int (18 : Int32), .int r8]) (rest := []) mkX3_add miX3_add mvX3_add (by decide +kernel) (by decide +kernel) rfl (by decide +kernel) rfl ⟨by omega, by decide, Nat.le_of_ble_eq_true rfl⟩ rfl (c_X3_add_38 _ I8 G8 (18 : Int32) r8) ?_
            rintro rz Iz Gz Pz ⟨e0, e1, e2, e3⟩
            rw [e0, e1, e2, e3]
            show am_V X 0 0 _ _ ad (129, [(0, .ref 28), (1, .int x1)], [], (g_X3_add_38 I8 G8 (18 : Int32) r8), G8, (gP rd))
            refine am_blk 129 [(.goto (30), 3, 0, 159, .null)] (159, [(0, .ref 28), (1, .int x1)], [], (g_X3_add_38 I8 G8 (18 : Int32) r8), G8, (gP rd)) (True) hX hi (by decide +kernel) rfl trivial ?_
            cases h
            refine am_vret hX hi rfl (by decide +kernel) ?_
            exact ⟨rfl, rfl, rfl, rfl⟩
        · rw [if_pos c73] at h
          refine am_blk 76 [(.aload_n 0, 1, 0, 0, .null)] (77, [(0, .ref 28), (1, .int x1)], [.ref 28], I, G, (gP rd)) (True) hX hi (by decide +kernel) rfl trivial ?_
          refine am_callV hX hi (M := mX6_advance) (idx := 100) (d' := 2) (b := 28) (ci := 4) (As := []) (rest := []) mkX6_advance miX6_advance mvX6_advance (by decide +kernel) (by decide +kernel) rfl (by decide +kernel) rfl ⟨by omega, by decide, Nat.le_of_ble_eq_true rfl⟩ rfl (c_X6_advance_28 _ I G ) ?_
          rintro rz Iz Gz Pz ⟨e0, e1, e2, e3⟩
          rw [e0, e1, e2, e3]
          show am_V X 0 0 _ _ ad (80, [(0, .ref 28), (1, .int x1)], [], (g_X6_advance_28 I G ), G, (gP rd))
          refine am_blk 80 [(.aload_n 0, 1, 0, 0, .null), (.iload_n 1, 1, 1, 0, .null), (.iconst (1), 1, 0, 0, .int (1 : Int32)), (.iadd, 1, 0, 0, .null)] (84, [(0, .ref 28), (1, .int x1)], [.int (x1 + (1 : Int32)), .ref 28], (g_X6_advance_28 I G ), G, (gP rd)) (True) hX hi (by decide +kernel) rfl trivial ?_
          obtain ⟨r9, I9, G9, hc, h⟩ := rb_some h
          refine am_callV hX hi (M := mX6_readTest) (idx := 103) (d' := (8 + n9)) (b := 28) (ci := 4) (As := [.int (x1 + (1 : Int32))]) (rest := []) mkX6_readTest miX6_readTest mvX6_readTest (by decide +kernel) (by decide +kernel) rfl (by decide +kernel) rfl ⟨by omega, by decide, Nat.le_of_ble_eq_true rfl⟩ rfl (h0 _ (g_X6_advance_28 I G ) G (x1 + (1 : Int32)) _ hc) ?_
          rintro rz Iz Gz Pz ⟨e0, e1, e2, e3⟩
          rw [e0, e1, e2, e3]
          show am_V X 0 0 _ _ ad (87, [(0, .ref 28), (1, .int x1)], [], I9, G9, (gP rd))
          refine am_blk 87 [(.aload_n 0, 1, 0, 0, .null), (.bipush (27), 2, 0, 0, .int (27 : Int32))] (90, [(0, .ref 28), (1, .int x1)], [.int (27 : Int32), .ref 28], I9, G9, (gP rd)) (True) hX hi (by decide +kernel) rfl trivial ?_
          refine am_callV hX hi (M := mX6_expect) (idx := 109) (d' := 3) (b := 28) (ci := 4) (As := [.int (27 : Int32)]) (rest := []) mkX6_expect miX6_expect mvX6_expect (by decide +kernel) (by decide +kernel) rfl (by decide +kernel) rfl ⟨by omega, by decide, Nat.le_of_ble_eq_true rfl⟩ rfl (c_X6_expect_28 _ I9 G9 (27 : Int32)) ?_
          rintro rz Iz Gz Pz ⟨e0, e1, e2, e3⟩
          rw [e0, e1, e2, e3]
          show am_V X 0 0 _ _ ad (93, [(0, .ref 28), (1, .int x1)], [], (g_X6_expect_28 I9 G9 (27 : Int32)), G9, (gP rd))
          refine am_blk 93 [(.goto (66), 3, 0, 159, .null)] (159, [(0, .ref 28), (1, .int x1)], [], (g_X6_expect_28 I9 G9 (27 : Int32)), G9, (gP rd)) (True) hX hi (by decide +kernel) rfl trivial ?_
          cases h
          refine am_vret hX hi rfl (by decide +kernel) ?_
          exact ⟨rfl, rfl, rfl, rfl⟩
      · rw [if_pos c37] at h
        refine am_blk 40 [(.aload_n 0, 1, 0, 0, .null)] (41, [(0, .ref 28), (1, .int x1)], [.ref 28], I, G, (gP rd)) (True) hX hi (by decide +kernel) rfl trivial ?_
        refine am_callV hX hi (M := mX6_advance) (idx := 100) (d' := 2) (b := 28) (ci := 4) (As := []) (rest := []) mkX6_advance miX6_advance mvX6_advance (by decide +kernel) (by decide +kernel) rfl (by decide +kernel) rfl ⟨by omega, by decide, Nat.le_of_ble_eq_true rfl⟩ rfl (c_X6_advance_28 _ I G ) ?_
        rintro rz Iz Gz Pz ⟨e0, e1, e2, e3⟩
        rw [e0, e1, e2, e3]
        show am_V X 0 0 _ _ ad (44, [(0, .ref 28), (1, .int x1)], [], (g_X6_advance_28 I G ), G, (gP rd))
        refine am_blk 44 [(.aload_n 0, 1, 0, 0, .null), (.iload_n 1, 1, 1, 0, .null), (.iconst (1), 1, 0, 0, .int (1 : Int32)), (.iadd, 1, 0, 0, .null)] (48, [(0, .ref 28), (1, .int x1)], [.int (x1 + (1 : Int32)), .ref 28], (g_X6_advance_28 I G ), G, (gP rd)) (True) hX hi (by decide +kernel) rfl trivial ?_
        obtain ⟨r10, I10, G10, hc, h⟩ := rb_some h
        refine am_callV hX hi (M := mX6_readSingle) (idx := 164) (d' := (8 + n9)) (b := 28) (ci := 4) (As := [.int (x1 + (1 : Int32))]) (rest := []) mkX6_readSingle miX6_readSingle mvX6_readSingle (by decide +kernel) (by decide +kernel) rfl (by decide +kernel) rfl ⟨by omega, by decide, Nat.le_of_ble_eq_true rfl⟩ rfl (h2 _ (g_X6_advance_28 I G ) G (x1 + (1 : Int32)) _ hc) ?_
        rintro rz Iz Gz Pz ⟨e0, e1, e2, e3⟩
        rw [e0, e1, e2, e3]
        show am_V X 0 0 _ _ ad (51, [(0, .ref 28), (1, .int x1)], [], I10, G10, (gP rd))
        refine am_blk 51 [(.aload_n 0, 1, 0, 0, .null), (.getfield 12, 3, 4, 1, .null), (.getfield 91, 3, 3, 8, .null), (.bipush (19), 2, 0, 0, .int (19 : Int32)), (.iconst (0), 1, 0, 0, .int (0 : Int32))] (61, [(0, .ref 28), (1, .int x1)], [.int (0 : Int32), .int (19 : Int32), .ref 38], I10, G10, (gP rd)) (True) hX hi (by decide +kernel) rfl trivial ?_
        refine am_callV hX hi (M := mX3_add) (idx := 161) (d' := 2) (b := 38) (ci := 1) (As := [.int (19 : Int32), .int (0 : Int32)]) (rest := []) mkX3_add miX3_add mvX3_add (by decide +kernel) (by decide +kernel) rfl (by decide +kernel) rfl ⟨by omega, by decide, Nat.le_of_ble_eq_true rfl⟩ rfl (c_X3_add_38 _ I10 G10 (19 : Int32) (0 : Int32)) ?_
        rintro rz Iz Gz Pz ⟨e0, e1, e2, e3⟩
        rw [e0, e1, e2, e3]
        show am_V X 0 0 _ _ ad (64, [(0, .ref 28), (1, .int x1)], [], (g_X3_add_38 I10 G10 (19 : Int32) (0 : Int32)), G10, (gP rd))
        refine am_blk 64 [(.goto (95), 3, 0, 159, .null)] (159, [(0, .ref 28), (1, .int x1)], [], (g_X3_add_38 I10 G10 (19 : Int32) (0 : Int32)), G10, (gP rd)) (True) hX hi (by decide +kernel) rfl trivial ?_
        cases h
        refine am_vret hX hi rfl (by decide +kernel) ?_
        exact ⟨rfl, rfl, rfl, rfl⟩
    · rw [if_pos c15] at h
      refine am_blk 18 [(.iload_n 1, 1, 1, 0, .null), (.bipush (8), 2, 0, 0, .int (8 : Int32))] (21, [(0, .ref 28), (1, .int x1)], [.int (8 : Int32), .int x1], I, G, (gP rd)) (True) hX hi (by decide +kernel) rfl trivial ?_
      refine am_icmp_lt (tgt := 31) hX hi (off := (10)) (by decide +kernel) (by decide) (fun c21 => ?_) (fun c21 => ?_)
      · rw [if_pos c21] at h
        refine am_blk 31 [(.aload_n 0, 1, 0, 0, .null), (.getfield 62, 3, 4, 6, .null), (.bipush (19), 2, 0, 0, .int (19 : Int32))] (37, [(0, .ref 28), (1, .int x1)], [.int (19 : Int32), .int (I 28 6)], I, G, (gP rd)) (True) hX hi (by decide +kernel) rfl trivial ?_
        refine am_icmp_ne (tgt := 67) hX hi (off := (30)) (by decide +kernel) (by decide) (fun c37 => ?_) (fun c37 => ?_)
        · rw [if_neg c37] at h
          refine am_blk 67 [(.aload_n 0, 1, 0, 0, .null), (.getfield 62, 3, 4, 6, .null), (.bipush (26), 2, 0, 0, .int (26 : Int32))] (73, [(0, .ref 28), (1, .int x1)], [.int (26 : Int32), .int (I 28 6)], I, G, (gP rd)) (True) hX hi (by decide +kernel) rfl trivial ?_
          refine am_icmp_ne (tgt := 96) hX hi (off := (23)) (by decide +kernel) (by decide) (fun c73 => ?_) (fun c73 => ?_)
          · rw [if_neg c73] at h
            refine am_blk 96 [(.aload_n 0, 1, 0, 0, .null), (.getfield 62, 3, 4, 6, .null), (.bipush (18), 2, 0, 0, .int (18 : Int32))] (102, [(0, .ref 28), (1, .int x1)], [.int (18 : Int32), .int (I 28 6)], I, G, (gP rd)) (True) hX hi (by decide +kernel) rfl trivial ?_
            refine am_icmp_ne (tgt := 132) hX hi (off := (30)) (by decide +kernel) (by decide) (fun c102 => ?_) (fun c102 => ?_)
            · rw [if_neg c102] at h
              refine am_blk 132 [(.aload_n 0, 1, 0, 0, .null), (.iload_n 1, 1, 1, 0, .null)] (134, [(0, .ref 28), (1, .int x1)], [.int x1, .ref 28], I, G, (gP rd)) (True) hX hi (by decide +kernel) rfl trivial ?_
              obtain ⟨r11, I11, G11, hc, h⟩ := rb_some h
              refine am_callV hX hi (M := mX6_readSum) (idx := 88) (d' := (8 + n9)) (b := 28) (ci := 4) (As := [.int x1]) (rest := []) mkX6_readSum miX6_readSum mvX6_readSum (by decide +kernel) (by decide +kernel) rfl (by decide +kernel) rfl ⟨by omega, by decide, Nat.le_of_ble_eq_true rfl⟩ rfl (h3 _ I G x1 _ hc) ?_
              rintro rz Iz Gz Pz ⟨e0, e1, e2, e3⟩
              rw [e0, e1, e2, e3]
              show am_V X 0 0 _ _ ad (137, [(0, .ref 28), (1, .int x1)], [], I11, G11, (gP rd))
              refine am_blk 137 [(.aload_n 0, 1, 0, 0, .null)] (138, [(0, .ref 28), (1, .int x1)], [.ref 28], I11, G11, (gP rd)) (True) hX hi (by decide +kernel) rfl trivial ?_
              refine am_callV hX hi (M := mX6_readComparison) (idx := 167) (d' := 3) (b := 28) (ci := 4) (As := []) (rest := []) mkX6_readComparison miX6_readComparison mvX6_readComparison (by decide +kernel) (by decide +kernel) rfl (by decide +kernel) rfl ⟨by omega, by decide, Nat.le_of_ble_eq_true rfl⟩ rfl (c_X6_readComparison_28 _ I11 G11 ) ?_
              rintro rz Iz Gz Pz ⟨e0, e1, e2, e3⟩
              rw [e0, e1, e2, e3]
              show am_V X 0 0 _ _ ad (141, [(0, .ref 28), (1, .int x1)], [.int (f_X6_readComparison_28 I11 G11 )], (g_X6_readComparison_28 I11 G11 ), G11, (gP rd))
              refine am_blk 141 [(.istore_n 2, 1, 2, 0, .null), (.aload_n 0, 1, 0, 0, .null), (.iload_n 1, 1, 1, 0, .null)] (144, [(0, .ref 28), (1, .int x1), (2, .int (f_X6_readComparison_28 I11 G11 ))], [.int x1, .ref 28], (g_X6_readComparison_28 I11 G11 ), G11, (gP rd)) (True) hX hi (by decide +kernel) rfl trivial ?_
              obtain ⟨r12, I12, G12, hc, h⟩ := rb_some h
              refine am_callV hX hi (M := mX6_readSum) (idx := 88) (d' := (8 + n9)) (b := 28) (ci := 4) (As := [.int x1]) (rest := []) mkX6_readSum miX6_readSum mvX6_readSum (by decide +kernel) (by decide +kernel) rfl (by decide +kernel) rfl ⟨by omega, by decide, Nat.le_of_ble_eq_true rfl⟩ rfl (h3 _ (g_X6_readComparison_28 I11 G11 ) G11 x1 _ hc) ?_
              rintro rz Iz Gz Pz ⟨e0, e1, e2, e3⟩
              rw [e0, e1, e2, e3]
              show am_V X 0 0 _ _ ad (147, [(0, .ref 28), (1, .int x1), (2, .int (f_X6_readComparison_28 I11 G11 ))], [], I12, G12, (gP rd))
              refine am_blk 147 [(.aload_n 0, 1, 0, 0, .null), (.getfield 12, 3, 4, 1, .null), (.getfield 91, 3, 3, 8, .null), (.iload_n 2, 1, 2, 0, .null), (.iconst (0), 1, 0, 0, .int (0 : Int32))] (156, [(0, .ref 28), (1, .int x1), (2, .int (f_X6_readComparison_28 I11 G11 ))], [.int (0 : Int32), .int (f_X6_readComparison_28 I11 G11 ), .ref 38], I12, G12, (gP rd)) (True) hX hi (by decide +kernel) rfl trivial ?_
              refine am_callV hX hi (M := mX3_add) (idx := 161) (d' := 2) (b := 38) (ci := 1) (As := [.int (f_X6_readComparison_28 I11 G11 ), .int (0 : Int32)]) (rest := []) mkX3_add miX3_add mvX3_add (by decide +kernel) (by decide +kernel) rfl (by decide +kernel) rfl ⟨by omega, by decide, Nat.le_of_ble_eq_true rfl⟩ rfl (c_X3_add_38 _ I12 G12 (f_X6_readComparison_28 I11 G11 ) (0 : Int32)) ?_
              rintro rz Iz Gz Pz ⟨e0, e1, e2, e3⟩
              rw [e0, e1, e2, e3]
              show am_V X 0 0 _ _ ad (159, [(0, .ref 28), (1, .int x1), (2, .int (f_X6_readComparison_28 I11 G11 ))], [], (g_X3_add_38 I12 G12 (f_X6_readComparison_28 I11 G11 ) (0 : Int32)), G12, (gP rd))
              cases h
              refine am_vret hX hi rfl (by decide +kernel) ?_
              exact ⟨rfl, rfl, rfl, rfl⟩
            · rw [if_pos c102] at h
              refine am_blk 105 [(.aload_n 0, 1, 0, 0, .null)] (106, [(0, .ref 28), (1, .int x1)], [.ref 28], I, G, (gP rd)) (True) hX hi (by decide +kernel) rfl trivial ?_
              refine am_callV hX hi (M := mX6_advance) (idx := 100) (d' := 2) (b := 28) (ci := 4) (As := []) (rest := []) mkX6_advance miX6_advance mvX6_advance (by decide +kernel) (by decide +kernel) rfl (by decide +kernel) rfl ⟨by omega, by decide, Nat.le_of_ble_eq_true rfl⟩ rfl (c_X6_advance_28 _ I G ) ?_
              rintro rz Iz Gz Pz ⟨e0, e1, e2, e3⟩
              rw [e0, e1, e2, e3]
              show am_V X 0 0 _ _ ad (109, [(0, .ref 28), (1, .int x1)], [], (g_X6_advance_28 I G ), G, (gP rd))
              refine am_blk 109 [(.aload_n 0, 1, 0, 0, .null), (.getfield 12, 3, 4, 1, .null), (.getfield 91, 3, 3, 8, .null), (.bipush (18), 2, 0, 0, .int (18 : Int32)), (.aload_n 0, 1, 0, 0, .null), (.aload_n 0, 1, 0, 0, .null), (.getfield 30, 3, 4, 4, .null)] (123, [(0, .ref 28), (1, .int x1)], [.ref 51, .ref 28, .int (18 : Int32), .ref 38], (g_X6_advance_28 I G ), G, (gP rd)) (True) hX hi (by decide +kernel) rfl trivial ?_
              obtain ⟨r13, I13, G13, hc, h⟩ := rb_some h
              refine am_callV hX hi (M := mX6_readKnownName) (idx := 150) (d' := 3) (b := 28) (ci := 4) (As := [.ref 51]) (rest := [.int (18 : Int32), .ref 38]) mkX6_readKnownName miX6_readKnownName mvX6_readKnownName (by decide +kernel) (by decide +kernel) rfl (by decide +kernel) rfl ⟨by omega, by decide, Nat.le_of_ble_eq_true rfl⟩ rfl (c_X6_readKnownName_28_51 _ (g_X6_advance_28 I G ) G  hc) ?_
              rintro rz Iz Gz Pz ⟨e0, e1, e2, e3⟩
              rw [e0, e1, e2, e3]
              show am_V X 0 0 _ _ ad (126, [(0, .ref 28), (1, .int x1)], [.int r13, .int (18 : Int32), .ref 38], I13, G13, (gP rd))
              refine am_callV hX hi (M := mX3_add) (idx := 161) (d' := 2) (b := 38) (ci := 1) (As := [.int (18 : Int32), .int r13]) (rest := []) mkX3_add miX3_add mvX3_add (by decide +kernel) (by decide +kernel) rfl (by decide +kernel) rfl ⟨by omega, by decide, Nat.le_of_ble_eq_true rfl⟩ rfl (c_X3_add_38 _ I13 G13 (18 : Int32) r13) ?_
              rintro rz Iz Gz Pz ⟨e0, e1, e2, e3⟩
              rw [e0, e1, e2, e3]
              show am_V X 0 0 _ _ ad (129, [(0, .ref 28), (1, .int x1)], [], (g_X3_add_38 I13 G13 (18 : Int32) r13), G13, (gP rd))
              refine am_blk 129 [(.goto (30), 3, 0, 159, .null)] (159, [(0, .ref 28), (1, .int x1)], [], (g_X3_add_38 I13 G13 (18 : Int32) r13), G13, (gP rd)) (True) hX hi (by decide +kernel) rfl trivial ?_
              cases h
              refine am_vret hX hi rfl (by decide +kernel) ?_
              exact ⟨rfl, rfl, rfl, rfl⟩
          · rw [if_pos c73] at h
            refine am_blk 76 [(.aload_n 0, 1, 0, 0, .null)] (77, [(0, .ref 28), (1, .int x1)], [.ref 28], I, G, (gP rd)) (True) hX hi (by decide +kernel) rfl trivial ?_
            refine am_callV hX hi (M := mX6_advance) (idx := 100) (d' := 2) (b := 28) (ci := 4) (As := []) (rest := []) mkX6_advance miX6_advance mvX6_advance (by decide +kernel) (by decide +kernel) rfl (by decide +kernel) rfl ⟨by omega, by decide, Nat.le_of_ble_eq_true rfl⟩ rfl (c_X6_advance_28 _ I G ) ?_
            rintro rz Iz Gz Pz ⟨e0, e1, e2, e3⟩
            rw [e0, e1, e2, e3]
            show am_V X 0 0 _ _ ad (80, [(0, .ref 28), (1, .int x1)], [], (g_X6_advance_28 I G ), G, (gP rd))
            refine am_blk 80 [(.aload_n 0, 1, 0, 0, .null), (.iload_n 1, 1, 1, 0, .null), (.iconst (1), 1, 0, 0, .int (1 : Int32)), (.iadd, 1, 0, 0, .null)] (84, [(0, .ref 28), (1, .int x1)], [.int (x1 + (1 : Int32)), .ref 28], (g_X6_advance_28 I G ), G, (gP rd)) (True) hX hi (by decide +kernel) rfl trivial ?_
            obtain ⟨r14, I14, G14, hc, h⟩ := rb_some h
            refine am_callV hX hi (M := mX6_readTest) (idx := 103) (d' := (8 + n9)) (b := 28) (ci := 4) (As := [.int (x1 + (1 : Int32))]) (rest := []) mkX6_readTest miX6_readTest mvX6_readTest (by decide +kernel) (by decide +kernel) rfl (by decide +kernel) rfl ⟨by omega, by decide, Nat.le_of_ble_eq_true rfl⟩ rfl (h0 _ (g_X6_advance_28 I G ) G (x1 + (1 : Int32)) _ hc) ?_
            rintro rz Iz Gz Pz ⟨e0, e1, e2, e3⟩
            rw [e0, e1, e2, e3]
            show am_V X 0 0 _ _ ad (87, [(0, .ref 28), (1, .int x1)], [], I14, G14, (gP rd))
            refine am_blk 87 [(.aload_n 0, 1, 0, 0, .null), (.bipush (27), 2, 0, 0, .int (27 : Int32))] (90, [(0, .ref 28), (1, .int x1)], [.int (27 : Int32), .ref 28], I14, G14, (gP rd)) (True) hX hi (by decide +kernel) rfl trivial ?_
            refine am_callV hX hi (M := mX6_expect) (idx := 109) (d' := 3) (b := 28) (ci := 4) (As := [.int (27 : Int32)]) (rest := []) mkX6_expect miX6_expect mvX6_expect (by decide +kernel) (by decide +kernel) rfl (by decide +kernel) rfl ⟨by omega, by decide, Nat.le_of_ble_eq_true rfl⟩ rfl (c_X6_expect_28 _ I14 G14 (27 : Int32)) ?_
            rintro rz Iz Gz Pz ⟨e0, e1, e2, e3⟩
            rw [e0, e1, e2, e3]
            show am_V X 0 0 _ _ ad (93, [(0, .ref 28), (1, .int x1)], [], (g_X6_expect_28 I14 G14 (27 : Int32)), G14, (gP rd))
            refine am_blk 93 [(.goto (66), 3, 0, 159, .null)] (159, [(0, .ref 28), (1, .int x1)], [], (g_X6_expect_28 I14 G14 (27 : Int32)), G14, (gP rd)) (True) hX hi (by decide +kernel) rfl trivial ?_
            cases h
            refine am_vret hX hi rfl (by decide +kernel) ?_
            exact ⟨rfl, rfl, rfl, rfl⟩
        · rw [if_pos c37] at h
          refine am_blk 40 [(.aload_n 0, 1, 0, 0, .null)] (41, [(0, .ref 28), (1, .int x1)], [.ref 28], I, G, (gP rd)) (True) hX hi (by decide +kernel) rfl trivial ?_
          refine am_callV hX hi (M := mX6_advance) (idx := 100) (d' := 2) (b := 28) (ci := 4) (As := []) (rest := []) mkX6_advance miX6_advance mvX6_advance (by decide +kernel) (by decide +kernel) rfl (by decide +kernel) rfl ⟨by omega, by decide, Nat.le_of_ble_eq_true rfl⟩ rfl (c_X6_advance_28 _ I G ) ?_
          rintro rz Iz Gz Pz ⟨e0, e1, e2, e3⟩
          rw [e0, e1, e2, e3]
          show am_V X 0 0 _ _ ad (44, [(0, .ref 28), (1, .int x1)], [], (g_X6_advance_28 I G ), G, (gP rd))
          refine am_blk 44 [(.aload_n 0, 1, 0, 0, .null), (.iload_n 1, 1, 1, 0, .null), (.iconst (1), 1, 0, 0, .int (1 : Int32)), (.iadd, 1, 0, 0, .null)] (48, [(0, .ref 28), (1, .int x1)], [.int (x1 + (1 : Int32)), .ref 28], (g_X6_advance_28 I G ), G, (gP rd)) (True) hX hi (by decide +kernel) rfl trivial ?_
          obtain ⟨r15, I15, G15, hc, h⟩ := rb_some h
          refine am_callV hX hi (M := mX6_readSingle) (idx := 164) (d' := (8 + n9)) (b := 28) (ci := 4) (As := [.int (x1 + (1 : Int32))]) (rest := []) mkX6_readSingle miX6_readSingle mvX6_readSingle (by decide +kernel) (by decide +kernel) rfl (by decide +kernel) rfl ⟨by omega, by decide, Nat.le_of_ble_eq_true rfl⟩ rfl (h2 _ (g_X6_advance_28 I G ) G (x1 + (1 : Int32)) _ hc) ?_
          rintro rz Iz Gz Pz ⟨e0, e1, e2, e3⟩
          rw [e0, e1, e2, e3]
          show am_V X 0 0 _ _ ad (51, [(0, .ref 28), (1, .int x1)], [], I15, G15, (gP rd))
          refine am_blk 51 [(.aload_n 0, 1, 0, 0, .null), (.getfield 12, 3, 4, 1, .null), (.getfield 91, 3, 3, 8, .null), (.bipush (19), 2, 0, 0, .int (19 : Int32)), (.iconst (0), 1, 0, 0, .int (0 : Int32))] (61, [(0, .ref 28), (1, .int x1)], [.int (0 : Int32), .int (19 : Int32), .ref 38], I15, G15, (gP rd)) (True) hX hi (by decide +kernel) rfl trivial ?_
          refine am_callV hX hi (M := mX3_add) (idx := 161) (d' := 2) (b := 38) (ci := 1) (As := [.int (19 : Int32), .int (0 : Int32)]) (rest := []) mkX3_add miX3_add mvX3_add (by decide +kernel) (by decide +kernel) rfl (by decide +kernel) rfl ⟨by omega, by decide, Nat.le_of_ble_eq_true rfl⟩ rfl (c_X3_add_38 _ I15 G15 (19 : Int32) (0 : Int32)) ?_
          rintro rz Iz Gz Pz ⟨e0, e1, e2, e3⟩
          rw [e0, e1, e2, e3]
          show am_V X 0 0 _ _ ad (64, [(0, .ref 28), (1, .int x1)], [], (g_X3_add_38 I15 G15 (19 : Int32) (0 : Int32)), G15, (gP rd))
          refine am_blk 64 [(.goto (95), 3, 0, 159, .null)] (159, [(0, .ref 28), (1, .int x1)], [], (g_X3_add_38 I15 G15 (19 : Int32) (0 : Int32)), G15, (gP rd)) (True) hX hi (by decide +kernel) rfl trivial ?_
          cases h
          refine am_vret hX hi rfl (by decide +kernel) ?_
          exact ⟨rfl, rfl, rfl, rfl⟩
      · rw [if_neg c21] at h
        refine am_blk 24 [(.aload_n 0, 1, 0, 0, .null)] (25, [(0, .ref 28), (1, .int x1)], [.ref 28], I, G, (gP rd)) (True) hX hi (by decide +kernel) rfl trivial ?_
        refine am_callV hX hi (M := mX6_refuse) (idx := 70) (d' := 2) (b := 28) (ci := 4) (As := []) (rest := []) mkX6_refuse miX6_refuse mvX6_refuse (by decide +kernel) (by decide +kernel) rfl (by decide +kernel) rfl ⟨by omega, by decide, Nat.le_of_ble_eq_true rfl⟩ rfl (c_X6_refuse_28 _ I G ) ?_
        rintro rz Iz Gz Pz ⟨e0, e1, e2, e3⟩
        rw [e0, e1, e2, e3]
        show am_V X 0 0 _ _ ad (28, [(0, .ref 28), (1, .int x1)], [], (g_X6_refuse_28 I G ), G, (gP rd))
        refine am_blk 28 [(.goto (131), 3, 0, 159, .null)] (159, [(0, .ref 28), (1, .int x1)], [], (g_X6_refuse_28 I G ), G, (gP rd)) (True) hX hi (by decide +kernel) rfl trivial ?_
        cases h
        refine am_vret hX hi rfl (by decide +kernel) ?_
        exact ⟨rfl, rfl, rfl, rfl⟩
noncomputable def L_X6_readSum_28 (cal : Nat → am_I → am_G → Int32 → Int32 → Option (Unit × am_I × am_G)) (n0 : Nat) (hd : Nat) (I : am_I) (G : am_G) (v1 : Int32) (v2 : Int32) : Option (Unit × am_I × am_G) := match n0 with
  | 0 => none
  | n + 1 => match hd with
    | _ => (if (400 : Int32) ≤ v2 then some ((), I, G) else (if (I 28 6) = (30 : Int32) then rb (cal 4 (g_X6_advance_28 I G ) G v1 (0 : Int32)) (fun r101 I101 G101 => L_X6_readSum_28 cal n 0 (g_X3_add_38 I101 G101 (I 28 6) (0 : Int32)) G101 v1 (v2 + (1 : Int32))) else (if (I 28 6) = (31 : Int32) then rb (cal 4 (g_X6_advance_28 I G ) G v1 (0 : Int32)) (fun r102 I102 G102 => L_X6_readSum_28 cal n 0 (g_X3_add_38 I102 G102 (I 28 6) (0 : Int32)) G102 v1 (v2 + (1 : Int32))) else some ((), I, G))))
theorem L_X6_readSum_28_0 (cal : Nat → am_I → am_G → Int32 → Int32 → Option (Unit × am_I × am_G)) (n : Nat) (I : am_I) (G : am_G) (v1 : Int32) (v2 : Int32) : L_X6_readSum_28 cal (n + 1) 0 I G v1 v2 = (if (400 : Int32) ≤ v2 then some ((), I, G) else (if (I 28 6) = (30 : Int32) then rb (cal 4 (g_X6_advance_28 I G ) G v1 (0 : Int32)) (fun r101 I101 G101 => L_X6_readSum_28 cal n 0 (g_X3_add_38 I101 G101 (I 28 6) (0 : Int32)) G101 v1 (v2 + (1 : Int32))) else (if (I 28 6) = (31 : Int32) then rb (cal 4 (g_X6_advance_28 I G ) G v1 (0 : Int32)) (fun r102 I102 G102 => L_X6_readSum_28 cal n 0 (g_X3_add_38 I102 G102 (I 28 6) (0 : Int32)) G102 v1 (v2 + (1 : Int32))) else some ((), I, G)))) := rfl
theorem L_X6_readSum_28_z (cal : Nat → am_I → am_G → Int32 → Int32 → Option (Unit × am_I × am_G)) (h : Nat) (I : am_I) (G : am_G) (v1 : Int32) (v2 : Int32) : L_X6_readSum_28 cal 0 h I G v1 v2 = none := rfl
noncomputable def R_X6_readSum_28 (cal : Nat → am_I → am_G → Int32 → Int32 → Option (Unit × am_I × am_G)) (I : am_I) (G : am_G) (x1 : Int32) : Option (Unit × am_I × am_G) := rb (cal 4 I G x1 (0 : Int32)) (fun r1 I1 G1 => L_X6_readSum_28 cal FU 0 I1 G1 x1 (0 : Int32))
set_option maxRecDepth 20000 in
set_option maxHeartbeats 4000000 in
theorem l_X6_readSum_28 {cal : Nat → am_I → am_G → Int32 → Int32 → Option (Unit × am_I × am_G)} {n9 : Nat} (h0 : ∀ (rd : Nat) (I : am_I) (G : am_G) (a : Int32) (out : Unit × am_I × am_G), cal 0 I G a (0 : Int32) = some out → am_Ct mX6_readTest (8 + n9) gS [.ref 28, .int a] I G (gP rd) (pV out.2.1 out.2.2 (gP rd))) (h1 : ∀ (rd : Nat) (I : am_I) (G : am_G) (a : Int32) (out : Unit × am_I × am_G), cal 1 I G a (0 : Int32) = some out → am_Ct mX6_readBoth (8 + n9) gS [.ref 28, .int a] I G (gP rd) (pV out.2.1 out.2.2 (gP rd))) (h2 : ∀ (rd : Nat) (I : am_I) (G : am_G) (a : Int32) (out : Unit × am_I × am_G), cal 2 I G a (0 : Int32) = some out → am_Ct mX6_readSingle (8 + n9) gS [.ref 28, .int a] I G (gP rd) (pV out.2.1 out.2.2 (gP rd))) (h3 : ∀ (rd : Nat) (I : am_I) (G : am_G) (a : Int32) (out : Unit × am_I × am_G), cal 3 I G a (0 : Int32) = some out → am_Ct mX6_readSum (8 + n9) gS [.ref 28, .int a] I G (gP rd) (pV out.2.1 out.2.2 (gP rd))) (h4 : ∀ (rd : Nat) (I : am_I) (G : am_G) (a : Int32) (out : Unit × am_I × am_G), cal 4 I G a (0 : Int32) = some out → am_Ct mX6_readProduct (8 + n9) gS [.ref 28, .int a] I G (gP rd) (pV out.2.1 out.2.2 (gP rd))) (h5 : ∀ (rd : Nat) (I : am_I) (G : am_G) (a : Int32) (out : Unit × am_I × am_G), cal 5 I G a (0 : Int32) = some out → am_Ct mX6_readValue (8 + n9) gS [.ref 28, .int a] I G (gP rd) (pV out.2.1 out.2.2 (gP rd))) (h6 : ∀ (rd : Nat) (I : am_I) (G : am_G) (a : Int32) (out : Unit × am_I × am_G), cal 6 I G a (0 : Int32) = some out → am_Ct mX6_readPair (8 + n9) gS [.ref 28, .int a] I G (gP rd) (pV out.2.1 out.2.2 (gP rd))) (rd : Nat) {X : am_X} {ad : Nat → Nat} (hX : am_okz X ad) (hi : am_info X 4 cX6_readSum 4 false none (8 + n9 + 1)) (n : Nat) : (∀ (I : am_I) (G : am_G) (v1 : Int32) (v2 : Int32) (out : Unit × am_I × am_G), L_X6_readSum_28 cal n 0 I G v1 v2 = some out → am_V X 0 0 (am_Rt X gS ad (pV out.2.1 out.2.2 (gP rd))) gS ad (7, [(0, .ref 28), (1, .int v1), (2, .int v2)], [], I, G, (gP rd))) := by
  induction n with
  | zero => exact fun I G v1 v2 out h => by rw [L_X6_readSum_28_z] at h; cases h
  | succ n ih =>
    · intro I G v1 v2 out h
      rw [L_X6_readSum_28_0] at h
      refine am_blk 7 [(.iload_n 2, 1, 2, 0, .null), (.sipush (400), 3, 0, 0, .int (400 : Int32))] (11, [(0, .ref 28), (1, .int v1), (2, .int v2)], [.int (400 : Int32), .int v2], I, G, (gP rd)) (True) hX hi (by decide +kernel) rfl trivial ?_
      refine am_icmp_ge (tgt := 64) hX hi (off := (53)) (by decide +kernel) (by decide) (fun c11 => ?_) (fun c11 => ?_)
      · rw [if_pos c11] at h
        cases h
        refine am_vret hX hi rfl (by decide +kernel) ?_
        exact ⟨rfl, rfl, rfl, rfl⟩
      · rw [if_neg c11] at h
        refine am_blk 14 [(.aload_n 0, 1, 0, 0, .null), (.getfield 62, 3, 4, 6, .null), (.bipush (30), 2, 0, 0, .int (30 : Int32))] (20, [(0, .ref 28), (1, .int v1), (2, .int v2)], [.int (30 : Int32), .int (I 28 6)], I, G, (gP rd)) (True) hX hi (by decide +kernel) rfl trivial ?_
        refine am_icmp_eq (tgt := 32) hX hi (off := (12)) (by decide +kernel) (by decide) (fun c20 => ?_) (fun c20 => ?_)
        · rw [if_pos c20] at h
          refine am_blk 32 [(.aload_n 0, 1, 0, 0, .null), (.getfield 62, 3, 4, 6, .null), (.istore_n 3, 1, 3, 0, .null), (.aload_n 0, 1, 0, 0, .null)] (38, [(0, .ref 28), (1, .int v1), (2, .int v2), (3, .int (I 28 6))], [.ref 28], I, G, (gP rd)) (True) hX hi (by decide +kernel) rfl trivial ?_
          refine am_callV hX hi (M := mX6_advance) (idx := 100) (d' := 2) (b := 28) (ci := 4) (As := []) (rest := []) mkX6_advance miX6_advance mvX6_advance (by decide +kernel) (by decide +kernel) rfl (by decide +kernel) rfl ⟨by omega, by decide, Nat.le_of_ble_eq_true rfl⟩ rfl (c_X6_advance_28 _ I G ) ?_
          rintro r9 I9 G9 P9 ⟨e0, e1, e2, e3⟩
          rw [e0, e1, e2, e3]
          show am_V X 0 0 _ _ ad (41, [(0, .ref 28), (1, .int v1), (2, .int v2), (3, .int (I 28 6))], [], (g_X6_advance_28 I G ), G, (gP rd))
          refine am_blk 41 [(.aload_n 0, 1, 0, 0, .null), (.iload_n 1, 1, 1, 0, .null)] (43, [(0, .ref 28), (1, .int v1), (2, .int v2), (3, .int (I 28 6))], [.int v1, .ref 28], (g_X6_advance_28 I G ), G, (gP rd)) (True) hX hi (by decide +kernel) rfl trivial ?_
          obtain ⟨r101, I101, G101, hc, h⟩ := rb_some h
          refine am_callV hX hi (M := mX6_readProduct) (idx := 170) (d' := (8 + n9)) (b := 28) (ci := 4) (As := [.int v1]) (rest := []) mkX6_readProduct miX6_readProduct mvX6_readProduct (by decide +kernel) (by decide +kernel) rfl (by decide +kernel) rfl ⟨by omega, by decide, Nat.le_of_ble_eq_true rfl⟩ rfl (h4 _ (g_X6_advance_28 I G ) G v1 _ hc) ?_
          rintro r9 I9 G9 P9 ⟨e0, e1, e2, e3⟩
          rw [e0, e1, e2, e3]
          show am_V X 0 0 _ _ ad (46, [(0, .ref 28), (1, .int v1), (2, .int v2), (3, .int (I 28 6))], [], I101, G101, (gP rd))
          refine am_blk 46 [(.aload_n 0, 1, 0, 0, .null), (.getfield 12, 3, 4, 1, .null), (.getfield 91, 3, 3, 8, .null), (.iload_n 3, 1, 3, 0, .null), (.iconst (0), 1, 0, 0, .int (0 : Int32))] (55, [(0, .ref 28), (1, .int v1), (2, .int v2), (3, .int (I 28 6))], [.int (0 : Int32), .int (I 28 6), .ref 38], I101, G101, (gP rd)) (True) hX hi (by decide +kernel) rfl trivial ?_
          refine am_callV hX hi (M := mX3_add) (idx := 161) (d' := 2) (b := 38) (ci := 1) (As := [.int (I 28 6), .int (0 : Int32)]) (rest := []) mkX3_add miX3_add mvX3_add (by decide +kernel) (by decide +kernel) rfl (by decide +kernel) rfl ⟨by omega, by decide, Nat.le_of_ble_eq_true rfl⟩ rfl (c_X3_add_38 _ I101 G101 (I 28 6) (0 : Int32)) ?_
          rintro r9 I9 G9 P9 ⟨e0, e1, e2, e3⟩
          rw [e0, e1, e2, e3]
          show am_V X 0 0 _ _ ad (58, [(0, .ref 28), (1, .int v1), (2, .int v2), (3, .int (I 28 6))], [], (g_X3_add_38 I101 G101 (I 28 6) (0 : Int32)), G101, (gP rd))
          refine am_blk 58 [(.iinc 2 (1), 3, 2, 0, .int (1 : Int32)), (.goto (-54), 3, 0, 7, .null)] (7, [(0, .ref 28), (1, .int v1), (2, .int (v2 + (1 : Int32))), (3, .int (I 28 6))], [], (g_X3_add_38 I101 G101 (I 28 6) (0 : Int32)), G101, (gP rd)) (True) hX hi (by decide +kernel) rfl trivial ?_
          refine am_sub (L' := [(0, .ref 28), (1, .int v1), (2, .int (v2 + (1 : Int32)))]) (by simp) ?_
          exact ih _ _ _ _ _ h
        · rw [if_neg c20] at h
          refine am_blk 23 [(.aload_n 0, 1, 0, 0, .null), (.getfield 62, 3, 4, 6, .null), (.bipush (31), 2, 0, 0, .int (31 : Int32))] (29, [(0, .ref 28), (1, .int v1), (2, .int v2)], [.int (31 : Int32), .int (I 28 6)], I, G, (gP rd)) (True) hX hi (by decide +kernel) rfl trivial ?_
          refine am_icmp_ne (tgt := 64) hX hi (off := (35)) (by decide +kernel) (by decide) (fun c29 => ?_) (fun c29 => ?_)
          · rw [if_neg c29] at h
            cases h
            refine am_vret hX hi rfl (by decide +kernel) ?_
            exact ⟨rfl, rfl, rfl, rfl⟩
          · rw [if_pos c29] at h
            refine am_blk 32 [(.aload_n 0, 1, 0, 0, .null), (.getfield 62, 3, 4, 6, .null), (.istore_n 3, 1, 3, 0, .null), (.aload_n 0, 1, 0, 0, .null)] (38, [(0, .ref 28), (1, .int v1), (2, .int v2), (3, .int (I 28 6))], [.ref 28], I, G, (gP rd)) (True) hX hi (by decide +kernel) rfl trivial ?_
            refine am_callV hX hi (M := mX6_advance) (idx := 100) (d' := 2) (b := 28) (ci := 4) (As := []) (rest := []) mkX6_advance miX6_advance mvX6_advance (by decide +kernel) (by decide +kernel) rfl (by decide +kernel) rfl ⟨by omega, by decide, Nat.le_of_ble_eq_true rfl⟩ rfl (c_X6_advance_28 _ I G ) ?_
            rintro r9 I9 G9 P9 ⟨e0, e1, e2, e3⟩
            rw [e0, e1, e2, e3]
            show am_V X 0 0 _ _ ad (41, [(0, .ref 28), (1, .int v1), (2, .int v2), (3, .int (I 28 6))], [], (g_X6_advance_28 I G ), G, (gP rd))
            refine am_blk 41 [(.aload_n 0, 1, 0, 0, .null), (.iload_n 1, 1, 1, 0, .null)] (43, [(0, .ref 28), (1, .int v1), (2, .int v2), (3, .int (I 28 6))], [.int v1, .ref 28], (g_X6_advance_28 I G ), G, (gP rd)) (True) hX hi (by decide +kernel) rfl trivial ?_
            obtain ⟨r102, I102, G102, hc, h⟩ := rb_some h
            refine am_callV hX hi (M := mX6_readProduct) (idx := 170) (d' := (8 + n9)) (b := 28) (ci := 4) (As := [.int v1]) (rest := []) mkX6_readProduct miX6_readProduct mvX6_readProduct (by decide +kernel) (by decide +kernel) rfl (by decide +kernel) rfl ⟨by omega, by decide, Nat.le_of_ble_eq_true rfl⟩ rfl (h4 _ (g_X6_advance_28 I G ) G v1 _ hc) ?_
            rintro r9 I9 G9 P9 ⟨e0, e1, e2, e3⟩
            rw [e0, e1, e2, e3]
            show am_V X 0 0 _ _ ad (46, [(0, .ref 28), (1, .int v1), (2, .int v2), (3, .int (I 28 6))], [], I102, G102, (gP rd))
            refine am_blk 46 [(.aload_n 0, 1, 0, 0, .null), (.getfield 12, 3, 4, 1, .null), (.getfield 91, 3, 3, 8, .null), (.iload_n 3, 1, 3, 0, .null), (.iconst (0), 1, 0, 0, .int (0 : Int32))] (55, [(0, .ref 28), (1, .int v1), (2, .int v2), (3, .int (I 28 6))], [.int (0 : Int32), .int (I 28 6), .ref 38], I102, G102, (gP rd)) (True) hX hi (by decide +kernel) rfl trivial ?_
            refine am_callV hX hi (M := mX3_add) (idx := 161) (d' := 2) (b := 38) (ci := 1) (As := [.int (I 28 6), .int (0 : Int32)]) (rest := []) mkX3_add miX3_add mvX3_add (by decide +kernel) (by decide +kernel) rfl (by decide +kernel) rfl ⟨by omega, by decide, Nat.le_of_ble_eq_true rfl⟩ rfl (c_X3_add_38 _ I102 G102 (I 28 6) (0 : Int32)) ?_
            rintro r9 I9 G9 P9 ⟨e0, e1, e2, e3⟩
            rw [e0, e1, e2, e3]
            show am_V X 0 0 _ _ ad (58, [(0, .ref 28), (1, .int v1), (2, .int v2), (3, .int (I 28 6))], [], (g_X3_add_38 I102 G102 (I 28 6) (0 : Int32)), G102, (gP rd))
            refine am_blk 58 [(.iinc 2 (1), 3, 2, 0, .int (1 : Int32)), (.goto (-54), 3, 0, 7, .null)] (7, [(0, .ref 28), (1, .int v1), (2, .int (v2 + (1 : Int32))), (3, .int (I 28 6))], [], (g_X3_add_38 I102 G102 (I 28 6) (0 : Int32)), G102, (gP rd)) (True) hX hi (by decide +kernel) rfl trivial ?_
            refine am_sub (L' := [(0, .ref 28), (1, .int v1), (2, .int (v2 + (1 : Int32)))]) (by simp) ?_
            exact ih _ _ _ _ _ h
set_option maxRecDepth 20000 in
set_option maxHeartbeats 4000000 in
theorem c_X6_readSum_28 {cal : Nat → am_I → am_G → Int32 → Int32 → Option (Unit × am_I × am_G)} {n9 : Nat} (h0 : ∀ (rd : Nat) (I : am_I) (G : am_G) (a : Int32) (out : Unit × am_I × am_G), cal 0 I G a (0 : Int32) = some out → am_Ct mX6_readTest (8 + n9) gS [.ref 28, .int a] I G (gP rd) (pV out.2.1 out.2.2 (gP rd))) (h1 : ∀ (rd : Nat) (I : am_I) (G : am_G) (a : Int32) (out : Unit × am_I × am_G), cal 1 I G a (0 : Int32) = some out → am_Ct mX6_readBoth (8 + n9) gS [.ref 28, .int a] I G (gP rd) (pV out.2.1 out.2.2 (gP rd))) (h2 : ∀ (rd : Nat) (I : am_I) (G : am_G) (a : Int32) (out : Unit × am_I × am_G), cal 2 I G a (0 : Int32) = some out → am_Ct mX6_readSingle (8 + n9) gS [.ref 28, .int a] I G (gP rd) (pV out.2.1 out.2.2 (gP rd))) (h3 : ∀ (rd : Nat) (I : am_I) (G : am_G) (a : Int32) (out : Unit × am_I × am_G), cal 3 I G a (0 : Int32) = some out → am_Ct mX6_readSum (8 + n9) gS [.ref 28, .int a] I G (gP rd) (pV out.2.1 out.2.2 (gP rd))) (h4 : ∀ (rd : Nat) (I : am_I) (G : am_G) (a : Int32) (out : Unit × am_I × am_G), cal 4 I G a (0 : Int32) = some out → am_Ct mX6_readProduct (8 + n9) gS [.ref 28, .int a] I G (gP rd) (pV out.2.1 out.2.2 (gP rd))) (h5 : ∀ (rd : Nat) (I : am_I) (G : am_G) (a : Int32) (out : Unit × am_I × am_G), cal 5 I G a (0 : Int32) = some out → am_Ct mX6_readValue (8 + n9) gS [.ref 28, .int a] I G (gP rd) (pV out.2.1 out.2.2 (gP rd))) (h6 : ∀ (rd : Nat) (I : am_I) (G : am_G) (a : Int32) (out : Unit × am_I × am_G), cal 6 I G a (0 : Int32) = some out → am_Ct mX6_readPair (8 + n9) gS [.ref 28, .int a] I G (gP rd) (pV out.2.1 out.2.2 (gP rd))) (rd : Nat) (I : am_I) (G : am_G) (x1 : Int32) {out : Unit × am_I × am_G} (h : R_X6_readSum_28 cal I G x1 = some out) : am_Ct mX6_readSum (8 + n9 + 1) gS [.ref 28, .int x1] I G (gP rd) (pV out.2.1 out.2.2 (gP rd)) := by
  refine am_ofF (by decide +kernel) rfl (by decide) (by omega) (Nat.le_of_ble_eq_true rfl) (fun X ad hX hi => ?_)
  have hi : am_info X 4 cX6_readSum 4 false none (8 + n9 + 1) := hi
  show am_V X 0 0 _ _ ad (0, [(0, .ref 28), (1, .int x1)], [], I, G, (gP rd))
  unfold R_X6_readSum_28 at h
  refine am_blk 0 [(.aload_n 0, 1, 0, 0, .null), (.iload_n 1, 1, 1, 0, .null)] (2, [(0, .ref 28), (1, .int x1)], [.int x1, .ref 28], I, G, (gP rd)) (True) hX hi (by decide +kernel) rfl trivial ?_
  obtain ⟨r1, I1, G1, hc, h⟩ := rb_some h
  refine am_callV hX hi (M := mX6_readProduct) (idx := 170) (d' := (8 + n9)) (b := 28) (ci := 4) (As := [.int x1]) (rest := []) mkX6_readProduct miX6_readProduct mvX6_readProduct (by decide +kernel) (by decide +kernel) rfl (by decide +kernel) rfl ⟨by omega, by decide, Nat.le_of_ble_eq_true rfl⟩ rfl (h4 _ I G x1 _ hc) ?_
  rintro r9 I9 G9 P9 ⟨e0, e1, e2, e3⟩
  rw [e0, e1, e2, e3]
  show am_V X 0 0 _ _ ad (5, [(0, .ref 28), (1, .int x1)], [], I1, G1, (gP rd))
  refine am_blk 5 [(.iconst (0), 1, 0, 0, .int (0 : Int32)), (.istore_n 2, 1, 2, 0, .null)] (7, [(0, .ref 28), (1, .int x1), (2, .int (0 : Int32))], [], I1, G1, (gP rd)) (True) hX hi (by decide +kernel) rfl trivial ?_
  exact (l_X6_readSum_28 h0 h1 h2 h3 h4 h5 h6 rd hX hi FU) _ _ _ _ _ h
noncomputable def L_X6_readProduct_28 (cal : Nat → am_I → am_G → Int32 → Int32 → Option (Unit × am_I × am_G)) (n0 : Nat) (hd : Nat) (I : am_I) (G : am_G) (v1 : Int32) (v2 : Int32) : Option (Unit × am_I × am_G) := match n0 with
  | 0 => none
  | n + 1 => match hd with
    | _ => (if (400 : Int32) ≤ v2 then some ((), I, G) else (if (I 28 6) = (32 : Int32) then rb (cal 5 (g_X6_advance_28 I G ) G v1 (0 : Int32)) (fun r101 I101 G101 => L_X6_readProduct_28 cal n 0 (g_X3_add_38 I101 G101 (I 28 6) (0 : Int32)) G101 v1 (v2 + (1 : Int32))) else (if (I 28 6) = (33 : Int32) then rb (cal 5 (g_X6_advance_28 I G ) G v1 (0 : Int32)) (fun r102 I102 G102 => L_X6_readProduct_28 cal n 0 (g_X3_add_38 I102 G102 (I 28 6) (0 : Int32)) G102 v1 (v2 + (1 : Int32))) else some ((), I, G))))
theorem L_X6_readProduct_28_0 (cal : Nat → am_I → am_G → Int32 → Int32 → Option (Unit × am_I × am_G)) (n : Nat) (I : am_I) (G : am_G) (v1 : Int32) (v2 : Int32) : L_X6_readProduct_28 cal (n + 1) 0 I G v1 v2 = (if (400 : Int32) ≤ v2 then some ((), I, G) else (if (I 28 6) = (32 : Int32) then rb (cal 5 (g_X6_advance_28 I G ) G v1 (0 : Int32)) (fun r101 I101 G101 => L_X6_readProduct_28 cal n 0 (g_X3_add_38 I101 G101 (I 28 6) (0 : Int32)) G101 v1 (v2 + (1 : Int32))) else (if (I 28 6) = (33 : Int32) then rb (cal 5 (g_X6_advance_28 I G ) G v1 (0 : Int32)) (fun r102 I102 G102 => L_X6_readProduct_28 cal n 0 (g_X3_add_38 I102 G102 (I 28 6) (0 : Int32)) G102 v1 (v2 + (1 : Int32))) else some ((), I, G)))) := rfl
theorem L_X6_readProduct_28_z (cal : Nat → am_I → am_G → Int32 → Int32 → Option (Unit × am_I × am_G)) (h : Nat) (I : am_I) (G : am_G) (v1 : Int32) (v2 : Int32) : L_X6_readProduct_28 cal 0 h I G v1 v2 = none := rfl
noncomputable def R_X6_readProduct_28 (cal : Nat → am_I → am_G → Int32 → Int32 → Option (Unit × am_I × am_G)) (I : am_I) (G : am_G) (x1 : Int32) : Option (Unit × am_I × am_G) := rb (cal 5 I G x1 (0 : Int32)) (fun r1 I1 G1 => L_X6_readProduct_28 cal FU 0 I1 G1 x1 (0 : Int32))
set_option maxRecDepth 20000 in
set_option maxHeartbeats 4000000 in
theorem l_X6_readProduct_28 {cal : Nat → am_I → am_G → Int32 → Int32 → Option (Unit × am_I × am_G)} {n9 : Nat} (h0 : ∀ (rd : Nat) (I : am_I) (G : am_G) (a : Int32) (out : Unit × am_I × am_G), cal 0 I G a (0 : Int32) = some out → am_Ct mX6_readTest (8 + n9) gS [.ref 28, .int a] I G (gP rd) (pV out.2.1 out.2.2 (gP rd))) (h1 : ∀ (rd : Nat) (I : am_I) (G : am_G) (a : Int32) (out : Unit × am_I × am_G), cal 1 I G a (0 : Int32) = some out → am_Ct mX6_readBoth (8 + n9) gS [.ref 28, .int a] I G (gP rd) (pV out.2.1 out.2.2 (gP rd))) (h2 : ∀ (rd : Nat) (I : am_I) (G : am_G) (a : Int32) (out : Unit × am_I × am_G), cal 2 I G a (0 : Int32) = some out → am_Ct mX6_readSingle (8 + n9) gS [.ref 28, .int a] I G (gP rd) (pV out.2.1 out.2.2 (gP rd))) (h3 : ∀ (rd : Nat) (I : am_I) (G : am_G) (a : Int32) (out : Unit × am_I × am_G), cal 3 I G a (0 : Int32) = some out → am_Ct mX6_readSum (8 + n9) gS [.ref 28, .int a] I G (gP rd) (pV out.2.1 out.2.2 (gP rd))) (h4 : ∀ (rd : Nat) (I : am_I) (G : am_G) (a : Int32) (out : Unit × am_I × am_G), cal 4 I G a (0 : Int32) = some out → am_Ct mX6_readProduct (8 + n9) gS [.ref 28, .int a] I G (gP rd) (pV out.2.1 out.2.2 (gP rd))) (h5 : ∀ (rd : Nat) (I : am_I) (G : am_G) (a : Int32) (out : Unit × am_I × am_G), cal 5 I G a (0 : Int32) = some out → am_Ct mX6_readValue (8 + n9) gS [.ref 28, .int a] I G (gP rd) (pV out.2.1 out.2.2 (gP rd))) (h6 : ∀ (rd : Nat) (I : am_I) (G : am_G) (a : Int32) (out : Unit × am_I × am_G), cal 6 I G a (0 : Int32) = some out → am_Ct mX6_readPair (8 + n9) gS [.ref 28, .int a] I G (gP rd) (pV out.2.1 out.2.2 (gP rd))) (rd : Nat) {X : am_X} {ad : Nat → Nat} (hX : am_okz X ad) (hi : am_info X 4 cX6_readProduct 4 false none (8 + n9 + 1)) (n : Nat) : (∀ (I : am_I) (G : am_G) (v1 : Int32) (v2 : Int32) (out : Unit × am_I × am_G), L_X6_readProduct_28 cal n 0 I G v1 v2 = some out → am_V X 0 0 (am_Rt X gS ad (pV out.2.1 out.2.2 (gP rd))) gS ad (7, [(0, .ref 28), (1, .int v1), (2, .int v2)], [], I, G, (gP rd))) := by
  induction n with
  | zero => exact fun I G v1 v2 out h => by rw [L_X6_readProduct_28_z] at h; cases h
  | succ n ih =>
    · intro I G v1 v2 out h
      rw [L_X6_readProduct_28_0] at h
      refine am_blk 7 [(.iload_n 2, 1, 2, 0, .null), (.sipush (400), 3, 0, 0, .int (400 : Int32))] (11, [(0, .ref 28), (1, .int v1), (2, .int v2)], [.int (400 : Int32), .int v2], I, G, (gP rd)) (True) hX hi (by decide +kernel) rfl trivial ?_
      refine am_icmp_ge (tgt := 64) hX hi (off := (53)) (by decide +kernel) (by decide) (fun c11 => ?_) (fun c11 => ?_)
      · rw [if_pos c11] at h
        cases h
        refine am_vret hX hi rfl (by decide +kernel) ?_
        exact ⟨rfl, rfl, rfl, rfl⟩
      · rw [if_neg c11] at h
        refine am_blk 14 [(.aload_n 0, 1, 0, 0, .null), (.getfield 62, 3, 4, 6, .null), (.bipush (32), 2, 0, 0, .int (32 : Int32))] (20, [(0, .ref 28), (1, .int v1), (2, .int v2)], [.int (32 : Int32), .int (I 28 6)], I, G, (gP rd)) (True) hX hi (by decide +kernel) rfl trivial ?_
        refine am_icmp_eq (tgt := 32) hX hi (off := (12)) (by decide +kernel) (by decide) (fun c20 => ?_) (fun c20 => ?_)
        · rw [if_pos c20] at h
          refine am_blk 32 [(.aload_n 0, 1, 0, 0, .null), (.getfield 62, 3, 4, 6, .null), (.istore_n 3, 1, 3, 0, .null), (.aload_n 0, 1, 0, 0, .null)] (38, [(0, .ref 28), (1, .int v1), (2, .int v2), (3, .int (I 28 6))], [.ref 28], I, G, (gP rd)) (True) hX hi (by decide +kernel) rfl trivial ?_
          refine am_callV hX hi (M := mX6_advance) (idx := 100) (d' := 2) (b := 28) (ci := 4) (As := []) (rest := []) mkX6_advance miX6_advance mvX6_advance (by decide +kernel) (by decide +kernel) rfl (by decide +kernel) rfl ⟨by omega, by decide, Nat.le_of_ble_eq_true rfl⟩ rfl (c_X6_advance_28 _ I G ) ?_
          rintro r9 I9 G9 P9 ⟨e0, e1, e2, e3⟩
          rw [e0, e1, e2, e3]
          show am_V X 0 0 _ _ ad (41, [(0, .ref 28), (1, .int v1), (2, .int v2), (3, .int (I 28 6))], [], (g_X6_advance_28 I G ), G, (gP rd))
          refine am_blk 41 [(.aload_n 0, 1, 0, 0, .null), (.iload_n 1, 1, 1, 0, .null)] (43, [(0, .ref 28), (1, .int v1), (2, .int v2), (3, .int (I 28 6))], [.int v1, .ref 28], (g_X6_advance_28 I G ), G, (gP rd)) (True) hX hi (by decide +kernel) rfl trivial ?_
          obtain ⟨r101, I101, G101, hc, h⟩ := rb_some h
          refine am_callV hX hi (M := mX6_readValue) (idx := 173) (d' := (8 + n9)) (b := 28) (ci := 4) (As := [.int v1]) (rest := []) mkX6_readValue miX6_readValue mvX6_readValue (by decide +kernel) (by decide +kernel) rfl (by decide +kernel) rfl ⟨by omega, by decide, Nat.le_of_ble_eq_true rfl⟩ rfl (h5 _ (g_X6_advance_28 I G ) G v1 _ hc) ?_
          rintro r9 I9 G9 P9 ⟨e0, e1, e2, e3⟩
          rw [e0, e1, e2, e3]
          show am_V X 0 0 _ _ ad (46, [(0, .ref 28), (1, .int v1), (2, .int v2), (3, .int (I 28 6))], [], I101, G101, (gP rd))
          refine am_blk 46 [(.aload_n 0, 1, 0, 0, .null), (.getfield 12, 3, 4, 1, .null), (.getfield 91, 3, 3, 8, .null), (.iload_n 3, 1, 3, 0, .null), (.iconst (0), 1, 0, 0, .int (0 : Int32))] (55, [(0, .ref 28), (1, .int v1), (2, .int v2), (3, .int (I 28 6))], [.int (0 : Int32), .int (I 28 6), .ref 38], I101, G101, (gP rd)) (True) hX hi (by decide +kernel) rfl trivial ?_
          refine am_callV hX hi (M := mX3_add) (idx := 161) (d' := 2) (b := 38) (ci := 1) (As := [.int (I 28 6), .int (0 : Int32)]) (rest := []) mkX3_add miX3_add mvX3_add (by decide +kernel) (by decide +kernel) rfl (by decide +kernel) rfl ⟨by omega, by decide, Nat.le_of_ble_eq_true rfl⟩ rfl (c_X3_add_38 _ I101 G101 (I 28 6) (0 : Int32)) ?_
          rintro r9 I9 G9 P9 ⟨e0, e1, e2, e3⟩
          rw [e0, e1, e2, e3]
          show am_V X 0 0 _ _ ad (58, [(0, .ref 28), (1, .int v1), (2, .int v2), (3, .int (I 28 6))], [], (g_X3_add_38 I101 G101 (I 28 6) (0 : Int32)), G101, (gP rd))
          refine am_blk 58 [(.iinc 2 (1), 3, 2, 0, .int (1 : Int32)), (.goto (-54), 3, 0, 7, .null)] (7, [(0, .ref 28), (1, .int v1), (2, .int (v2 + (1 : Int32))), (3, .int (I 28 6))], [], (g_X3_add_38 I101 G101 (I 28 6) (0 : Int32)), G101, (gP rd)) (True) hX hi (by decide +kernel) rfl trivial ?_
          refine am_sub (L' := [(0, .ref 28), (1, .int v1), (2, .int (v2 + (1 : Int32)))]) (by simp) ?_
          exact ih _ _ _ _ _ h
        · rw [if_neg c20] at h
          refine am_blk 23 [(.aload_n 0, 1, 0, 0, .null), (.getfield 62, 3, 4, 6, .null), (.bipush (33), 2, 0, 0, .int (33 : Int32))] (29, [(0, .ref 28), (1, .int v1), (2, .int v2)], [.int (33 : Int32), .int (I 28 6)], I, G, (gP rd)) (True) hX hi (by decide +kernel) rfl trivial ?_
          refine am_icmp_ne (tgt := 64) hX hi (off := (35)) (by decide +kernel) (by decide) (fun c29 => ?_) (fun c29 => ?_)
          · rw [if_neg c29] at h
            cases h
            refine am_vret hX hi rfl (by decide +kernel) ?_
            exact ⟨rfl, rfl, rfl, rfl⟩
          · rw [if_pos c29] at h
            refine am_blk 32 [(.aload_n 0, 1, 0, 0, .null), (.getfield 62, 3, 4, 6, .null), (.istore_n 3, 1, 3, 0, .null), (.aload_n 0, 1, 0, 0, .null)] (38, [(0, .ref 28), (1, .int v1), (2, .int v2), (3, .int (I 28 6))], [.ref 28], I, G, (gP rd)) (True) hX hi (by decide +kernel) rfl trivial ?_
            refine am_callV hX hi (M := mX6_advance) (idx := 100) (d' := 2) (b := 28) (ci := 4) (As := []) (rest := []) mkX6_advance miX6_advance mvX6_advance (by decide +kernel) (by decide +kernel) rfl (by decide +kernel) rfl ⟨by omega, by decide, Nat.le_of_ble_eq_true rfl⟩ rfl (c_X6_advance_28 _ I G ) ?_
            rintro r9 I9 G9 P9 ⟨e0, e1, e2, e3⟩
            rw [e0, e1, e2, e3]
            show am_V X 0 0 _ _ ad (41, [(0, .ref 28), (1, .int v1), (2, .int v2), (3, .int (I 28 6))], [], (g_X6_advance_28 I G ), G, (gP rd))
            refine am_blk 41 [(.aload_n 0, 1, 0, 0, .null), (.iload_n 1, 1, 1, 0, .null)] (43, [(0, .ref 28), (1, .int v1), (2, .int v2), (3, .int (I 28 6))], [.int v1, .ref 28], (g_X6_advance_28 I G ), G, (gP rd)) (True) hX hi (by decide +kernel) rfl trivial ?_
            obtain ⟨r102, I102, G102, hc, h⟩ := rb_some h
            refine am_callV hX hi (M := mX6_readValue) (idx := 173) (d' := (8 + n9)) (b := 28) (ci := 4) (As := [.int v1]) (rest := []) mkX6_readValue miX6_readValue mvX6_readValue (by decide +kernel) (by decide +kernel) rfl (by decide +kernel) rfl ⟨by omega, by decide, Nat.le_of_ble_eq_true rfl⟩ rfl (h5 _ (g_X6_advance_28 I G ) G v1 _ hc) ?_
            rintro r9 I9 G9 P9 ⟨e0, e1, e2, e3⟩
            rw [e0, e1, e2, e3]
            show am_V X 0 0 _ _ ad (46, [(0, .ref 28), (1, .int v1), (2, .int v2), (3, .int (I 28 6))], [], I102, G102, (gP rd))
            refine am_blk 46 [(.aload_n 0, 1, 0, 0, .null), (.getfield 12, 3, 4, 1, .null), (.getfield 91, 3, 3, 8, .null), (.iload_n 3, 1, 3, 0, .null), (.iconst (0), 1, 0, 0, .int (0 : Int32))] (55, [(0, .ref 28), (1, .int v1), (2, .int v2), (3, .int (I 28 6))], [.int (0 : Int32), .int (I 28 6), .ref 38], I102, G102, (gP rd)) (True) hX hi (by decide +kernel) rfl trivial ?_
            refine am_callV hX hi (M := mX3_add) (idx := 161) (d' := 2) (b := 38) (ci := 1) (As := [.int (I 28 6), .int (0 : Int32)]) (rest := []) mkX3_add miX3_add mvX3_add (by decide +kernel) (by decide +kernel) rfl (by decide +kernel) rfl ⟨by omega, by decide, Nat.le_of_ble_eq_true rfl⟩ rfl (c_X3_add_38 _ I102 G102 (I 28 6) (0 : Int32)) ?_
            rintro r9 I9 G9 P9 ⟨e0, e1, e2, e3⟩
            rw [e0, e1, e2, e3]
            show am_V X 0 0 _ _ ad (58, [(0, .ref 28), (1, .int v1), (2, .int v2), (3, .int (I 28 6))], [], (g_X3_add_38 I102 G102 (I 28 6) (0 : Int32)), G102, (gP rd))
            refine am_blk 58 [(.iinc 2 (1), 3, 2, 0, .int (1 : Int32)), (.goto (-54), 3, 0, 7, .null)] (7, [(0, .ref 28), (1, .int v1), (2, .int (v2 + (1 : Int32))), (3, .int (I 28 6))], [], (g_X3_add_38 I102 G102 (I 28 6) (0 : Int32)), G102, (gP rd)) (True) hX hi (by decide +kernel) rfl trivial ?_
            refine am_sub (L' := [(0, .ref 28), (1, .int v1), (2, .int (v2 + (1 : Int32)))]) (by simp) ?_
            exact ih _ _ _ _ _ h
set_option maxRecDepth 20000 in
set_option maxHeartbeats 4000000 in
theorem c_X6_readProduct_28 {cal : Nat → am_I → am_G → Int32 → Int32 → Option (Unit × am_I × am_G)} {n9 : Nat} (h0 : ∀ (rd : Nat) (I : am_I) (G : am_G) (a : Int32) (out : Unit × am_I × am_G), cal 0 I G a (0 : Int32) = some out → am_Ct mX6_readTest (8 + n9) gS [.ref 28, .int a] I G (gP rd) (pV out.2.1 out.2.2 (gP rd))) (h1 : ∀ (rd : Nat) (I : am_I) (G : am_G) (a : Int32) (out : Unit × am_I × am_G), cal 1 I G a (0 : Int32) = some out → am_Ct mX6_readBoth (8 + n9) gS [.ref 28, .int a] I G (gP rd) (pV out.2.1 out.2.2 (gP rd))) (h2 : ∀ (rd : Nat) (I : am_I) (G : am_G) (a : Int32) (out : Unit × am_I × am_G), cal 2 I G a (0 : Int32) = some out → am_Ct mX6_readSingle (8 + n9) gS [.ref 28, .int a] I G (gP rd) (pV out.2.1 out.2.2 (gP rd))) (h3 : ∀ (rd : Nat) (I : am_I) (G : am_G) (a : Int32) (out : Unit × am_I × am_G), cal 3 I G a (0 : Int32) = some out → am_Ct mX6_readSum (8 + n9) gS [.ref 28, .int a] I G (gP rd) (pV out.2.1 out.2.2 (gP rd))) (h4 : ∀ (rd : Nat) (I : am_I) (G : am_G) (a : Int32) (out : Unit × am_I × am_G), cal 4 I G a (0 : Int32) = some out → am_Ct mX6_readProduct (8 + n9) gS [.ref 28, .int a] I G (gP rd) (pV out.2.1 out.2.2 (gP rd))) (h5 : ∀ (rd : Nat) (I : am_I) (G : am_G) (a : Int32) (out : Unit × am_I × am_G), cal 5 I G a (0 : Int32) = some out → am_Ct mX6_readValue (8 + n9) gS [.ref 28, .int a] I G (gP rd) (pV out.2.1 out.2.2 (gP rd))) (h6 : ∀ (rd : Nat) (I : am_I) (G : am_G) (a : Int32) (out : Unit × am_I × am_G), cal 6 I G a (0 : Int32) = some out → am_Ct mX6_readPair (8 + n9) gS [.ref 28, .int a] I G (gP rd) (pV out.2.1 out.2.2 (gP rd))) (rd : Nat) (I : am_I) (G : am_G) (x1 : Int32) {out : Unit × am_I × am_G} (h : R_X6_readProduct_28 cal I G x1 = some out) : am_Ct mX6_readProduct (8 + n9 + 1) gS [.ref 28, .int x1] I G (gP rd) (pV out.2.1 out.2.2 (gP rd)) := by
  refine am_ofF (by decide +kernel) rfl (by decide) (by omega) (Nat.le_of_ble_eq_true rfl) (fun X ad hX hi => ?_)
  have hi : am_info X 4 cX6_readProduct 4 false none (8 + n9 + 1) := hi
  show am_V X 0 0 _ _ ad (0, [(0, .ref 28), (1, .int x1)], [], I, G, (gP rd))
  unfold R_X6_readProduct_28 at h
  refine am_blk 0 [(.aload_n 0, 1, 0, 0, .null), (.iload_n 1, 1, 1, 0, .null)] (2, [(0, .ref 28), (1, .int x1)], [.int x1, .ref 28], I, G, (gP rd)) (True) hX hi (by decide +kernel) rfl trivial ?_
  obtain ⟨r1, I1, G1, hc, h⟩ := rb_some h
  refine am_callV hX hi (M := mX6_readValue) (idx := 173) (d' := (8 + n9)) (b := 28) (ci := 4) (As := [.int x1]) (rest := []) mkX6_readValue miX6_readValue mvX6_readValue (by decide +kernel) (by decide +kernel) rfl (by decide +kernel) rfl ⟨by omega, by decide, Nat.le_of_ble_eq_true rfl⟩ rfl (h5 _ I G x1 _ hc) ?_
  rintro r9 I9 G9 P9 ⟨e0, e1, e2, e3⟩
  rw [e0, e1, e2, e3]
  show am_V X 0 0 _ _ ad (5, [(0, .ref 28), (1, .int x1)], [], I1, G1, (gP rd))
  refine am_blk 5 [(.iconst (0), 1, 0, 0, .int (0 : Int32)), (.istore_n 2, 1, 2, 0, .null)] (7, [(0, .ref 28), (1, .int x1), (2, .int (0 : Int32))], [], I1, G1, (gP rd)) (True) hX hi (by decide +kernel) rfl trivial ?_
  exact (l_X6_readProduct_28 h0 h1 h2 h3 h4 h5 h6 rd hX hi FU) _ _ _ _ _ h
