theorem am_hd135 : (1 : Nat) = 1 := rfl  -- methods with loops, and those that call them, further on
noncomputable def R_X7_tell_66 (I : am_I) (G : am_G) (x1 : Int32) : Option (Int32 × am_I × am_G) := (if x1 = (0 : Int32) then some ((I 66 12), I, G) else if x1 = (1 : Int32) then some ((I 7 9), I, G) else if x1 = (2 : Int32) then some ((I 7 10), I, G) else if x1 = (3 : Int32) then some ((I 7 11), I, G) else if x1 = (4 : Int32) then some ((I 7 12), I, G) else if x1 = (5 : Int32) then some ((I 7 13), I, G) else if x1 = (6 : Int32) then some ((I 16 8), I, G) else if x1 = (7 : Int32) then some ((I 73 4), I, G) else if x1 = (8 : Int32) then some ((I 73 5), I, G) else if x1 = (9 : Int32) then rb (R_X7_smallestHeight_66 I G ) (fun r1 I1 G1 => some (r1, I1, G1)) else if x1 = (10 : Int32) then rb (R_X7_greatestHeight_66 I G ) (fun r2 I2 G2 => some (r2, I2, G2)) else if x1 = (11 : Int32) then some ((I 66 10), I, G) else if x1 = (12 : Int32) then some ((I 66 11), I, G) else some ((I 66 13), I, G))
set_option maxRecDepth 20000 in
set_option maxHeartbeats 4000000 in
theorem c_X7_tell_66 (rd : Nat) (I : am_I) (G : am_G) (x1 : Int32) {out : Int32 × am_I × am_G} (h : R_X7_tell_66 I G x1 = some out) : am_Ct mX7_tell 3 gS [.ref 66, .int x1] I G (gP rd) (pI out.1 out.2.1 out.2.2 (gP rd)) := by
  refine am_ofF (by decide +kernel) rfl (by decide) (by omega) (Nat.le_of_ble_eq_true rfl) (fun X ad hX hi => ?_)
  have hi : am_info X 5 cX7_tell 2 false (Option.some Jvm.ClassFile.FieldType.int) 3 := hi
  show am_V X 0 0 _ _ ad (0, [(0, .ref 66), (1, .int x1)], [], I, G, (gP rd))
  unfold R_X7_tell_66 at h
  refine am_blk 0 [(.iload_n 1, 1, 1, 0, .null)] (1, [(0, .ref 66), (1, .int x1)], [.int x1], I, G, (gP rd)) (True) hX hi (by decide +kernel) rfl trivial ?_
  by_cases s1_0 : x1 = (0 : Int32)
  · rw [if_pos s1_0] at h
    refine am_tsi hX hi (dflt := (159)) (lo := (0)) (hi' := (12)) (offs := #[(67), (72), (80), (88), (96), (104), (112), (123), (131), (139), (144), (149), (154)]) (len := 67) (off := (67)) (tgt := 68) (by decide +kernel) (by rw [s1_0]; decide) (by rw [s1_0]; decide) (by rw [s1_0]; rfl) (by decide) ?_
    refine am_blk 68 [(.aload_n 0, 1, 0, 0, .null), (.getfield 59, 3, 5, 12, .null)] (72, [(0, .ref 66), (1, .int x1)], [.int (I 66 12)], I, G, (gP rd)) (True) hX hi (by decide +kernel) rfl trivial ?_
    cases h
    refine am_iret hX hi rfl rfl (by decide +kernel) ?_
    exact ⟨rfl, rfl, rfl, rfl⟩
  rw [if_neg s1_0] at h
  by_cases s1_1 : x1 = (1 : Int32)
  · rw [if_pos s1_1] at h
    refine am_tsi hX hi (dflt := (159)) (lo := (0)) (hi' := (12)) (offs := #[(67), (72), (80), (88), (96), (104), (112), (123), (131), (139), (144), (149), (154)]) (len := 67) (off := (72)) (tgt := 73) (by decide +kernel) (by rw [s1_1]; decide) (by rw [s1_1]; decide) (by rw [s1_1]; rfl) (by decide) ?_
    refine am_blk 73 [(.aload_n 0, 1, 0, 0, .null), (.getfield 44, 3, 5, 0, .null), (.getfield 104, 3, 3, 9, .null)] (80, [(0, .ref 66), (1, .int x1)], [.int (I 7 9)], I, G, (gP rd)) (True) hX hi (by decide +kernel) rfl trivial ?_
    cases h
    refine am_iret hX hi rfl rfl (by decide +kernel) ?_
    exact ⟨rfl, rfl, rfl, rfl⟩
  rw [if_neg s1_1] at h
  by_cases s1_2 : x1 = (2 : Int32)
  · rw [if_pos s1_2] at h
    refine am_tsi hX hi (dflt := (159)) (lo := (0)) (hi' := (12)) (offs := #[(67), (72), (80), (88), (96), (104), (112), (123), (131), (139), (144), (149), (154)]) (len := 67) (off := (80)) (tgt := 81) (by decide +kernel) (by rw [s1_2]; decide) (by rw [s1_2]; decide) (by rw [s1_2]; rfl) (by decide) ?_
    refine am_blk 81 [(.aload_n 0, 1, 0, 0, .null), (.getfield 44, 3, 5, 0, .null), (.getfield 111, 3, 3, 10, .null)] (88, [(0, .ref 66), (1, .int x1)], [.int (I 7 10)], I, G, (gP rd)) (True) hX hi (by decide +kernel) rfl trivial ?_
    cases h
    refine am_iret hX hi rfl rfl (by decide +kernel) ?_
    exact ⟨rfl, rfl, rfl, rfl⟩
  rw [if_neg s1_2] at h
  by_cases s1_3 : x1 = (3 : Int32)
  · rw [if_pos s1_3] at h
    refine am_tsi hX hi (dflt := (159)) (lo := (0)) (hi' := (12)) (offs := #[(67), (72), (80), (88), (96), (104), (112), (123), (131), (139), (144), (149), (154)]) (len := 67) (off := (88)) (tgt := 89) (by decide +kernel) (by rw [s1_3]; decide) (by rw [s1_3]; decide) (by rw [s1_3]; rfl) (by decide) ?_
    refine am_blk 89 [(.aload_n 0, 1, 0, 0, .null), (.getfield 44, 3, 5, 0, .null), (.getfield 229, 3, 3, 11, .null)] (96, [(0, .ref 66), (1, .int x1)], [.int (I 7 11)], I, G, (gP rd)) (True) hX hi (by decide +kernel) rfl trivial ?_
    cases h
    refine am_iret hX hi rfl rfl (by decide +kernel) ?_
    exact ⟨rfl, rfl, rfl, rfl⟩
  rw [if_neg s1_3] at h
  by_cases s1_4 : x1 = (4 : Int32)
  · rw [if_pos s1_4] at h
    refine am_tsi hX hi (dflt := (159)) (lo := (0)) (hi' := (12)) (offs := #[(67), (72), (80), (88), (96), (104), (112), (123), (131), (139), (144), (149), (154)]) (len := 67) (off := (96)) (tgt := 97) (by decide +kernel) (by rw [s1_4]; decide) (by rw [s1_4]; decide) (by rw [s1_4]; rfl) (by decide) ?_
    refine am_blk 97 [(.aload_n 0, 1, 0, 0, .null), (.getfield 44, 3, 5, 0, .null), (.getfield 82, 3, 3, 12, .null)] (104, [(0, .ref 66), (1, .int x1)], [.int (I 7 12)], I, G, (gP rd)) (True) hX hi (by decide +kernel) rfl trivial ?_
    cases h
    refine am_iret hX hi rfl rfl (by decide +kernel) ?_
    exact ⟨rfl, rfl, rfl, rfl⟩
  rw [if_neg s1_4] at h
  by_cases s1_5 : x1 = (5 : Int32)
  · rw [if_pos s1_5] at h
    refine am_tsi hX hi (dflt := (159)) (lo := (0)) (hi' := (12)) (offs := #[(67), (72), (80), (88), (96), (104), (112), (123), (131), (139), (144), (149), (154)]) (len := 67) (off := (104)) (tgt := 105) (by decide +kernel) (by rw [s1_5]; decide) (by rw [s1_5]; decide) (by rw [s1_5]; rfl) (by decide) ?_
    refine am_blk 105 [(.aload_n 0, 1, 0, 0, .null), (.getfield 44, 3, 5, 0, .null), (.getfield 255, 3, 3, 13, .null)] (112, [(0, .ref 66), (1, .int x1)], [.int (I 7 13)], I, G, (gP rd)) (True) hX hi (by decide +kernel) rfl trivial ?_
    cases h
    refine am_iret hX hi rfl rfl (by decide +kernel) ?_
    exact ⟨rfl, rfl, rfl, rfl⟩
  rw [if_neg s1_5] at h
  by_cases s1_6 : x1 = (6 : Int32)
  · rw [if_pos s1_6] at h
    refine am_tsi hX hi (dflt := (159)) (lo := (0)) (hi' := (12)) (offs := #[(67), (72), (80), (88), (96), (104), (112), (123), (131), (139), (144), (149), (154)]) (len := 67) (off := (112)) (tgt := 113) (by decide +kernel) (by rw [s1_6]; decide) (by rw [s1_6]; decide) (by rw [s1_6]; rfl) (by decide) ?_
    refine am_blk 113 [(.aload_n 0, 1, 0, 0, .null), (.getfield 44, 3, 5, 0, .null), (.getfield 114, 3, 3, 8, .null), (.getfield 118, 3, 1, 8, .null)] (123, [(0, .ref 66), (1, .int x1)], [.int (I 16 8)], I, G, (gP rd)) (True) hX hi (by decide +kernel) rfl trivial ?_
    cases h
    refine am_iret hX hi rfl rfl (by decide +kernel) ?_
    exact ⟨rfl, rfl, rfl, rfl⟩
  rw [if_neg s1_6] at h
  by_cases s1_7 : x1 = (7 : Int32)
  · rw [if_pos s1_7] at h
    refine am_tsi hX hi (dflt := (159)) (lo := (0)) (hi' := (12)) (offs := #[(67), (72), (80), (88), (96), (104), (112), (123), (131), (139), (144), (149), (154)]) (len := 67) (off := (123)) (tgt := 124) (by decide +kernel) (by rw [s1_7]; decide) (by rw [s1_7]; decide) (by rw [s1_7]; rfl) (by decide) ?_
    refine am_blk 124 [(.aload_n 0, 1, 0, 0, .null), (.getfield 33, 3, 5, 8, .null), (.getfield 257, 3, 2, 4, .null)] (131, [(0, .ref 66), (1, .int x1)], [.int (I 73 4)], I, G, (gP rd)) (True) hX hi (by decide +kernel) rfl trivial ?_
    cases h
    refine am_iret hX hi rfl rfl (by decide +kernel) ?_
    exact ⟨rfl, rfl, rfl, rfl⟩
  rw [if_neg s1_7] at h
  by_cases s1_8 : x1 = (8 : Int32)
  · rw [if_pos s1_8] at h
    refine am_tsi hX hi (dflt := (159)) (lo := (0)) (hi' := (12)) (offs := #[(67), (72), (80), (88), (96), (104), (112), (123), (131), (139), (144), (149), (154)]) (len := 67) (off := (131)) (tgt := 132) (by decide +kernel) (by rw [s1_8]; decide) (by rw [s1_8]; decide) (by rw [s1_8]; rfl) (by decide) ?_
    refine am_blk 132 [(.aload_n 0, 1, 0, 0, .null), (.getfield 33, 3, 5, 8, .null), (.getfield 258, 3, 2, 5, .null)] (139, [(0, .ref 66), (1, .int x1)], [.int (I 73 5)], I, G, (gP rd)) (True) hX hi (by decide +kernel) rfl trivial ?_
    cases h
    refine am_iret hX hi rfl rfl (by decide +kernel) ?_
    exact ⟨rfl, rfl, rfl, rfl⟩
  rw [if_neg s1_8] at h
  by_cases s1_9 : x1 = (9 : Int32)
  · rw [if_pos s1_9] at h
    refine am_tsi hX hi (dflt := (159)) (lo := (0)) (hi' := (12)) (offs := #[(67), (72), (80), (88), (96), (104), (112), (123), (131), (139), (144), (149), (154)]) (len := 67) (off := (139)) (tgt := 140) (by decide +kernel) (by rw [s1_9]; decide) (by rw [s1_9]; decide) (by rw [s1_9]; rfl) (by decide) ?_
    refine am_blk 140 [(.aload_n 0, 1, 0, 0, .null)] (141, [(0, .ref 66), (1, .int x1)], [.ref 66], I, G, (gP rd)) (True) hX hi (by decide +kernel) rfl trivial ?_
    obtain ⟨r1, I1, G1, hc, h⟩ := rb_some h
    refine am_callV hX hi (M := mX7_smallestHeight) (idx := 261) (d' := 2) (b := 66) (ci := 5) (As := []) (rest := []) mkX7_smallestHeight miX7_smallestHeight mvX7_smallestHeight (by decide +kernel) (by decide +kernel) rfl (by decide +kernel) rfl ⟨by omega, by decide, Nat.le_of_ble_eq_true rfl⟩ rfl (c_X7_smallestHeight_66 _ I G  hc) ?_
    rintro r9 I9 G9 P9 ⟨e0, e1, e2, e3⟩
    rw [e0, e1, e2, e3]
    show am_V X 0 0 _ _ ad (144, [(0, .ref 66), (1, .int x1)], [.int r1], I1, G1, (gP rd))
    cases h
    refine am_iret hX hi rfl rfl (by decide +kernel) ?_
    exact ⟨rfl, rfl, rfl, rfl⟩
  rw [if_neg s1_9] at h
  by_cases s1_10 : x1 = (10 : Int32)
  · rw [if_pos s1_10] at h
    refine am_tsi hX hi (dflt := (159)) (lo := (0)) (hi' := (12)) (offs := #[(67), (72), (80), (88), (96), (104), (112), (123), (131), (139), (144), (149), (154)]) (len := 67) (off := (144)) (tgt := 145) (by decide +kernel) (by rw [s1_10]; decide) (by rw [s1_10]; decide) (by rw [s1_10]; rfl) (by decide) ?_
    refine am_blk 145 [(.aload_n 0, 1, 0, 0, .null)] (146, [(0, .ref 66), (1, .int x1)], [.ref 66], I, G, (gP rd)) (True) hX hi (by decide +kernel) rfl trivial ?_
    obtain ⟨r2, I2, G2, hc, h⟩ := rb_some h
    refine am_callV hX hi (M := mX7_greatestHeight) (idx := 264) (d' := 2) (b := 66) (ci := 5) (As := []) (rest := []) mkX7_greatestHeight miX7_greatestHeight mvX7_greatestHeight (by decide +kernel) (by decide +kernel) rfl (by decide +kernel) rfl ⟨by omega, by decide, Nat.le_of_ble_eq_true rfl⟩ rfl (c_X7_greatestHeight_66 _ I G  hc) ?_
    rintro r9 I9 G9 P9 ⟨e0, e1, e2, e3⟩
    rw [e0, e1, e2, e3]
    show am_V X 0 0 _ _ ad (149, [(0, .ref 66), (1, .int x1)], [.int r2], I2, G2, (gP rd))
    cases h
    refine am_iret hX hi rfl rfl (by decide +kernel) ?_
    exact ⟨rfl, rfl, rfl, rfl⟩
  rw [if_neg s1_10] at h
  by_cases s1_11 : x1 = (11 : Int32)
  · rw [if_pos s1_11] at h
    refine am_tsi hX hi (dflt := (159)) (lo := (0)) (hi' := (12)) (offs := #[(67), (72), (80), (88), (96), (104), (112), (123), (131), (139), (144), (149), (154)]) (len := 67) (off := (149)) (tgt := 150) (by decide +kernel) (by rw [s1_11]; decide) (by rw [s1_11]; decide) (by rw [s1_11]; rfl) (by decide) ?_
    refine am_blk 150 [(.aload_n 0, 1, 0, 0, .null), (.getfield 52, 3, 5, 10, .null)] (154, [(0, .ref 66), (1, .int x1)], [.int (I 66 10)], I, G, (gP rd)) (True) hX hi (by decide +kernel) rfl trivial ?_
    cases h
    refine am_iret hX hi rfl rfl (by decide +kernel) ?_
    exact ⟨rfl, rfl, rfl, rfl⟩
  rw [if_neg s1_11] at h
  by_cases s1_12 : x1 = (12 : Int32)
  · rw [if_pos s1_12] at h
    refine am_tsi hX hi (dflt := (159)) (lo := (0)) (hi' := (12)) (offs := #[(67), (72), (80), (88), (96), (104), (112), (123), (131), (139), (144), (149), (154)]) (len := 67) (off := (154)) (tgt := 155) (by decide +kernel) (by rw [s1_12]; decide) (by rw [s1_12]; decide) (by rw [s1_12]; rfl) (by decide) ?_
    refine am_blk 155 [(.aload_n 0, 1, 0, 0, .null), (.getfield 56, 3, 5, 11, .null)] (159, [(0, .ref 66), (1, .int x1)], [.int (I 66 11)], I, G, (gP rd)) (True) hX hi (by decide +kernel) rfl trivial ?_
    cases h
    refine am_iret hX hi rfl rfl (by decide +kernel) ?_
    exact ⟨rfl, rfl, rfl, rfl⟩
  rw [if_neg s1_12] at h
  refine am_tso hX hi (dflt := (159)) (lo := (0)) (hi' := (12)) (offs := #[(67), (72), (80), (88), (96), (104), (112), (123), (131), (139), (144), (149), (154)]) (len := 67) (tgt := 160) (by decide +kernel) ?_ (by decide) ?_
  · have eF : ∀ v : Int32, ¬ x1 = v → ¬ (x1).toInt = v.toInt := fun v q z => q ((i_eq _ _).mpr z)
    have e0 := eF (0 : Int32) s1_0
    have e1 := eF (1 : Int32) s1_1
    have e2 := eF (2 : Int32) s1_2
    have e3 := eF (3 : Int32) s1_3
    have e4 := eF (4 : Int32) s1_4
    have e5 := eF (5 : Int32) s1_5
    have e6 := eF (6 : Int32) s1_6
    have e7 := eF (7 : Int32) s1_7
    have e8 := eF (8 : Int32) s1_8
    have e9 := eF (9 : Int32) s1_9
    have e10 := eF (10 : Int32) s1_10
    have e11 := eF (11 : Int32) s1_11
    have e12 := eF (12 : Int32) s1_12
    simp only [show ((0 : Int32) : Int32).toInt = 0 from rfl, show ((1 : Int32) : Int32).toInt = 1 from rfl, show ((2 : Int32) : Int32).toInt = 2 from rfl, show ((3 : Int32) : Int32).toInt = 3 from rfl, show ((4 : Int32) : Int32).toInt = 4 from rfl, show ((5 : Int32) : Int32).toInt = 5 from rfl, show ((6 : Int32) : Int32).toInt = 6 from rfl, show ((7 : Int32) : Int32).toInt = 7 from rfl, show ((8 : Int32) : Int32).toInt = 8 from rfl, show ((9 : Int32) : Int32).toInt = 9 from rfl, show ((10 : Int32) : Int32).toInt = 10 from rfl, show ((11 : Int32) : Int32).toInt = 11 from rfl, show ((12 : Int32) : Int32).toInt = 12 from rfl] at e0 e1 e2 e3 e4 e5 e6 e7 e8 e9 e10 e11 e12
    omega
  refine am_blk 160 [(.aload_n 0, 1, 0, 0, .null), (.getfield 62, 3, 5, 13, .null)] (164, [(0, .ref 66), (1, .int x1)], [.int (I 66 13)], I, G, (gP rd)) (True) hX hi (by decide +kernel) rfl trivial ?_
  cases h
  refine am_iret hX hi rfl rfl (by decide +kernel) ?_
  exact ⟨rfl, rfl, rfl, rfl⟩
noncomputable def R_X11_height_0 (I : am_I) (G : am_G) (x1 : Int32) (x2 : Int32) : Option (Int32 × am_I × am_G) := rb (R_X7_refresh_53 I G ) (fun r1 I1 G1 => some ((gAt (I1 57) 576 (f_X5_spot_7 I1 G1 x1 x2)), I1, G1))
set_option maxRecDepth 20000 in
set_option maxHeartbeats 4000000 in
theorem c_X11_height_0 (rd : Nat) (I : am_I) (G : am_G) (x1 : Int32) (x2 : Int32) {out : Int32 × am_I × am_G} (h : R_X11_height_0 I G x1 x2 = some out) : am_Ct mX11_height 8 gS [.ref 0, .int x1, .int x2] I G (gP rd) (pI out.1 out.2.1 out.2.2 (gP rd)) := by
  refine am_ofF (by decide +kernel) rfl (by decide) (by omega) (Nat.le_of_ble_eq_true rfl) (fun X ad hX hi => ?_)
  have hi : am_info X 9 cX11_height 3 false (Option.some Jvm.ClassFile.FieldType.int) 8 := hi
  show am_V X 0 0 _ _ ad (0, [(0, .ref 0), (1, .int x1), (2, .int x2)], [], I, G, (gP rd))
  unfold R_X11_height_0 at h
  refine am_blk 0 [(.aload_n 0, 1, 0, 0, .null), (.getfield 46, 3, 9, 4, .null)] (4, [(0, .ref 0), (1, .int x1), (2, .int x2)], [.ref 53], I, G, (gP rd)) (True) hX hi (by decide +kernel) rfl trivial ?_
  obtain ⟨r1, I1, G1, hc, h⟩ := rb_some h
  refine am_callV hX hi (M := mX7_refresh) (idx := 105) (d' := 7) (b := 53) (ci := 5) (As := []) (rest := []) mkX7_refresh miX7_refresh mvX7_refresh (by decide +kernel) (by decide +kernel) rfl (by decide +kernel) rfl ⟨by omega, by decide, Nat.le_of_ble_eq_true rfl⟩ rfl (c_X7_refresh_53 _ I G  hc) ?_
  rintro r9 I9 G9 P9 ⟨e0, e1, e2, e3⟩
  rw [e0, e1, e2, e3]
  show am_V X 0 0 _ _ ad (7, [(0, .ref 0), (1, .int x1), (2, .int x2)], [], I1, G1, (gP rd))
  refine am_blk 7 [(.aload_n 0, 1, 0, 0, .null), (.getfield 46, 3, 9, 4, .null), (.getfield 108, 3, 5, 5, .null), (.aload_n 0, 1, 0, 0, .null), (.getfield 33, 3, 9, 2, .null), (.iload_n 1, 1, 1, 0, .null), (.iload_n 2, 1, 2, 0, .null)] (20, [(0, .ref 0), (1, .int x1), (2, .int x2)], [.int x2, .int x1, .ref 7, .ref 57], I1, G1, (gP rd)) (True) hX hi (by decide +kernel) rfl trivial ?_
  refine am_callV hX hi (M := mX5_spot) (idx := 112) (d' := 3) (b := 7) (ci := 3) (As := [.int x1, .int x2]) (rest := [.ref 57]) mkX5_spot miX5_spot mvX5_spot (by decide +kernel) (by decide +kernel) rfl (by decide +kernel) rfl ⟨by omega, by decide, Nat.le_of_ble_eq_true rfl⟩ rfl (c_X5_spot_7 _ I1 G1 x1 x2) ?_
  rintro r9 I9 G9 P9 ⟨e0, e1, e2, e3⟩
  rw [e0, e1, e2, e3]
  show am_V X 0 0 _ _ ad (23, [(0, .ref 0), (1, .int x1), (2, .int x2)], [.int (f_X5_spot_7 I1 G1 x1 x2), .ref 57], I1, G1, (gP rd))
  refine am_callS hX hi (M := mX0_at) (idx := 116) (d' := 1) (As := [.ref 57, .int (f_X5_spot_7 I1 G1 x1 x2)]) (rest := []) mkX0_at msX0_at (by decide +kernel) (by decide +kernel) rfl ⟨by omega, by decide, Nat.le_of_ble_eq_true rfl⟩ rfl (c_at rfl (by decide) (f_X5_spot_7 I1 G1 x1 x2)) ?_
  rintro r9 I9 G9 P9 ⟨e0, e1, e2, e3⟩
  rw [e0, e1, e2, e3]
  show am_V X 0 0 _ _ ad (26, [(0, .ref 0), (1, .int x1), (2, .int x2)], [.int (gAt (I1 57) 576 (f_X5_spot_7 I1 G1 x1 x2))], I1, G1, (gP rd))
  cases h
  refine am_iret hX hi rfl rfl (by decide +kernel) ?_
  exact ⟨rfl, rfl, rfl, rfl⟩
noncomputable def R_X11_ink_0 (I : am_I) (G : am_G) (x1 : Int32) (x2 : Int32) : Option (Int32 × am_I × am_G) := rb (R_X7_refresh_53 I G ) (fun r1 I1 G1 => some ((gAt (I1 58) 576 (f_X5_spot_7 I1 G1 x1 x2)), I1, G1))
set_option maxRecDepth 20000 in
set_option maxHeartbeats 4000000 in
theorem c_X11_ink_0 (rd : Nat) (I : am_I) (G : am_G) (x1 : Int32) (x2 : Int32) {out : Int32 × am_I × am_G} (h : R_X11_ink_0 I G x1 x2 = some out) : am_Ct mX11_ink 8 gS [.ref 0, .int x1, .int x2] I G (gP rd) (pI out.1 out.2.1 out.2.2 (gP rd)) := by
  refine am_ofF (by decide +kernel) rfl (by decide) (by omega) (Nat.le_of_ble_eq_true rfl) (fun X ad hX hi => ?_)
  have hi : am_info X 9 cX11_ink 3 false (Option.some Jvm.ClassFile.FieldType.int) 8 := hi
  show am_V X 0 0 _ _ ad (0, [(0, .ref 0), (1, .int x1), (2, .int x2)], [], I, G, (gP rd))
  unfold R_X11_ink_0 at h
  refine am_blk 0 [(.aload_n 0, 1, 0, 0, .null), (.getfield 46, 3, 9, 4, .null)] (4, [(0, .ref 0), (1, .int x1), (2, .int x2)], [.ref 53], I, G, (gP rd)) (True) hX hi (by decide +kernel) rfl trivial ?_
  obtain ⟨r1, I1, G1, hc, h⟩ := rb_some h
  refine am_callV hX hi (M := mX7_refresh) (idx := 105) (d' := 7) (b := 53) (ci := 5) (As := []) (rest := []) mkX7_refresh miX7_refresh mvX7_refresh (by decide +kernel) (by decide +kernel) rfl (by decide +kernel) rfl ⟨by omega, by decide, Nat.le_of_ble_eq_true rfl⟩ rfl (c_X7_refresh_53 _ I G  hc) ?_
  rintro r9 I9 G9 P9 ⟨e0, e1, e2, e3⟩
  rw [e0, e1, e2, e3]
  show am_V X 0 0 _ _ ad (7, [(0, .ref 0), (1, .int x1), (2, .int x2)], [], I1, G1, (gP rd))
  refine am_blk 7 [(.aload_n 0, 1, 0, 0, .null), (.getfield 46, 3, 9, 4, .null), (.getfield 122, 3, 5, 6, .null), (.aload_n 0, 1, 0, 0, .null), (.getfield 33, 3, 9, 2, .null), (.iload_n 1, 1, 1, 0, .null), (.iload_n 2, 1, 2, 0, .null)] (20, [(0, .ref 0), (1, .int x1), (2, .int x2)], [.int x2, .int x1, .ref 7, .ref 58], I1, G1, (gP rd)) (True) hX hi (by decide +kernel) rfl trivial ?_
  refine am_callV hX hi (M := mX5_spot) (idx := 112) (d' := 3) (b := 7) (ci := 3) (As := [.int x1, .int x2]) (rest := [.ref 58]) mkX5_spot miX5_spot mvX5_spot (by decide +kernel) (by decide +kernel) rfl (by decide +kernel) rfl ⟨by omega, by decide, Nat.le_of_ble_eq_true rfl⟩ rfl (c_X5_spot_7 _ I1 G1 x1 x2) ?_
  rintro r9 I9 G9 P9 ⟨e0, e1, e2, e3⟩
  rw [e0, e1, e2, e3]
  show am_V X 0 0 _ _ ad (23, [(0, .ref 0), (1, .int x1), (2, .int x2)], [.int (f_X5_spot_7 I1 G1 x1 x2), .ref 58], I1, G1, (gP rd))
  refine am_callS hX hi (M := mX0_at) (idx := 116) (d' := 1) (As := [.ref 58, .int (f_X5_spot_7 I1 G1 x1 x2)]) (rest := []) mkX0_at msX0_at (by decide +kernel) (by decide +kernel) rfl ⟨by omega, by decide, Nat.le_of_ble_eq_true rfl⟩ rfl (c_at rfl (by decide) (f_X5_spot_7 I1 G1 x1 x2)) ?_
  rintro r9 I9 G9 P9 ⟨e0, e1, e2, e3⟩
  rw [e0, e1, e2, e3]
  show am_V X 0 0 _ _ ad (26, [(0, .ref 0), (1, .int x1), (2, .int x2)], [.int (gAt (I1 58) 576 (f_X5_spot_7 I1 G1 x1 x2))], I1, G1, (gP rd))
  cases h
  refine am_iret hX hi rfl rfl (by decide +kernel) ?_
  exact ⟨rfl, rfl, rfl, rfl⟩
noncomputable def R_X11_patch_0 (I : am_I) (G : am_G) (x1 : Int32) (x2 : Int32) : Option (Int32 × am_I × am_G) := rb (R_X7_group_53 I G ) (fun r1 I1 G1 => some ((f_X4_sizeAt_60 I1 G1 (f_X5_spot_7 I1 G1 x1 x2)), I1, G1))
set_option maxRecDepth 20000 in
set_option maxHeartbeats 4000000 in
theorem c_X11_patch_0 (rd : Nat) (I : am_I) (G : am_G) (x1 : Int32) (x2 : Int32) {out : Int32 × am_I × am_G} (h : R_X11_patch_0 I G x1 x2 = some out) : am_Ct mX11_patch 9 gS [.ref 0, .int x1, .int x2] I G (gP rd) (pI out.1 out.2.1 out.2.2 (gP rd)) := by
  refine am_ofF (by decide +kernel) rfl (by decide) (by omega) (Nat.le_of_ble_eq_true rfl) (fun X ad hX hi => ?_)
  have hi : am_info X 9 cX11_patch 3 false (Option.some Jvm.ClassFile.FieldType.int) 9 := hi
  show am_V X 0 0 _ _ ad (0, [(0, .ref 0), (1, .int x1), (2, .int x2)], [], I, G, (gP rd))
  unfold R_X11_patch_0 at h
  refine am_blk 0 [(.aload_n 0, 1, 0, 0, .null), (.getfield 46, 3, 9, 4, .null)] (4, [(0, .ref 0), (1, .int x1), (2, .int x2)], [.ref 53], I, G, (gP rd)) (True) hX hi (by decide +kernel) rfl trivial ?_
  obtain ⟨r1, I1, G1, hc, h⟩ := rb_some h
  refine am_callV hX hi (M := mX7_group) (idx := 98) (d' := 8) (b := 53) (ci := 5) (As := []) (rest := []) mkX7_group miX7_group mvX7_group (by decide +kernel) (by decide +kernel) rfl (by decide +kernel) rfl ⟨by omega, by decide, Nat.le_of_ble_eq_true rfl⟩ rfl (c_X7_group_53 _ I G  hc) ?_
  rintro r9 I9 G9 P9 ⟨e0, e1, e2, e3⟩
  rw [e0, e1, e2, e3]
  show am_V X 0 0 _ _ ad (7, [(0, .ref 0), (1, .int x1), (2, .int x2)], [], I1, G1, (gP rd))
  refine am_blk 7 [(.aload_n 0, 1, 0, 0, .null), (.getfield 46, 3, 9, 4, .null), (.getfield 125, 3, 5, 8, .null), (.aload_n 0, 1, 0, 0, .null), (.getfield 33, 3, 9, 2, .null), (.iload_n 1, 1, 1, 0, .null), (.iload_n 2, 1, 2, 0, .null)] (20, [(0, .ref 0), (1, .int x1), (2, .int x2)], [.int x2, .int x1, .ref 7, .ref 60], I1, G1, (gP rd)) (True) hX hi (by decide +kernel) rfl trivial ?_
  refine am_callV hX hi (M := mX5_spot) (idx := 112) (d' := 3) (b := 7) (ci := 3) (As := [.int x1, .int x2]) (rest := [.ref 60]) mkX5_spot miX5_spot mvX5_spot (by decide +kernel) (by decide +kernel) rfl (by decide +kernel) rfl ⟨by omega, by decide, Nat.le_of_ble_eq_true rfl⟩ rfl (c_X5_spot_7 _ I1 G1 x1 x2) ?_
  rintro r9 I9 G9 P9 ⟨e0, e1, e2, e3⟩
  rw [e0, e1, e2, e3]
  show am_V X 0 0 _ _ ad (23, [(0, .ref 0), (1, .int x1), (2, .int x2)], [.int (f_X5_spot_7 I1 G1 x1 x2), .ref 60], I1, G1, (gP rd))
  refine am_callV hX hi (M := mX4_sizeAt) (idx := 129) (d' := 2) (b := 60) (ci := 2) (As := [.int (f_X5_spot_7 I1 G1 x1 x2)]) (rest := []) mkX4_sizeAt miX4_sizeAt mvX4_sizeAt (by decide +kernel) (by decide +kernel) rfl (by decide +kernel) rfl ⟨by omega, by decide, Nat.le_of_ble_eq_true rfl⟩ rfl (c_X4_sizeAt_60 _ I1 G1 (f_X5_spot_7 I1 G1 x1 x2)) ?_
  rintro r9 I9 G9 P9 ⟨e0, e1, e2, e3⟩
  rw [e0, e1, e2, e3]
  show am_V X 0 0 _ _ ad (26, [(0, .ref 0), (1, .int x1), (2, .int x2)], [.int (f_X4_sizeAt_60 I1 G1 (f_X5_spot_7 I1 G1 x1 x2))], I1, G1, (gP rd))
  cases h
  refine am_iret hX hi rfl rfl (by decide +kernel) ?_
  exact ⟨rfl, rfl, rfl, rfl⟩
noncomputable def L_X11_digest_0 (n0 : Nat) (hd : Nat) (I : am_I) (G : am_G) (v1 : Int64) (v3 : Int32) (v4 : Int32) : Option (Int64 × am_I × am_G) := match n0 with
  | 0 => none
  | n + 1 => match hd with
    | 0 => (if (14 : Int32) ≤ v3 then L_X11_digest_0 n 1 I G ((v1 * (31)) + (I 1 5).toInt64) (0 : Int32) 0 else rb (R_X7_tell_53 I G v3) (fun r101 I101 G101 => L_X11_digest_0 n 0 I101 G101 ((v1 * (31)) + r101.toInt64) (v3 + (1 : Int32)) 0))
    | 1 => (if (I 7 11) ≤ v3 then L_X11_digest_0 n 3 I G v1 (0 : Int32) 0 else L_X11_digest_0 n 2 I G v1 v3 (0 : Int32))
    | 2 => (if (3 : Int32) < v4 then L_X11_digest_0 n 1 I G v1 (v3 + (1 : Int32)) 0 else L_X11_digest_0 n 2 I G ((v1 * (31)) + (f_X7_tellOctave_53 I G v3 v4).toInt64) v3 (v4 + (1 : Int32)))
    | 3 => (if (I 7 12) ≤ v3 then L_X11_digest_0 n 5 I G v1 (0 : Int32) 0 else L_X11_digest_0 n 4 I G v1 v3 (0 : Int32))
    | 4 => (if (2 : Int32) < v4 then L_X11_digest_0 n 3 I G v1 (v3 + (1 : Int32)) 0 else L_X11_digest_0 n 4 I G ((v1 * (31)) + (f_X7_tellComb_53 I G v3 v4).toInt64) v3 (v4 + (1 : Int32)))
    | 5 => (if (I 7 13) < v3 then L_X11_digest_0 n 6 I G v1 (0 : Int32) 0 else L_X11_digest_0 n 5 I G ((v1 * (31)) + (gAt (I 59) 6 v3).toInt64) (v3 + (1 : Int32)) 0)
    | _ => (if ((I 7 9) * (I 7 10)) ≤ v3 then some (v1, I, G) else L_X11_digest_0 n 6 I G ((v1 * (31)) + (gAt (I 57) 576 v3).toInt64) (v3 + (1 : Int32)) 0)
theorem L_X11_digest_0_0 (n : Nat) (I : am_I) (G : am_G) (v1 : Int64) (v3 : Int32) (v4 : Int32) : L_X11_digest_0 (n + 1) 0 I G v1 v3 v4 = (if (14 : Int32) ≤ v3 then L_X11_digest_0 n 1 I G ((v1 * (31)) + (I 1 5).toInt64) (0 : Int32) 0 else rb (R_X7_tell_53 I G v3) (fun r101 I101 G101 => L_X11_digest_0 n 0 I101 G101 ((v1 * (31)) + r101.toInt64) (v3 + (1 : Int32)) 0)) := rfl
theorem L_X11_digest_0_1 (n : Nat) (I : am_I) (G : am_G) (v1 : Int64) (v3 : Int32) (v4 : Int32) : L_X11_digest_0 (n + 1) 1 I G v1 v3 v4 = (if (I 7 11) ≤ v3 then L_X11_digest_0 n 3 I G v1 (0 : Int32) 0 else L_X11_digest_0 n 2 I G v1 v3 (0 : Int32)) := rfl
theorem L_X11_digest_0_2 (n : Nat) (I : am_I) (G : am_G) (v1 : Int64) (v3 : Int32) (v4 : Int32) : L_X11_digest_0 (n + 1) 2 I G v1 v3 v4 = (if (3 : Int32) < v4 then L_X11_digest_0 n 1 I G v1 (v3 + (1 : Int32)) 0 else L_X11_digest_0 n 2 I G ((v1 * (31)) + (f_X7_tellOctave_53 I G v3 v4).toInt64) v3 (v4 + (1 : Int32))) := rfl
theorem L_X11_digest_0_3 (n : Nat) (I : am_I) (G : am_G) (v1 : Int64) (v3 : Int32) (v4 : Int32) : L_X11_digest_0 (n + 1) 3 I G v1 v3 v4 = (if (I 7 12) ≤ v3 then L_X11_digest_0 n 5 I G v1 (0 : Int32) 0 else L_X11_digest_0 n 4 I G v1 v3 (0 : Int32)) := rfl
theorem L_X11_digest_0_4 (n : Nat) (I : am_I) (G : am_G) (v1 : Int64) (v3 : Int32) (v4 : Int32) : L_X11_digest_0 (n + 1) 4 I G v1 v3 v4 = (if (2 : Int32) < v4 then L_X11_digest_0 n 3 I G v1 (v3 + (1 : Int32)) 0 else L_X11_digest_0 n 4 I G ((v1 * (31)) + (f_X7_tellComb_53 I G v3 v4).toInt64) v3 (v4 + (1 : Int32))) := rfl
theorem L_X11_digest_0_5 (n : Nat) (I : am_I) (G : am_G) (v1 : Int64) (v3 : Int32) (v4 : Int32) : L_X11_digest_0 (n + 1) 5 I G v1 v3 v4 = (if (I 7 13) < v3 then L_X11_digest_0 n 6 I G v1 (0 : Int32) 0 else L_X11_digest_0 n 5 I G ((v1 * (31)) + (gAt (I 59) 6 v3).toInt64) (v3 + (1 : Int32)) 0) := rfl
theorem L_X11_digest_0_6 (n : Nat) (I : am_I) (G : am_G) (v1 : Int64) (v3 : Int32) (v4 : Int32) : L_X11_digest_0 (n + 1) 6 I G v1 v3 v4 = (if ((I 7 9) * (I 7 10)) ≤ v3 then some (v1, I, G) else L_X11_digest_0 n 6 I G ((v1 * (31)) + (gAt (I 57) 576 v3).toInt64) (v3 + (1 : Int32)) 0) := rfl
theorem L_X11_digest_0_z (h : Nat) (I : am_I) (G : am_G) (v1 : Int64) (v3 : Int32) (v4 : Int32) : L_X11_digest_0 0 h I G v1 v3 v4 = none := rfl
noncomputable def R_X11_digest_0 (I : am_I) (G : am_G)  : Option (Int64 × am_I × am_G) := rb (R_X7_group_53 I G ) (fun r1 I1 G1 => L_X11_digest_0 FU 0 I1 G1 (937) (0 : Int32) 0)
set_option maxRecDepth 20000 in
set_option maxHeartbeats 4000000 in
theorem l_X11_digest_0 (rd : Nat) {X : am_X} {ad : Nat → Nat} (hX : am_okz X ad) (hi : am_info X 9 cX11_digest 5 false (Option.some Jvm.ClassFile.FieldType.long) 9) (n : Nat) : (∀ (I : am_I) (G : am_G) (v1 : Int64) (v3 : Int32) (v4 : Int32) (out : Int64 × am_I × am_G), L_X11_digest_0 n 0 I G v1 v3 v4 = some out → am_V X 0 0 (am_Rt X gS ad (pL out.1 out.2.1 out.2.2 (gP rd))) gS ad (13, [(0, .ref 0), (1, .long v1), (3, .int v3)], [], I, G, (gP rd))) ∧ (∀ (I : am_I) (G : am_G) (v1 : Int64) (v3 : Int32) (v4 : Int32) (out : Int64 × am_I × am_G), L_X11_digest_0 n 1 I G v1 v3 v4 = some out → am_V X 0 0 (am_Rt X gS ad (pL out.1 out.2.1 out.2.2 (gP rd))) gS ad (58, [(0, .ref 0), (1, .long v1), (3, .int v3)], [], I, G, (gP rd))) ∧ (∀ (I : am_I) (G : am_G) (v1 : Int64) (v3 : Int32) (v4 : Int32) (out : Int64 × am_I × am_G), L_X11_digest_0 n 2 I G v1 v3 v4 = some out → am_V X 0 0 (am_Rt X gS ad (pL out.1 out.2.1 out.2.2 (gP rd))) gS ad (72, [(0, .ref 0), (1, .long v1), (3, .int v3), (4, .int v4)], [], I, G, (gP rd))) ∧ (∀ (I : am_I) (G : am_G) (v1 : Int64) (v3 : Int32) (v4 : Int32) (out : Int64 × am_I × am_G), L_X11_digest_0 n 3 I G v1 v3 v4 = some out → am_V X 0 0 (am_Rt X gS ad (pL out.1 out.2.1 out.2.2 (gP rd))) gS ad (110, [(0, .ref 0), (1, .long v1), (3, .int v3)], [], I, G, (gP rd))) ∧ (∀ (I : am_I) (G : am_G) (v1 : Int64) (v3 : Int32) (v4 : Int32) (out : Int64 × am_I × am_G), L_X11_digest_0 n 4 I G v1 v3 v4 = some out → am_V X 0 0 (am_Rt X gS ad (pL out.1 out.2.1 out.2.2 (gP rd))) gS ad (124, [(0, .ref 0), (1, .long v1), (3, .int v3), (4, .int v4)], [], I, G, (gP rd))) ∧ (∀ (I : am_I) (G : am_G) (v1 : Int64) (v3 : Int32) (v4 : Int32) (out : Int64 × am_I × am_G), L_X11_digest_0 n 5 I G v1 v3 v4 = some out → am_V X 0 0 (am_Rt X gS ad (pL out.1 out.2.1 out.2.2 (gP rd))) gS ad (162, [(0, .ref 0), (1, .long v1), (3, .int v3)], [], I, G, (gP rd))) ∧ (∀ (I : am_I) (G : am_G) (v1 : Int64) (v3 : Int32) (v4 : Int32) (out : Int64 × am_I × am_G), L_X11_digest_0 n 6 I G v1 v3 v4 = some out → am_V X 0 0 (am_Rt X gS ad (pL out.1 out.2.1 out.2.2 (gP rd))) gS ad (200, [(0, .ref 0), (1, .long v1), (3, .int v3)], [], I, G, (gP rd))) := by
  induction n with
  | zero => exact ⟨(fun I G v1 v3 v4 out h => by rw [L_X11_digest_0_z] at h; cases h), (fun I G v1 v3 v4 out h => by rw [L_X11_digest_0_z] at h; cases h), (fun I G v1 v3 v4 out h => by rw [L_X11_digest_0_z] at h; cases h), (fun I G v1 v3 v4 out h => by rw [L_X11_digest_0_z] at h; cases h), (fun I G v1 v3 v4 out h => by rw [L_X11_digest_0_z] at h; cases h), (fun I G v1 v3 v4 out h => by rw [L_X11_digest_0_z] at h; cases h), (fun I G v1 v3 v4 out h => by rw [L_X11_digest_0_z] at h; cases h)⟩
  | succ n ih =>
    refine ⟨?_, ?_, ?_, ?_, ?_, ?_, ?_⟩
    · intro I G v1 v3 v4 out h
      rw [L_X11_digest_0_0] at h
      refine am_blk 13 [(.iload_n 3, 1, 3, 0, .null), (.bipush (14), 2, 0, 0, .int (14 : Int32))] (16, [(0, .ref 0), (1, .long v1), (3, .int v3)], [.int (14 : Int32), .int v3], I, G, (gP rd)) (True) hX hi (by decide +kernel) rfl trivial ?_
      refine am_icmp_ge (tgt := 41) hX hi (off := (25)) (by decide +kernel) (by decide) (fun c16 => ?_) (fun c16 => ?_)
      · rw [if_pos c16] at h
        refine am_blk 41 [(.lload_n 1, 1, 1, 0, .null), (.ldc2_w 235, 3, 0, 0, .long (31)), (.lmul, 1, 0, 0, .null), (.aload_n 0, 1, 0, 0, .null), (.getfield 20, 3, 9, 0, .null), (.getfield 57, 3, 7, 5, .null), (.i2l, 1, 0, 0, .null), (.ladd, 1, 0, 0, .null), (.lstore_n 1, 1, 1, 0, .null), (.iconst (0), 1, 0, 0, .int (0 : Int32)), (.istore_n 3, 1, 3, 0, .null)] (58, [(0, .ref 0), (1, .long ((v1 * (31)) + (I 1 5).toInt64)), (3, .int (0 : Int32))], [], I, G, (gP rd)) (True) hX hi (by decide +kernel) rfl trivial ?_
        exact ih.2.1 _ _ _ _ _ _ h
      · rw [if_neg c16] at h
        refine am_blk 19 [(.lload_n 1, 1, 1, 0, .null), (.ldc2_w 235, 3, 0, 0, .long (31)), (.lmul, 1, 0, 0, .null), (.aload_n 0, 1, 0, 0, .null), (.getfield 46, 3, 9, 4, .null), (.iload_n 3, 1, 3, 0, .null)] (29, [(0, .ref 0), (1, .long v1), (3, .int v3)], [.int v3, .ref 53, .long (v1 * (31))], I, G, (gP rd)) (True) hX hi (by decide +kernel) rfl trivial ?_
        obtain ⟨r101, I101, G101, hc, h⟩ := rb_some h
        refine am_callV hX hi (M := mX7_tell) (idx := 101) (d' := 3) (b := 53) (ci := 5) (As := [.int v3]) (rest := [.long (v1 * (31))]) mkX7_tell miX7_tell mvX7_tell (by decide +kernel) (by decide +kernel) rfl (by decide +kernel) rfl ⟨by omega, by decide, Nat.le_of_ble_eq_true rfl⟩ rfl (c_X7_tell_53 _ I G v3 hc) ?_
        rintro r9 I9 G9 P9 ⟨e0, e1, e2, e3⟩
        rw [e0, e1, e2, e3]
        show am_V X 0 0 _ _ ad (32, [(0, .ref 0), (1, .long v1), (3, .int v3)], [.int r101, .long (v1 * (31))], I101, G101, (gP rd))
        refine am_blk 32 [(.i2l, 1, 0, 0, .null), (.ladd, 1, 0, 0, .null), (.lstore_n 1, 1, 1, 0, .null), (.iinc 3 (1), 3, 3, 0, .int (1 : Int32)), (.goto (-25), 3, 0, 13, .null)] (13, [(0, .ref 0), (1, .long ((v1 * (31)) + r101.toInt64)), (3, .int (v3 + (1 : Int32)))], [], I101, G101, (gP rd)) (True) hX hi (by decide +kernel) rfl trivial ?_
        exact ih.1 _ _ _ _ _ _ h
    · intro I G v1 v3 v4 out h
      rw [L_X11_digest_0_1] at h
      refine am_blk 58 [(.iload_n 3, 1, 3, 0, .null), (.aload_n 0, 1, 0, 0, .null), (.getfield 33, 3, 9, 2, .null), (.getfield 144, 3, 3, 11, .null)] (66, [(0, .ref 0), (1, .long v1), (3, .int v3)], [.int (I 7 11), .int v3], I, G, (gP rd)) (True) hX hi (by decide +kernel) rfl trivial ?_
      refine am_icmp_ge (tgt := 108) hX hi (off := (42)) (by decide +kernel) (by decide) (fun c66 => ?_) (fun c66 => ?_)
      · rw [if_pos c66] at h
        refine am_blk 108 [(.iconst (0), 1, 0, 0, .int (0 : Int32)), (.istore_n 3, 1, 3, 0, .null)] (110, [(0, .ref 0), (1, .long v1), (3, .int (0 : Int32))], [], I, G, (gP rd)) (True) hX hi (by decide +kernel) rfl trivial ?_
        exact ih.2.2.2.1 _ _ _ _ _ _ h
      · rw [if_neg c66] at h
        refine am_blk 69 [(.iconst (0), 1, 0, 0, .int (0 : Int32)), (.istore 4, 2, 4, 0, .null)] (72, [(0, .ref 0), (1, .long v1), (3, .int v3), (4, .int (0 : Int32))], [], I, G, (gP rd)) (True) hX hi (by decide +kernel) rfl trivial ?_
        exact ih.2.2.1 _ _ _ _ _ _ h
    · intro I G v1 v3 v4 out h
      rw [L_X11_digest_0_2] at h
      refine am_blk 72 [(.iload 4, 2, 4, 0, .null), (.iconst (3), 1, 0, 0, .int (3 : Int32))] (75, [(0, .ref 0), (1, .long v1), (3, .int v3), (4, .int v4)], [.int (3 : Int32), .int v4], I, G, (gP rd)) (True) hX hi (by decide +kernel) rfl trivial ?_
      refine am_icmp_gt (tgt := 102) hX hi (off := (27)) (by decide +kernel) (by decide) (fun c75 => ?_) (fun c75 => ?_)
      · rw [if_pos c75] at h
        refine am_blk 102 [(.iinc 3 (1), 3, 3, 0, .int (1 : Int32)), (.goto (-47), 3, 0, 58, .null)] (58, [(0, .ref 0), (1, .long v1), (3, .int (v3 + (1 : Int32))), (4, .int v4)], [], I, G, (gP rd)) (True) hX hi (by decide +kernel) rfl trivial ?_
        refine am_sub (L' := [(0, .ref 0), (1, .long v1), (3, .int (v3 + (1 : Int32)))]) (by simp) ?_
        exact ih.2.1 _ _ _ _ _ _ h
      · rw [if_neg c75] at h
        refine am_blk 78 [(.lload_n 1, 1, 1, 0, .null), (.ldc2_w 235, 3, 0, 0, .long (31)), (.lmul, 1, 0, 0, .null), (.aload_n 0, 1, 0, 0, .null), (.getfield 46, 3, 9, 4, .null), (.iload_n 3, 1, 3, 0, .null), (.iload 4, 2, 4, 0, .null)] (90, [(0, .ref 0), (1, .long v1), (3, .int v3), (4, .int v4)], [.int v4, .int v3, .ref 53, .long (v1 * (31))], I, G, (gP rd)) (True) hX hi (by decide +kernel) rfl trivial ?_
        refine am_callV hX hi (M := mX7_tellOctave) (idx := 149) (d' := 2) (b := 53) (ci := 5) (As := [.int v3, .int v4]) (rest := [.long (v1 * (31))]) mkX7_tellOctave miX7_tellOctave mvX7_tellOctave (by decide +kernel) (by decide +kernel) rfl (by decide +kernel) rfl ⟨by omega, by decide, Nat.le_of_ble_eq_true rfl⟩ rfl (c_X7_tellOctave_53 _ I G v3 v4) ?_
        rintro r9 I9 G9 P9 ⟨e0, e1, e2, e3⟩
        rw [e0, e1, e2, e3]
        show am_V X 0 0 _ _ ad (93, [(0, .ref 0), (1, .long v1), (3, .int v3), (4, .int v4)], [.int (f_X7_tellOctave_53 I G v3 v4), .long (v1 * (31))], I, G, (gP rd))
        refine am_blk 93 [(.i2l, 1, 0, 0, .null), (.ladd, 1, 0, 0, .null), (.lstore_n 1, 1, 1, 0, .null), (.iinc 4 (1), 3, 4, 0, .int (1 : Int32)), (.goto (-27), 3, 0, 72, .null)] (72, [(0, .ref 0), (1, .long ((v1 * (31)) + (f_X7_tellOctave_53 I G v3 v4).toInt64)), (3, .int v3), (4, .int (v4 + (1 : Int32)))], [], I, G, (gP rd)) (True) hX hi (by decide +kernel) rfl trivial ?_
        exact ih.2.2.1 _ _ _ _ _ _ h
    · intro I G v1 v3 v4 out h
      rw [L_X11_digest_0_3] at h
      refine am_blk 110 [(.iload_n 3, 1, 3, 0, .null), (.aload_n 0, 1, 0, 0, .null), (.getfield 33, 3, 9, 2, .null), (.getfield 176, 3, 3, 12, .null)] (118, [(0, .ref 0), (1, .long v1), (3, .int v3)], [.int (I 7 12), .int v3], I, G, (gP rd)) (True) hX hi (by decide +kernel) rfl trivial ?_
      refine am_icmp_ge (tgt := 160) hX hi (off := (42)) (by decide +kernel) (by decide) (fun c118 => ?_) (fun c118 => ?_)
      · rw [if_pos c118] at h
        refine am_blk 160 [(.iconst (0), 1, 0, 0, .int (0 : Int32)), (.istore_n 3, 1, 3, 0, .null)] (162, [(0, .ref 0), (1, .long v1), (3, .int (0 : Int32))], [], I, G, (gP rd)) (True) hX hi (by decide +kernel) rfl trivial ?_
        exact ih.2.2.2.2.2.1 _ _ _ _ _ _ h
      · rw [if_neg c118] at h
        refine am_blk 121 [(.iconst (0), 1, 0, 0, .int (0 : Int32)), (.istore 4, 2, 4, 0, .null)] (124, [(0, .ref 0), (1, .long v1), (3, .int v3), (4, .int (0 : Int32))], [], I, G, (gP rd)) (True) hX hi (by decide +kernel) rfl trivial ?_
        exact ih.2.2.2.2.1 _ _ _ _ _ _ h
    · intro I G v1 v3 v4 out h
      rw [L_X11_digest_0_4] at h
      refine am_blk 124 [(.iload 4, 2, 4, 0, .null), (.iconst (2), 1, 0, 0, .int (2 : Int32))] (127, [(0, .ref 0), (1, .long v1), (3, .int v3), (4, .int v4)], [.int (2 : Int32), .int v4], I, G, (gP rd)) (True) hX hi (by decide +kernel) rfl trivial ?_
      refine am_icmp_gt (tgt := 154) hX hi (off := (27)) (by decide +kernel) (by decide) (fun c127 => ?_) (fun c127 => ?_)
      · rw [if_pos c127] at h
        refine am_blk 154 [(.iinc 3 (1), 3, 3, 0, .int (1 : Int32)), (.goto (-47), 3, 0, 110, .null)] (110, [(0, .ref 0), (1, .long v1), (3, .int (v3 + (1 : Int32))), (4, .int v4)], [], I, G, (gP rd)) (True) hX hi (by decide +kernel) rfl trivial ?_
        refine am_sub (L' := [(0, .ref 0), (1, .long v1), (3, .int (v3 + (1 : Int32)))]) (by simp) ?_
        exact ih.2.2.2.1 _ _ _ _ _ _ h
      · rw [if_neg c127] at h
        refine am_blk 130 [(.lload_n 1, 1, 1, 0, .null), (.ldc2_w 235, 3, 0, 0, .long (31)), (.lmul, 1, 0, 0, .null), (.aload_n 0, 1, 0, 0, .null), (.getfield 46, 3, 9, 4, .null), (.iload_n 3, 1, 3, 0, .null), (.iload 4, 2, 4, 0, .null)] (142, [(0, .ref 0), (1, .long v1), (3, .int v3), (4, .int v4)], [.int v4, .int v3, .ref 53, .long (v1 * (31))], I, G, (gP rd)) (True) hX hi (by decide +kernel) rfl trivial ?_
        refine am_callV hX hi (M := mX7_tellComb) (idx := 181) (d' := 2) (b := 53) (ci := 5) (As := [.int v3, .int v4]) (rest := [.long (v1 * (31))]) mkX7_tellComb miX7_tellComb mvX7_tellComb (by decide +kernel) (by decide +kernel) rfl (by decide +kernel) rfl ⟨by omega, by decide, Nat.le_of_ble_eq_true rfl⟩ rfl (c_X7_tellComb_53 _ I G v3 v4) ?_
        rintro r9 I9 G9 P9 ⟨e0, e1, e2, e3⟩
        rw [e0, e1, e2, e3]
        show am_V X 0 0 _ _ ad (145, [(0, .ref 0), (1, .long v1), (3, .int v3), (4, .int v4)], [.int (f_X7_tellComb_53 I G v3 v4), .long (v1 * (31))], I, G, (gP rd))
        refine am_blk 145 [(.i2l, 1, 0, 0, .null), (.ladd, 1, 0, 0, .null), (.lstore_n 1, 1, 1, 0, .null), (.iinc 4 (1), 3, 4, 0, .int (1 : Int32)), (.goto (-27), 3, 0, 124, .null)] (124, [(0, .ref 0), (1, .long ((v1 * (31)) + (f_X7_tellComb_53 I G v3 v4).toInt64)), (3, .int v3), (4, .int (v4 + (1 : Int32)))], [], I, G, (gP rd)) (True) hX hi (by decide +kernel) rfl trivial ?_
        exact ih.2.2.2.2.1 _ _ _ _ _ _ h
    · intro I G v1 v3 v4 out h
      rw [L_X11_digest_0_5] at h
      refine am_blk 162 [(.iload_n 3, 1, 3, 0, .null), (.aload_n 0, 1, 0, 0, .null), (.getfield 33, 3, 9, 2, .null), (.getfield 137, 3, 3, 13, .null)] (170, [(0, .ref 0), (1, .long v1), (3, .int v3)], [.int (I 7 13), .int v3], I, G, (gP rd)) (True) hX hi (by decide +kernel) rfl trivial ?_
      refine am_icmp_gt (tgt := 198) hX hi (off := (28)) (by decide +kernel) (by decide) (fun c170 => ?_) (fun c170 => ?_)
      · rw [if_pos c170] at h
        refine am_blk 198 [(.iconst (0), 1, 0, 0, .int (0 : Int32)), (.istore_n 3, 1, 3, 0, .null)] (200, [(0, .ref 0), (1, .long v1), (3, .int (0 : Int32))], [], I, G, (gP rd)) (True) hX hi (by decide +kernel) rfl trivial ?_
        exact ih.2.2.2.2.2.2 _ _ _ _ _ _ h
      · rw [if_neg c170] at h
        refine am_blk 173 [(.lload_n 1, 1, 1, 0, .null), (.ldc2_w 235, 3, 0, 0, .long (31)), (.lmul, 1, 0, 0, .null), (.aload_n 0, 1, 0, 0, .null), (.getfield 46, 3, 9, 4, .null), (.getfield 141, 3, 5, 7, .null), (.iload_n 3, 1, 3, 0, .null)] (186, [(0, .ref 0), (1, .long v1), (3, .int v3)], [.int v3, .ref 59, .long (v1 * (31))], I, G, (gP rd)) (True) hX hi (by decide +kernel) rfl trivial ?_
        refine am_callS hX hi (M := mX0_at) (idx := 116) (d' := 1) (As := [.ref 59, .int v3]) (rest := [.long (v1 * (31))]) mkX0_at msX0_at (by decide +kernel) (by decide +kernel) rfl ⟨by omega, by decide, Nat.le_of_ble_eq_true rfl⟩ rfl (c_at rfl (by decide) v3) ?_
        rintro r9 I9 G9 P9 ⟨e0, e1, e2, e3⟩
        rw [e0, e1, e2, e3]
        show am_V X 0 0 _ _ ad (189, [(0, .ref 0), (1, .long v1), (3, .int v3)], [.int (gAt (I 59) 6 v3), .long (v1 * (31))], I, G, (gP rd))
        refine am_blk 189 [(.i2l, 1, 0, 0, .null), (.ladd, 1, 0, 0, .null), (.lstore_n 1, 1, 1, 0, .null), (.iinc 3 (1), 3, 3, 0, .int (1 : Int32)), (.goto (-33), 3, 0, 162, .null)] (162, [(0, .ref 0), (1, .long ((v1 * (31)) + (gAt (I 59) 6 v3).toInt64)), (3, .int (v3 + (1 : Int32)))], [], I, G, (gP rd)) (True) hX hi (by decide +kernel) rfl trivial ?_
        exact ih.2.2.2.2.2.1 _ _ _ _ _ _ h
    · intro I G v1 v3 v4 out h
      rw [L_X11_digest_0_6] at h
      refine am_blk 200 [(.iload_n 3, 1, 3, 0, .null), (.aload_n 0, 1, 0, 0, .null), (.getfield 33, 3, 9, 2, .null), (.getfield 163, 3, 3, 9, .null), (.aload_n 0, 1, 0, 0, .null), (.getfield 33, 3, 9, 2, .null), (.getfield 170, 3, 3, 10, .null), (.imul, 1, 0, 0, .null)] (216, [(0, .ref 0), (1, .long v1), (3, .int v3)], [.int ((I 7 9) * (I 7 10)), .int v3], I, G, (gP rd)) (True) hX hi (by decide +kernel) rfl trivial ?_
      refine am_icmp_ge (tgt := 244) hX hi (off := (28)) (by decide +kernel) (by decide) (fun c216 => ?_) (fun c216 => ?_)
      · rw [if_pos c216] at h
        refine am_blk 244 [(.lload_n 1, 1, 1, 0, .null)] (245, [(0, .ref 0), (1, .long v1), (3, .int v3)], [.long v1], I, G, (gP rd)) (True) hX hi (by decide +kernel) rfl trivial ?_
        cases h
        refine am_lret hX hi rfl (by decide +kernel) ?_
        exact ⟨rfl, rfl, rfl, rfl⟩
      · rw [if_neg c216] at h
        refine am_blk 219 [(.lload_n 1, 1, 1, 0, .null), (.ldc2_w 235, 3, 0, 0, .long (31)), (.lmul, 1, 0, 0, .null), (.aload_n 0, 1, 0, 0, .null), (.getfield 46, 3, 9, 4, .null), (.getfield 108, 3, 5, 5, .null), (.iload_n 3, 1, 3, 0, .null)] (232, [(0, .ref 0), (1, .long v1), (3, .int v3)], [.int v3, .ref 57, .long (v1 * (31))], I, G, (gP rd)) (True) hX hi (by decide +kernel) rfl trivial ?_
        refine am_callS hX hi (M := mX0_at) (idx := 116) (d' := 1) (As := [.ref 57, .int v3]) (rest := [.long (v1 * (31))]) mkX0_at msX0_at (by decide +kernel) (by decide +kernel) rfl ⟨by omega, by decide, Nat.le_of_ble_eq_true rfl⟩ rfl (c_at rfl (by decide) v3) ?_
        rintro r9 I9 G9 P9 ⟨e0, e1, e2, e3⟩
        rw [e0, e1, e2, e3]
        show am_V X 0 0 _ _ ad (235, [(0, .ref 0), (1, .long v1), (3, .int v3)], [.int (gAt (I 57) 576 v3), .long (v1 * (31))], I, G, (gP rd))
        refine am_blk 235 [(.i2l, 1, 0, 0, .null), (.ladd, 1, 0, 0, .null), (.lstore_n 1, 1, 1, 0, .null), (.iinc 3 (1), 3, 3, 0, .int (1 : Int32)), (.goto (-41), 3, 0, 200, .null)] (200, [(0, .ref 0), (1, .long ((v1 * (31)) + (gAt (I 57) 576 v3).toInt64)), (3, .int (v3 + (1 : Int32)))], [], I, G, (gP rd)) (True) hX hi (by decide +kernel) rfl trivial ?_
        exact ih.2.2.2.2.2.2 _ _ _ _ _ _ h
set_option maxRecDepth 20000 in
set_option maxHeartbeats 4000000 in
theorem c_X11_digest_0 (rd : Nat) (I : am_I) (G : am_G)  {out : Int64 × am_I × am_G} (h : R_X11_digest_0 I G  = some out) : am_Ct mX11_digest 9 gS [.ref 0] I G (gP rd) (pL out.1 out.2.1 out.2.2 (gP rd)) := by
  refine am_ofF (by decide +kernel) rfl (by decide) (by omega) (Nat.le_of_ble_eq_true rfl) (fun X ad hX hi => ?_)
  have hi : am_info X 9 cX11_digest 5 false (Option.some Jvm.ClassFile.FieldType.long) 9 := hi
  show am_V X 0 0 _ _ ad (0, [(0, .ref 0)], [], I, G, (gP rd))
  unfold R_X11_digest_0 at h
  refine am_blk 0 [(.aload_n 0, 1, 0, 0, .null), (.getfield 46, 3, 9, 4, .null)] (4, [(0, .ref 0)], [.ref 53], I, G, (gP rd)) (True) hX hi (by decide +kernel) rfl trivial ?_
  obtain ⟨r1, I1, G1, hc, h⟩ := rb_some h
  refine am_callV hX hi (M := mX7_group) (idx := 98) (d' := 8) (b := 53) (ci := 5) (As := []) (rest := []) mkX7_group miX7_group mvX7_group (by decide +kernel) (by decide +kernel) rfl (by decide +kernel) rfl ⟨by omega, by decide, Nat.le_of_ble_eq_true rfl⟩ rfl (c_X7_group_53 _ I G  hc) ?_
  rintro r9 I9 G9 P9 ⟨e0, e1, e2, e3⟩
  rw [e0, e1, e2, e3]
  show am_V X 0 0 _ _ ad (7, [(0, .ref 0)], [], I1, G1, (gP rd))
  refine am_blk 7 [(.ldc2_w 233, 3, 0, 0, .long (937)), (.lstore_n 1, 1, 1, 0, .null), (.iconst (0), 1, 0, 0, .int (0 : Int32)), (.istore_n 3, 1, 3, 0, .null)] (13, [(0, .ref 0), (1, .long (937)), (3, .int (0 : Int32))], [], I1, G1, (gP rd)) (True) hX hi (by decide +kernel) rfl trivial ?_
  exact (l_X11_digest_0 rd hX hi FU).1 _ _ _ _ _ _ h
noncomputable def L_X13_carryOut_102 (n0 : Nat) (hd : Nat) (I : am_I) (G : am_G) (v1 : Int32) (v2 : Int32) (v3 : Int32) (v4 : Int32) : Option (Int32 × am_I × am_G) := match n0 with
  | 0 => none
  | n + 1 => match hd with
    | _ => (if v2 ≤ v4 then rg (vp_in (0 : Int32) 400) (some ((I 109 (0 : Int32).toNatClampNeg), I, G)) else rg (vp_in v4 800) ((if (f_X13_isPushed_102 I G (I 100 v4.toNatClampNeg)) = 0 then (if (I 100 v4.toNatClampNeg) = (33 : Int32) then (if (I 100 v4.toNatClampNeg) = (33 : Int32) then rg (vp_in v3 400) (rg (vp_in v3 400) (L_X13_carryOut_102 n 0 (am_up I 109 v3.toNatClampNeg (-(I 109 v3.toNatClampNeg))) G v1 v2 v3 (v4 + (1 : Int32)))) else rg (vp_in v3 400) (rg (vp_in v3 400) (L_X13_carryOut_102 n 0 (am_up I 109 v3.toNatClampNeg ((1 : Int32) - (I 109 v3.toNatClampNeg))) G v1 v2 v3 (v4 + (1 : Int32))))) else (if (I 100 v4.toNatClampNeg) = (19 : Int32) then (if (I 100 v4.toNatClampNeg) = (33 : Int32) then rg (vp_in v3 400) (rg (vp_in v3 400) (L_X13_carryOut_102 n 0 (am_up I 109 v3.toNatClampNeg (-(I 109 v3.toNatClampNeg))) G v1 v2 v3 (v4 + (1 : Int32)))) else rg (vp_in v3 400) (rg (vp_in v3 400) (L_X13_carryOut_102 n 0 (am_up I 109 v3.toNatClampNeg ((1 : Int32) - (I 109 v3.toNatClampNeg))) G v1 v2 v3 (v4 + (1 : Int32))))) else (if (I 100 v4.toNatClampNeg) = (17 : Int32) then rg (vp_in (v3 + (-1 : Int32)) 400) (rg (vp_in ((v3 + (-1 : Int32)) + (1 : Int32)) 400) (rg (q_X12_spot_86 I G (I 109 (v3 + (-1 : Int32)).toNatClampNeg) (I 109 ((v3 + (-1 : Int32)) + (1 : Int32)).toNatClampNeg)) (rb (R_X13_height_102 I G (f_X12_spot_86 I G (I 109 (v3 + (-1 : Int32)).toNatClampNeg) (I 109 ((v3 + (-1 : Int32)) + (1 : Int32)).toNatClampNeg))) (fun r101 I101 G101 => rg (vp_in (v3 + (-1 : Int32)) 400) (L_X13_carryOut_102 n 0 (am_up I101 109 (v3 + (-1 : Int32)).toNatClampNeg r101) G101 v1 v2 (v3 + (-1 : Int32)) (v4 + (1 : Int32))))))) else rg (vp_in (v3 + (-1 : Int32)) 400) (rg (vp_in ((v3 + (-1 : Int32)) + (1 : Int32)) 400) (rg (q_X14_both I G (I 100 v4.toNatClampNeg) (I 109 (v3 + (-1 : Int32)).toNatClampNeg) (I 109 ((v3 + (-1 : Int32)) + (1 : Int32)).toNatClampNeg)) (rg (vp_in (v3 + (-1 : Int32)) 400) (L_X13_carryOut_102 n 0 (am_up I 109 (v3 + (-1 : Int32)).toNatClampNeg (f_X14_both I G (I 100 v4.toNatClampNeg) (I 109 (v3 + (-1 : Int32)).toNatClampNeg) (I 109 ((v3 + (-1 : Int32)) + (1 : Int32)).toNatClampNeg))) G v1 v2 (v3 + (-1 : Int32)) (v4 + (1 : Int32))))))))) else (if (I 100 v4.toNatClampNeg) = (15 : Int32) then rg (vp_in (v3 + (1 : Int32)) 400) ((if (I 100 v4.toNatClampNeg) = (15 : Int32) then L_X13_carryOut_102 n 0 (am_up I 109 (v3 + (1 : Int32)).toNatClampNeg (I 102 0)) G v1 v2 (v3 + (1 : Int32)) ((v4 + (1 : Int32)) + (0 : Int32)) else L_X13_carryOut_102 n 0 (am_up I 109 (v3 + (1 : Int32)).toNatClampNeg (I 102 0)) G v1 v2 (v3 + (1 : Int32)) ((v4 + (1 : Int32)) + (1 : Int32)))) else rg (vp_in (v4 + (1 : Int32)) 800) (rb (R_X13_pushed_102 I G (I 100 v4.toNatClampNeg) (I 100 (v4 + (1 : Int32)).toNatClampNeg)) (fun r102 I102 G102 => rg (vp_in (v3 + (1 : Int32)) 400) ((if (I 100 v4.toNatClampNeg) = (15 : Int32) then L_X13_carryOut_102 n 0 (am_up I102 109 (v3 + (1 : Int32)).toNatClampNeg r102) G102 v1 v2 (v3 + (1 : Int32)) ((v4 + (1 : Int32)) + (0 : Int32)) else L_X13_carryOut_102 n 0 (am_up I102 109 (v3 + (1 : Int32)).toNatClampNeg r102) G102 v1 v2 (v3 + (1 : Int32)) ((v4 + (1 : Int32)) + (1 : Int32))))))))))
theorem L_X13_carryOut_102_0 (n : Nat) (I : am_I) (G : am_G) (v1 : Int32) (v2 : Int32) (v3 : Int32) (v4 : Int32) : L_X13_carryOut_102 (n + 1) 0 I G v1 v2 v3 v4 = (if v2 ≤ v4 then rg (vp_in (0 : Int32) 400) (some ((I 109 (0 : Int32).toNatClampNeg), I, G)) else rg (vp_in v4 800) ((if (f_X13_isPushed_102 I G (I 100 v4.toNatClampNeg)) = 0 then (if (I 100 v4.toNatClampNeg) = (33 : Int32) then (if (I 100 v4.toNatClampNeg) = (33 : Int32) then rg (vp_in v3 400) (rg (vp_in v3 400) (L_X13_carryOut_102 n 0 (am_up I 109 v3.toNatClampNeg (-(I 109 v3.toNatClampNeg))) G v1 v2 v3 (v4 + (1 : Int32)))) else rg (vp_in v3 400) (rg (vp_in v3 400) (L_X13_carryOut_102 n 0 (am_up I 109 v3.toNatClampNeg ((1 : Int32) - (I 109 v3.toNatClampNeg))) G v1 v2 v3 (v4 + (1 : Int32))))) else (if (I 100 v4.toNatClampNeg) = (19 : Int32) then (if (I 100 v4.toNatClampNeg) = (33 : Int32) then rg (vp_in v3 400) (rg (vp_in v3 400) (L_X13_carryOut_102 n 0 (am_up I 109 v3.toNatClampNeg (-(I 109 v3.toNatClampNeg))) G v1 v2 v3 (v4 + (1 : Int32)))) else rg (vp_in v3 400) (rg (vp_in v3 400) (L_X13_carryOut_102 n 0 (am_up I 109 v3.toNatClampNeg ((1 : Int32) - (I 109 v3.toNatClampNeg))) G v1 v2 v3 (v4 + (1 : Int32))))) else (if (I 100 v4.toNatClampNeg) = (17 : Int32) then rg (vp_in (v3 + (-1 : Int32)) 400) (rg (vp_in ((v3 + (-1 : Int32)) + (1 : Int32)) 400) (rg (q_X12_spot_86 I G (I 109 (v3 + (-1 : Int32)).toNatClampNeg) (I 109 ((v3 + (-1 : Int32)) + (1 : Int32)).toNatClampNeg)) (rb (R_X13_height_102 I G (f_X12_spot_86 I G (I 109 (v3 + (-1 : Int32)).toNatClampNeg) (I 109 ((v3 + (-1 : Int32)) + (1 : Int32)).toNatClampNeg))) (fun r101 I101 G101 => rg (vp_in (v3 + (-1 : Int32)) 400) (L_X13_carryOut_102 n 0 (am_up I101 109 (v3 + (-1 : Int32)).toNatClampNeg r101) G101 v1 v2 (v3 + (-1 : Int32)) (v4 + (1 : Int32))))))) else rg (vp_in (v3 + (-1 : Int32)) 400) (rg (vp_in ((v3 + (-1 : Int32)) + (1 : Int32)) 400) (rg (q_X14_both I G (I 100 v4.toNatClampNeg) (I 109 (v3 + (-1 : Int32)).toNatClampNeg) (I 109 ((v3 + (-1 : Int32)) + (1 : Int32)).toNatClampNeg)) (rg (vp_in (v3 + (-1 : Int32)) 400) (L_X13_carryOut_102 n 0 (am_up I 109 (v3 + (-1 : Int32)).toNatClampNeg (f_X14_both I G (I 100 v4.toNatClampNeg) (I 109 (v3 + (-1 : Int32)).toNatClampNeg) (I 109 ((v3 + (-1 : Int32)) + (1 : Int32)).toNatClampNeg))) G v1 v2 (v3 + (-1 : Int32)) (v4 + (1 : Int32))))))))) else (if (I 100 v4.toNatClampNeg) = (15 : Int32) then rg (vp_in (v3 + (1 : Int32)) 400) ((if (I 100 v4.toNatClampNeg) = (15 : Int32) then L_X13_carryOut_102 n 0 (am_up I 109 (v3 + (1 : Int32)).toNatClampNeg (I 102 0)) G v1 v2 (v3 + (1 : Int32)) ((v4 + (1 : Int32)) + (0 : Int32)) else L_X13_carryOut_102 n 0 (am_up I 109 (v3 + (1 : Int32)).toNatClampNeg (I 102 0)) G v1 v2 (v3 + (1 : Int32)) ((v4 + (1 : Int32)) + (1 : Int32)))) else rg (vp_in (v4 + (1 : Int32)) 800) (rb (R_X13_pushed_102 I G (I 100 v4.toNatClampNeg) (I 100 (v4 + (1 : Int32)).toNatClampNeg)) (fun r102 I102 G102 => rg (vp_in (v3 + (1 : Int32)) 400) ((if (I 100 v4.toNatClampNeg) = (15 : Int32) then L_X13_carryOut_102 n 0 (am_up I102 109 (v3 + (1 : Int32)).toNatClampNeg r102) G102 v1 v2 (v3 + (1 : Int32)) ((v4 + (1 : Int32)) + (0 : Int32)) else L_X13_carryOut_102 n 0 (am_up I102 109 (v3 + (1 : Int32)).toNatClampNeg r102) G102 v1 v2 (v3 + (1 : Int32)) ((v4 + (1 : Int32)) + (1 : Int32)))))))))) := rfl
theorem L_X13_carryOut_102_z (h : Nat) (I : am_I) (G : am_G) (v1 : Int32) (v2 : Int32) (v3 : Int32) (v4 : Int32) : L_X13_carryOut_102 0 h I G v1 v2 v3 v4 = none := rfl
noncomputable def R_X13_carryOut_102 (I : am_I) (G : am_G) (x1 : Int32) (x2 : Int32) : Option (Int32 × am_I × am_G) := L_X13_carryOut_102 FU 0 I G x1 x2 (-1 : Int32) x1
set_option maxRecDepth 20000 in
set_option maxHeartbeats 4000000 in
theorem l_X13_carryOut_102 (rd : Nat) {X : am_X} {ad : Nat → Nat} (hX : am_okz X ad) (hi : am_info X 11 cX13_carryOut 6 false (Option.some Jvm.ClassFile.FieldType.int) 12) (n : Nat) : (∀ (I : am_I) (G : am_G) (v1 : Int32) (v2 : Int32) (v3 : Int32) (v4 : Int32) (out : Int32 × am_I × am_G), L_X13_carryOut_102 n 0 I G v1 v2 v3 v4 = some out → am_V X 0 0 (am_Rt X gS ad (pI out.1 out.2.1 out.2.2 (gP rd))) gS ad (5, [(0, .ref 102), (1, .int v1), (2, .int v2), (3, .int v3), (4, .int v4)], [], I, G, (gP rd))) := by
  induction n with
  | zero => exact fun I G v1 v2 v3 v4 out h => by rw [L_X13_carryOut_102_z] at h; cases h
  | succ n ih =>
    · intro I G v1 v2 v3 v4 out h
      rw [L_X13_carryOut_102_0] at h
      refine am_blk 5 [(.iload 4, 2, 4, 0, .null), (.iload_n 2, 1, 2, 0, .null)] (8, [(0, .ref 102), (1, .int v1), (2, .int v2), (3, .int v3), (4, .int v4)], [.int v2, .int v4], I, G, (gP rd)) (True) hX hi (by decide +kernel) rfl trivial ?_
      refine am_icmp_ge (tgt := 217) hX hi (off := (209)) (by decide +kernel) (by decide) (fun c8 => ?_) (fun c8 => ?_)
      · rw [if_pos c8] at h
        obtain ⟨g0, h⟩ := rg_some h
        refine am_blk 217 [(.aload_n 0, 1, 0, 0, .null), (.getfield 35, 3, 11, 11, .null), (.iconst (0), 1, 0, 0, .int (0 : Int32)), (.iaload, 1, 0, 0, .null)] (223, [(0, .ref 102), (1, .int v1), (2, .int v2), (3, .int v3), (4, .int v4)], [.int (I 109 (0 : Int32).toNatClampNeg)], I, G, (gP rd)) (vp_in (0 : Int32) 400 ∧ True) hX hi (by decide +kernel) rfl ⟨g0, trivial⟩ ?_
        cases h
        refine am_iret hX hi rfl rfl (by decide +kernel) ?_
        exact ⟨rfl, rfl, rfl, rfl⟩
      · rw [if_neg c8] at h
        obtain ⟨g0, h⟩ := rg_some h
        refine am_blk 11 [(.aload_n 0, 1, 0, 0, .null), (.getfield 3, 3, 11, 14, .null), (.getfield 67, 3, 12, 11, .null), (.getfield 238, 3, 10, 20, .null), (.iload 4, 2, 4, 0, .null), (.iaload, 1, 0, 0, .null), (.istore 5, 2, 5, 0, .null), (.iinc 4 (1), 3, 4, 0, .int (1 : Int32)), (.aload_n 0, 1, 0, 0, .null), (.iload 5, 2, 5, 0, .null)] (32, [(0, .ref 102), (1, .int v1), (2, .int v2), (3, .int v3), (4, .int (v4 + (1 : Int32))), (5, .int (I 100 v4.toNatClampNeg))], [.int (I 100 v4.toNatClampNeg), .ref 102], I, G, (gP rd)) (vp_in v4 800 ∧ True) hX hi (by decide +kernel) rfl ⟨g0, trivial⟩ ?_
        refine am_callV hX hi (M := mX13_isPushed) (idx := 241) (d' := 1) (b := 102) (ci := 11) (As := [.int (I 100 v4.toNatClampNeg)]) (rest := []) mkX13_isPushed miX13_isPushed mvX13_isPushed (by decide +kernel) (by decide +kernel) rfl (by decide +kernel) rfl ⟨by omega, by decide, Nat.le_of_ble_eq_true rfl⟩ rfl (c_X13_isPushed_102 _ I G (I 100 v4.toNatClampNeg)) ?_
        rintro r9 I9 G9 P9 ⟨e0, e1, e2, e3⟩
        rw [e0, e1, e2, e3]
        show am_V X 0 0 _ _ ad (35, [(0, .ref 102), (1, .int v1), (2, .int v2), (3, .int v3), (4, .int (v4 + (1 : Int32))), (5, .int (I 100 v4.toNatClampNeg))], [.int (f_X13_isPushed_102 I G (I 100 v4.toNatClampNeg))], I, G, (gP rd))
        refine am_if_eq (tgt := 100) hX hi (off := (65)) (by decide +kernel) (by decide) (fun c35 => ?_) (fun c35 => ?_)
        · rw [if_pos c35] at h
          refine am_blk 100 [(.iload 5, 2, 5, 0, .null), (.bipush (33), 2, 0, 0, .int (33 : Int32))] (104, [(0, .ref 102), (1, .int v1), (2, .int v2), (3, .int v3), (4, .int (v4 + (1 : Int32))), (5, .int (I 100 v4.toNatClampNeg))], [.int (33 : Int32), .int (I 100 v4.toNatClampNeg)], I, G, (gP rd)) (True) hX hi (by decide +kernel) rfl trivial ?_
          refine am_icmp_eq (tgt := 114) hX hi (off := (10)) (by decide +kernel) (by decide) (fun c104 => ?_) (fun c104 => ?_)
          · rw [if_pos c104] at h
            refine am_blk 114 [(.aload_n 0, 1, 0, 0, .null), (.getfield 35, 3, 11, 11, .null), (.iload_n 3, 1, 3, 0, .null), (.iload 5, 2, 5, 0, .null), (.bipush (33), 2, 0, 0, .int (33 : Int32))] (123, [(0, .ref 102), (1, .int v1), (2, .int v2), (3, .int v3), (4, .int (v4 + (1 : Int32))), (5, .int (I 100 v4.toNatClampNeg))], [.int (33 : Int32), .int (I 100 v4.toNatClampNeg), .int v3, .ref 109], I, G, (gP rd)) (True) hX hi (by decide +kernel) rfl trivial ?_
            refine am_icmp_ne (tgt := 136) hX hi (off := (13)) (by decide +kernel) (by decide) (fun c123 => ?_) (fun c123 => ?_)
            · rw [if_neg c123] at h
              obtain ⟨g0, h⟩ := rg_some h
              obtain ⟨g1, h⟩ := rg_some h
              refine am_blk 136 [(.iconst (1), 1, 0, 0, .int (1 : Int32)), (.aload_n 0, 1, 0, 0, .null), (.getfield 35, 3, 11, 11, .null), (.iload_n 3, 1, 3, 0, .null), (.iaload, 1, 0, 0, .null), (.isub, 1, 0, 0, .null), (.iastore, 1, 0, 0, .null), (.goto (69), 3, 0, 214, .null), (.goto (-209), 3, 0, 5, .null)] (5, [(0, .ref 102), (1, .int v1), (2, .int v2), (3, .int v3), (4, .int (v4 + (1 : Int32))), (5, .int (I 100 v4.toNatClampNeg))], [], (am_up I 109 v3.toNatClampNeg ((1 : Int32) - (I 109 v3.toNatClampNeg))), G, (gP rd)) (vp_in v3 400 ∧ vp_in v3 400 ∧ True) hX hi (by decide +kernel) rfl ⟨g0, g1, trivial⟩ ?_
              refine am_sub (L' := [(0, .ref 102), (1, .int v1), (2, .int v2), (3, .int v3), (4, .int (v4 + (1 : Int32)))]) (by simp) ?_
              exact ih _ _ _ _ _ _ _ h
            · rw [if_pos c123] at h
              obtain ⟨g0, h⟩ := rg_some h
              obtain ⟨g1, h⟩ := rg_some h
              refine am_blk 126 [(.aload_n 0, 1, 0, 0, .null), (.getfield 35, 3, 11, 11, .null), (.iload_n 3, 1, 3, 0, .null), (.iaload, 1, 0, 0, .null), (.ineg, 1, 0, 0, .null), (.goto (11), 3, 0, 144, .null), (.iastore, 1, 0, 0, .null), (.goto (69), 3, 0, 214, .null), (.goto (-209), 3, 0, 5, .null)] (5, [(0, .ref 102), (1, .int v1), (2, .int v2), (3, .int v3), (4, .int (v4 + (1 : Int32))), (5, .int (I 100 v4.toNatClampNeg))], [], (am_up I 109 v3.toNatClampNeg (-(I 109 v3.toNatClampNeg))), G, (gP rd)) (vp_in v3 400 ∧ vp_in v3 400 ∧ True) hX hi (by decide +kernel) rfl ⟨g0, g1, trivial⟩ ?_
              refine am_sub (L' := [(0, .ref 102), (1, .int v1), (2, .int v2), (3, .int v3), (4, .int (v4 + (1 : Int32)))]) (by simp) ?_
              exact ih _ _ _ _ _ _ _ h
          · rw [if_neg c104] at h
            refine am_blk 107 [(.iload 5, 2, 5, 0, .null), (.bipush (19), 2, 0, 0, .int (19 : Int32))] (111, [(0, .ref 102), (1, .int v1), (2, .int v2), (3, .int v3), (4, .int (v4 + (1 : Int32))), (5, .int (I 100 v4.toNatClampNeg))], [.int (19 : Int32), .int (I 100 v4.toNatClampNeg)], I, G, (gP rd)) (True) hX hi (by decide +kernel) rfl trivial ?_
            refine am_icmp_ne (tgt := 148) hX hi (off := (37)) (by decide +kernel) (by decide) (fun c111 => ?_) (fun c111 => ?_)
            · rw [if_neg c111] at h
              refine am_blk 148 [(.iinc 3 (-1), 3, 3, 0, .int (-1 : Int32)), (.aload_n 0, 1, 0, 0, .null), (.getfield 35, 3, 11, 11, .null), (.iload_n 3, 1, 3, 0, .null), (.iload 5, 2, 5, 0, .null), (.bipush (17), 2, 0, 0, .int (17 : Int32))] (160, [(0, .ref 102), (1, .int v1), (2, .int v2), (3, .int (v3 + (-1 : Int32))), (4, .int (v4 + (1 : Int32))), (5, .int (I 100 v4.toNatClampNeg))], [.int (17 : Int32), .int (I 100 v4.toNatClampNeg), .int (v3 + (-1 : Int32)), .ref 109], I, G, (gP rd)) (True) hX hi (by decide +kernel) rfl trivial ?_
              refine am_icmp_ne (tgt := 194) hX hi (off := (34)) (by decide +kernel) (by decide) (fun c160 => ?_) (fun c160 => ?_)
              · rw [if_neg c160] at h
                obtain ⟨g0, h⟩ := rg_some h
                obtain ⟨g1, h⟩ := rg_some h
                refine am_blk 194 [(.iload 5, 2, 5, 0, .null), (.aload_n 0, 1, 0, 0, .null), (.getfield 35, 3, 11, 11, .null), (.iload_n 3, 1, 3, 0, .null), (.iaload, 1, 0, 0, .null), (.aload_n 0, 1, 0, 0, .null), (.getfield 35, 3, 11, 11, .null), (.iload_n 3, 1, 3, 0, .null), (.iconst (1), 1, 0, 0, .int (1 : Int32)), (.iadd, 1, 0, 0, .null), (.iaload, 1, 0, 0, .null)] (210, [(0, .ref 102), (1, .int v1), (2, .int v2), (3, .int (v3 + (-1 : Int32))), (4, .int (v4 + (1 : Int32))), (5, .int (I 100 v4.toNatClampNeg))], [.int (I 109 ((v3 + (-1 : Int32)) + (1 : Int32)).toNatClampNeg), .int (I 109 (v3 + (-1 : Int32)).toNatClampNeg), .int (I 100 v4.toNatClampNeg), .int (v3 + (-1 : Int32)), .ref 109], I, G, (gP rd)) (vp_in (v3 + (-1 : Int32)) 400 ∧ vp_in ((v3 + (-1 : Int32)) + (1 : Int32)) 400 ∧ True) hX hi (by decide +kernel) rfl ⟨g0, g1, trivial⟩ ?_
                obtain ⟨hq1, h⟩ := rg_some h
                refine am_callSN hX hi (M := mX14_both) (idx := 247) (d' := 1) (As := [.int (I 100 v4.toNatClampNeg), .int (I 109 (v3 + (-1 : Int32)).toNatClampNeg), .int (I 109 ((v3 + (-1 : Int32)) + (1 : Int32)).toNatClampNeg)]) (rest := [.int (v3 + (-1 : Int32)), .ref 109]) mkX14_both msX14_both (by decide +kernel) (by decide +kernel) rfl ⟨by omega, by decide, Nat.le_of_ble_eq_true rfl⟩ rfl (c_X14_both I G (I 100 v4.toNatClampNeg) (I 109 (v3 + (-1 : Int32)).toNatClampNeg) (I 109 ((v3 + (-1 : Int32)) + (1 : Int32)).toNatClampNeg) hq1) ?_
                rintro r9 I9 G9 P9 ⟨e0, e1, e2, e3⟩
                rw [e0, e1, e2, e3]
                show am_V X 0 0 _ _ ad (213, [(0, .ref 102), (1, .int v1), (2, .int v2), (3, .int (v3 + (-1 : Int32))), (4, .int (v4 + (1 : Int32))), (5, .int (I 100 v4.toNatClampNeg))], [.int (f_X14_both I G (I 100 v4.toNatClampNeg) (I 109 (v3 + (-1 : Int32)).toNatClampNeg) (I 109 ((v3 + (-1 : Int32)) + (1 : Int32)).toNatClampNeg)), .int (v3 + (-1 : Int32)), .ref 109], I, G, (gP rd))
                obtain ⟨g0, h⟩ := rg_some h
                refine am_blk 213 [(.iastore, 1, 0, 0, .null), (.goto (-209), 3, 0, 5, .null)] (5, [(0, .ref 102), (1, .int v1), (2, .int v2), (3, .int (v3 + (-1 : Int32))), (4, .int (v4 + (1 : Int32))), (5, .int (I 100 v4.toNatClampNeg))], [], (am_up I 109 (v3 + (-1 : Int32)).toNatClampNeg (f_X14_both I G (I 100 v4.toNatClampNeg) (I 109 (v3 + (-1 : Int32)).toNatClampNeg) (I 109 ((v3 + (-1 : Int32)) + (1 : Int32)).toNatClampNeg))), G, (gP rd)) (vp_in (v3 + (-1 : Int32)) 400 ∧ True) hX hi (by decide +kernel) rfl ⟨g0, trivial⟩ ?_
                refine am_sub (L' := [(0, .ref 102), (1, .int v1), (2, .int v2), (3, .int (v3 + (-1 : Int32))), (4, .int (v4 + (1 : Int32)))]) (by simp) ?_
                exact ih _ _ _ _ _ _ _ h
              · rw [if_pos c160] at h
                obtain ⟨g0, h⟩ := rg_some h
                obtain ⟨g1, h⟩ := rg_some h
                refine am_blk 163 [(.aload_n 0, 1, 0, 0, .null), (.aload_n 0, 1, 0, 0, .null), (.getfield 3, 3, 11, 14, .null), (.getfield 67, 3, 12, 11, .null), (.aload_n 0, 1, 0, 0, .null), (.getfield 35, 3, 11, 11, .null), (.iload_n 3, 1, 3, 0, .null), (.iaload, 1, 0, 0, .null), (.aload_n 0, 1, 0, 0, .null), (.getfield 35, 3, 11, 11, .null), (.iload_n 3, 1, 3, 0, .null), (.iconst (1), 1, 0, 0, .int (1 : Int32)), (.iadd, 1, 0, 0, .null), (.iaload, 1, 0, 0, .null)] (185, [(0, .ref 102), (1, .int v1), (2, .int v2), (3, .int (v3 + (-1 : Int32))), (4, .int (v4 + (1 : Int32))), (5, .int (I 100 v4.toNatClampNeg))], [.int (I 109 ((v3 + (-1 : Int32)) + (1 : Int32)).toNatClampNeg), .int (I 109 (v3 + (-1 : Int32)).toNatClampNeg), .ref 86, .ref 102, .int (v3 + (-1 : Int32)), .ref 109], I, G, (gP rd)) (vp_in (v3 + (-1 : Int32)) 400 ∧ vp_in ((v3 + (-1 : Int32)) + (1 : Int32)) 400 ∧ True) hX hi (by decide +kernel) rfl ⟨g0, g1, trivial⟩ ?_
                obtain ⟨hq1, h⟩ := rg_some h
                refine am_callV hX hi (M := mX12_spot) (idx := 139) (d' := 2) (b := 86) (ci := 10) (As := [.int (I 109 (v3 + (-1 : Int32)).toNatClampNeg), .int (I 109 ((v3 + (-1 : Int32)) + (1 : Int32)).toNatClampNeg)]) (rest := [.ref 102, .int (v3 + (-1 : Int32)), .ref 109]) mkX12_spot miX12_spot mvX12_spot (by decide +kernel) (by decide +kernel) rfl (by decide +kernel) rfl ⟨by omega, by decide, Nat.le_of_ble_eq_true rfl⟩ rfl (c_X12_spot_86 _ I G (I 109 (v3 + (-1 : Int32)).toNatClampNeg) (I 109 ((v3 + (-1 : Int32)) + (1 : Int32)).toNatClampNeg) hq1) ?_
                rintro r9 I9 G9 P9 ⟨e0, e1, e2, e3⟩
                rw [e0, e1, e2, e3]
                show am_V X 0 0 _ _ ad (188, [(0, .ref 102), (1, .int v1), (2, .int v2), (3, .int (v3 + (-1 : Int32))), (4, .int (v4 + (1 : Int32))), (5, .int (I 100 v4.toNatClampNeg))], [.int (f_X12_spot_86 I G (I 109 (v3 + (-1 : Int32)).toNatClampNeg) (I 109 ((v3 + (-1 : Int32)) + (1 : Int32)).toNatClampNeg)), .ref 102, .int (v3 + (-1 : Int32)), .ref 109], I, G, (gP rd))
                obtain ⟨r101, I101, G101, hc, h⟩ := rb_some h
                refine am_callV hX hi (M := mX13_height) (idx := 169) (d' := 9) (b := 102) (ci := 11) (As := [.int (f_X12_spot_86 I G (I 109 (v3 + (-1 : Int32)).toNatClampNeg) (I 109 ((v3 + (-1 : Int32)) + (1 : Int32)).toNatClampNeg))]) (rest := [.int (v3 + (-1 : Int32)), .ref 109]) mkX13_height miX13_height mvX13_height (by decide +kernel) (by decide +kernel) rfl (by decide +kernel) rfl ⟨by omega, by decide, Nat.le_of_ble_eq_true rfl⟩ rfl (c_X13_height_102 _ I G (f_X12_spot_86 I G (I 109 (v3 + (-1 : Int32)).toNatClampNeg) (I 109 ((v3 + (-1 : Int32)) + (1 : Int32)).toNatClampNeg)) hc) ?_
                rintro r9 I9 G9 P9 ⟨e0, e1, e2, e3⟩
                rw [e0, e1, e2, e3]
                show am_V X 0 0 _ _ ad (191, [(0, .ref 102), (1, .int v1), (2, .int v2), (3, .int (v3 + (-1 : Int32))), (4, .int (v4 + (1 : Int32))), (5, .int (I 100 v4.toNatClampNeg))], [.int r101, .int (v3 + (-1 : Int32)), .ref 109], I101, G101, (gP rd))
                obtain ⟨g0, h⟩ := rg_some h
                refine am_blk 191 [(.goto (22), 3, 0, 213, .null), (.iastore, 1, 0, 0, .null), (.goto (-209), 3, 0, 5, .null)] (5, [(0, .ref 102), (1, .int v1), (2, .int v2), (3, .int (v3 + (-1 : Int32))), (4, .int (v4 + (1 : Int32))), (5, .int (I 100 v4.toNatClampNeg))], [], (am_up I101 109 (v3 + (-1 : Int32)).toNatClampNeg r101), G101, (gP rd)) (vp_in (v3 + (-1 : Int32)) 400 ∧ True) hX hi (by decide +kernel) rfl ⟨g0, trivial⟩ ?_
                refine am_sub (L' := [(0, .ref 102), (1, .int v1), (2, .int v2), (3, .int (v3 + (-1 : Int32))), (4, .int (v4 + (1 : Int32)))]) (by simp) ?_
                exact ih _ _ _ _ _ _ _ h
            · rw [if_pos c111] at h
              refine am_blk 114 [(.aload_n 0, 1, 0, 0, .null), (.getfield 35, 3, 11, 11, .null), (.iload_n 3, 1, 3, 0, .null), (.iload 5, 2, 5, 0, .null), (.bipush (33), 2, 0, 0, .int (33 : Int32))] (123, [(0, .ref 102), (1, .int v1), (2, .int v2), (3, .int v3), (4, .int (v4 + (1 : Int32))), (5, .int (I 100 v4.toNatClampNeg))], [.int (33 : Int32), .int (I 100 v4.toNatClampNeg), .int v3, .ref 109], I, G, (gP rd)) (True) hX hi (by decide +kernel) rfl trivial ?_
              refine am_icmp_ne (tgt := 136) hX hi (off := (13)) (by decide +kernel) (by decide) (fun c123 => ?_) (fun c123 => ?_)
              · rw [if_neg c123] at h
                obtain ⟨g0, h⟩ := rg_some h
                obtain ⟨g1, h⟩ := rg_some h
                refine am_blk 136 [(.iconst (1), 1, 0, 0, .int (1 : Int32)), (.aload_n 0, 1, 0, 0, .null), (.getfield 35, 3, 11, 11, .null), (.iload_n 3, 1, 3, 0, .null), (.iaload, 1, 0, 0, .null), (.isub, 1, 0, 0, .null), (.iastore, 1, 0, 0, .null), (.goto (69), 3, 0, 214, .null), (.goto (-209), 3, 0, 5, .null)] (5, [(0, .ref 102), (1, .int v1), (2, .int v2), (3, .int v3), (4, .int (v4 + (1 : Int32))), (5, .int (I 100 v4.toNatClampNeg))], [], (am_up I 109 v3.toNatClampNeg ((1 : Int32) - (I 109 v3.toNatClampNeg))), G, (gP rd)) (vp_in v3 400 ∧ vp_in v3 400 ∧ True) hX hi (by decide +kernel) rfl ⟨g0, g1, trivial⟩ ?_
                refine am_sub (L' := [(0, .ref 102), (1, .int v1), (2, .int v2), (3, .int v3), (4, .int (v4 + (1 : Int32)))]) (by simp) ?_
                exact ih _ _ _ _ _ _ _ h
              · rw [if_pos c123] at h
                obtain ⟨g0, h⟩ := rg_some h
                obtain ⟨g1, h⟩ := rg_some h
                refine am_blk 126 [(.aload_n 0, 1, 0, 0, .null), (.getfield 35, 3, 11, 11, .null), (.iload_n 3, 1, 3, 0, .null), (.iaload, 1, 0, 0, .null), (.ineg, 1, 0, 0, .null), (.goto (11), 3, 0, 144, .null), (.iastore, 1, 0, 0, .null), (.goto (69), 3, 0, 214, .null), (.goto (-209), 3, 0, 5, .null)] (5, [(0, .ref 102), (1, .int v1), (2, .int v2), (3, .int v3), (4, .int (v4 + (1 : Int32))), (5, .int (I 100 v4.toNatClampNeg))], [], (am_up I 109 v3.toNatClampNeg (-(I 109 v3.toNatClampNeg))), G, (gP rd)) (vp_in v3 400 ∧ vp_in v3 400 ∧ True) hX hi (by decide +kernel) rfl ⟨g0, g1, trivial⟩ ?_
                refine am_sub (L' := [(0, .ref 102), (1, .int v1), (2, .int v2), (3, .int v3), (4, .int (v4 + (1 : Int32)))]) (by simp) ?_
                exact ih _ _ _ _ _ _ _ h
        · rw [if_neg c35] at h
          refine am_blk 38 [(.iinc 3 (1), 3, 3, 0, .int (1 : Int32)), (.aload_n 0, 1, 0, 0, .null), (.getfield 35, 3, 11, 11, .null), (.iload_n 3, 1, 3, 0, .null), (.iload 5, 2, 5, 0, .null), (.bipush (15), 2, 0, 0, .int (15 : Int32))] (50, [(0, .ref 102), (1, .int v1), (2, .int v2), (3, .int (v3 + (1 : Int32))), (4, .int (v4 + (1 : Int32))), (5, .int (I 100 v4.toNatClampNeg))], [.int (15 : Int32), .int (I 100 v4.toNatClampNeg), .int (v3 + (1 : Int32)), .ref 109], I, G, (gP rd)) (True) hX hi (by decide +kernel) rfl trivial ?_
          refine am_icmp_ne (tgt := 60) hX hi (off := (10)) (by decide +kernel) (by decide) (fun c50 => ?_) (fun c50 => ?_)
          · rw [if_neg c50] at h
            obtain ⟨g0, h⟩ := rg_some h
            refine am_blk 60 [(.aload_n 0, 1, 0, 0, .null), (.iload 5, 2, 5, 0, .null), (.aload_n 0, 1, 0, 0, .null), (.getfield 3, 3, 11, 14, .null), (.getfield 67, 3, 12, 11, .null), (.getfield 238, 3, 10, 20, .null), (.iload 4, 2, 4, 0, .null), (.iaload, 1, 0, 0, .null)] (76, [(0, .ref 102), (1, .int v1), (2, .int v2), (3, .int (v3 + (1 : Int32))), (4, .int (v4 + (1 : Int32))), (5, .int (I 100 v4.toNatClampNeg))], [.int (I 100 (v4 + (1 : Int32)).toNatClampNeg), .int (I 100 v4.toNatClampNeg), .ref 102, .int (v3 + (1 : Int32)), .ref 109], I, G, (gP rd)) (vp_in (v4 + (1 : Int32)) 800 ∧ True) hX hi (by decide +kernel) rfl ⟨g0, trivial⟩ ?_
            obtain ⟨r102, I102, G102, hc, h⟩ := rb_some h
            refine am_callV hX hi (M := mX13_pushed) (idx := 244) (d' := 11) (b := 102) (ci := 11) (As := [.int (I 100 v4.toNatClampNeg), .int (I 100 (v4 + (1 : Int32)).toNatClampNeg)]) (rest := [.int (v3 + (1 : Int32)), .ref 109]) mkX13_pushed miX13_pushed mvX13_pushed (by decide +kernel) (by decide +kernel) rfl (by decide +kernel) rfl ⟨by omega, by decide, Nat.le_of_ble_eq_true rfl⟩ rfl (c_X13_pushed_102 _ I G (I 100 v4.toNatClampNeg) (I 100 (v4 + (1 : Int32)).toNatClampNeg) hc) ?_
            rintro r9 I9 G9 P9 ⟨e0, e1, e2, e3⟩
            rw [e0, e1, e2, e3]
            show am_V X 0 0 _ _ ad (79, [(0, .ref 102), (1, .int v1), (2, .int v2), (3, .int (v3 + (1 : Int32))), (4, .int (v4 + (1 : Int32))), (5, .int (I 100 v4.toNatClampNeg))], [.int r102, .int (v3 + (1 : Int32)), .ref 109], I102, G102, (gP rd))
            obtain ⟨g0, h⟩ := rg_some h
            refine am_blk 79 [(.iastore, 1, 0, 0, .null), (.iload 4, 2, 4, 0, .null), (.iload 5, 2, 5, 0, .null), (.bipush (15), 2, 0, 0, .int (15 : Int32))] (86, [(0, .ref 102), (1, .int v1), (2, .int v2), (3, .int (v3 + (1 : Int32))), (4, .int (v4 + (1 : Int32))), (5, .int (I 100 v4.toNatClampNeg))], [.int (15 : Int32), .int (I 100 v4.toNatClampNeg), .int (v4 + (1 : Int32))], (am_up I102 109 (v3 + (1 : Int32)).toNatClampNeg r102), G102, (gP rd)) (vp_in (v3 + (1 : Int32)) 400 ∧ True) hX hi (by decide +kernel) rfl ⟨g0, trivial⟩ ?_
            refine am_icmp_ne (tgt := 93) hX hi (off := (7)) (by decide +kernel) (by decide) (fun c86 => ?_) (fun c86 => ?_)
            · rw [if_neg c86] at h
              refine am_blk 93 [(.iconst (1), 1, 0, 0, .int (1 : Int32)), (.iadd, 1, 0, 0, .null), (.istore 4, 2, 4, 0, .null), (.goto (117), 3, 0, 214, .null), (.goto (-209), 3, 0, 5, .null)] (5, [(0, .ref 102), (1, .int v1), (2, .int v2), (3, .int (v3 + (1 : Int32))), (4, .int ((v4 + (1 : Int32)) + (1 : Int32))), (5, .int (I 100 v4.toNatClampNeg))], [], (am_up I102 109 (v3 + (1 : Int32)).toNatClampNeg r102), G102, (gP rd)) (True) hX hi (by decide +kernel) rfl trivial ?_
              refine am_sub (L' := [(0, .ref 102), (1, .int v1), (2, .int v2), (3, .int (v3 + (1 : Int32))), (4, .int ((v4 + (1 : Int32)) + (1 : Int32)))]) (by simp) ?_
              exact ih _ _ _ _ _ _ _ h
            · rw [if_pos c86] at h
              refine am_blk 89 [(.iconst (0), 1, 0, 0, .int (0 : Int32)), (.goto (4), 3, 0, 94, .null), (.iadd, 1, 0, 0, .null), (.istore 4, 2, 4, 0, .null), (.goto (117), 3, 0, 214, .null), (.goto (-209), 3, 0, 5, .null)] (5, [(0, .ref 102), (1, .int v1), (2, .int v2), (3, .int (v3 + (1 : Int32))), (4, .int ((v4 + (1 : Int32)) + (0 : Int32))), (5, .int (I 100 v4.toNatClampNeg))], [], (am_up I102 109 (v3 + (1 : Int32)).toNatClampNeg r102), G102, (gP rd)) (True) hX hi (by decide +kernel) rfl trivial ?_
              refine am_sub (L' := [(0, .ref 102), (1, .int v1), (2, .int v2), (3, .int (v3 + (1 : Int32))), (4, .int ((v4 + (1 : Int32)) + (0 : Int32)))]) (by simp) ?_
              exact ih _ _ _ _ _ _ _ h
          · rw [if_pos c50] at h
            obtain ⟨g0, h⟩ := rg_some h
            refine am_blk 53 [(.aload_n 0, 1, 0, 0, .null), (.getfield 44, 3, 11, 0, .null), (.goto (22), 3, 0, 79, .null), (.iastore, 1, 0, 0, .null), (.iload 4, 2, 4, 0, .null), (.iload 5, 2, 5, 0, .null), (.bipush (15), 2, 0, 0, .int (15 : Int32))] (86, [(0, .ref 102), (1, .int v1), (2, .int v2), (3, .int (v3 + (1 : Int32))), (4, .int (v4 + (1 : Int32))), (5, .int (I 100 v4.toNatClampNeg))], [.int (15 : Int32), .int (I 100 v4.toNatClampNeg), .int (v4 + (1 : Int32))], (am_up I 109 (v3 + (1 : Int32)).toNatClampNeg (I 102 0)), G, (gP rd)) (vp_in (v3 + (1 : Int32)) 400 ∧ True) hX hi (by decide +kernel) rfl ⟨g0, trivial⟩ ?_
            refine am_icmp_ne (tgt := 93) hX hi (off := (7)) (by decide +kernel) (by decide) (fun c86 => ?_) (fun c86 => ?_)
            · rw [if_neg c86] at h
              refine am_blk 93 [(.iconst (1), 1, 0, 0, .int (1 : Int32)), (.iadd, 1, 0, 0, .null), (.istore 4, 2, 4, 0, .null), (.goto (117), 3, 0, 214, .null), (.goto (-209), 3, 0, 5, .null)] (5, [(0, .ref 102), (1, .int v1), (2, .int v2), (3, .int (v3 + (1 : Int32))), (4, .int ((v4 + (1 : Int32)) + (1 : Int32))), (5, .int (I 100 v4.toNatClampNeg))], [], (am_up I 109 (v3 + (1 : Int32)).toNatClampNeg (I 102 0)), G, (gP rd)) (True) hX hi (by decide +kernel) rfl trivial ?_
              refine am_sub (L' := [(0, .ref 102), (1, .int v1), (2, .int v2), (3, .int (v3 + (1 : Int32))), (4, .int ((v4 + (1 : Int32)) + (1 : Int32)))]) (by simp) ?_
              exact ih _ _ _ _ _ _ _ h
            · rw [if_pos c86] at h
              refine am_blk 89 [(.iconst (0), 1, 0, 0, .int (0 : Int32)), (.goto (4), 3, 0, 94, .null), (.iadd, 1, 0, 0, .null), (.istore 4, 2, 4, 0, .null), (.goto (117), 3, 0, 214, .null), (.goto (-209), 3, 0, 5, .null)] (5, [(0, .ref 102), (1, .int v1), (2, .int v2), (3, .int (v3 + (1 : Int32))), (4, .int ((v4 + (1 : Int32)) + (0 : Int32))), (5, .int (I 100 v4.toNatClampNeg))], [], (am_up I 109 (v3 + (1 : Int32)).toNatClampNeg (I 102 0)), G, (gP rd)) (True) hX hi (by decide +kernel) rfl trivial ?_
              refine am_sub (L' := [(0, .ref 102), (1, .int v1), (2, .int v2), (3, .int (v3 + (1 : Int32))), (4, .int ((v4 + (1 : Int32)) + (0 : Int32)))]) (by simp) ?_
              exact ih _ _ _ _ _ _ _ h
set_option maxRecDepth 20000 in
set_option maxHeartbeats 4000000 in
theorem c_X13_carryOut_102 (rd : Nat) (I : am_I) (G : am_G) (x1 : Int32) (x2 : Int32) {out : Int32 × am_I × am_G} (h : R_X13_carryOut_102 I G x1 x2 = some out) : am_Ct mX13_carryOut 12 gS [.ref 102, .int x1, .int x2] I G (gP rd) (pI out.1 out.2.1 out.2.2 (gP rd)) := by
  refine am_ofF (by decide +kernel) rfl (by decide) (by omega) (Nat.le_of_ble_eq_true rfl) (fun X ad hX hi => ?_)
  have hi : am_info X 11 cX13_carryOut 6 false (Option.some Jvm.ClassFile.FieldType.int) 12 := hi
  show am_V X 0 0 _ _ ad (0, [(0, .ref 102), (1, .int x1), (2, .int x2)], [], I, G, (gP rd))
  unfold R_X13_carryOut_102 at h
  refine am_blk 0 [(.iconst (-1), 1, 0, 0, .int (-1 : Int32)), (.istore_n 3, 1, 3, 0, .null), (.iload_n 1, 1, 1, 0, .null), (.istore 4, 2, 4, 0, .null)] (5, [(0, .ref 102), (1, .int x1), (2, .int x2), (3, .int (-1 : Int32)), (4, .int x1)], [], I, G, (gP rd)) (True) hX hi (by decide +kernel) rfl trivial ?_
  exact (l_X13_carryOut_102 rd hX hi FU) _ _ _ _ _ _ _ h
noncomputable def L_X13_carryOut_112 (n0 : Nat) (hd : Nat) (I : am_I) (G : am_G) (v1 : Int32) (v2 : Int32) (v3 : Int32) (v4 : Int32) : Option (Int32 × am_I × am_G) := match n0 with
  | 0 => none
  | n + 1 => match hd with
    | _ => (if v2 ≤ v4 then rg (vp_in (0 : Int32) 400) (some ((I 119 (0 : Int32).toNatClampNeg), I, G)) else rg (vp_in v4 800) ((if (f_X13_isPushed_112 I G (I 100 v4.toNatClampNeg)) = 0 then (if (I 100 v4.toNatClampNeg) = (33 : Int32) then (if (I 100 v4.toNatClampNeg) = (33 : Int32) then rg (vp_in v3 400) (rg (vp_in v3 400) (L_X13_carryOut_112 n 0 (am_up I 119 v3.toNatClampNeg (-(I 119 v3.toNatClampNeg))) G v1 v2 v3 (v4 + (1 : Int32)))) else rg (vp_in v3 400) (rg (vp_in v3 400) (L_X13_carryOut_112 n 0 (am_up I 119 v3.toNatClampNeg ((1 : Int32) - (I 119 v3.toNatClampNeg))) G v1 v2 v3 (v4 + (1 : Int32))))) else (if (I 100 v4.toNatClampNeg) = (19 : Int32) then (if (I 100 v4.toNatClampNeg) = (33 : Int32) then rg (vp_in v3 400) (rg (vp_in v3 400) (L_X13_carryOut_112 n 0 (am_up I 119 v3.toNatClampNeg (-(I 119 v3.toNatClampNeg))) G v1 v2 v3 (v4 + (1 : Int32)))) else rg (vp_in v3 400) (rg (vp_in v3 400) (L_X13_carryOut_112 n 0 (am_up I 119 v3.toNatClampNeg ((1 : Int32) - (I 119 v3.toNatClampNeg))) G v1 v2 v3 (v4 + (1 : Int32))))) else (if (I 100 v4.toNatClampNeg) = (17 : Int32) then rg (vp_in (v3 + (-1 : Int32)) 400) (rg (vp_in ((v3 + (-1 : Int32)) + (1 : Int32)) 400) (rg (q_X12_spot_86 I G (I 119 (v3 + (-1 : Int32)).toNatClampNeg) (I 119 ((v3 + (-1 : Int32)) + (1 : Int32)).toNatClampNeg)) (rb (R_X13_height_112 I G (f_X12_spot_86 I G (I 119 (v3 + (-1 : Int32)).toNatClampNeg) (I 119 ((v3 + (-1 : Int32)) + (1 : Int32)).toNatClampNeg))) (fun r101 I101 G101 => rg (vp_in (v3 + (-1 : Int32)) 400) (L_X13_carryOut_112 n 0 (am_up I101 119 (v3 + (-1 : Int32)).toNatClampNeg r101) G101 v1 v2 (v3 + (-1 : Int32)) (v4 + (1 : Int32))))))) else rg (vp_in (v3 + (-1 : Int32)) 400) (rg (vp_in ((v3 + (-1 : Int32)) + (1 : Int32)) 400) (rg (q_X14_both I G (I 100 v4.toNatClampNeg) (I 119 (v3 + (-1 : Int32)).toNatClampNeg) (I 119 ((v3 + (-1 : Int32)) + (1 : Int32)).toNatClampNeg)) (rg (vp_in (v3 + (-1 : Int32)) 400) (L_X13_carryOut_112 n 0 (am_up I 119 (v3 + (-1 : Int32)).toNatClampNeg (f_X14_both I G (I 100 v4.toNatClampNeg) (I 119 (v3 + (-1 : Int32)).toNatClampNeg) (I 119 ((v3 + (-1 : Int32)) + (1 : Int32)).toNatClampNeg))) G v1 v2 (v3 + (-1 : Int32)) (v4 + (1 : Int32))))))))) else (if (I 100 v4.toNatClampNeg) = (15 : Int32) then rg (vp_in (v3 + (1 : Int32)) 400) ((if (I 100 v4.toNatClampNeg) = (15 : Int32) then L_X13_carryOut_112 n 0 (am_up I 119 (v3 + (1 : Int32)).toNatClampNeg (I 112 0)) G v1 v2 (v3 + (1 : Int32)) ((v4 + (1 : Int32)) + (0 : Int32)) else L_X13_carryOut_112 n 0 (am_up I 119 (v3 + (1 : Int32)).toNatClampNeg (I 112 0)) G v1 v2 (v3 + (1 : Int32)) ((v4 + (1 : Int32)) + (1 : Int32)))) else rg (vp_in (v4 + (1 : Int32)) 800) (rb (R_X13_pushed_112 I G (I 100 v4.toNatClampNeg) (I 100 (v4 + (1 : Int32)).toNatClampNeg)) (fun r102 I102 G102 => rg (vp_in (v3 + (1 : Int32)) 400) ((if (I 100 v4.toNatClampNeg) = (15 : Int32) then L_X13_carryOut_112 n 0 (am_up I102 119 (v3 + (1 : Int32)).toNatClampNeg r102) G102 v1 v2 (v3 + (1 : Int32)) ((v4 + (1 : Int32)) + (0 : Int32)) else L_X13_carryOut_112 n 0 (am_up I102 119 (v3 + (1 : Int32)).toNatClampNeg r102) G102 v1 v2 (v3 + (1 : Int32)) ((v4 + (1 : Int32)) + (1 : Int32))))))))))
theorem L_X13_carryOut_112_0 (n : Nat) (I : am_I) (G : am_G) (v1 : Int32) (v2 : Int32) (v3 : Int32) (v4 : Int32) : L_X13_carryOut_112 (n + 1) 0 I G v1 v2 v3 v4 = (if v2 ≤ v4 then rg (vp_in (0 : Int32) 400) (some ((I 119 (0 : Int32).toNatClampNeg), I, G)) else rg (vp_in v4 800) ((if (f_X13_isPushed_112 I G (I 100 v4.toNatClampNeg)) = 0 then (if (I 100 v4.toNatClampNeg) = (33 : Int32) then (if (I 100 v4.toNatClampNeg) = (33 : Int32) then rg (vp_in v3 400) (rg (vp_in v3 400) (L_X13_carryOut_112 n 0 (am_up I 119 v3.toNatClampNeg (-(I 119 v3.toNatClampNeg))) G v1 v2 v3 (v4 + (1 : Int32)))) else rg (vp_in v3 400) (rg (vp_in v3 400) (L_X13_carryOut_112 n 0 (am_up I 119 v3.toNatClampNeg ((1 : Int32) - (I 119 v3.toNatClampNeg))) G v1 v2 v3 (v4 + (1 : Int32))))) else (if (I 100 v4.toNatClampNeg) = (19 : Int32) then (if (I 100 v4.toNatClampNeg) = (33 : Int32) then rg (vp_in v3 400) (rg (vp_in v3 400) (L_X13_carryOut_112 n 0 (am_up I 119 v3.toNatClampNeg (-(I 119 v3.toNatClampNeg))) G v1 v2 v3 (v4 + (1 : Int32)))) else rg (vp_in v3 400) (rg (vp_in v3 400) (L_X13_carryOut_112 n 0 (am_up I 119 v3.toNatClampNeg ((1 : Int32) - (I 119 v3.toNatClampNeg))) G v1 v2 v3 (v4 + (1 : Int32))))) else (if (I 100 v4.toNatClampNeg) = (17 : Int32) then rg (vp_in (v3 + (-1 : Int32)) 400) (rg (vp_in ((v3 + (-1 : Int32)) + (1 : Int32)) 400) (rg (q_X12_spot_86 I G (I 119 (v3 + (-1 : Int32)).toNatClampNeg) (I 119 ((v3 + (-1 : Int32)) + (1 : Int32)).toNatClampNeg)) (rb (R_X13_height_112 I G (f_X12_spot_86 I G (I 119 (v3 + (-1 : Int32)).toNatClampNeg) (I 119 ((v3 + (-1 : Int32)) + (1 : Int32)).toNatClampNeg))) (fun r101 I101 G101 => rg (vp_in (v3 + (-1 : Int32)) 400) (L_X13_carryOut_112 n 0 (am_up I101 119 (v3 + (-1 : Int32)).toNatClampNeg r101) G101 v1 v2 (v3 + (-1 : Int32)) (v4 + (1 : Int32))))))) else rg (vp_in (v3 + (-1 : Int32)) 400) (rg (vp_in ((v3 + (-1 : Int32)) + (1 : Int32)) 400) (rg (q_X14_both I G (I 100 v4.toNatClampNeg) (I 119 (v3 + (-1 : Int32)).toNatClampNeg) (I 119 ((v3 + (-1 : Int32)) + (1 : Int32)).toNatClampNeg)) (rg (vp_in (v3 + (-1 : Int32)) 400) (L_X13_carryOut_112 n 0 (am_up I 119 (v3 + (-1 : Int32)).toNatClampNeg (f_X14_both I G (I 100 v4.toNatClampNeg) (I 119 (v3 + (-1 : Int32)).toNatClampNeg) (I 119 ((v3 + (-1 : Int32)) + (1 : Int32)).toNatClampNeg))) G v1 v2 (v3 + (-1 : Int32)) (v4 + (1 : Int32))))))))) else (if (I 100 v4.toNatClampNeg) = (15 : Int32) then rg (vp_in (v3 + (1 : Int32)) 400) ((if (I 100 v4.toNatClampNeg) = (15 : Int32) then L_X13_carryOut_112 n 0 (am_up I 119 (v3 + (1 : Int32)).toNatClampNeg (I 112 0)) G v1 v2 (v3 + (1 : Int32)) ((v4 + (1 : Int32)) + (0 : Int32)) else L_X13_carryOut_112 n 0 (am_up I 119 (v3 + (1 : Int32)).toNatClampNeg (I 112 0)) G v1 v2 (v3 + (1 : Int32)) ((v4 + (1 : Int32)) + (1 : Int32)))) else rg (vp_in (v4 + (1 : Int32)) 800) (rb (R_X13_pushed_112 I G (I 100 v4.toNatClampNeg) (I 100 (v4 + (1 : Int32)).toNatClampNeg)) (fun r102 I102 G102 => rg (vp_in (v3 + (1 : Int32)) 400) ((if (I 100 v4.toNatClampNeg) = (15 : Int32) then L_X13_carryOut_112 n 0 (am_up I102 119 (v3 + (1 : Int32)).toNatClampNeg r102) G102 v1 v2 (v3 + (1 : Int32)) ((v4 + (1 : Int32)) + (0 : Int32)) else L_X13_carryOut_112 n 0 (am_up I102 119 (v3 + (1 : Int32)).toNatClampNeg r102) G102 v1 v2 (v3 + (1 : Int32)) ((v4 + (1 : Int32)) + (1 : Int32)))))))))) := rfl
theorem L_X13_carryOut_112_z (h : Nat) (I : am_I) (G : am_G) (v1 : Int32) (v2 : Int32) (v3 : Int32) (v4 : Int32) : L_X13_carryOut_112 0 h I G v1 v2 v3 v4 = none := rfl
noncomputable def R_X13_carryOut_112 (I : am_I) (G : am_G) (x1 : Int32) (x2 : Int32) : Option (Int32 × am_I × am_G) := L_X13_carryOut_112 FU 0 I G x1 x2 (-1 : Int32) x1
set_option maxRecDepth 20000 in
set_option maxHeartbeats 4000000 in
theorem l_X13_carryOut_112 (rd : Nat) {X : am_X} {ad : Nat → Nat} (hX : am_okz X ad) (hi : am_info X 11 cX13_carryOut 6 false (Option.some Jvm.ClassFile.FieldType.int) 12) (n : Nat) : (∀ (I : am_I) (G : am_G) (v1 : Int32) (v2 : Int32) (v3 : Int32) (v4 : Int32) (out : Int32 × am_I × am_G), L_X13_carryOut_112 n 0 I G v1 v2 v3 v4 = some out → am_V X 0 0 (am_Rt X gS ad (pI out.1 out.2.1 out.2.2 (gP rd))) gS ad (5, [(0, .ref 112), (1, .int v1), (2, .int v2), (3, .int v3), (4, .int v4)], [], I, G, (gP rd))) := by
  induction n with
  | zero => exact fun I G v1 v2 v3 v4 out h => by rw [L_X13_carryOut_112_z] at h; cases h
  | succ n ih =>
    · intro I G v1 v2 v3 v4 out h
      rw [L_X13_carryOut_112_0] at h
      refine am_blk 5 [(.iload 4, 2, 4, 0, .null), (.iload_n 2, 1, 2, 0, .null)] (8, [(0, .ref 112), (1, .int v1), (2, .int v2), (3, .int v3), (4, .int v4)], [.int v2, .int v4], I, G, (gP rd)) (True) hX hi (by decide +kernel) rfl trivial ?_
      refine am_icmp_ge (tgt := 217) hX hi (off := (209)) (by decide +kernel) (by decide) (fun c8 => ?_) (fun c8 => ?_)
      · rw [if_pos c8] at h
        obtain ⟨g0, h⟩ := rg_some h
        refine am_blk 217 [(.aload_n 0, 1, 0, 0, .null), (.getfield 35, 3, 11, 11, .null), (.iconst (0), 1, 0, 0, .int (0 : Int32)), (.iaload, 1, 0, 0, .null)] (223, [(0, .ref 112), (1, .int v1), (2, .int v2), (3, .int v3), (4, .int v4)], [.int (I 119 (0 : Int32).toNatClampNeg)], I, G, (gP rd)) (vp_in (0 : Int32) 400 ∧ True) hX hi (by decide +kernel) rfl ⟨g0, trivial⟩ ?_
        cases h
        refine am_iret hX hi rfl rfl (by decide +kernel) ?_
        exact ⟨rfl, rfl, rfl, rfl⟩
      · rw [if_neg c8] at h
        obtain ⟨g0, h⟩ := rg_some h
        refine am_blk 11 [(.aload_n 0, 1, 0, 0, .null), (.getfield 3, 3, 11, 14, .null), (.getfield 67, 3, 12, 11, .null), (.getfield 238, 3, 10, 20, .null), (.iload 4, 2, 4, 0, .null), (.iaload, 1, 0, 0, .null), (.istore 5, 2, 5, 0, .null), (.iinc 4 (1), 3, 4, 0, .int (1 : Int32)), (.aload_n 0, 1, 0, 0, .null), (.iload 5, 2, 5, 0, .null)] (32, [(0, .ref 112), (1, .int v1), (2, .int v2), (3, .int v3), (4, .int (v4 + (1 : Int32))), (5, .int (I 100 v4.toNatClampNeg))], [.int (I 100 v4.toNatClampNeg), .ref 112], I, G, (gP rd)) (vp_in v4 800 ∧ True) hX hi (by decide +kernel) rfl ⟨g0, trivial⟩ ?_
        refine am_callV hX hi (M := mX13_isPushed) (idx := 241) (d' := 1) (b := 112) (ci := 11) (As := [.int (I 100 v4.toNatClampNeg)]) (rest := []) mkX13_isPushed miX13_isPushed mvX13_isPushed (by decide +kernel) (by decide +kernel) rfl (by decide +kernel) rfl ⟨by omega, by decide, Nat.le_of_ble_eq_true rfl⟩ rfl (c_X13_isPushed_112 _ I G (I 100 v4.toNatClampNeg)) ?_
        rintro r9 I9 G9 P9 ⟨e0, e1, e2, e3⟩
        rw [e0, e1, e2, e3]
        show am_V X 0 0 _ _ ad (35, [(0, .ref 112), (1, .int v1), (2, .int v2), (3, .int v3), (4, .int (v4 + (1 : Int32))), (5, .int (I 100 v4.toNatClampNeg))], [.int (f_X13_isPushed_112 I G (I 100 v4.toNatClampNeg))], I, G, (gP rd))
        refine am_if_eq (tgt := 100) hX hi (off := (65)) (by decide +kernel) (by decide) (fun c35 => ?_) (fun c35 => ?_)
        · rw [if_pos c35] at h
          refine am_blk 100 [(.iload 5, 2, 5, 0, .null), (.bipush (33), 2, 0, 0, .int (33 : Int32))] (104, [(0, .ref 112), (1, .int v1), (2, .int v2), (3, .int v3), (4, .int (v4 + (1 : Int32))), (5, .int (I 100 v4.toNatClampNeg))], [.int (33 : Int32), .int (I 100 v4.toNatClampNeg)], I, G, (gP rd)) (True) hX hi (by decide +kernel) rfl trivial ?_
          refine am_icmp_eq (tgt := 114) hX hi (off := (10)) (by decide +kernel) (by decide) (fun c104 => ?_) (fun c104 => ?_)
          · rw [if_pos c104] at h
            refine am_blk 114 [(.aload_n 0, 1, 0, 0, .null), (.getfield 35, 3, 11, 11, .null), (.iload_n 3, 1, 3, 0, .null), (.iload 5, 2, 5, 0, .null), (.bipush (33), 2, 0, 0, .int (33 : Int32))] (123, [(0, .ref 112), (1, .int v1), (2, .int v2), (3, .int v3), (4, .int (v4 + (1 : Int32))), (5, .int (I 100 v4.toNatClampNeg))], [.int (33 : Int32), .int (I 100 v4.toNatClampNeg), .int v3, .ref 119], I, G, (gP rd)) (True) hX hi (by decide +kernel) rfl trivial ?_
            refine am_icmp_ne (tgt := 136) hX hi (off := (13)) (by decide +kernel) (by decide) (fun c123 => ?_) (fun c123 => ?_)
            · rw [if_neg c123] at h
              obtain ⟨g0, h⟩ := rg_some h
              obtain ⟨g1, h⟩ := rg_some h
              refine am_blk 136 [(.iconst (1), 1, 0, 0, .int (1 : Int32)), (.aload_n 0, 1, 0, 0, .null), (.getfield 35, 3, 11, 11, .null), (.iload_n 3, 1, 3, 0, .null), (.iaload, 1, 0, 0, .null), (.isub, 1, 0, 0, .null), (.iastore, 1, 0, 0, .null), (.goto (69), 3, 0, 214, .null), (.goto (-209), 3, 0, 5, .null)] (5, [(0, .ref 112), (1, .int v1), (2, .int v2), (3, .int v3), (4, .int (v4 + (1 : Int32))), (5, .int (I 100 v4.toNatClampNeg))], [], (am_up I 119 v3.toNatClampNeg ((1 : Int32) - (I 119 v3.toNatClampNeg))), G, (gP rd)) (vp_in v3 400 ∧ vp_in v3 400 ∧ True) hX hi (by decide +kernel) rfl ⟨g0, g1, trivial⟩ ?_
              refine am_sub (L' := [(0, .ref 112), (1, .int v1), (2, .int v2), (3, .int v3), (4, .int (v4 + (1 : Int32)))]) (by simp) ?_
              exact ih _ _ _ _ _ _ _ h
            · rw [if_pos c123] at h
              obtain ⟨g0, h⟩ := rg_some h
              obtain ⟨g1, h⟩ := rg_some h
              refine am_blk 126 [(.aload_n 0, 1, 0, 0, .null), (.getfield 35, 3, 11, 11, .null), (.iload_n 3, 1, 3, 0, .null), (.iaload, 1, 0, 0, .null), (.ineg, 1, 0, 0, .null), (.goto (11), 3, 0, 144, .null), (.iastore, 1, 0, 0, .null), (.goto (69), 3, 0, 214, .null), (.goto (-209), 3, 0, 5, .null)] (5, [(0, .ref 112), (1, .int v1), (2, .int v2), (3, .int v3), (4, .int (v4 + (1 : Int32))), (5, .int (I 100 v4.toNatClampNeg))], [], (am_up I 119 v3.toNatClampNeg (-(I 119 v3.toNatClampNeg))), G, (gP rd)) (vp_in v3 400 ∧ vp_in v3 400 ∧ True) hX hi (by decide +kernel) rfl ⟨g0, g1, trivial⟩ ?_
              refine am_sub (L' := [(0, .ref 112), (1, .int v1), (2, .int v2), (3, .int v3), (4, .int (v4 + (1 : Int32)))]) (by simp) ?_
              exact ih _ _ _ _ _ _ _ h
          · rw [if_neg c104] at h
            refine am_blk 107 [(.iload 5, 2, 5, 0, .null), (.bipush (19), 2, 0, 0, .int (19 : Int32))] (111, [(0, .ref 112), (1, .int v1), (2, .int v2), (3, .int v3), (4, .int (v4 + (1 : Int32))), (5, .int (I 100 v4.toNatClampNeg))], [.int (19 : Int32), .int (I 100 v4.toNatClampNeg)], I, G, (gP rd)) (True) hX hi (by decide +kernel) rfl trivial ?_
            refine am_icmp_ne (tgt := 148) hX hi (off := (37)) (by decide +kernel) (by decide) (fun c111 => ?_) (fun c111 => ?_)
            · rw [if_neg c111] at h
              refine am_blk 148 [(.iinc 3 (-1), 3, 3, 0, .int (-1 : Int32)), (.aload_n 0, 1, 0, 0, .null), (.getfield 35, 3, 11, 11, .null), (.iload_n 3, 1, 3, 0, .null), (.iload 5, 2, 5, 0, .null), (.bipush (17), 2, 0, 0, .int (17 : Int32))] (160, [(0, .ref 112), (1, .int v1), (2, .int v2), (3, .int (v3 + (-1 : Int32))), (4, .int (v4 + (1 : Int32))), (5, .int (I 100 v4.toNatClampNeg))], [.int (17 : Int32), .int (I 100 v4.toNatClampNeg), .int (v3 + (-1 : Int32)), .ref 119], I, G, (gP rd)) (True) hX hi (by decide +kernel) rfl trivial ?_
              refine am_icmp_ne (tgt := 194) hX hi (off := (34)) (by decide +kernel) (by decide) (fun c160 => ?_) (fun c160 => ?_)
              · rw [if_neg c160] at h
                obtain ⟨g0, h⟩ := rg_some h
                obtain ⟨g1, h⟩ := rg_some h
                refine am_blk 194 [(.iload 5, 2, 5, 0, .null), (.aload_n 0, 1, 0, 0, .null), (.getfield 35, 3, 11, 11, .null), (.iload_n 3, 1, 3, 0, .null), (.iaload, 1, 0, 0, .null), (.aload_n 0, 1, 0, 0, .null), (.getfield 35, 3, 11, 11, .null), (.iload_n 3, 1, 3, 0, .null), (.iconst (1), 1, 0, 0, .int (1 : Int32)), (.iadd, 1, 0, 0, .null), (.iaload, 1, 0, 0, .null)] (210, [(0, .ref 112), (1, .int v1), (2, .int v2), (3, .int (v3 + (-1 : Int32))), (4, .int (v4 + (1 : Int32))), (5, .int (I 100 v4.toNatClampNeg))], [.int (I 119 ((v3 + (-1 : Int32)) + (1 : Int32)).toNatClampNeg), .int (I 119 (v3 + (-1 : Int32)).toNatClampNeg), .int (I 100 v4.toNatClampNeg), .int (v3 + (-1 : Int32)), .ref 119], I, G, (gP rd)) (vp_in (v3 + (-1 : Int32)) 400 ∧ vp_in ((v3 + (-1 : Int32)) + (1 : Int32)) 400 ∧ True) hX hi (by decide +kernel) rfl ⟨g0, g1, trivial⟩ ?_
                obtain ⟨hq1, h⟩ := rg_some h
                refine am_callSN hX hi (M := mX14_both) (idx := 247) (d' := 1) (As := [.int (I 100 v4.toNatClampNeg), .int (I 119 (v3 + (-1 : Int32)).toNatClampNeg), .int (I 119 ((v3 + (-1 : Int32)) + (1 : Int32)).toNatClampNeg)]) (rest := [.int (v3 + (-1 : Int32)), .ref 119]) mkX14_both msX14_both (by decide +kernel) (by decide +kernel) rfl ⟨by omega, by decide, Nat.le_of_ble_eq_true rfl⟩ rfl (c_X14_both I G (I 100 v4.toNatClampNeg) (I 119 (v3 + (-1 : Int32)).toNatClampNeg) (I 119 ((v3 + (-1 : Int32)) + (1 : Int32)).toNatClampNeg) hq1) ?_
                rintro r9 I9 G9 P9 ⟨e0, e1, e2, e3⟩
                rw [e0, e1, e2, e3]
                show am_V X 0 0 _ _ ad (213, [(0, .ref 112), (1, .int v1), (2, .int v2), (3, .int (v3 + (-1 : Int32))), (4, .int (v4 + (1 : Int32))), (5, .int (I 100 v4.toNatClampNeg))], [.int (f_X14_both I G (I 100 v4.toNatClampNeg) (I 119 (v3 + (-1 : Int32)).toNatClampNeg) (I 119 ((v3 + (-1 : Int32)) + (1 : Int32)).toNatClampNeg)), .int (v3 + (-1 : Int32)), .ref 119], I, G, (gP rd))
                obtain ⟨g0, h⟩ := rg_some h
                refine am_blk 213 [(.iastore, 1, 0, 0, .null), (.goto (-209), 3, 0, 5, .null)] (5, [(0, .ref 112), (1, .int v1), (2, .int v2), (3, .int (v3 + (-1 : Int32))), (4, .int (v4 + (1 : Int32))), (5, .int (I 100 v4.toNatClampNeg))], [], (am_up I 119 (v3 + (-1 : Int32)).toNatClampNeg (f_X14_both I G (I 100 v4.toNatClampNeg) (I 119 (v3 + (-1 : Int32)).toNatClampNeg) (I 119 ((v3 + (-1 : Int32)) + (1 : Int32)).toNatClampNeg))), G, (gP rd)) (vp_in (v3 + (-1 : Int32)) 400 ∧ True) hX hi (by decide +kernel) rfl ⟨g0, trivial⟩ ?_
                refine am_sub (L' := [(0, .ref 112), (1, .int v1), (2, .int v2), (3, .int (v3 + (-1 : Int32))), (4, .int (v4 + (1 : Int32)))]) (by simp) ?_
                exact ih _ _ _ _ _ _ _ h
              · rw [if_pos c160] at h
                obtain ⟨g0, h⟩ := rg_some h
                obtain ⟨g1, h⟩ := rg_some h
                refine am_blk 163 [(.aload_n 0, 1, 0, 0, .null), (.aload_n 0, 1, 0, 0, .null), (.getfield 3, 3, 11, 14, .null), (.getfield 67, 3, 12, 11, .null), (.aload_n 0, 1, 0, 0, .null), (.getfield 35, 3, 11, 11, .null), (.iload_n 3, 1, 3, 0, .null), (.iaload, 1, 0, 0, .null), (.aload_n 0, 1, 0, 0, .null), (.getfield 35, 3, 11, 11, .null), (.iload_n 3, 1, 3, 0, .null), (.iconst (1), 1, 0, 0, .int (1 : Int32)), (.iadd, 1, 0, 0, .null), (.iaload, 1, 0, 0, .null)] (185, [(0, .ref 112), (1, .int v1), (2, .int v2), (3, .int (v3 + (-1 : Int32))), (4, .int (v4 + (1 : Int32))), (5, .int (I 100 v4.toNatClampNeg))], [.int (I 119 ((v3 + (-1 : Int32)) + (1 : Int32)).toNatClampNeg), .int (I 119 (v3 + (-1 : Int32)).toNatClampNeg), .ref 86, .ref 112, .int (v3 + (-1 : Int32)), .ref 119], I, G, (gP rd)) (vp_in (v3 + (-1 : Int32)) 400 ∧ vp_in ((v3 + (-1 : Int32)) + (1 : Int32)) 400 ∧ True) hX hi (by decide +kernel) rfl ⟨g0, g1, trivial⟩ ?_
                obtain ⟨hq1, h⟩ := rg_some h
                refine am_callV hX hi (M := mX12_spot) (idx := 139) (d' := 2) (b := 86) (ci := 10) (As := [.int (I 119 (v3 + (-1 : Int32)).toNatClampNeg), .int (I 119 ((v3 + (-1 : Int32)) + (1 : Int32)).toNatClampNeg)]) (rest := [.ref 112, .int (v3 + (-1 : Int32)), .ref 119]) mkX12_spot miX12_spot mvX12_spot (by decide +kernel) (by decide +kernel) rfl (by decide +kernel) rfl ⟨by omega, by decide, Nat.le_of_ble_eq_true rfl⟩ rfl (c_X12_spot_86 _ I G (I 119 (v3 + (-1 : Int32)).toNatClampNeg) (I 119 ((v3 + (-1 : Int32)) + (1 : Int32)).toNatClampNeg) hq1) ?_
                rintro r9 I9 G9 P9 ⟨e0, e1, e2, e3⟩
                rw [e0, e1, e2, e3]
                show am_V X 0 0 _ _ ad (188, [(0, .ref 112), (1, .int v1), (2, .int v2), (3, .int (v3 + (-1 : Int32))), (4, .int (v4 + (1 : Int32))), (5, .int (I 100 v4.toNatClampNeg))], [.int (f_X12_spot_86 I G (I 119 (v3 + (-1 : Int32)).toNatClampNeg) (I 119 ((v3 + (-1 : Int32)) + (1 : Int32)).toNatClampNeg)), .ref 112, .int (v3 + (-1 : Int32)), .ref 119], I, G, (gP rd))
                obtain ⟨r101, I101, G101, hc, h⟩ := rb_some h
                refine am_callV hX hi (M := mX13_height) (idx := 169) (d' := 9) (b := 112) (ci := 11) (As := [.int (f_X12_spot_86 I G (I 119 (v3 + (-1 : Int32)).toNatClampNeg) (I 119 ((v3 + (-1 : Int32)) + (1 : Int32)).toNatClampNeg))]) (rest := [.int (v3 + (-1 : Int32)), .ref 119]) mkX13_height miX13_height mvX13_height (by decide +kernel) (by decide +kernel) rfl (by decide +kernel) rfl ⟨by omega, by decide, Nat.le_of_ble_eq_true rfl⟩ rfl (c_X13_height_112 _ I G (f_X12_spot_86 I G (I 119 (v3 + (-1 : Int32)).toNatClampNeg) (I 119 ((v3 + (-1 : Int32)) + (1 : Int32)).toNatClampNeg)) hc) ?_
                rintro r9 I9 G9 P9 ⟨e0, e1, e2, e3⟩
                rw [e0, e1, e2, e3]
                show am_V X 0 0 _ _ ad (191, [(0, .ref 112), (1, .int v1), (2, .int v2), (3, .int (v3 + (-1 : Int32))), (4, .int (v4 + (1 : Int32))), (5, .int (I 100 v4.toNatClampNeg))], [.int r101, .int (v3 + (-1 : Int32)), .ref 119], I101, G101, (gP rd))
                obtain ⟨g0, h⟩ := rg_some h
                refine am_blk 191 [(.goto (22), 3, 0, 213, .null), (.iastore, 1, 0, 0, .null), (.goto (-209), 3, 0, 5, .null)] (5, [(0, .ref 112), (1, .int v1), (2, .int v2), (3, .int (v3 + (-1 : Int32))), (4, .int (v4 + (1 : Int32))), (5, .int (I 100 v4.toNatClampNeg))], [], (am_up I101 119 (v3 + (-1 : Int32)).toNatClampNeg r101), G101, (gP rd)) (vp_in (v3 + (-1 : Int32)) 400 ∧ True) hX hi (by decide +kernel) rfl ⟨g0, trivial⟩ ?_
                refine am_sub (L' := [(0, .ref 112), (1, .int v1), (2, .int v2), (3, .int (v3 + (-1 : Int32))), (4, .int (v4 + (1 : Int32)))]) (by simp) ?_
                exact ih _ _ _ _ _ _ _ h
            · rw [if_pos c111] at h
              refine am_blk 114 [(.aload_n 0, 1, 0, 0, .null), (.getfield 35, 3, 11, 11, .null), (.iload_n 3, 1, 3, 0, .null), (.iload 5, 2, 5, 0, .null), (.bipush (33), 2, 0, 0, .int (33 : Int32))] (123, [(0, .ref 112), (1, .int v1), (2, .int v2), (3, .int v3), (4, .int (v4 + (1 : Int32))), (5, .int (I 100 v4.toNatClampNeg))], [.int (33 : Int32), .int (I 100 v4.toNatClampNeg), .int v3, .ref 119], I, G, (gP rd)) (True) hX hi (by decide +kernel) rfl trivial ?_
              refine am_icmp_ne (tgt := 136) hX hi (off := (13)) (by decide +kernel) (by decide) (fun c123 => ?_) (fun c123 => ?_)
              · rw [if_neg c123] at h
                obtain ⟨g0, h⟩ := rg_some h
                obtain ⟨g1, h⟩ := rg_some h
                refine am_blk 136 [(.iconst (1), 1, 0, 0, .int (1 : Int32)), (.aload_n 0, 1, 0, 0, .null), (.getfield 35, 3, 11, 11, .null), (.iload_n 3, 1, 3, 0, .null), (.iaload, 1, 0, 0, .null), (.isub, 1, 0, 0, .null), (.iastore, 1, 0, 0, .null), (.goto (69), 3, 0, 214, .null), (.goto (-209), 3, 0, 5, .null)] (5, [(0, .ref 112), (1, .int v1), (2, .int v2), (3, .int v3), (4, .int (v4 + (1 : Int32))), (5, .int (I 100 v4.toNatClampNeg))], [], (am_up I 119 v3.toNatClampNeg ((1 : Int32) - (I 119 v3.toNatClampNeg))), G, (gP rd)) (vp_in v3 400 ∧ vp_in v3 400 ∧ True) hX hi (by decide +kernel) rfl ⟨g0, g1, trivial⟩ ?_
                refine am_sub (L' := [(0, .ref 112), (1, .int v1), (2, .int v2), (3, .int v3), (4, .int (v4 + (1 : Int32)))]) (by simp) ?_
                exact ih _ _ _ _ _ _ _ h
              · rw [if_pos c123] at h
                obtain ⟨g0, h⟩ := rg_some h
                obtain ⟨g1, h⟩ := rg_some h
                refine am_blk 126 [(.aload_n 0, 1, 0, 0, .null), (.getfield 35, 3, 11, 11, .null), (.iload_n 3, 1, 3, 0, .null), (.iaload, 1, 0, 0, .null), (.ineg, 1, 0, 0, .null), (.goto (11), 3, 0, 144, .null), (.iastore, 1, 0, 0, .null), (.goto (69), 3, 0, 214, .null), (.goto (-209), 3, 0, 5, .null)] (5, [(0, .ref 112), (1, .int v1), (2, .int v2), (3, .int v3), (4, .int (v4 + (1 : Int32))), (5, .int (I 100 v4.toNatClampNeg))], [], (am_up I 119 v3.toNatClampNeg (-(I 119 v3.toNatClampNeg))), G, (gP rd)) (vp_in v3 400 ∧ vp_in v3 400 ∧ True) hX hi (by decide +kernel) rfl ⟨g0, g1, trivial⟩ ?_
                refine am_sub (L' := [(0, .ref 112), (1, .int v1), (2, .int v2), (3, .int v3), (4, .int (v4 + (1 : Int32)))]) (by simp) ?_
                exact ih _ _ _ _ _ _ _ h
        · rw [if_neg c35] at h
          refine am_blk 38 [(.iinc 3 (1), 3, 3, 0, .int (1 : Int32)), (.aload_n 0, 1, 0, 0, .null), (.getfield 35, 3, 11, 11, .null), (.iload_n 3, 1, 3, 0, .null), (.iload 5, 2, 5, 0, .null), (.bipush (15), 2, 0, 0, .int (15 : Int32))] (50, [(0, .ref 112), (1, .int v1), (2, .int v2), (3, .int (v3 + (1 : Int32))), (4, .int (v4 + (1 : Int32))), (5, .int (I 100 v4.toNatClampNeg))], [.int (15 : Int32), .int (I 100 v4.toNatClampNeg), .int (v3 + (1 : Int32)), .ref 119], I, G, (gP rd)) (True) hX hi (by decide +kernel) rfl trivial ?_
          refine am_icmp_ne (tgt := 60) hX hi (off := (10)) (by decide +kernel) (by decide) (fun c50 => ?_) (fun c50 => ?_)
          · rw [if_neg c50] at h
            obtain ⟨g0, h⟩ := rg_some h
            refine am_blk 60 [(.aload_n 0, 1, 0, 0, .null), (.iload 5, 2, 5, 0, .null), (.aload_n 0, 1, 0, 0, .null), (.getfield 3, 3, 11, 14, .null), (.getfield 67, 3, 12, 11, .null), (.getfield 238, 3, 10, 20, .null), (.iload 4, 2, 4, 0, .null), (.iaload, 1, 0, 0, .null)] (76, [(0, .ref 112), (1, .int v1), (2, .int v2), (3, .int (v3 + (1 : Int32))), (4, .int (v4 + (1 : Int32))), (5, .int (I 100 v4.toNatClampNeg))], [.int (I 100 (v4 + (1 : Int32)).toNatClampNeg), .int (I 100 v4.toNatClampNeg), .ref 112, .int (v3 + (1 : Int32)), .ref 119], I, G, (gP rd)) (vp_in (v4 + (1 : Int32)) 800 ∧ True) hX hi (by decide +kernel) rfl ⟨g0, trivial⟩ ?_
            obtain ⟨r102, I102, G102, hc, h⟩ := rb_some h
            refine am_callV hX hi (M := mX13_pushed) (idx := 244) (d' := 11) (b := 112) (ci := 11) (As := [.int (I 100 v4.toNatClampNeg), .int (I 100 (v4 + (1 : Int32)).toNatClampNeg)]) (rest := [.int (v3 + (1 : Int32)), .ref 119]) mkX13_pushed miX13_pushed mvX13_pushed (by decide +kernel) (by decide +kernel) rfl (by decide +kernel) rfl ⟨by omega, by decide, Nat.le_of_ble_eq_true rfl⟩ rfl (c_X13_pushed_112 _ I G (I 100 v4.toNatClampNeg) (I 100 (v4 + (1 : Int32)).toNatClampNeg) hc) ?_
            rintro r9 I9 G9 P9 ⟨e0, e1, e2, e3⟩
            rw [e0, e1, e2, e3]
            show am_V X 0 0 _ _ ad (79, [(0, .ref 112), (1, .int v1), (2, .int v2), (3, .int (v3 + (1 : Int32))), (4, .int (v4 + (1 : Int32))), (5, .int (I 100 v4.toNatClampNeg))], [.int r102, .int (v3 + (1 : Int32)), .ref 119], I102, G102, (gP rd))
            obtain ⟨g0, h⟩ := rg_some h
            refine am_blk 79 [(.iastore, 1, 0, 0, .null), (.iload 4, 2, 4, 0, .null), (.iload 5, 2, 5, 0, .null), (.bipush (15), 2, 0, 0, .int (15 : Int32))] (86, [(0, .ref 112), (1, .int v1), (2, .int v2), (3, .int (v3 + (1 : Int32))), (4, .int (v4 + (1 : Int32))), (5, .int (I 100 v4.toNatClampNeg))], [.int (15 : Int32), .int (I 100 v4.toNatClampNeg), .int (v4 + (1 : Int32))], (am_up I102 119 (v3 + (1 : Int32)).toNatClampNeg r102), G102, (gP rd)) (vp_in (v3 + (1 : Int32)) 400 ∧ True) hX hi (by decide +kernel) rfl ⟨g0, trivial⟩ ?_
            refine am_icmp_ne (tgt := 93) hX hi (off := (7)) (by decide +kernel) (by decide) (fun c86 => ?_) (fun c86 => ?_)
            · rw [if_neg c86] at h
              refine am_blk 93 [(.iconst (1), 1, 0, 0, .int (1 : Int32)), (.iadd, 1, 0, 0, .null), (.istore 4, 2, 4, 0, .null), (.goto (117), 3, 0, 214, .null), (.goto (-209), 3, 0, 5, .null)] (5, [(0, .ref 112), (1, .int v1), (2, .int v2), (3, .int (v3 + (1 : Int32))), (4, .int ((v4 + (1 : Int32)) + (1 : Int32))), (5, .int (I 100 v4.toNatClampNeg))], [], (am_up I102 119 (v3 + (1 : Int32)).toNatClampNeg r102), G102, (gP rd)) (True) hX hi (by decide +kernel) rfl trivial ?_
              refine am_sub (L' := [(0, .ref 112), (1, .int v1), (2, .int v2), (3, .int (v3 + (1 : Int32))), (4, .int ((v4 + (1 : Int32)) + (1 : Int32)))]) (by simp) ?_
              exact ih _ _ _ _ _ _ _ h
            · rw [if_pos c86] at h
              refine am_blk 89 [(.iconst (0), 1, 0, 0, .int (0 : Int32)), (.goto (4), 3, 0, 94, .null), (.iadd, 1, 0, 0, .null), (.istore 4, 2, 4, 0, .null), (.goto (117), 3, 0, 214, .null), (.goto (-209), 3, 0, 5, .null)] (5, [(0, .ref 112), (1, .int v1), (2, .int v2), (3, .int (v3 + (1 : Int32))), (4, .int ((v4 + (1 : Int32)) + (0 : Int32))), (5, .int (I 100 v4.toNatClampNeg))], [], (am_up I102 119 (v3 + (1 : Int32)).toNatClampNeg r102), G102, (gP rd)) (True) hX hi (by decide +kernel) rfl trivial ?_
              refine am_sub (L' := [(0, .ref 112), (1, .int v1), (2, .int v2), (3, .int (v3 + (1 : Int32))), (4, .int ((v4 + (1 : Int32)) + (0 : Int32)))]) (by simp) ?_
              exact ih _ _ _ _ _ _ _ h
          · rw [if_pos c50] at h
            obtain ⟨g0, h⟩ := rg_some h
            refine am_blk 53 [(.aload_n 0, 1, 0, 0, .null), (.getfield 44, 3, 11, 0, .null), (.goto (22), 3, 0, 79, .null), (.iastore, 1, 0, 0, .null), (.iload 4, 2, 4, 0, .null), (.iload 5, 2, 5, 0, .null), (.bipush (15), 2, 0, 0, .int (15 : Int32))] (86, [(0, .ref 112), (1, .int v1), (2, .int v2), (3, .int (v3 + (1 : Int32))), (4, .int (v4 + (1 : Int32))), (5, .int (I 100 v4.toNatClampNeg))], [.int (15 : Int32), .int (I 100 v4.toNatClampNeg), .int (v4 + (1 : Int32))], (am_up I 119 (v3 + (1 : Int32)).toNatClampNeg (I 112 0)), G, (gP rd)) (vp_in (v3 + (1 : Int32)) 400 ∧ True) hX hi (by decide +kernel) rfl ⟨g0, trivial⟩ ?_
            refine am_icmp_ne (tgt := 93) hX hi (off := (7)) (by decide +kernel) (by decide) (fun c86 => ?_) (fun c86 => ?_)
            · rw [if_neg c86] at h
              refine am_blk 93 [(.iconst (1), 1, 0, 0, .int (1 : Int32)), (.iadd, 1, 0, 0, .null), (.istore 4, 2, 4, 0, .null), (.goto (117), 3, 0, 214, .null), (.goto (-209), 3, 0, 5, .null)] (5, [(0, .ref 112), (1, .int v1), (2, .int v2), (3, .int (v3 + (1 : Int32))), (4, .int ((v4 + (1 : Int32)) + (1 : Int32))), (5, .int (I 100 v4.toNatClampNeg))], [], (am_up I 119 (v3 + (1 : Int32)).toNatClampNeg (I 112 0)), G, (gP rd)) (True) hX hi (by decide +kernel) rfl trivial ?_
              refine am_sub (L' := [(0, .ref 112), (1, .int v1), (2, .int v2), (3, .int (v3 + (1 : Int32))), (4, .int ((v4 + (1 : Int32)) + (1 : Int32)))]) (by simp) ?_
              exact ih _ _ _ _ _ _ _ h
            · rw [if_pos c86] at h
              refine am_blk 89 [(.iconst (0), 1, 0, 0, .int (0 : Int32)), (.goto (4), 3, 0, 94, .null), (.iadd, 1, 0, 0, .null), (.istore 4, 2, 4, 0, .null), (.goto (117), 3, 0, 214, .null), (.goto (-209), 3, 0, 5, .null)] (5, [(0, .ref 112), (1, .int v1), (2, .int v2), (3, .int (v3 + (1 : Int32))), (4, .int ((v4 + (1 : Int32)) + (0 : Int32))), (5, .int (I 100 v4.toNatClampNeg))], [], (am_up I 119 (v3 + (1 : Int32)).toNatClampNeg (I 112 0)), G, (gP rd)) (True) hX hi (by decide +kernel) rfl trivial ?_
              refine am_sub (L' := [(0, .ref 112), (1, .int v1), (2, .int v2), (3, .int (v3 + (1 : Int32))), (4, .int ((v4 + (1 : Int32)) + (0 : Int32)))]) (by simp) ?_
              exact ih _ _ _ _ _ _ _ h
set_option maxRecDepth 20000 in
set_option maxHeartbeats 4000000 in
theorem c_X13_carryOut_112 (rd : Nat) (I : am_I) (G : am_G) (x1 : Int32) (x2 : Int32) {out : Int32 × am_I × am_G} (h : R_X13_carryOut_112 I G x1 x2 = some out) : am_Ct mX13_carryOut 12 gS [.ref 112, .int x1, .int x2] I G (gP rd) (pI out.1 out.2.1 out.2.2 (gP rd)) := by
  refine am_ofF (by decide +kernel) rfl (by decide) (by omega) (Nat.le_of_ble_eq_true rfl) (fun X ad hX hi => ?_)
  have hi : am_info X 11 cX13_carryOut 6 false (Option.some Jvm.ClassFile.FieldType.int) 12 := hi
  show am_V X 0 0 _ _ ad (0, [(0, .ref 112), (1, .int x1), (2, .int x2)], [], I, G, (gP rd))
  unfold R_X13_carryOut_112 at h
  refine am_blk 0 [(.iconst (-1), 1, 0, 0, .int (-1 : Int32)), (.istore_n 3, 1, 3, 0, .null), (.iload_n 1, 1, 1, 0, .null), (.istore 4, 2, 4, 0, .null)] (5, [(0, .ref 112), (1, .int x1), (2, .int x2), (3, .int (-1 : Int32)), (4, .int x1)], [], I, G, (gP rd)) (True) hX hi (by decide +kernel) rfl trivial ?_
  exact (l_X13_carryOut_112 rd hX hi FU) _ _ _ _ _ _ _ h
noncomputable def L_X14_isOrderLine_79 (n0 : Nat) (hd : Nat) (I : am_I) (G : am_G) (v1 : Int32) (v2 : Int32) (v3 : Int32) : Option (Int32 × am_I × am_G) := match n0 with
  | 0 => none
  | n + 1 => match hd with
    | 0 => rg (vp_in (I 79 9) 401) (L_X14_isOrderLine_79 n 1 (am_up I 84 (I 79 9).toNatClampNeg (14 : Int32)) G v1 0 0)
    | 1 => L_X14_isOrderLine_79 n 2 (am_up I 79 9 ((I 79 9) + (1 : Int32))) G v1 0 0
    | 2 => L_X14_isOrderLine_79 n 3 I G v1 (if (20 : Int32) < (I 123 14) then (20 : Int32) else (I 123 14)) 0
    | 3 => L_X14_isOrderLine_79 n 4 (am_up I 123 14 ((I 123 14) + (1 : Int32))) G v1 v2 0
    | 4 => (if v1 = (12 : Int32) then L_X14_isOrderLine_79 n 5 I G v1 v2 0 else L_X14_isOrderLine_79 n 9 I G v1 v2 0)
    | 5 => rg (q_X14_isWay_79 I G (17 : Int32)) ((if (f_X14_isWay_79 I G (17 : Int32)) = 0 then L_X14_isOrderLine_79 n 8 (g_X14_isWay_79 I G (17 : Int32)) G v1 v2 0 else L_X14_isOrderLine_79 n 6 (g_X14_isWay_79 I G (17 : Int32)) G v1 v2 0))
    | 6 => rg (q_X14_eat_79 I G (1 : Int32)) ((if (f_X14_eat_79 I G (1 : Int32)) = 0 then L_X14_isOrderLine_79 n 8 (g_X14_eat_79 I G (1 : Int32)) G v1 v2 0 else L_X14_isOrderLine_79 n 7 (g_X14_eat_79 I G (1 : Int32)) G v1 v2 0))
    | 7 => L_X14_isOrderLine_79 n 13 I G v1 v2 (1 : Int32)
    | 8 => L_X14_isOrderLine_79 n 13 I G v1 v2 (0 : Int32)
    | 9 => (if v1 = (9 : Int32) then rb (R_X14_eatAs_79 I G (40 : Int32) (15 : Int32)) (fun r1002 I1002 G1002 => (if r1002 = 0 then L_X14_isOrderLine_79 n 12 I1002 G1002 v1 v2 0 else L_X14_isOrderLine_79 n 10 I1002 G1002 v1 v2 0)) else rb (R_X14_eatAs_79 I G (40 : Int32) (16 : Int32)) (fun r1001 I1001 G1001 => (if r1001 = 0 then L_X14_isOrderLine_79 n 12 I1001 G1001 v1 v2 0 else L_X14_isOrderLine_79 n 10 I1001 G1001 v1 v2 0)))
    | 10 => rg (q_X14_eat_79 I G (13 : Int32)) ((if (f_X14_eat_79 I G (13 : Int32)) = 0 then L_X14_isOrderLine_79 n 12 (g_X14_eat_79 I G (13 : Int32)) G v1 v2 0 else L_X14_isOrderLine_79 n 11 (g_X14_eat_79 I G (13 : Int32)) G v1 v2 0))
    | 11 => L_X14_isOrderLine_79 n 13 I G v1 v2 (1 : Int32)
    | 12 => L_X14_isOrderLine_79 n 13 I G v1 v2 (0 : Int32)
    | 13 => rg (vp_in v2 21) (L_X14_isOrderLine_79 n 14 (am_up I 134 v2.toNatClampNeg (I 123 21)) G v1 v2 v3)
    | 14 => (if v3 = 0 then some ((0 : Int32), I, G) else L_X14_isOrderLine_79 n 15 I G v1 v2 v3)
    | 15 => rb (PG_X14_isTest GDN 3 I G (0 : Int32) (0 : Int32)) (fun r1601 I1601 G1601 => (if r1601 = 0 then some ((0 : Int32), I1601, G1601) else L_X14_isOrderLine_79 n 16 I1601 G1601 v1 v2 v3))
    | 16 => rg (vp_in v2 21) (L_X14_isOrderLine_79 n 17 (am_up I 135 v2.toNatClampNeg (I 123 21)) G v1 v2 v3)
    | 17 => rg (vp_in v2 21) (L_X14_isOrderLine_79 n 18 (am_up I 136 v2.toNatClampNeg (I 123 21)) G v1 v2 v3)
    | 18 => (if v1 = (12 : Int32) then L_X14_isOrderLine_79 n 19 I G v1 v2 v3 else L_X14_isOrderLine_79 n 20 I G v1 v2 v3)
    | 19 => rg (q_X14_is_79 I G (14 : Int32)) ((if (f_X14_is_79 I G (14 : Int32)) = 0 then some ((1 : Int32), I, G) else L_X14_isOrderLine_79 n 20 I G v1 v2 v3))
    | 20 => rg (q_X14_eat_79 I G (14 : Int32)) ((if (f_X14_eat_79 I G (14 : Int32)) = 0 then some ((0 : Int32), (g_X14_eat_79 I G (14 : Int32)), G) else L_X14_isOrderLine_79 n 21 (g_X14_eat_79 I G (14 : Int32)) G v1 v2 v3))
    | 21 => rb (PG_X14_isTest GDN 0 I G (0 : Int32) (0 : Int32)) (fun r2201 I2201 G2201 => (if r2201 = 0 then some ((0 : Int32), I2201, G2201) else L_X14_isOrderLine_79 n 22 I2201 G2201 v1 v2 v3))
    | _ => rg (vp_in v2 21) (some ((1 : Int32), (am_up I 136 v2.toNatClampNeg (I 123 21)), G))
theorem L_X14_isOrderLine_79_0 (n : Nat) (I : am_I) (G : am_G) (v1 : Int32) (v2 : Int32) (v3 : Int32) : L_X14_isOrderLine_79 (n + 1) 0 I G v1 v2 v3 = rg (vp_in (I 79 9) 401) (L_X14_isOrderLine_79 n 1 (am_up I 84 (I 79 9).toNatClampNeg (14 : Int32)) G v1 0 0) := rfl
theorem L_X14_isOrderLine_79_1 (n : Nat) (I : am_I) (G : am_G) (v1 : Int32) (v2 : Int32) (v3 : Int32) : L_X14_isOrderLine_79 (n + 1) 1 I G v1 v2 v3 = L_X14_isOrderLine_79 n 2 (am_up I 79 9 ((I 79 9) + (1 : Int32))) G v1 0 0 := rfl
theorem L_X14_isOrderLine_79_2 (n : Nat) (I : am_I) (G : am_G) (v1 : Int32) (v2 : Int32) (v3 : Int32) : L_X14_isOrderLine_79 (n + 1) 2 I G v1 v2 v3 = L_X14_isOrderLine_79 n 3 I G v1 (if (20 : Int32) < (I 123 14) then (20 : Int32) else (I 123 14)) 0 := rfl
theorem L_X14_isOrderLine_79_3 (n : Nat) (I : am_I) (G : am_G) (v1 : Int32) (v2 : Int32) (v3 : Int32) : L_X14_isOrderLine_79 (n + 1) 3 I G v1 v2 v3 = L_X14_isOrderLine_79 n 4 (am_up I 123 14 ((I 123 14) + (1 : Int32))) G v1 v2 0 := rfl
theorem L_X14_isOrderLine_79_4 (n : Nat) (I : am_I) (G : am_G) (v1 : Int32) (v2 : Int32) (v3 : Int32) : L_X14_isOrderLine_79 (n + 1) 4 I G v1 v2 v3 = (if v1 = (12 : Int32) then L_X14_isOrderLine_79 n 5 I G v1 v2 0 else L_X14_isOrderLine_79 n 9 I G v1 v2 0) := rfl
theorem L_X14_isOrderLine_79_5 (n : Nat) (I : am_I) (G : am_G) (v1 : Int32) (v2 : Int32) (v3 : Int32) : L_X14_isOrderLine_79 (n + 1) 5 I G v1 v2 v3 = rg (q_X14_isWay_79 I G (17 : Int32)) ((if (f_X14_isWay_79 I G (17 : Int32)) = 0 then L_X14_isOrderLine_79 n 8 (g_X14_isWay_79 I G (17 : Int32)) G v1 v2 0 else L_X14_isOrderLine_79 n 6 (g_X14_isWay_79 I G (17 : Int32)) G v1 v2 0)) := rfl
theorem L_X14_isOrderLine_79_6 (n : Nat) (I : am_I) (G : am_G) (v1 : Int32) (v2 : Int32) (v3 : Int32) : L_X14_isOrderLine_79 (n + 1) 6 I G v1 v2 v3 = rg (q_X14_eat_79 I G (1 : Int32)) ((if (f_X14_eat_79 I G (1 : Int32)) = 0 then L_X14_isOrderLine_79 n 8 (g_X14_eat_79 I G (1 : Int32)) G v1 v2 0 else L_X14_isOrderLine_79 n 7 (g_X14_eat_79 I G (1 : Int32)) G v1 v2 0)) := rfl
theorem L_X14_isOrderLine_79_7 (n : Nat) (I : am_I) (G : am_G) (v1 : Int32) (v2 : Int32) (v3 : Int32) : L_X14_isOrderLine_79 (n + 1) 7 I G v1 v2 v3 = L_X14_isOrderLine_79 n 13 I G v1 v2 (1 : Int32) := rfl
theorem L_X14_isOrderLine_79_8 (n : Nat) (I : am_I) (G : am_G) (v1 : Int32) (v2 : Int32) (v3 : Int32) : L_X14_isOrderLine_79 (n + 1) 8 I G v1 v2 v3 = L_X14_isOrderLine_79 n 13 I G v1 v2 (0 : Int32) := rfl
theorem L_X14_isOrderLine_79_9 (n : Nat) (I : am_I) (G : am_G) (v1 : Int32) (v2 : Int32) (v3 : Int32) : L_X14_isOrderLine_79 (n + 1) 9 I G v1 v2 v3 = (if v1 = (9 : Int32) then rb (R_X14_eatAs_79 I G (40 : Int32) (15 : Int32)) (fun r1002 I1002 G1002 => (if r1002 = 0 then L_X14_isOrderLine_79 n 12 I1002 G1002 v1 v2 0 else L_X14_isOrderLine_79 n 10 I1002 G1002 v1 v2 0)) else rb (R_X14_eatAs_79 I G (40 : Int32) (16 : Int32)) (fun r1001 I1001 G1001 => (if r1001 = 0 then L_X14_isOrderLine_79 n 12 I1001 G1001 v1 v2 0 else L_X14_isOrderLine_79 n 10 I1001 G1001 v1 v2 0))) := rfl
theorem L_X14_isOrderLine_79_10 (n : Nat) (I : am_I) (G : am_G) (v1 : Int32) (v2 : Int32) (v3 : Int32) : L_X14_isOrderLine_79 (n + 1) 10 I G v1 v2 v3 = rg (q_X14_eat_79 I G (13 : Int32)) ((if (f_X14_eat_79 I G (13 : Int32)) = 0 then L_X14_isOrderLine_79 n 12 (g_X14_eat_79 I G (13 : Int32)) G v1 v2 0 else L_X14_isOrderLine_79 n 11 (g_X14_eat_79 I G (13 : Int32)) G v1 v2 0)) := rfl
theorem L_X14_isOrderLine_79_11 (n : Nat) (I : am_I) (G : am_G) (v1 : Int32) (v2 : Int32) (v3 : Int32) : L_X14_isOrderLine_79 (n + 1) 11 I G v1 v2 v3 = L_X14_isOrderLine_79 n 13 I G v1 v2 (1 : Int32) := rfl
theorem L_X14_isOrderLine_79_12 (n : Nat) (I : am_I) (G : am_G) (v1 : Int32) (v2 : Int32) (v3 : Int32) : L_X14_isOrderLine_79 (n + 1) 12 I G v1 v2 v3 = L_X14_isOrderLine_79 n 13 I G v1 v2 (0 : Int32) := rfl
theorem L_X14_isOrderLine_79_13 (n : Nat) (I : am_I) (G : am_G) (v1 : Int32) (v2 : Int32) (v3 : Int32) : L_X14_isOrderLine_79 (n + 1) 13 I G v1 v2 v3 = rg (vp_in v2 21) (L_X14_isOrderLine_79 n 14 (am_up I 134 v2.toNatClampNeg (I 123 21)) G v1 v2 v3) := rfl
theorem L_X14_isOrderLine_79_14 (n : Nat) (I : am_I) (G : am_G) (v1 : Int32) (v2 : Int32) (v3 : Int32) : L_X14_isOrderLine_79 (n + 1) 14 I G v1 v2 v3 = (if v3 = 0 then some ((0 : Int32), I, G) else L_X14_isOrderLine_79 n 15 I G v1 v2 v3) := rfl
theorem L_X14_isOrderLine_79_15 (n : Nat) (I : am_I) (G : am_G) (v1 : Int32) (v2 : Int32) (v3 : Int32) : L_X14_isOrderLine_79 (n + 1) 15 I G v1 v2 v3 = rb (PG_X14_isTest GDN 3 I G (0 : Int32) (0 : Int32)) (fun r1601 I1601 G1601 => (if r1601 = 0 then some ((0 : Int32), I1601, G1601) else L_X14_isOrderLine_79 n 16 I1601 G1601 v1 v2 v3)) := rfl
theorem L_X14_isOrderLine_79_16 (n : Nat) (I : am_I) (G : am_G) (v1 : Int32) (v2 : Int32) (v3 : Int32) : L_X14_isOrderLine_79 (n + 1) 16 I G v1 v2 v3 = rg (vp_in v2 21) (L_X14_isOrderLine_79 n 17 (am_up I 135 v2.toNatClampNeg (I 123 21)) G v1 v2 v3) := rfl
theorem L_X14_isOrderLine_79_17 (n : Nat) (I : am_I) (G : am_G) (v1 : Int32) (v2 : Int32) (v3 : Int32) : L_X14_isOrderLine_79 (n + 1) 17 I G v1 v2 v3 = rg (vp_in v2 21) (L_X14_isOrderLine_79 n 18 (am_up I 136 v2.toNatClampNeg (I 123 21)) G v1 v2 v3) := rfl
theorem L_X14_isOrderLine_79_18 (n : Nat) (I : am_I) (G : am_G) (v1 : Int32) (v2 : Int32) (v3 : Int32) : L_X14_isOrderLine_79 (n + 1) 18 I G v1 v2 v3 = (if v1 = (12 : Int32) then L_X14_isOrderLine_79 n 19 I G v1 v2 v3 else L_X14_isOrderLine_79 n 20 I G v1 v2 v3) := rfl
theorem L_X14_isOrderLine_79_19 (n : Nat) (I : am_I) (G : am_G) (v1 : Int32) (v2 : Int32) (v3 : Int32) : L_X14_isOrderLine_79 (n + 1) 19 I G v1 v2 v3 = rg (q_X14_is_79 I G (14 : Int32)) ((if (f_X14_is_79 I G (14 : Int32)) = 0 then some ((1 : Int32), I, G) else L_X14_isOrderLine_79 n 20 I G v1 v2 v3)) := rfl
theorem L_X14_isOrderLine_79_20 (n : Nat) (I : am_I) (G : am_G) (v1 : Int32) (v2 : Int32) (v3 : Int32) : L_X14_isOrderLine_79 (n + 1) 20 I G v1 v2 v3 = rg (q_X14_eat_79 I G (14 : Int32)) ((if (f_X14_eat_79 I G (14 : Int32)) = 0 then some ((0 : Int32), (g_X14_eat_79 I G (14 : Int32)), G) else L_X14_isOrderLine_79 n 21 (g_X14_eat_79 I G (14 : Int32)) G v1 v2 v3)) := rfl
theorem L_X14_isOrderLine_79_21 (n : Nat) (I : am_I) (G : am_G) (v1 : Int32) (v2 : Int32) (v3 : Int32) : L_X14_isOrderLine_79 (n + 1) 21 I G v1 v2 v3 = rb (PG_X14_isTest GDN 0 I G (0 : Int32) (0 : Int32)) (fun r2201 I2201 G2201 => (if r2201 = 0 then some ((0 : Int32), I2201, G2201) else L_X14_isOrderLine_79 n 22 I2201 G2201 v1 v2 v3)) := rfl
theorem L_X14_isOrderLine_79_22 (n : Nat) (I : am_I) (G : am_G) (v1 : Int32) (v2 : Int32) (v3 : Int32) : L_X14_isOrderLine_79 (n + 1) 22 I G v1 v2 v3 = rg (vp_in v2 21) (some ((1 : Int32), (am_up I 136 v2.toNatClampNeg (I 123 21)), G)) := rfl
theorem L_X14_isOrderLine_79_z (h : Nat) (I : am_I) (G : am_G) (v1 : Int32) (v2 : Int32) (v3 : Int32) : L_X14_isOrderLine_79 0 h I G v1 v2 v3 = none := rfl
noncomputable def R_X14_isOrderLine_79 (I : am_I) (G : am_G)  : Option (Int32 × am_I × am_G) := rg (vp_in (I 79 9) 401) ((if (I 81 (I 79 9).toNatClampNeg) = (9 : Int32) then L_X14_isOrderLine_79 FU 0 I G (I 81 (I 79 9).toNatClampNeg) 0 0 else (if (I 81 (I 79 9).toNatClampNeg) = (12 : Int32) then L_X14_isOrderLine_79 FU 0 I G (I 81 (I 79 9).toNatClampNeg) 0 0 else (if (I 81 (I 79 9).toNatClampNeg) = (6 : Int32) then L_X14_isOrderLine_79 FU 0 I G (I 81 (I 79 9).toNatClampNeg) 0 0 else some ((0 : Int32), I, G)))))
set_option maxRecDepth 20000 in
set_option maxHeartbeats 4000000 in
theorem l_X14_isOrderLine_79 {X : am_X} {ad : Nat → Nat} (hX : am_okz X ad) (hi : am_info X 12 cX14_isOrderLine 4 false (Option.some Jvm.ClassFile.FieldType.boolean) 49) (n : Nat) : (∀ (I : am_I) (G : am_G) (v1 : Int32) (v2 : Int32) (v3 : Int32) (out : Int32 × am_I × am_G), L_X14_isOrderLine_79 n 0 I G v1 v2 v3 = some out → am_V X 0 0 (am_Rt X gS2 ad (pI out.1 out.2.1 out.2.2 (gP 123))) gS2 ad (30, [(0, .ref 79), (1, .int v1)], [], I, G, (gP 123))) ∧ (∀ (I : am_I) (G : am_G) (v1 : Int32) (v2 : Int32) (v3 : Int32) (out : Int32 × am_I × am_G), L_X14_isOrderLine_79 n 1 I G v1 v2 v3 = some out → am_V X 0 0 (am_Rt X gS2 ad (pI out.1 out.2.1 out.2.2 (gP 123))) gS2 ad (41, [(0, .ref 79), (1, .int v1)], [], I, G, (gP 123))) ∧ (∀ (I : am_I) (G : am_G) (v1 : Int32) (v2 : Int32) (v3 : Int32) (out : Int32 × am_I × am_G), L_X14_isOrderLine_79 n 2 I G v1 v2 v3 = some out → am_V X 0 0 (am_Rt X gS2 ad (pI out.1 out.2.1 out.2.2 (gP 123))) gS2 ad (51, [(0, .ref 79), (1, .int v1)], [], I, G, (gP 123))) ∧ (∀ (I : am_I) (G : am_G) (v1 : Int32) (v2 : Int32) (v3 : Int32) (out : Int32 × am_I × am_G), L_X14_isOrderLine_79 n 3 I G v1 v2 v3 = some out → am_V X 0 0 (am_Rt X gS2 ad (pI out.1 out.2.1 out.2.2 (gP 123))) gS2 ad (64, [(0, .ref 79), (1, .int v1), (2, .int v2)], [], I, G, (gP 123))) ∧ (∀ (I : am_I) (G : am_G) (v1 : Int32) (v2 : Int32) (v3 : Int32) (out : Int32 × am_I × am_G), L_X14_isOrderLine_79 n 4 I G v1 v2 v3 = some out → am_V X 0 0 (am_Rt X gS2 ad (pI out.1 out.2.1 out.2.2 (gP 123))) gS2 ad (77, [(0, .ref 79), (1, .int v1), (2, .int v2)], [], I, G, (gP 123))) ∧ (∀ (I : am_I) (G : am_G) (v1 : Int32) (v2 : Int32) (v3 : Int32) (out : Int32 × am_I × am_G), L_X14_isOrderLine_79 n 5 I G v1 v2 v3 = some out → am_V X 0 0 (am_Rt X gS2 ad (pI out.1 out.2.1 out.2.2 (gP 123))) gS2 ad (83, [(0, .ref 79), (1, .int v1), (2, .int v2)], [], I, G, (gP 123))) ∧ (∀ (I : am_I) (G : am_G) (v1 : Int32) (v2 : Int32) (v3 : Int32) (out : Int32 × am_I × am_G), L_X14_isOrderLine_79 n 6 I G v1 v2 v3 = some out → am_V X 0 0 (am_Rt X gS2 ad (pI out.1 out.2.1 out.2.2 (gP 123))) gS2 ad (92, [(0, .ref 79), (1, .int v1), (2, .int v2)], [], I, G, (gP 123))) ∧ (∀ (I : am_I) (G : am_G) (v1 : Int32) (v2 : Int32) (v3 : Int32) (out : Int32 × am_I × am_G), L_X14_isOrderLine_79 n 7 I G v1 v2 v3 = some out → am_V X 0 0 (am_Rt X gS2 ad (pI out.1 out.2.1 out.2.2 (gP 123))) gS2 ad (100, [(0, .ref 79), (1, .int v1), (2, .int v2)], [], I, G, (gP 123))) ∧ (∀ (I : am_I) (G : am_G) (v1 : Int32) (v2 : Int32) (v3 : Int32) (out : Int32 × am_I × am_G), L_X14_isOrderLine_79 n 8 I G v1 v2 v3 = some out → am_V X 0 0 (am_Rt X gS2 ad (pI out.1 out.2.1 out.2.2 (gP 123))) gS2 ad (104, [(0, .ref 79), (1, .int v1), (2, .int v2)], [], I, G, (gP 123))) ∧ (∀ (I : am_I) (G : am_G) (v1 : Int32) (v2 : Int32) (v3 : Int32) (out : Int32 × am_I × am_G), L_X14_isOrderLine_79 n 9 I G v1 v2 v3 = some out → am_V X 0 0 (am_Rt X gS2 ad (pI out.1 out.2.1 out.2.2 (gP 123))) gS2 ad (108, [(0, .ref 79), (1, .int v1), (2, .int v2)], [], I, G, (gP 123))) ∧ (∀ (I : am_I) (G : am_G) (v1 : Int32) (v2 : Int32) (v3 : Int32) (out : Int32 × am_I × am_G), L_X14_isOrderLine_79 n 10 I G v1 v2 v3 = some out → am_V X 0 0 (am_Rt X gS2 ad (pI out.1 out.2.1 out.2.2 (gP 123))) gS2 ad (130, [(0, .ref 79), (1, .int v1), (2, .int v2)], [], I, G, (gP 123))) ∧ (∀ (I : am_I) (G : am_G) (v1 : Int32) (v2 : Int32) (v3 : Int32) (out : Int32 × am_I × am_G), L_X14_isOrderLine_79 n 11 I G v1 v2 v3 = some out → am_V X 0 0 (am_Rt X gS2 ad (pI out.1 out.2.1 out.2.2 (gP 123))) gS2 ad (139, [(0, .ref 79), (1, .int v1), (2, .int v2)], [], I, G, (gP 123))) ∧ (∀ (I : am_I) (G : am_G) (v1 : Int32) (v2 : Int32) (v3 : Int32) (out : Int32 × am_I × am_G), L_X14_isOrderLine_79 n 12 I G v1 v2 v3 = some out → am_V X 0 0 (am_Rt X gS2 ad (pI out.1 out.2.1 out.2.2 (gP 123))) gS2 ad (143, [(0, .ref 79), (1, .int v1), (2, .int v2)], [], I, G, (gP 123))) ∧ (∀ (I : am_I) (G : am_G) (v1 : Int32) (v2 : Int32) (v3 : Int32) (out : Int32 × am_I × am_G), L_X14_isOrderLine_79 n 13 I G v1 v2 v3 = some out → am_V X 0 0 (am_Rt X gS2 ad (pI out.1 out.2.1 out.2.2 (gP 123))) gS2 ad (145, [(0, .ref 79), (1, .int v1), (2, .int v2), (3, .int v3)], [], I, G, (gP 123))) ∧ (∀ (I : am_I) (G : am_G) (v1 : Int32) (v2 : Int32) (v3 : Int32) (out : Int32 × am_I × am_G), L_X14_isOrderLine_79 n 14 I G v1 v2 v3 = some out → am_V X 0 0 (am_Rt X gS2 ad (pI out.1 out.2.1 out.2.2 (gP 123))) gS2 ad (161, [(0, .ref 79), (1, .int v1), (2, .int v2), (3, .int v3)], [], I, G, (gP 123))) ∧ (∀ (I : am_I) (G : am_G) (v1 : Int32) (v2 : Int32) (v3 : Int32) (out : Int32 × am_I × am_G), L_X14_isOrderLine_79 n 15 I G v1 v2 v3 = some out → am_V X 0 0 (am_Rt X gS2 ad (pI out.1 out.2.1 out.2.2 (gP 123))) gS2 ad (165, [(0, .ref 79), (1, .int v1), (2, .int v2), (3, .int v3)], [], I, G, (gP 123))) ∧ (∀ (I : am_I) (G : am_G) (v1 : Int32) (v2 : Int32) (v3 : Int32) (out : Int32 × am_I × am_G), L_X14_isOrderLine_79 n 16 I G v1 v2 v3 = some out → am_V X 0 0 (am_Rt X gS2 ad (pI out.1 out.2.1 out.2.2 (gP 123))) gS2 ad (174, [(0, .ref 79), (1, .int v1), (2, .int v2), (3, .int v3)], [], I, G, (gP 123))) ∧ (∀ (I : am_I) (G : am_G) (v1 : Int32) (v2 : Int32) (v3 : Int32) (out : Int32 × am_I × am_G), L_X14_isOrderLine_79 n 17 I G v1 v2 v3 = some out → am_V X 0 0 (am_Rt X gS2 ad (pI out.1 out.2.1 out.2.2 (gP 123))) gS2 ad (190, [(0, .ref 79), (1, .int v1), (2, .int v2), (3, .int v3)], [], I, G, (gP 123))) ∧ (∀ (I : am_I) (G : am_G) (v1 : Int32) (v2 : Int32) (v3 : Int32) (out : Int32 × am_I × am_G), L_X14_isOrderLine_79 n 18 I G v1 v2 v3 = some out → am_V X 0 0 (am_Rt X gS2 ad (pI out.1 out.2.1 out.2.2 (gP 123))) gS2 ad (206, [(0, .ref 79), (1, .int v1), (2, .int v2), (3, .int v3)], [], I, G, (gP 123))) ∧ (∀ (I : am_I) (G : am_G) (v1 : Int32) (v2 : Int32) (v3 : Int32) (out : Int32 × am_I × am_G), L_X14_isOrderLine_79 n 19 I G v1 v2 v3 = some out → am_V X 0 0 (am_Rt X gS2 ad (pI out.1 out.2.1 out.2.2 (gP 123))) gS2 ad (212, [(0, .ref 79), (1, .int v1), (2, .int v2), (3, .int v3)], [], I, G, (gP 123))) ∧ (∀ (I : am_I) (G : am_G) (v1 : Int32) (v2 : Int32) (v3 : Int32) (out : Int32 × am_I × am_G), L_X14_isOrderLine_79 n 20 I G v1 v2 v3 = some out → am_V X 0 0 (am_Rt X gS2 ad (pI out.1 out.2.1 out.2.2 (gP 123))) gS2 ad (223, [(0, .ref 79), (1, .int v1), (2, .int v2), (3, .int v3)], [], I, G, (gP 123))) ∧ (∀ (I : am_I) (G : am_G) (v1 : Int32) (v2 : Int32) (v3 : Int32) (out : Int32 × am_I × am_G), L_X14_isOrderLine_79 n 21 I G v1 v2 v3 = some out → am_V X 0 0 (am_Rt X gS2 ad (pI out.1 out.2.1 out.2.2 (gP 123))) gS2 ad (232, [(0, .ref 79), (1, .int v1), (2, .int v2), (3, .int v3)], [], I, G, (gP 123))) ∧ (∀ (I : am_I) (G : am_G) (v1 : Int32) (v2 : Int32) (v3 : Int32) (out : Int32 × am_I × am_G), L_X14_isOrderLine_79 n 22 I G v1 v2 v3 = some out → am_V X 0 0 (am_Rt X gS2 ad (pI out.1 out.2.1 out.2.2 (gP 123))) gS2 ad (241, [(0, .ref 79), (1, .int v1), (2, .int v2), (3, .int v3)], [], I, G, (gP 123))) := by
  induction n with
  | zero => exact ⟨(fun I G v1 v2 v3 out h => by rw [L_X14_isOrderLine_79_z] at h; cases h), (fun I G v1 v2 v3 out h => by rw [L_X14_isOrderLine_79_z] at h; cases h), (fun I G v1 v2 v3 out h => by rw [L_X14_isOrderLine_79_z] at h; cases h), (fun I G v1 v2 v3 out h => by rw [L_X14_isOrderLine_79_z] at h; cases h), (fun I G v1 v2 v3 out h => by rw [L_X14_isOrderLine_79_z] at h; cases h), (fun I G v1 v2 v3 out h => by rw [L_X14_isOrderLine_79_z] at h; cases h), (fun I G v1 v2 v3 out h => by rw [L_X14_isOrderLine_79_z] at h; cases h), (fun I G v1 v2 v3 out h => by rw [L_X14_isOrderLine_79_z] at h; cases h), (fun I G v1 v2 v3 out h => by rw [L_X14_isOrderLine_79_z] at h; cases h), (fun I G v1 v2 v3 out h => by rw [L_X14_isOrderLine_79_z] at h; cases h), (fun I G v1 v2 v3 out h => by rw [L_X14_isOrderLine_79_z] at h; cases h), (fun I G v1 v2 v3 out h => by rw [L_X14_isOrderLine_79_z] at h; cases h), (fun I G v1 v2 v3 out h => by rw [L_X14_isOrderLine_79_z] at h; cases h), (fun I G v1 v2 v3 out h => by rw [L_X14_isOrderLine_79_z] at h; cases h), (fun I G v1 v2 v3 out h => by rw [L_X14_isOrderLine_79_z] at h; cases h), (fun I G v1 v2 v3 out h => by rw [L_X14_isOrderLine_79_z] at h; cases h), (fun I G v1 v2 v3 out h => by rw [L_X14_isOrderLine_79_z] at h; cases h), (fun I G v1 v2 v3 out h => by rw [L_X14_isOrderLine_79_z] at h; cases h), (fun I G v1 v2 v3 out h => by rw [L_X14_isOrderLine_79_z] at h; cases h), (fun I G v1 v2 v3 out h => by rw [L_X14_isOrderLine_79_z] at h; cases h), (fun I G v1 v2 v3 out h => by rw [L_X14_isOrderLine_79_z] at h; cases h), (fun I G v1 v2 v3 out h => by rw [L_X14_isOrderLine_79_z] at h; cases h), (fun I G v1 v2 v3 out h => by rw [L_X14_isOrderLine_79_z] at h; cases h)⟩
  | succ n ih =>
    refine ⟨?_, ?_, ?_, ?_, ?_, ?_, ?_, ?_, ?_, ?_, ?_, ?_, ?_, ?_, ?_, ?_, ?_, ?_, ?_, ?_, ?_, ?_, ?_⟩
    · intro I G v1 v2 v3 out h
      rw [L_X14_isOrderLine_79_0] at h
      obtain ⟨g0, h⟩ := rg_some h
      refine am_blk 30 [(.aload_n 0, 1, 0, 0, .null), (.getfield 26, 3, 12, 7, .null), (.aload_n 0, 1, 0, 0, .null), (.getfield 122, 3, 12, 9, .null), (.bipush (14), 2, 0, 0, .int (14 : Int32)), (.iastore, 1, 0, 0, .null)] (41, [(0, .ref 79), (1, .int v1)], [], (am_up I 84 (I 79 9).toNatClampNeg (14 : Int32)), G, (gP 123)) (vp_in (I 79 9) 401 ∧ True) hX hi (by decide +kernel) rfl ⟨g0, trivial⟩ ?_
      exact ih.2.1 _ _ _ _ _ _ h
    · intro I G v1 v2 v3 out h
      rw [L_X14_isOrderLine_79_1] at h
      refine am_blk 41 [(.aload_n 0, 1, 0, 0, .null), (.dup, 1, 0, 0, .null), (.getfield 122, 3, 12, 9, .null), (.iconst (1), 1, 0, 0, .int (1 : Int32)), (.iadd, 1, 0, 0, .null), (.putfield 122, 3, 12, 9, .null)] (51, [(0, .ref 79), (1, .int v1)], [], (am_up I 79 9 ((I 79 9) + (1 : Int32))), G, (gP 123)) (True) hX hi (by decide +kernel) rfl trivial ?_
      exact ih.2.2.1 _ _ _ _ _ _ h
    · intro I G v1 v2 v3 out h
      rw [L_X14_isOrderLine_79_2] at h
      refine am_blk 51 [(.aload_n 0, 1, 0, 0, .null), (.getfield 39, 3, 12, 12, .null), (.getfield 162, 3, 10, 14, .null), (.bipush (20), 2, 0, 0, .int (20 : Int32)), (.invokestatic 74, 3, 1, 0, .null), (.istore_n 2, 1, 2, 0, .null)] (64, [(0, .ref 79), (1, .int v1), (2, .int (if (20 : Int32) < (I 123 14) then (20 : Int32) else (I 123 14)))], [], I, G, (gP 123)) (True) hX hi (by decide +kernel) rfl trivial ?_
      exact ih.2.2.2.1 _ _ _ _ _ _ h
    · intro I G v1 v2 v3 out h
      rw [L_X14_isOrderLine_79_3] at h
      refine am_blk 64 [(.aload_n 0, 1, 0, 0, .null), (.getfield 39, 3, 12, 12, .null), (.dup, 1, 0, 0, .null), (.getfield 162, 3, 10, 14, .null), (.iconst (1), 1, 0, 0, .int (1 : Int32)), (.iadd, 1, 0, 0, .null), (.putfield 162, 3, 10, 14, .null)] (77, [(0, .ref 79), (1, .int v1), (2, .int v2)], [], (am_up I 123 14 ((I 123 14) + (1 : Int32))), G, (gP 123)) (True) hX hi (by decide +kernel) rfl trivial ?_
      exact ih.2.2.2.2.1 _ _ _ _ _ _ h
    · intro I G v1 v2 v3 out h
      rw [L_X14_isOrderLine_79_4] at h
      refine am_blk 77 [(.iload_n 1, 1, 1, 0, .null), (.bipush (12), 2, 0, 0, .int (12 : Int32))] (80, [(0, .ref 79), (1, .int v1), (2, .int v2)], [.int (12 : Int32), .int v1], I, G, (gP 123)) (True) hX hi (by decide +kernel) rfl trivial ?_
      refine am_icmp_ne (tgt := 108) hX hi (off := (28)) (by decide +kernel) (by decide) (fun c80 => ?_) (fun c80 => ?_)
      · rw [if_neg c80] at h
        exact ih.2.2.2.2.2.2.2.2.2.1 _ _ _ _ _ _ h
      · rw [if_pos c80] at h
        exact ih.2.2.2.2.2.1 _ _ _ _ _ _ h
    · intro I G v1 v2 v3 out h
      rw [L_X14_isOrderLine_79_5] at h
      refine am_blk 83 [(.aload_n 0, 1, 0, 0, .null), (.bipush (17), 2, 0, 0, .int (17 : Int32))] (86, [(0, .ref 79), (1, .int v1), (2, .int v2)], [.int (17 : Int32), .ref 79], I, G, (gP 123)) (True) hX hi (by decide +kernel) rfl trivial ?_
      obtain ⟨hq1, h⟩ := rg_some h
      refine am_callV hX hi (M := mX14_isWay) (idx := 159) (d' := 3) (b := 79) (ci := 12) (As := [.int (17 : Int32)]) (rest := []) mkX14_isWay miX14_isWay mvX14_isWay (by decide +kernel) (by decide +kernel) rfl (by decide +kernel) rfl ⟨by omega, by decide, Nat.le_of_ble_eq_true rfl⟩ rfl (c_X14_isWay_79 I G (17 : Int32) hq1) ?_
      rintro r9 I9 G9 P9 ⟨e0, e1, e2, e3⟩
      rw [e0, e1, e2, e3]
      show am_V X 0 0 _ _ ad (89, [(0, .ref 79), (1, .int v1), (2, .int v2)], [.int (f_X14_isWay_79 I G (17 : Int32))], (g_X14_isWay_79 I G (17 : Int32)), G, (gP 123))
      refine am_if_eq (tgt := 104) hX hi (off := (15)) (by decide +kernel) (by decide) (fun c89 => ?_) (fun c89 => ?_)
      · rw [if_pos c89] at h
        exact ih.2.2.2.2.2.2.2.2.1 _ _ _ _ _ _ h
      · rw [if_neg c89] at h
        exact ih.2.2.2.2.2.2.1 _ _ _ _ _ _ h
    · intro I G v1 v2 v3 out h
      rw [L_X14_isOrderLine_79_6] at h
      refine am_blk 92 [(.aload_n 0, 1, 0, 0, .null), (.iconst (1), 1, 0, 0, .int (1 : Int32))] (94, [(0, .ref 79), (1, .int v1), (2, .int v2)], [.int (1 : Int32), .ref 79], I, G, (gP 123)) (True) hX hi (by decide +kernel) rfl trivial ?_
      obtain ⟨hq1, h⟩ := rg_some h
      refine am_callV hX hi (M := mX14_eat) (idx := 128) (d' := 2) (b := 79) (ci := 12) (As := [.int (1 : Int32)]) (rest := []) mkX14_eat miX14_eat mvX14_eat (by decide +kernel) (by decide +kernel) rfl (by decide +kernel) rfl ⟨by omega, by decide, Nat.le_of_ble_eq_true rfl⟩ rfl (c_X14_eat_79 I G (1 : Int32) hq1) ?_
      rintro r9 I9 G9 P9 ⟨e0, e1, e2, e3⟩
      rw [e0, e1, e2, e3]
      show am_V X 0 0 _ _ ad (97, [(0, .ref 79), (1, .int v1), (2, .int v2)], [.int (f_X14_eat_79 I G (1 : Int32))], (g_X14_eat_79 I G (1 : Int32)), G, (gP 123))
      refine am_if_eq (tgt := 104) hX hi (off := (7)) (by decide +kernel) (by decide) (fun c97 => ?_) (fun c97 => ?_)
      · rw [if_pos c97] at h
        exact ih.2.2.2.2.2.2.2.2.1 _ _ _ _ _ _ h
      · rw [if_neg c97] at h
        exact ih.2.2.2.2.2.2.2.1 _ _ _ _ _ _ h
    · intro I G v1 v2 v3 out h
      rw [L_X14_isOrderLine_79_7] at h
      refine am_blk 100 [(.iconst (1), 1, 0, 0, .int (1 : Int32)), (.goto (43), 3, 0, 144, .null), (.istore_n 3, 1, 3, 0, .null)] (145, [(0, .ref 79), (1, .int v1), (2, .int v2), (3, .int (1 : Int32))], [], I, G, (gP 123)) (True) hX hi (by decide +kernel) rfl trivial ?_
      exact ih.2.2.2.2.2.2.2.2.2.2.2.2.2.1 _ _ _ _ _ _ h
    · intro I G v1 v2 v3 out h
      rw [L_X14_isOrderLine_79_8] at h
      refine am_blk 104 [(.iconst (0), 1, 0, 0, .int (0 : Int32)), (.goto (39), 3, 0, 144, .null), (.istore_n 3, 1, 3, 0, .null)] (145, [(0, .ref 79), (1, .int v1), (2, .int v2), (3, .int (0 : Int32))], [], I, G, (gP 123)) (True) hX hi (by decide +kernel) rfl trivial ?_
      exact ih.2.2.2.2.2.2.2.2.2.2.2.2.2.1 _ _ _ _ _ _ h
    · intro I G v1 v2 v3 out h
      rw [L_X14_isOrderLine_79_9] at h
      refine am_blk 108 [(.aload_n 0, 1, 0, 0, .null), (.bipush (40), 2, 0, 0, .int (40 : Int32)), (.iload_n 1, 1, 1, 0, .null), (.bipush (9), 2, 0, 0, .int (9 : Int32))] (114, [(0, .ref 79), (1, .int v1), (2, .int v2)], [.int (9 : Int32), .int v1, .int (40 : Int32), .ref 79], I, G, (gP 123)) (True) hX hi (by decide +kernel) rfl trivial ?_
      refine am_icmp_ne (tgt := 122) hX hi (off := (8)) (by decide +kernel) (by decide) (fun c114 => ?_) (fun c114 => ?_)
      · rw [if_neg c114] at h
        refine am_blk 122 [(.bipush (16), 2, 0, 0, .int (16 : Int32))] (124, [(0, .ref 79), (1, .int v1), (2, .int v2)], [.int (16 : Int32), .int (40 : Int32), .ref 79], I, G, (gP 123)) (True) hX hi (by decide +kernel) rfl trivial ?_
        obtain ⟨r1001, I1001, G1001, hc, h⟩ := rb_some h
        refine am_callV hX hi (M := mX14_eatAs) (idx := 155) (d' := 3) (b := 79) (ci := 12) (As := [.int (40 : Int32), .int (16 : Int32)]) (rest := []) mkX14_eatAs miX14_eatAs mvX14_eatAs (by decide +kernel) (by decide +kernel) rfl (by decide +kernel) rfl ⟨by omega, by decide, Nat.le_of_ble_eq_true rfl⟩ rfl (c_X14_eatAs_79 I G (40 : Int32) (16 : Int32) hc) ?_
        rintro r9 I9 G9 P9 ⟨e0, e1, e2, e3⟩
        rw [e0, e1, e2, e3]
        show am_V X 0 0 _ _ ad (127, [(0, .ref 79), (1, .int v1), (2, .int v2)], [.int r1001], I1001, G1001, (gP 123))
        refine am_if_eq (tgt := 143) hX hi (off := (16)) (by decide +kernel) (by decide) (fun c127 => ?_) (fun c127 => ?_)
        · rw [if_pos c127] at h
          exact ih.2.2.2.2.2.2.2.2.2.2.2.2.1 _ _ _ _ _ _ h
        · rw [if_neg c127] at h
          exact ih.2.2.2.2.2.2.2.2.2.2.1 _ _ _ _ _ _ h
      · rw [if_pos c114] at h
        refine am_blk 117 [(.bipush (15), 2, 0, 0, .int (15 : Int32)), (.goto (5), 3, 0, 124, .null)] (124, [(0, .ref 79), (1, .int v1), (2, .int v2)], [.int (15 : Int32), .int (40 : Int32), .ref 79], I, G, (gP 123)) (True) hX hi (by decide +kernel) rfl trivial ?_
        obtain ⟨r1002, I1002, G1002, hc, h⟩ := rb_some h
        refine am_callV hX hi (M := mX14_eatAs) (idx := 155) (d' := 3) (b := 79) (ci := 12) (As := [.int (40 : Int32), .int (15 : Int32)]) (rest := []) mkX14_eatAs miX14_eatAs mvX14_eatAs (by decide +kernel) (by decide +kernel) rfl (by decide +kernel) rfl ⟨by omega, by decide, Nat.le_of_ble_eq_true rfl⟩ rfl (c_X14_eatAs_79 I G (40 : Int32) (15 : Int32) hc) ?_
        rintro r9 I9 G9 P9 ⟨e0, e1, e2, e3⟩
        rw [e0, e1, e2, e3]
        show am_V X 0 0 _ _ ad (127, [(0, .ref 79), (1, .int v1), (2, .int v2)], [.int r1002], I1002, G1002, (gP 123))
        refine am_if_eq (tgt := 143) hX hi (off := (16)) (by decide +kernel) (by decide) (fun c127 => ?_) (fun c127 => ?_)
        · rw [if_pos c127] at h
          exact ih.2.2.2.2.2.2.2.2.2.2.2.2.1 _ _ _ _ _ _ h
        · rw [if_neg c127] at h
          exact ih.2.2.2.2.2.2.2.2.2.2.1 _ _ _ _ _ _ h
    · intro I G v1 v2 v3 out h
      rw [L_X14_isOrderLine_79_10] at h
      refine am_blk 130 [(.aload_n 0, 1, 0, 0, .null), (.bipush (13), 2, 0, 0, .int (13 : Int32))] (133, [(0, .ref 79), (1, .int v1), (2, .int v2)], [.int (13 : Int32), .ref 79], I, G, (gP 123)) (True) hX hi (by decide +kernel) rfl trivial ?_
      obtain ⟨hq1, h⟩ := rg_some h
      refine am_callV hX hi (M := mX14_eat) (idx := 128) (d' := 2) (b := 79) (ci := 12) (As := [.int (13 : Int32)]) (rest := []) mkX14_eat miX14_eat mvX14_eat (by decide +kernel) (by decide +kernel) rfl (by decide +kernel) rfl ⟨by omega, by decide, Nat.le_of_ble_eq_true rfl⟩ rfl (c_X14_eat_79 I G (13 : Int32) hq1) ?_
      rintro r9 I9 G9 P9 ⟨e0, e1, e2, e3⟩
      rw [e0, e1, e2, e3]
      show am_V X 0 0 _ _ ad (136, [(0, .ref 79), (1, .int v1), (2, .int v2)], [.int (f_X14_eat_79 I G (13 : Int32))], (g_X14_eat_79 I G (13 : Int32)), G, (gP 123))
      refine am_if_eq (tgt := 143) hX hi (off := (7)) (by decide +kernel) (by decide) (fun c136 => ?_) (fun c136 => ?_)
      · rw [if_pos c136] at h
        exact ih.2.2.2.2.2.2.2.2.2.2.2.2.1 _ _ _ _ _ _ h
      · rw [if_neg c136] at h
        exact ih.2.2.2.2.2.2.2.2.2.2.2.1 _ _ _ _ _ _ h
    · intro I G v1 v2 v3 out h
      rw [L_X14_isOrderLine_79_11] at h
      refine am_blk 139 [(.iconst (1), 1, 0, 0, .int (1 : Int32)), (.goto (4), 3, 0, 144, .null), (.istore_n 3, 1, 3, 0, .null)] (145, [(0, .ref 79), (1, .int v1), (2, .int v2), (3, .int (1 : Int32))], [], I, G, (gP 123)) (True) hX hi (by decide +kernel) rfl trivial ?_
      exact ih.2.2.2.2.2.2.2.2.2.2.2.2.2.1 _ _ _ _ _ _ h
    · intro I G v1 v2 v3 out h
      rw [L_X14_isOrderLine_79_12] at h
      refine am_blk 143 [(.iconst (0), 1, 0, 0, .int (0 : Int32)), (.istore_n 3, 1, 3, 0, .null)] (145, [(0, .ref 79), (1, .int v1), (2, .int v2), (3, .int (0 : Int32))], [], I, G, (gP 123)) (True) hX hi (by decide +kernel) rfl trivial ?_
      exact ih.2.2.2.2.2.2.2.2.2.2.2.2.2.1 _ _ _ _ _ _ h
    · intro I G v1 v2 v3 out h
      rw [L_X14_isOrderLine_79_13] at h
      obtain ⟨g0, h⟩ := rg_some h
      refine am_blk 145 [(.aload_n 0, 1, 0, 0, .null), (.getfield 39, 3, 12, 12, .null), (.getfield 165, 3, 10, 17, .null), (.iload_n 2, 1, 2, 0, .null), (.aload_n 0, 1, 0, 0, .null), (.getfield 39, 3, 12, 12, .null), (.getfield 134, 3, 10, 21, .null), (.iastore, 1, 0, 0, .null)] (161, [(0, .ref 79), (1, .int v1), (2, .int v2), (3, .int v3)], [], (am_up I 134 v2.toNatClampNeg (I 123 21)), G, (gP 123)) (vp_in v2 21 ∧ True) hX hi (by decide +kernel) rfl ⟨g0, trivial⟩ ?_
      exact ih.2.2.2.2.2.2.2.2.2.2.2.2.2.2.1 _ _ _ _ _ _ h
    · intro I G v1 v2 v3 out h
      rw [L_X14_isOrderLine_79_14] at h
      refine am_blk 161 [(.iload_n 3, 1, 3, 0, .null)] (162, [(0, .ref 79), (1, .int v1), (2, .int v2), (3, .int v3)], [.int v3], I, G, (gP 123)) (True) hX hi (by decide +kernel) rfl trivial ?_
      refine am_if_eq (tgt := 172) hX hi (off := (10)) (by decide +kernel) (by decide) (fun c162 => ?_) (fun c162 => ?_)
      · rw [if_pos c162] at h
        refine am_blk 172 [(.iconst (0), 1, 0, 0, .int (0 : Int32))] (173, [(0, .ref 79), (1, .int v1), (2, .int v2), (3, .int v3)], [.int (0 : Int32)], I, G, (gP 123)) (True) hX hi (by decide +kernel) rfl trivial ?_
        cases h
        refine am_iret hX hi rfl (by first | rfl | decide | (simp [narrow]; done)) (by decide +kernel) ?_
        exact ⟨rfl, rfl, rfl, rfl⟩
      · rw [if_neg c162] at h
        exact ih.2.2.2.2.2.2.2.2.2.2.2.2.2.2.2.1 _ _ _ _ _ _ h
    · intro I G v1 v2 v3 out h
      rw [L_X14_isOrderLine_79_15] at h
      refine am_blk 165 [(.aload_n 0, 1, 0, 0, .null)] (166, [(0, .ref 79), (1, .int v1), (2, .int v2), (3, .int v3)], [.ref 79], I, G, (gP 123)) (True) hX hi (by decide +kernel) rfl trivial ?_
      obtain ⟨r1601, I1601, G1601, hc, h⟩ := rb_some h
      refine am_callV hX hi (M := mX14_isSum) (idx := 168) (d' := 48) (b := 79) (ci := 12) (As := []) (rest := []) mkX14_isSum miX14_isSum mvX14_isSum (by decide +kernel) (by decide +kernel) rfl (by decide +kernel) rfl ⟨by omega, by decide, Nat.le_of_ble_eq_true rfl⟩ rfl ((cg_X14_isTest GDN).2.2.2.1 I G  _ hc) ?_
      rintro r9 I9 G9 P9 ⟨e0, e1, e2, e3⟩
      rw [e0, e1, e2, e3]
      show am_V X 0 0 _ _ ad (169, [(0, .ref 79), (1, .int v1), (2, .int v2), (3, .int v3)], [.int r1601], I1601, G1601, (gP 123))
      refine am_if_ne (tgt := 174) hX hi (off := (5)) (by decide +kernel) (by decide) (fun c169 => ?_) (fun c169 => ?_)
      · rw [if_neg c169] at h
        exact ih.2.2.2.2.2.2.2.2.2.2.2.2.2.2.2.2.1 _ _ _ _ _ _ h
      · rw [if_pos c169] at h
        refine am_blk 172 [(.iconst (0), 1, 0, 0, .int (0 : Int32))] (173, [(0, .ref 79), (1, .int v1), (2, .int v2), (3, .int v3)], [.int (0 : Int32)], I1601, G1601, (gP 123)) (True) hX hi (by decide +kernel) rfl trivial ?_
        cases h
        refine am_iret hX hi rfl (by first | rfl | decide | (simp [narrow]; done)) (by decide +kernel) ?_
        exact ⟨rfl, rfl, rfl, rfl⟩
    · intro I G v1 v2 v3 out h
      rw [L_X14_isOrderLine_79_16] at h
      obtain ⟨g0, h⟩ := rg_some h
      refine am_blk 174 [(.aload_n 0, 1, 0, 0, .null), (.getfield 39, 3, 12, 12, .null), (.getfield 171, 3, 10, 18, .null), (.iload_n 2, 1, 2, 0, .null), (.aload_n 0, 1, 0, 0, .null), (.getfield 39, 3, 12, 12, .null), (.getfield 134, 3, 10, 21, .null), (.iastore, 1, 0, 0, .null)] (190, [(0, .ref 79), (1, .int v1), (2, .int v2), (3, .int v3)], [], (am_up I 135 v2.toNatClampNeg (I 123 21)), G, (gP 123)) (vp_in v2 21 ∧ True) hX hi (by decide +kernel) rfl ⟨g0, trivial⟩ ?_
      exact ih.2.2.2.2.2.2.2.2.2.2.2.2.2.2.2.2.2.1 _ _ _ _ _ _ h
    · intro I G v1 v2 v3 out h
      rw [L_X14_isOrderLine_79_17] at h
      obtain ⟨g0, h⟩ := rg_some h
      refine am_blk 190 [(.aload_n 0, 1, 0, 0, .null), (.getfield 39, 3, 12, 12, .null), (.getfield 174, 3, 10, 19, .null), (.iload_n 2, 1, 2, 0, .null), (.aload_n 0, 1, 0, 0, .null), (.getfield 39, 3, 12, 12, .null), (.getfield 134, 3, 10, 21, .null), (.iastore, 1, 0, 0, .null)] (206, [(0, .ref 79), (1, .int v1), (2, .int v2), (3, .int v3)], [], (am_up I 136 v2.toNatClampNeg (I 123 21)), G, (gP 123)) (vp_in v2 21 ∧ True) hX hi (by decide +kernel) rfl ⟨g0, trivial⟩ ?_
      exact ih.2.2.2.2.2.2.2.2.2.2.2.2.2.2.2.2.2.2.1 _ _ _ _ _ _ h
    · intro I G v1 v2 v3 out h
      rw [L_X14_isOrderLine_79_18] at h
      refine am_blk 206 [(.iload_n 1, 1, 1, 0, .null), (.bipush (12), 2, 0, 0, .int (12 : Int32))] (209, [(0, .ref 79), (1, .int v1), (2, .int v2), (3, .int v3)], [.int (12 : Int32), .int v1], I, G, (gP 123)) (True) hX hi (by decide +kernel) rfl trivial ?_
      refine am_icmp_ne (tgt := 223) hX hi (off := (14)) (by decide +kernel) (by decide) (fun c209 => ?_) (fun c209 => ?_)
      · rw [if_neg c209] at h
        exact ih.2.2.2.2.2.2.2.2.2.2.2.2.2.2.2.2.2.2.2.2.1 _ _ _ _ _ _ h
      · rw [if_pos c209] at h
        exact ih.2.2.2.2.2.2.2.2.2.2.2.2.2.2.2.2.2.2.2.1 _ _ _ _ _ _ h
    · intro I G v1 v2 v3 out h
      rw [L_X14_isOrderLine_79_19] at h
      refine am_blk 212 [(.aload_n 0, 1, 0, 0, .null), (.bipush (14), 2, 0, 0, .int (14 : Int32))] (215, [(0, .ref 79), (1, .int v1), (2, .int v2), (3, .int v3)], [.int (14 : Int32), .ref 79], I, G, (gP 123)) (True) hX hi (by decide +kernel) rfl trivial ?_
      obtain ⟨hq1, h⟩ := rg_some h
      refine am_callV hX hi (M := mX14_is) (idx := 125) (d' := 1) (b := 79) (ci := 12) (As := [.int (14 : Int32)]) (rest := []) mkX14_is miX14_is mvX14_is (by decide +kernel) (by decide +kernel) rfl (by decide +kernel) rfl ⟨by omega, by decide, Nat.le_of_ble_eq_true rfl⟩ rfl (c_X14_is_79 I G (14 : Int32) hq1) ?_
      rintro r9 I9 G9 P9 ⟨e0, e1, e2, e3⟩
      rw [e0, e1, e2, e3]
      show am_V X 0 0 _ _ ad (218, [(0, .ref 79), (1, .int v1), (2, .int v2), (3, .int v3)], [.int (f_X14_is_79 I G (14 : Int32))], I, G, (gP 123))
      refine am_if_ne (tgt := 223) hX hi (off := (5)) (by decide +kernel) (by decide) (fun c218 => ?_) (fun c218 => ?_)
      · rw [if_neg c218] at h
        exact ih.2.2.2.2.2.2.2.2.2.2.2.2.2.2.2.2.2.2.2.2.1 _ _ _ _ _ _ h
      · rw [if_pos c218] at h
        refine am_blk 221 [(.iconst (1), 1, 0, 0, .int (1 : Int32))] (222, [(0, .ref 79), (1, .int v1), (2, .int v2), (3, .int v3)], [.int (1 : Int32)], I, G, (gP 123)) (True) hX hi (by decide +kernel) rfl trivial ?_
        cases h
        refine am_iret hX hi rfl (by first | rfl | decide | (simp [narrow]; done)) (by decide +kernel) ?_
        exact ⟨rfl, rfl, rfl, rfl⟩
    · intro I G v1 v2 v3 out h
      rw [L_X14_isOrderLine_79_20] at h
      refine am_blk 223 [(.aload_n 0, 1, 0, 0, .null), (.bipush (14), 2, 0, 0, .int (14 : Int32))] (226, [(0, .ref 79), (1, .int v1), (2, .int v2), (3, .int v3)], [.int (14 : Int32), .ref 79], I, G, (gP 123)) (True) hX hi (by decide +kernel) rfl trivial ?_
      obtain ⟨hq1, h⟩ := rg_some h
      refine am_callV hX hi (M := mX14_eat) (idx := 128) (d' := 2) (b := 79) (ci := 12) (As := [.int (14 : Int32)]) (rest := []) mkX14_eat miX14_eat mvX14_eat (by decide +kernel) (by decide +kernel) rfl (by decide +kernel) rfl ⟨by omega, by decide, Nat.le_of_ble_eq_true rfl⟩ rfl (c_X14_eat_79 I G (14 : Int32) hq1) ?_
      rintro r9 I9 G9 P9 ⟨e0, e1, e2, e3⟩
      rw [e0, e1, e2, e3]
      show am_V X 0 0 _ _ ad (229, [(0, .ref 79), (1, .int v1), (2, .int v2), (3, .int v3)], [.int (f_X14_eat_79 I G (14 : Int32))], (g_X14_eat_79 I G (14 : Int32)), G, (gP 123))
      refine am_if_eq (tgt := 239) hX hi (off := (10)) (by decide +kernel) (by decide) (fun c229 => ?_) (fun c229 => ?_)
      · rw [if_pos c229] at h
        refine am_blk 239 [(.iconst (0), 1, 0, 0, .int (0 : Int32))] (240, [(0, .ref 79), (1, .int v1), (2, .int v2), (3, .int v3)], [.int (0 : Int32)], (g_X14_eat_79 I G (14 : Int32)), G, (gP 123)) (True) hX hi (by decide +kernel) rfl trivial ?_
        cases h
        refine am_iret hX hi rfl (by first | rfl | decide | (simp [narrow]; done)) (by decide +kernel) ?_
        exact ⟨rfl, rfl, rfl, rfl⟩
      · rw [if_neg c229] at h
        exact ih.2.2.2.2.2.2.2.2.2.2.2.2.2.2.2.2.2.2.2.2.2.1 _ _ _ _ _ _ h
    · intro I G v1 v2 v3 out h
      rw [L_X14_isOrderLine_79_21] at h
      refine am_blk 232 [(.aload_n 0, 1, 0, 0, .null)] (233, [(0, .ref 79), (1, .int v1), (2, .int v2), (3, .int v3)], [.ref 79], I, G, (gP 123)) (True) hX hi (by decide +kernel) rfl trivial ?_
      obtain ⟨r2201, I2201, G2201, hc, h⟩ := rb_some h
      refine am_callV hX hi (M := mX14_isTest) (idx := 177) (d' := 48) (b := 79) (ci := 12) (As := []) (rest := []) mkX14_isTest miX14_isTest mvX14_isTest (by decide +kernel) (by decide +kernel) rfl (by decide +kernel) rfl ⟨by omega, by decide, Nat.le_of_ble_eq_true rfl⟩ rfl ((cg_X14_isTest GDN).1 I G  _ hc) ?_
      rintro r9 I9 G9 P9 ⟨e0, e1, e2, e3⟩
      rw [e0, e1, e2, e3]
      show am_V X 0 0 _ _ ad (236, [(0, .ref 79), (1, .int v1), (2, .int v2), (3, .int v3)], [.int r2201], I2201, G2201, (gP 123))
      refine am_if_ne (tgt := 241) hX hi (off := (5)) (by decide +kernel) (by decide) (fun c236 => ?_) (fun c236 => ?_)
      · rw [if_neg c236] at h
        exact ih.2.2.2.2.2.2.2.2.2.2.2.2.2.2.2.2.2.2.2.2.2.2 _ _ _ _ _ _ h
      · rw [if_pos c236] at h
        refine am_blk 239 [(.iconst (0), 1, 0, 0, .int (0 : Int32))] (240, [(0, .ref 79), (1, .int v1), (2, .int v2), (3, .int v3)], [.int (0 : Int32)], I2201, G2201, (gP 123)) (True) hX hi (by decide +kernel) rfl trivial ?_
        cases h
        refine am_iret hX hi rfl (by first | rfl | decide | (simp [narrow]; done)) (by decide +kernel) ?_
        exact ⟨rfl, rfl, rfl, rfl⟩
    · intro I G v1 v2 v3 out h
      rw [L_X14_isOrderLine_79_22] at h
      obtain ⟨g0, h⟩ := rg_some h
      refine am_blk 241 [(.aload_n 0, 1, 0, 0, .null), (.getfield 39, 3, 12, 12, .null), (.getfield 174, 3, 10, 19, .null), (.iload_n 2, 1, 2, 0, .null), (.aload_n 0, 1, 0, 0, .null), (.getfield 39, 3, 12, 12, .null), (.getfield 134, 3, 10, 21, .null), (.iastore, 1, 0, 0, .null), (.iconst (1), 1, 0, 0, .int (1 : Int32))] (258, [(0, .ref 79), (1, .int v1), (2, .int v2), (3, .int v3)], [.int (1 : Int32)], (am_up I 136 v2.toNatClampNeg (I 123 21)), G, (gP 123)) (vp_in v2 21 ∧ True) hX hi (by decide +kernel) rfl ⟨g0, trivial⟩ ?_
      cases h
      refine am_iret hX hi rfl (by first | rfl | decide | (simp [narrow]; done)) (by decide +kernel) ?_
      exact ⟨rfl, rfl, rfl, rfl⟩
set_option maxRecDepth 20000 in
set_option maxHeartbeats 4000000 in
theorem c_X14_isOrderLine_79 (I : am_I) (G : am_G)  {out : Int32 × am_I × am_G} (h : R_X14_isOrderLine_79 I G  = some out) : am_Ct mX14_isOrderLine 49 gS2 [.ref 79] I G (gP 123) (pI out.1 out.2.1 out.2.2 (gP 123)) := by
  refine am_ofF (by decide +kernel) rfl (by decide) (by omega) (Nat.le_of_ble_eq_true rfl) (fun X ad hX hi => ?_)
  have hi : am_info X 12 cX14_isOrderLine 4 false (Option.some Jvm.ClassFile.FieldType.boolean) 49 := hi
  show am_V X 0 0 _ _ ad (0, [(0, .ref 79)], [], I, G, (gP 123))
  unfold R_X14_isOrderLine_79 at h
  obtain ⟨g0, h⟩ := rg_some h
  refine am_blk 0 [(.aload_n 0, 1, 0, 0, .null), (.getfield 17, 3, 12, 4, .null), (.aload_n 0, 1, 0, 0, .null), (.getfield 122, 3, 12, 9, .null), (.iaload, 1, 0, 0, .null), (.istore_n 1, 1, 1, 0, .null), (.iload_n 1, 1, 1, 0, .null), (.bipush (9), 2, 0, 0, .int (9 : Int32))] (13, [(0, .ref 79), (1, .int (I 81 (I 79 9).toNatClampNeg))], [.int (9 : Int32), .int (I 81 (I 79 9).toNatClampNeg)], I, G, (gP 123)) (vp_in (I 79 9) 401 ∧ True) hX hi (by decide +kernel) rfl ⟨g0, trivial⟩ ?_
  refine am_icmp_eq (tgt := 30) hX hi (off := (17)) (by decide +kernel) (by decide) (fun c13 => ?_) (fun c13 => ?_)
  · rw [if_pos c13] at h
    exact (l_X14_isOrderLine_79 hX hi FU).1 _ _ _ _ _ _ h
  · rw [if_neg c13] at h
    refine am_blk 16 [(.iload_n 1, 1, 1, 0, .null), (.bipush (12), 2, 0, 0, .int (12 : Int32))] (19, [(0, .ref 79), (1, .int (I 81 (I 79 9).toNatClampNeg))], [.int (12 : Int32), .int (I 81 (I 79 9).toNatClampNeg)], I, G, (gP 123)) (True) hX hi (by decide +kernel) rfl trivial ?_
    refine am_icmp_eq (tgt := 30) hX hi (off := (11)) (by decide +kernel) (by decide) (fun c19 => ?_) (fun c19 => ?_)
    · rw [if_pos c19] at h
      exact (l_X14_isOrderLine_79 hX hi FU).1 _ _ _ _ _ _ h
    · rw [if_neg c19] at h
      refine am_blk 22 [(.iload_n 1, 1, 1, 0, .null), (.bipush (6), 2, 0, 0, .int (6 : Int32))] (25, [(0, .ref 79), (1, .int (I 81 (I 79 9).toNatClampNeg))], [.int (6 : Int32), .int (I 81 (I 79 9).toNatClampNeg)], I, G, (gP 123)) (True) hX hi (by decide +kernel) rfl trivial ?_
      refine am_icmp_eq (tgt := 30) hX hi (off := (5)) (by decide +kernel) (by decide) (fun c25 => ?_) (fun c25 => ?_)
      · rw [if_pos c25] at h
        exact (l_X14_isOrderLine_79 hX hi FU).1 _ _ _ _ _ _ h
      · rw [if_neg c25] at h
        refine am_blk 28 [(.iconst (0), 1, 0, 0, .int (0 : Int32))] (29, [(0, .ref 79), (1, .int (I 81 (I 79 9).toNatClampNeg))], [.int (0 : Int32)], I, G, (gP 123)) (True) hX hi (by decide +kernel) rfl trivial ?_
        cases h
        refine am_iret hX hi rfl (by first | rfl | decide | (simp [narrow]; done)) (by decide +kernel) ?_
        exact ⟨rfl, rfl, rfl, rfl⟩
noncomputable def R_X14_isNew_79 (I : am_I) (G : am_G) (x1 : Int32) (x2 : Int32) (x3 : Int32) : Option (Int32 × am_I × am_G) := rg (vp_in x1 401) (rb (R_X14_told_79 I G x1 (I 84 x1.toNatClampNeg)) (fun r1 I1 G1 => (if r1 = (-1 : Int32) then (if x2 = x3 then some ((4 : Int32), I1, G1) else some ((0 : Int32), I1, G1)) else some ((2 : Int32), I1, G1))))
set_option maxRecDepth 20000 in
set_option maxHeartbeats 4000000 in
theorem c_X14_isNew_79 (I : am_I) (G : am_G) (x1 : Int32) (x2 : Int32) (x3 : Int32) {out : Int32 × am_I × am_G} (h : R_X14_isNew_79 I G x1 x2 x3 = some out) : am_Ct mX14_isNew 3 gS2 [.ref 79, .int x1, .int x2, .int x3] I G (gP 123) (pI out.1 out.2.1 out.2.2 (gP 123)) := by
  refine am_ofF (by decide +kernel) rfl (by decide) (by omega) (Nat.le_of_ble_eq_true rfl) (fun X ad hX hi => ?_)
  have hi : am_info X 12 cX14_isNew 4 false (Option.some Jvm.ClassFile.FieldType.int) 3 := hi
  show am_V X 0 0 _ _ ad (0, [(0, .ref 79), (1, .int x1), (2, .int x2), (3, .int x3)], [], I, G, (gP 123))
  unfold R_X14_isNew_79 at h
  obtain ⟨g0, h⟩ := rg_some h
  refine am_blk 0 [(.aload_n 0, 1, 0, 0, .null), (.iload_n 1, 1, 1, 0, .null), (.aload_n 0, 1, 0, 0, .null), (.getfield 26, 3, 12, 7, .null), (.iload_n 1, 1, 1, 0, .null), (.iaload, 1, 0, 0, .null)] (8, [(0, .ref 79), (1, .int x1), (2, .int x2), (3, .int x3)], [.int (I 84 x1.toNatClampNeg), .int x1, .ref 79], I, G, (gP 123)) (vp_in x1 401 ∧ True) hX hi (by decide +kernel) rfl ⟨g0, trivial⟩ ?_
  obtain ⟨r1, I1, G1, hc, h⟩ := rb_some h
  refine am_callV hX hi (M := mX14_told) (idx := 227) (d' := 2) (b := 79) (ci := 12) (As := [.int x1, .int (I 84 x1.toNatClampNeg)]) (rest := []) mkX14_told miX14_told mvX14_told (by decide +kernel) (by decide +kernel) rfl (by decide +kernel) rfl ⟨by omega, by decide, Nat.le_of_ble_eq_true rfl⟩ rfl (c_X14_told_79 I G x1 (I 84 x1.toNatClampNeg) hc) ?_
  rintro r9 I9 G9 P9 ⟨e0, e1, e2, e3⟩
  rw [e0, e1, e2, e3]
  show am_V X 0 0 _ _ ad (11, [(0, .ref 79), (1, .int x1), (2, .int x2), (3, .int x3)], [.int r1], I1, G1, (gP 123))
  refine am_blk 11 [(.iconst (-1), 1, 0, 0, .int (-1 : Int32))] (12, [(0, .ref 79), (1, .int x1), (2, .int x2), (3, .int x3)], [.int (-1 : Int32), .int r1], I1, G1, (gP 123)) (True) hX hi (by decide +kernel) rfl trivial ?_
  refine am_icmp_eq (tgt := 19) hX hi (off := (7)) (by decide +kernel) (by decide) (fun c12 => ?_) (fun c12 => ?_)
  · rw [if_pos c12] at h
    refine am_blk 19 [(.iload_n 2, 1, 2, 0, .null), (.iload_n 3, 1, 3, 0, .null)] (21, [(0, .ref 79), (1, .int x1), (2, .int x2), (3, .int x3)], [.int x3, .int x2], I1, G1, (gP 123)) (True) hX hi (by decide +kernel) rfl trivial ?_
    refine am_icmp_ne (tgt := 28) hX hi (off := (7)) (by decide +kernel) (by decide) (fun c21 => ?_) (fun c21 => ?_)
    · rw [if_neg c21] at h
      refine am_blk 28 [(.iconst (0), 1, 0, 0, .int (0 : Int32))] (29, [(0, .ref 79), (1, .int x1), (2, .int x2), (3, .int x3)], [.int (0 : Int32)], I1, G1, (gP 123)) (True) hX hi (by decide +kernel) rfl trivial ?_
      cases h
      refine am_iret hX hi rfl rfl (by decide +kernel) ?_
      exact ⟨rfl, rfl, rfl, rfl⟩
    · rw [if_pos c21] at h
      refine am_blk 24 [(.iconst (4), 1, 0, 0, .int (4 : Int32)), (.goto (4), 3, 0, 29, .null)] (29, [(0, .ref 79), (1, .int x1), (2, .int x2), (3, .int x3)], [.int (4 : Int32)], I1, G1, (gP 123)) (True) hX hi (by decide +kernel) rfl trivial ?_
      cases h
      refine am_iret hX hi rfl rfl (by decide +kernel) ?_
      exact ⟨rfl, rfl, rfl, rfl⟩
  · rw [if_neg c12] at h
    refine am_blk 15 [(.iconst (2), 1, 0, 0, .int (2 : Int32)), (.goto (13), 3, 0, 29, .null)] (29, [(0, .ref 79), (1, .int x1), (2, .int x2), (3, .int x3)], [.int (2 : Int32)], I1, G1, (gP 123)) (True) hX hi (by decide +kernel) rfl trivial ?_
    cases h
    refine am_iret hX hi rfl rfl (by decide +kernel) ?_
    exact ⟨rfl, rfl, rfl, rfl⟩
noncomputable def R_X14_look_79 (I : am_I) (G : am_G) (x1 : Int32) (x2 : Int32) : Option (Int32 × am_I × am_G) := rb (R_X14_told_79 I G x1 x2) (fun r1 I1 G1 => rg (vp_in x1 401) (rg (vp_in x1 401) ((if ((am_up I1 85 x1.toNatClampNeg r1) 85 x1.toNatClampNeg) = (-1 : Int32) then some ((3 : Int32), (am_up I1 85 x1.toNatClampNeg r1), G1) else some ((0 : Int32), (am_up I1 85 x1.toNatClampNeg r1), G1)))))
set_option maxRecDepth 20000 in
set_option maxHeartbeats 4000000 in
theorem c_X14_look_79 (I : am_I) (G : am_G) (x1 : Int32) (x2 : Int32) {out : Int32 × am_I × am_G} (h : R_X14_look_79 I G x1 x2 = some out) : am_Ct mX14_look 3 gS2 [.ref 79, .int x1, .int x2] I G (gP 123) (pI out.1 out.2.1 out.2.2 (gP 123)) := by
  refine am_ofF (by decide +kernel) rfl (by decide) (by omega) (Nat.le_of_ble_eq_true rfl) (fun X ad hX hi => ?_)
  have hi : am_info X 12 cX14_look 3 false (Option.some Jvm.ClassFile.FieldType.int) 3 := hi
  show am_V X 0 0 _ _ ad (0, [(0, .ref 79), (1, .int x1), (2, .int x2)], [], I, G, (gP 123))
  unfold R_X14_look_79 at h
  refine am_blk 0 [(.aload_n 0, 1, 0, 0, .null), (.getfield 29, 3, 12, 8, .null), (.iload_n 1, 1, 1, 0, .null), (.aload_n 0, 1, 0, 0, .null), (.iload_n 1, 1, 1, 0, .null), (.iload_n 2, 1, 2, 0, .null)] (8, [(0, .ref 79), (1, .int x1), (2, .int x2)], [.int x2, .int x1, .ref 79, .int x1, .ref 85], I, G, (gP 123)) (True) hX hi (by decide +kernel) rfl trivial ?_
  obtain ⟨r1, I1, G1, hc, h⟩ := rb_some h
  refine am_callV hX hi (M := mX14_told) (idx := 227) (d' := 2) (b := 79) (ci := 12) (As := [.int x1, .int x2]) (rest := [.int x1, .ref 85]) mkX14_told miX14_told mvX14_told (by decide +kernel) (by decide +kernel) rfl (by decide +kernel) rfl ⟨by omega, by decide, Nat.le_of_ble_eq_true rfl⟩ rfl (c_X14_told_79 I G x1 x2 hc) ?_
  rintro r9 I9 G9 P9 ⟨e0, e1, e2, e3⟩
  rw [e0, e1, e2, e3]
  show am_V X 0 0 _ _ ad (11, [(0, .ref 79), (1, .int x1), (2, .int x2)], [.int r1, .int x1, .ref 85], I1, G1, (gP 123))
  obtain ⟨g0, h⟩ := rg_some h
  obtain ⟨g1, h⟩ := rg_some h
  refine am_blk 11 [(.iastore, 1, 0, 0, .null), (.aload_n 0, 1, 0, 0, .null), (.getfield 29, 3, 12, 8, .null), (.iload_n 1, 1, 1, 0, .null), (.iaload, 1, 0, 0, .null), (.iconst (-1), 1, 0, 0, .int (-1 : Int32))] (19, [(0, .ref 79), (1, .int x1), (2, .int x2)], [.int (-1 : Int32), .int ((am_up I1 85 x1.toNatClampNeg r1) 85 x1.toNatClampNeg)], (am_up I1 85 x1.toNatClampNeg r1), G1, (gP 123)) (vp_in x1 401 ∧ vp_in x1 401 ∧ True) hX hi (by decide +kernel) rfl ⟨g0, g1, trivial⟩ ?_
  refine am_icmp_ne (tgt := 26) hX hi (off := (7)) (by decide +kernel) (by decide) (fun c19 => ?_) (fun c19 => ?_)
  · rw [if_neg c19] at h
    refine am_blk 26 [(.iconst (0), 1, 0, 0, .int (0 : Int32))] (27, [(0, .ref 79), (1, .int x1), (2, .int x2)], [.int (0 : Int32)], (am_up I1 85 x1.toNatClampNeg r1), G1, (gP 123)) (True) hX hi (by decide +kernel) rfl trivial ?_
    cases h
    refine am_iret hX hi rfl rfl (by decide +kernel) ?_
    exact ⟨rfl, rfl, rfl, rfl⟩
  · rw [if_pos c19] at h
    refine am_blk 22 [(.iconst (3), 1, 0, 0, .int (3 : Int32)), (.goto (4), 3, 0, 27, .null)] (27, [(0, .ref 79), (1, .int x1), (2, .int x2)], [.int (3 : Int32)], (am_up I1 85 x1.toNatClampNeg r1), G1, (gP 123)) (True) hX hi (by decide +kernel) rfl trivial ?_
    cases h
    refine am_iret hX hi rfl rfl (by decide +kernel) ?_
    exact ⟨rfl, rfl, rfl, rfl⟩
noncomputable def R_X14_of_79 (I : am_I) (G : am_G) (x1 : Int32) (x2 : Int32) : Option (Int32 × am_I × am_G) := rb (R_X14_look_79 I G x1 x2) (fun r1 I1 G1 => rg (vp_in x1 401) (rg (vp_in ((I1 123 13) - (1 : Int32)) 20) (some (r1, (am_up I1 133 ((I1 123 13) - (1 : Int32)).toNatClampNeg (I1 85 x1.toNatClampNeg)), G1))))
set_option maxRecDepth 20000 in
set_option maxHeartbeats 4000000 in
theorem c_X14_of_79 (I : am_I) (G : am_G) (x1 : Int32) (x2 : Int32) {out : Int32 × am_I × am_G} (h : R_X14_of_79 I G x1 x2 = some out) : am_Ct mX14_of 4 gS2 [.ref 79, .int x1, .int x2] I G (gP 123) (pI out.1 out.2.1 out.2.2 (gP 123)) := by
  refine am_ofF (by decide +kernel) rfl (by decide) (by omega) (Nat.le_of_ble_eq_true rfl) (fun X ad hX hi => ?_)
  have hi : am_info X 12 cX14_of 4 false (Option.some Jvm.ClassFile.FieldType.int) 4 := hi
  show am_V X 0 0 _ _ ad (0, [(0, .ref 79), (1, .int x1), (2, .int x2)], [], I, G, (gP 123))
  unfold R_X14_of_79 at h
  refine am_blk 0 [(.aload_n 0, 1, 0, 0, .null), (.iload_n 1, 1, 1, 0, .null), (.iload_n 2, 1, 2, 0, .null)] (3, [(0, .ref 79), (1, .int x1), (2, .int x2)], [.int x2, .int x1, .ref 79], I, G, (gP 123)) (True) hX hi (by decide +kernel) rfl trivial ?_
  obtain ⟨r1, I1, G1, hc, h⟩ := rb_some h
  refine am_callV hX hi (M := mX14_look) (idx := 240) (d' := 3) (b := 79) (ci := 12) (As := [.int x1, .int x2]) (rest := []) mkX14_look miX14_look mvX14_look (by decide +kernel) (by decide +kernel) rfl (by decide +kernel) rfl ⟨by omega, by decide, Nat.le_of_ble_eq_true rfl⟩ rfl (c_X14_look_79 I G x1 x2 hc) ?_
  rintro r9 I9 G9 P9 ⟨e0, e1, e2, e3⟩
  rw [e0, e1, e2, e3]
  show am_V X 0 0 _ _ ad (6, [(0, .ref 79), (1, .int x1), (2, .int x2)], [.int r1], I1, G1, (gP 123))
  obtain ⟨g0, h⟩ := rg_some h
  obtain ⟨g1, h⟩ := rg_some h
  refine am_blk 6 [(.istore_n 3, 1, 3, 0, .null), (.aload_n 0, 1, 0, 0, .null), (.getfield 39, 3, 12, 12, .null), (.getfield 243, 3, 10, 16, .null), (.aload_n 0, 1, 0, 0, .null), (.getfield 39, 3, 12, 12, .null), (.getfield 234, 3, 10, 13, .null), (.iconst (1), 1, 0, 0, .int (1 : Int32)), (.isub, 1, 0, 0, .null), (.aload_n 0, 1, 0, 0, .null), (.getfield 29, 3, 12, 8, .null), (.iload_n 1, 1, 1, 0, .null), (.iaload, 1, 0, 0, .null), (.iastore, 1, 0, 0, .null), (.iload_n 3, 1, 3, 0, .null)] (31, [(0, .ref 79), (1, .int x1), (2, .int x2), (3, .int r1)], [.int r1], (am_up I1 133 ((I1 123 13) - (1 : Int32)).toNatClampNeg (I1 85 x1.toNatClampNeg)), G1, (gP 123)) (vp_in x1 401 ∧ vp_in ((I1 123 13) - (1 : Int32)) 20 ∧ True) hX hi (by decide +kernel) rfl ⟨g0, g1, trivial⟩ ?_
  cases h
  refine am_iret hX hi rfl rfl (by decide +kernel) ?_
  exact ⟨rfl, rfl, rfl, rfl⟩
noncomputable def R_X14_newOctave_79 (I : am_I) (G : am_G) (x1 : Int32) : Option (Int32 × am_I × am_G) := rb (R_X14_isNew_79 I G x1 (I 123 2) (4 : Int32)) (fun r1 I1 G1 => (if r1 = 0 then some (r1, (am_up I1 123 2 ((I1 123 2) + (1 : Int32))), G1) else some (r1, (am_up I1 123 2 ((I1 123 2) + (0 : Int32))), G1)))
set_option maxRecDepth 20000 in
set_option maxHeartbeats 4000000 in
theorem c_X14_newOctave_79 (I : am_I) (G : am_G) (x1 : Int32) {out : Int32 × am_I × am_G} (h : R_X14_newOctave_79 I G x1 = some out) : am_Ct mX14_newOctave 4 gS2 [.ref 79, .int x1] I G (gP 123) (pI out.1 out.2.1 out.2.2 (gP 123)) := by
  refine am_ofF (by decide +kernel) rfl (by decide) (by omega) (Nat.le_of_ble_eq_true rfl) (fun X ad hX hi => ?_)
  have hi : am_info X 12 cX14_newOctave 3 false (Option.some Jvm.ClassFile.FieldType.int) 4 := hi
  show am_V X 0 0 _ _ ad (0, [(0, .ref 79), (1, .int x1)], [], I, G, (gP 123))
  unfold R_X14_newOctave_79 at h
  refine am_blk 0 [(.aload_n 0, 1, 0, 0, .null), (.iload_n 1, 1, 1, 0, .null), (.aload_n 0, 1, 0, 0, .null), (.getfield 39, 3, 12, 12, .null), (.getfield 60, 3, 10, 2, .null), (.iconst (4), 1, 0, 0, .int (4 : Int32))] (10, [(0, .ref 79), (1, .int x1)], [.int (4 : Int32), .int (I 123 2), .int x1, .ref 79], I, G, (gP 123)) (True) hX hi (by decide +kernel) rfl trivial ?_
  obtain ⟨r1, I1, G1, hc, h⟩ := rb_some h
  refine am_callV hX hi (M := mX14_isNew) (idx := 230) (d' := 3) (b := 79) (ci := 12) (As := [.int x1, .int (I 123 2), .int (4 : Int32)]) (rest := []) mkX14_isNew miX14_isNew mvX14_isNew (by decide +kernel) (by decide +kernel) rfl (by decide +kernel) rfl ⟨by omega, by decide, Nat.le_of_ble_eq_true rfl⟩ rfl (c_X14_isNew_79 I G x1 (I 123 2) (4 : Int32) hc) ?_
  rintro r9 I9 G9 P9 ⟨e0, e1, e2, e3⟩
  rw [e0, e1, e2, e3]
  show am_V X 0 0 _ _ ad (13, [(0, .ref 79), (1, .int x1)], [.int r1], I1, G1, (gP 123))
  refine am_blk 13 [(.istore_n 2, 1, 2, 0, .null), (.aload_n 0, 1, 0, 0, .null), (.getfield 39, 3, 12, 12, .null), (.dup, 1, 0, 0, .null), (.getfield 60, 3, 10, 2, .null), (.iload_n 2, 1, 2, 0, .null)] (23, [(0, .ref 79), (1, .int x1), (2, .int r1)], [.int r1, .int (I1 123 2), .ref 123], I1, G1, (gP 123)) (True) hX hi (by decide +kernel) rfl trivial ?_
  refine am_if_ne (tgt := 30) hX hi (off := (7)) (by decide +kernel) (by decide) (fun c23 => ?_) (fun c23 => ?_)
  · rw [if_neg c23] at h
    refine am_blk 30 [(.iconst (0), 1, 0, 0, .int (0 : Int32)), (.iadd, 1, 0, 0, .null), (.putfield 60, 3, 10, 2, .null), (.iload_n 2, 1, 2, 0, .null)] (36, [(0, .ref 79), (1, .int x1), (2, .int r1)], [.int r1], (am_up I1 123 2 ((I1 123 2) + (0 : Int32))), G1, (gP 123)) (True) hX hi (by decide +kernel) rfl trivial ?_
    cases h
    refine am_iret hX hi rfl rfl (by decide +kernel) ?_
    exact ⟨rfl, rfl, rfl, rfl⟩
  · rw [if_pos c23] at h
    refine am_blk 26 [(.iconst (1), 1, 0, 0, .int (1 : Int32)), (.goto (4), 3, 0, 31, .null), (.iadd, 1, 0, 0, .null), (.putfield 60, 3, 10, 2, .null), (.iload_n 2, 1, 2, 0, .null)] (36, [(0, .ref 79), (1, .int x1), (2, .int r1)], [.int r1], (am_up I1 123 2 ((I1 123 2) + (1 : Int32))), G1, (gP 123)) (True) hX hi (by decide +kernel) rfl trivial ?_
    cases h
    refine am_iret hX hi rfl rfl (by decide +kernel) ?_
    exact ⟨rfl, rfl, rfl, rfl⟩
noncomputable def R_X14_newComb_79 (I : am_I) (G : am_G) (x1 : Int32) : Option (Int32 × am_I × am_G) := rb (R_X14_isNew_79 I G x1 (I 123 3) (4 : Int32)) (fun r1 I1 G1 => (if r1 = 0 then some (r1, (am_up I1 123 3 ((I1 123 3) + (1 : Int32))), G1) else some (r1, (am_up I1 123 3 ((I1 123 3) + (0 : Int32))), G1)))
set_option maxRecDepth 20000 in
set_option maxHeartbeats 4000000 in
theorem c_X14_newComb_79 (I : am_I) (G : am_G) (x1 : Int32) {out : Int32 × am_I × am_G} (h : R_X14_newComb_79 I G x1 = some out) : am_Ct mX14_newComb 4 gS2 [.ref 79, .int x1] I G (gP 123) (pI out.1 out.2.1 out.2.2 (gP 123)) := by
  refine am_ofF (by decide +kernel) rfl (by decide) (by omega) (Nat.le_of_ble_eq_true rfl) (fun X ad hX hi => ?_)
  have hi : am_info X 12 cX14_newComb 3 false (Option.some Jvm.ClassFile.FieldType.int) 4 := hi
  show am_V X 0 0 _ _ ad (0, [(0, .ref 79), (1, .int x1)], [], I, G, (gP 123))
  unfold R_X14_newComb_79 at h
  refine am_blk 0 [(.aload_n 0, 1, 0, 0, .null), (.iload_n 1, 1, 1, 0, .null), (.aload_n 0, 1, 0, 0, .null), (.getfield 39, 3, 12, 12, .null), (.getfield 67, 3, 10, 3, .null), (.iconst (4), 1, 0, 0, .int (4 : Int32))] (10, [(0, .ref 79), (1, .int x1)], [.int (4 : Int32), .int (I 123 3), .int x1, .ref 79], I, G, (gP 123)) (True) hX hi (by decide +kernel) rfl trivial ?_
  obtain ⟨r1, I1, G1, hc, h⟩ := rb_some h
  refine am_callV hX hi (M := mX14_isNew) (idx := 230) (d' := 3) (b := 79) (ci := 12) (As := [.int x1, .int (I 123 3), .int (4 : Int32)]) (rest := []) mkX14_isNew miX14_isNew mvX14_isNew (by decide +kernel) (by decide +kernel) rfl (by decide +kernel) rfl ⟨by omega, by decide, Nat.le_of_ble_eq_true rfl⟩ rfl (c_X14_isNew_79 I G x1 (I 123 3) (4 : Int32) hc) ?_
  rintro r9 I9 G9 P9 ⟨e0, e1, e2, e3⟩
  rw [e0, e1, e2, e3]
  show am_V X 0 0 _ _ ad (13, [(0, .ref 79), (1, .int x1)], [.int r1], I1, G1, (gP 123))
  refine am_blk 13 [(.istore_n 2, 1, 2, 0, .null), (.aload_n 0, 1, 0, 0, .null), (.getfield 39, 3, 12, 12, .null), (.dup, 1, 0, 0, .null), (.getfield 67, 3, 10, 3, .null), (.iload_n 2, 1, 2, 0, .null)] (23, [(0, .ref 79), (1, .int x1), (2, .int r1)], [.int r1, .int (I1 123 3), .ref 123], I1, G1, (gP 123)) (True) hX hi (by decide +kernel) rfl trivial ?_
  refine am_if_ne (tgt := 30) hX hi (off := (7)) (by decide +kernel) (by decide) (fun c23 => ?_) (fun c23 => ?_)
  · rw [if_neg c23] at h
    refine am_blk 30 [(.iconst (0), 1, 0, 0, .int (0 : Int32)), (.iadd, 1, 0, 0, .null), (.putfield 67, 3, 10, 3, .null), (.iload_n 2, 1, 2, 0, .null)] (36, [(0, .ref 79), (1, .int x1), (2, .int r1)], [.int r1], (am_up I1 123 3 ((I1 123 3) + (0 : Int32))), G1, (gP 123)) (True) hX hi (by decide +kernel) rfl trivial ?_
    cases h
    refine am_iret hX hi rfl rfl (by decide +kernel) ?_
    exact ⟨rfl, rfl, rfl, rfl⟩
  · rw [if_pos c23] at h
    refine am_blk 26 [(.iconst (1), 1, 0, 0, .int (1 : Int32)), (.goto (4), 3, 0, 31, .null), (.iadd, 1, 0, 0, .null), (.putfield 67, 3, 10, 3, .null), (.iload_n 2, 1, 2, 0, .null)] (36, [(0, .ref 79), (1, .int x1), (2, .int r1)], [.int r1], (am_up I1 123 3 ((I1 123 3) + (1 : Int32))), G1, (gP 123)) (True) hX hi (by decide +kernel) rfl trivial ?_
    cases h
    refine am_iret hX hi rfl rfl (by decide +kernel) ?_
    exact ⟨rfl, rfl, rfl, rfl⟩
noncomputable def R_X14_newInk_79 (I : am_I) (G : am_G) (x1 : Int32) : Option (Int32 × am_I × am_G) := rb (R_X14_isNew_79 I G x1 (I 123 4) (5 : Int32)) (fun r1 I1 G1 => (if r1 = 0 then some (r1, (am_up I1 123 4 ((I1 123 4) + (1 : Int32))), G1) else some (r1, (am_up I1 123 4 ((I1 123 4) + (0 : Int32))), G1)))
set_option maxRecDepth 20000 in
set_option maxHeartbeats 4000000 in
theorem c_X14_newInk_79 (I : am_I) (G : am_G) (x1 : Int32) {out : Int32 × am_I × am_G} (h : R_X14_newInk_79 I G x1 = some out) : am_Ct mX14_newInk 4 gS2 [.ref 79, .int x1] I G (gP 123) (pI out.1 out.2.1 out.2.2 (gP 123)) := by
  refine am_ofF (by decide +kernel) rfl (by decide) (by omega) (Nat.le_of_ble_eq_true rfl) (fun X ad hX hi => ?_)
  have hi : am_info X 12 cX14_newInk 3 false (Option.some Jvm.ClassFile.FieldType.int) 4 := hi
  show am_V X 0 0 _ _ ad (0, [(0, .ref 79), (1, .int x1)], [], I, G, (gP 123))
  unfold R_X14_newInk_79 at h
  refine am_blk 0 [(.aload_n 0, 1, 0, 0, .null), (.iload_n 1, 1, 1, 0, .null), (.aload_n 0, 1, 0, 0, .null), (.getfield 39, 3, 12, 12, .null), (.getfield 70, 3, 10, 4, .null), (.iconst (5), 1, 0, 0, .int (5 : Int32))] (10, [(0, .ref 79), (1, .int x1)], [.int (5 : Int32), .int (I 123 4), .int x1, .ref 79], I, G, (gP 123)) (True) hX hi (by decide +kernel) rfl trivial ?_
  obtain ⟨r1, I1, G1, hc, h⟩ := rb_some h
  refine am_callV hX hi (M := mX14_isNew) (idx := 230) (d' := 3) (b := 79) (ci := 12) (As := [.int x1, .int (I 123 4), .int (5 : Int32)]) (rest := []) mkX14_isNew miX14_isNew mvX14_isNew (by decide +kernel) (by decide +kernel) rfl (by decide +kernel) rfl ⟨by omega, by decide, Nat.le_of_ble_eq_true rfl⟩ rfl (c_X14_isNew_79 I G x1 (I 123 4) (5 : Int32) hc) ?_
  rintro r9 I9 G9 P9 ⟨e0, e1, e2, e3⟩
  rw [e0, e1, e2, e3]
  show am_V X 0 0 _ _ ad (13, [(0, .ref 79), (1, .int x1)], [.int r1], I1, G1, (gP 123))
  refine am_blk 13 [(.istore_n 2, 1, 2, 0, .null), (.aload_n 0, 1, 0, 0, .null), (.getfield 39, 3, 12, 12, .null), (.dup, 1, 0, 0, .null), (.getfield 70, 3, 10, 4, .null), (.iload_n 2, 1, 2, 0, .null)] (23, [(0, .ref 79), (1, .int x1), (2, .int r1)], [.int r1, .int (I1 123 4), .ref 123], I1, G1, (gP 123)) (True) hX hi (by decide +kernel) rfl trivial ?_
  refine am_if_ne (tgt := 30) hX hi (off := (7)) (by decide +kernel) (by decide) (fun c23 => ?_) (fun c23 => ?_)
  · rw [if_neg c23] at h
    refine am_blk 30 [(.iconst (0), 1, 0, 0, .int (0 : Int32)), (.iadd, 1, 0, 0, .null), (.putfield 70, 3, 10, 4, .null), (.iload_n 2, 1, 2, 0, .null)] (36, [(0, .ref 79), (1, .int x1), (2, .int r1)], [.int r1], (am_up I1 123 4 ((I1 123 4) + (0 : Int32))), G1, (gP 123)) (True) hX hi (by decide +kernel) rfl trivial ?_
    cases h
    refine am_iret hX hi rfl rfl (by decide +kernel) ?_
    exact ⟨rfl, rfl, rfl, rfl⟩
  · rw [if_pos c23] at h
    refine am_blk 26 [(.iconst (1), 1, 0, 0, .int (1 : Int32)), (.goto (4), 3, 0, 31, .null), (.iadd, 1, 0, 0, .null), (.putfield 70, 3, 10, 4, .null), (.iload_n 2, 1, 2, 0, .null)] (36, [(0, .ref 79), (1, .int x1), (2, .int r1)], [.int r1], (am_up I1 123 4 ((I1 123 4) + (1 : Int32))), G1, (gP 123)) (True) hX hi (by decide +kernel) rfl trivial ?_
    cases h
    refine am_iret hX hi rfl rfl (by decide +kernel) ?_
    exact ⟨rfl, rfl, rfl, rfl⟩
noncomputable def R_X14_inRange_79 (I : am_I) (G : am_G) (x1 : Int32) (x2 : Int32) (x3 : Int32) : Option (Int32 × am_I × am_G) := rb (R_X14_numberAt_79 I G x1) (fun r1 I1 G1 => (if (f_X14_isIn I1 G1 r1 x2 x3) = 0 then some ((5 : Int32), I1, G1) else some ((0 : Int32), I1, G1)))
set_option maxRecDepth 20000 in
set_option maxHeartbeats 4000000 in
theorem c_X14_inRange_79 (I : am_I) (G : am_G) (x1 : Int32) (x2 : Int32) (x3 : Int32) {out : Int32 × am_I × am_G} (h : R_X14_inRange_79 I G x1 x2 x3 = some out) : am_Ct mX14_inRange 2 gS2 [.ref 79, .int x1, .int x2, .int x3] I G (gP 123) (pI out.1 out.2.1 out.2.2 (gP 123)) := by
  refine am_ofF (by decide +kernel) rfl (by decide) (by omega) (Nat.le_of_ble_eq_true rfl) (fun X ad hX hi => ?_)
  have hi : am_info X 12 cX14_inRange 4 false (Option.some Jvm.ClassFile.FieldType.int) 2 := hi
  show am_V X 0 0 _ _ ad (0, [(0, .ref 79), (1, .int x1), (2, .int x2), (3, .int x3)], [], I, G, (gP 123))
  unfold R_X14_inRange_79 at h
  refine am_blk 0 [(.aload_n 0, 1, 0, 0, .null), (.iload_n 1, 1, 1, 0, .null)] (2, [(0, .ref 79), (1, .int x1), (2, .int x2), (3, .int x3)], [.int x1, .ref 79], I, G, (gP 123)) (True) hX hi (by decide +kernel) rfl trivial ?_
  obtain ⟨r1, I1, G1, hc, h⟩ := rb_some h
  refine am_callV hX hi (M := mX14_numberAt) (idx := 217) (d' := 1) (b := 79) (ci := 12) (As := [.int x1]) (rest := []) mkX14_numberAt miX14_numberAt mvX14_numberAt (by decide +kernel) (by decide +kernel) rfl (by decide +kernel) rfl ⟨by omega, by decide, Nat.le_of_ble_eq_true rfl⟩ rfl (c_X14_numberAt_79 I G x1 hc) ?_
  rintro r9 I9 G9 P9 ⟨e0, e1, e2, e3⟩
  rw [e0, e1, e2, e3]
  show am_V X 0 0 _ _ ad (5, [(0, .ref 79), (1, .int x1), (2, .int x2), (3, .int x3)], [.int r1], I1, G1, (gP 123))
  refine am_blk 5 [(.iload_n 2, 1, 2, 0, .null), (.iload_n 3, 1, 3, 0, .null)] (7, [(0, .ref 79), (1, .int x1), (2, .int x2), (3, .int x3)], [.int x3, .int x2, .int r1], I1, G1, (gP 123)) (True) hX hi (by decide +kernel) rfl trivial ?_
  refine am_callS hX hi (M := mX14_isIn) (idx := 63) (d' := 1) (As := [.int r1, .int x2, .int x3]) (rest := []) mkX14_isIn msX14_isIn (by decide +kernel) (by decide +kernel) rfl ⟨by omega, by decide, Nat.le_of_ble_eq_true rfl⟩ rfl (c_X14_isIn I1 G1 r1 x2 x3) ?_
  rintro r9 I9 G9 P9 ⟨e0, e1, e2, e3⟩
  rw [e0, e1, e2, e3]
  show am_V X 0 0 _ _ ad (10, [(0, .ref 79), (1, .int x1), (2, .int x2), (3, .int x3)], [.int (f_X14_isIn I1 G1 r1 x2 x3)], I1, G1, (gP 123))
  refine am_if_eq (tgt := 17) hX hi (off := (7)) (by decide +kernel) (by decide) (fun c10 => ?_) (fun c10 => ?_)
  · rw [if_pos c10] at h
    refine am_blk 17 [(.iconst (5), 1, 0, 0, .int (5 : Int32))] (18, [(0, .ref 79), (1, .int x1), (2, .int x2), (3, .int x3)], [.int (5 : Int32)], I1, G1, (gP 123)) (True) hX hi (by decide +kernel) rfl trivial ?_
    cases h
    refine am_iret hX hi rfl rfl (by decide +kernel) ?_
    exact ⟨rfl, rfl, rfl, rfl⟩
  · rw [if_neg c10] at h
    refine am_blk 13 [(.iconst (0), 1, 0, 0, .int (0 : Int32)), (.goto (4), 3, 0, 18, .null)] (18, [(0, .ref 79), (1, .int x1), (2, .int x2), (3, .int x3)], [.int (0 : Int32)], I1, G1, (gP 123)) (True) hX hi (by decide +kernel) rfl trivial ?_
    cases h
    refine am_iret hX hi rfl rfl (by decide +kernel) ?_
    exact ⟨rfl, rfl, rfl, rfl⟩
noncomputable def L_X14_isPlan_79 (n0 : Nat) (hd : Nat) (I : am_I) (G : am_G)  : Option (Int32 × am_I × am_G) := match n0 with
  | 0 => none
  | n + 1 => match hd with
    | _ => rg (q_X14_is_79 I G (900 : Int32)) ((if (f_X14_is_79 I G (900 : Int32)) = 0 then rg (q_X14_is_79 I G (0 : Int32)) ((if (f_X14_is_79 I G (0 : Int32)) = 0 then rg (q_X14_is_79 I G (2 : Int32)) ((if (f_X14_is_79 I G (2 : Int32)) = 0 then rg (q_X14_is_79 I G (7 : Int32)) ((if (f_X14_is_79 I G (7 : Int32)) = 0 then rg (q_X14_is_79 I G (10 : Int32)) ((if (f_X14_is_79 I G (10 : Int32)) = 0 then rb (R_X14_isOrderLine_79 I G ) (fun r101 I101 G101 => (if r101 = 0 then some ((0 : Int32), I101, G101) else rb (R_X14_eatSign_79 I101 G101 (59 : Int32)) (fun r102 I102 G102 => (if r102 = 0 then some ((0 : Int32), I102, G102) else L_X14_isPlan_79 n 0 I102 G102 )))) else rb (R_X14_isInkLine_79 I G ) (fun r103 I103 G103 => (if r103 = 0 then some ((0 : Int32), I103, G103) else rb (R_X14_eatSign_79 I103 G103 (59 : Int32)) (fun r104 I104 G104 => (if r104 = 0 then some ((0 : Int32), I104, G104) else L_X14_isPlan_79 n 0 I104 G104 )))))) else rb (R_X14_isCombLine_79 I G ) (fun r105 I105 G105 => (if r105 = 0 then some ((0 : Int32), I105, G105) else rb (R_X14_eatSign_79 I105 G105 (59 : Int32)) (fun r106 I106 G106 => (if r106 = 0 then some ((0 : Int32), I106, G106) else L_X14_isPlan_79 n 0 I106 G106 )))))) else rb (R_X14_isOctaveLine_79 I G ) (fun r107 I107 G107 => (if r107 = 0 then some ((0 : Int32), I107, G107) else rb (R_X14_eatSign_79 I107 G107 (59 : Int32)) (fun r108 I108 G108 => (if r108 = 0 then some ((0 : Int32), I108, G108) else L_X14_isPlan_79 n 0 I108 G108 )))))) else rb (R_X14_isPaper_79 I G ) (fun r109 I109 G109 => (if r109 = 0 then some ((0 : Int32), I109, G109) else rb (R_X14_eatSign_79 I109 G109 (59 : Int32)) (fun r110 I110 G110 => (if r110 = 0 then some ((0 : Int32), I110, G110) else L_X14_isPlan_79 n 0 I110 G110 )))))) else some ((1 : Int32), I, G)))
theorem L_X14_isPlan_79_0 (n : Nat) (I : am_I) (G : am_G)  : L_X14_isPlan_79 (n + 1) 0 I G  = rg (q_X14_is_79 I G (900 : Int32)) ((if (f_X14_is_79 I G (900 : Int32)) = 0 then rg (q_X14_is_79 I G (0 : Int32)) ((if (f_X14_is_79 I G (0 : Int32)) = 0 then rg (q_X14_is_79 I G (2 : Int32)) ((if (f_X14_is_79 I G (2 : Int32)) = 0 then rg (q_X14_is_79 I G (7 : Int32)) ((if (f_X14_is_79 I G (7 : Int32)) = 0 then rg (q_X14_is_79 I G (10 : Int32)) ((if (f_X14_is_79 I G (10 : Int32)) = 0 then rb (R_X14_isOrderLine_79 I G ) (fun r101 I101 G101 => (if r101 = 0 then some ((0 : Int32), I101, G101) else rb (R_X14_eatSign_79 I101 G101 (59 : Int32)) (fun r102 I102 G102 => (if r102 = 0 then some ((0 : Int32), I102, G102) else L_X14_isPlan_79 n 0 I102 G102 )))) else rb (R_X14_isInkLine_79 I G ) (fun r103 I103 G103 => (if r103 = 0 then some ((0 : Int32), I103, G103) else rb (R_X14_eatSign_79 I103 G103 (59 : Int32)) (fun r104 I104 G104 => (if r104 = 0 then some ((0 : Int32), I104, G104) else L_X14_isPlan_79 n 0 I104 G104 )))))) else rb (R_X14_isCombLine_79 I G ) (fun r105 I105 G105 => (if r105 = 0 then some ((0 : Int32), I105, G105) else rb (R_X14_eatSign_79 I105 G105 (59 : Int32)) (fun r106 I106 G106 => (if r106 = 0 then some ((0 : Int32), I106, G106) else L_X14_isPlan_79 n 0 I106 G106 )))))) else rb (R_X14_isOctaveLine_79 I G ) (fun r107 I107 G107 => (if r107 = 0 then some ((0 : Int32), I107, G107) else rb (R_X14_eatSign_79 I107 G107 (59 : Int32)) (fun r108 I108 G108 => (if r108 = 0 then some ((0 : Int32), I108, G108) else L_X14_isPlan_79 n 0 I108 G108 )))))) else rb (R_X14_isPaper_79 I G ) (fun r109 I109 G109 => (if r109 = 0 then some ((0 : Int32), I109, G109) else rb (R_X14_eatSign_79 I109 G109 (59 : Int32)) (fun r110 I110 G110 => (if r110 = 0 then some ((0 : Int32), I110, G110) else L_X14_isPlan_79 n 0 I110 G110 )))))) else some ((1 : Int32), I, G))) := rfl
theorem L_X14_isPlan_79_z (h : Nat) (I : am_I) (G : am_G)  : L_X14_isPlan_79 0 h I G  = none := rfl
noncomputable def R_X14_isPlan_79 (I : am_I) (G : am_G)  : Option (Int32 × am_I × am_G) := L_X14_isPlan_79 FU 0 I G 
set_option maxRecDepth 20000 in
set_option maxHeartbeats 4000000 in
theorem l_X14_isPlan_79 {X : am_X} {ad : Nat → Nat} (hX : am_okz X ad) (hi : am_info X 12 cX14_isPlan 2 false (Option.some Jvm.ClassFile.FieldType.boolean) 50) (n : Nat) : (∀ (I : am_I) (G : am_G)  (out : Int32 × am_I × am_G), L_X14_isPlan_79 n 0 I G  = some out → am_V X 0 0 (am_Rt X gS2 ad (pI out.1 out.2.1 out.2.2 (gP 123))) gS2 ad (0, [(0, .ref 79)], [], I, G, (gP 123))) := by
  induction n with
  | zero => exact fun I G  out h => by rw [L_X14_isPlan_79_z] at h; cases h
  | succ n ih =>
    · intro I G  out h
      rw [L_X14_isPlan_79_0] at h
      refine am_blk 0 [(.aload_n 0, 1, 0, 0, .null), (.sipush (900), 3, 0, 0, .int (900 : Int32))] (4, [(0, .ref 79)], [.int (900 : Int32), .ref 79], I, G, (gP 123)) (True) hX hi (by decide +kernel) rfl trivial ?_
      obtain ⟨hq1, h⟩ := rg_some h
      refine am_callV hX hi (M := mX14_is) (idx := 125) (d' := 1) (b := 79) (ci := 12) (As := [.int (900 : Int32)]) (rest := []) mkX14_is miX14_is mvX14_is (by decide +kernel) (by decide +kernel) rfl (by decide +kernel) rfl ⟨by omega, by decide, Nat.le_of_ble_eq_true rfl⟩ rfl (c_X14_is_79 I G (900 : Int32) hq1) ?_
      rintro r9 I9 G9 P9 ⟨e0, e1, e2, e3⟩
      rw [e0, e1, e2, e3]
      show am_V X 0 0 _ _ ad (7, [(0, .ref 79)], [.int (f_X14_is_79 I G (900 : Int32))], I, G, (gP 123))
      refine am_if_ne (tgt := 95) hX hi (off := (88)) (by decide +kernel) (by decide) (fun c7 => ?_) (fun c7 => ?_)
      · rw [if_neg c7] at h
        refine am_blk 95 [(.iconst (1), 1, 0, 0, .int (1 : Int32))] (96, [(0, .ref 79)], [.int (1 : Int32)], I, G, (gP 123)) (True) hX hi (by decide +kernel) rfl trivial ?_
        cases h
        refine am_iret hX hi rfl (by first | rfl | decide | (simp [narrow]; done)) (by decide +kernel) ?_
        exact ⟨rfl, rfl, rfl, rfl⟩
      · rw [if_pos c7] at h
        refine am_blk 10 [(.aload_n 0, 1, 0, 0, .null), (.iconst (0), 1, 0, 0, .int (0 : Int32))] (12, [(0, .ref 79)], [.int (0 : Int32), .ref 79], I, G, (gP 123)) (True) hX hi (by decide +kernel) rfl trivial ?_
        obtain ⟨hq1, h⟩ := rg_some h
        refine am_callV hX hi (M := mX14_is) (idx := 125) (d' := 1) (b := 79) (ci := 12) (As := [.int (0 : Int32)]) (rest := []) mkX14_is miX14_is mvX14_is (by decide +kernel) (by decide +kernel) rfl (by decide +kernel) rfl ⟨by omega, by decide, Nat.le_of_ble_eq_true rfl⟩ rfl (c_X14_is_79 I G (0 : Int32) hq1) ?_
        rintro r9 I9 G9 P9 ⟨e0, e1, e2, e3⟩
        rw [e0, e1, e2, e3]
        show am_V X 0 0 _ _ ad (15, [(0, .ref 79)], [.int (f_X14_is_79 I G (0 : Int32))], I, G, (gP 123))
        refine am_if_eq (tgt := 25) hX hi (off := (10)) (by decide +kernel) (by decide) (fun c15 => ?_) (fun c15 => ?_)
        · rw [if_pos c15] at h
          refine am_blk 25 [(.aload_n 0, 1, 0, 0, .null), (.iconst (2), 1, 0, 0, .int (2 : Int32))] (27, [(0, .ref 79)], [.int (2 : Int32), .ref 79], I, G, (gP 123)) (True) hX hi (by decide +kernel) rfl trivial ?_
          obtain ⟨hq1, h⟩ := rg_some h
          refine am_callV hX hi (M := mX14_is) (idx := 125) (d' := 1) (b := 79) (ci := 12) (As := [.int (2 : Int32)]) (rest := []) mkX14_is miX14_is mvX14_is (by decide +kernel) (by decide +kernel) rfl (by decide +kernel) rfl ⟨by omega, by decide, Nat.le_of_ble_eq_true rfl⟩ rfl (c_X14_is_79 I G (2 : Int32) hq1) ?_
          rintro r9 I9 G9 P9 ⟨e0, e1, e2, e3⟩
          rw [e0, e1, e2, e3]
          show am_V X 0 0 _ _ ad (30, [(0, .ref 79)], [.int (f_X14_is_79 I G (2 : Int32))], I, G, (gP 123))
          refine am_if_eq (tgt := 40) hX hi (off := (10)) (by decide +kernel) (by decide) (fun c30 => ?_) (fun c30 => ?_)
          · rw [if_pos c30] at h
            refine am_blk 40 [(.aload_n 0, 1, 0, 0, .null), (.bipush (7), 2, 0, 0, .int (7 : Int32))] (43, [(0, .ref 79)], [.int (7 : Int32), .ref 79], I, G, (gP 123)) (True) hX hi (by decide +kernel) rfl trivial ?_
            obtain ⟨hq1, h⟩ := rg_some h
            refine am_callV hX hi (M := mX14_is) (idx := 125) (d' := 1) (b := 79) (ci := 12) (As := [.int (7 : Int32)]) (rest := []) mkX14_is miX14_is mvX14_is (by decide +kernel) (by decide +kernel) rfl (by decide +kernel) rfl ⟨by omega, by decide, Nat.le_of_ble_eq_true rfl⟩ rfl (c_X14_is_79 I G (7 : Int32) hq1) ?_
            rintro r9 I9 G9 P9 ⟨e0, e1, e2, e3⟩
            rw [e0, e1, e2, e3]
            show am_V X 0 0 _ _ ad (46, [(0, .ref 79)], [.int (f_X14_is_79 I G (7 : Int32))], I, G, (gP 123))
            refine am_if_eq (tgt := 56) hX hi (off := (10)) (by decide +kernel) (by decide) (fun c46 => ?_) (fun c46 => ?_)
            · rw [if_pos c46] at h
              refine am_blk 56 [(.aload_n 0, 1, 0, 0, .null), (.bipush (10), 2, 0, 0, .int (10 : Int32))] (59, [(0, .ref 79)], [.int (10 : Int32), .ref 79], I, G, (gP 123)) (True) hX hi (by decide +kernel) rfl trivial ?_
              obtain ⟨hq1, h⟩ := rg_some h
              refine am_callV hX hi (M := mX14_is) (idx := 125) (d' := 1) (b := 79) (ci := 12) (As := [.int (10 : Int32)]) (rest := []) mkX14_is miX14_is mvX14_is (by decide +kernel) (by decide +kernel) rfl (by decide +kernel) rfl ⟨by omega, by decide, Nat.le_of_ble_eq_true rfl⟩ rfl (c_X14_is_79 I G (10 : Int32) hq1) ?_
              rintro r9 I9 G9 P9 ⟨e0, e1, e2, e3⟩
              rw [e0, e1, e2, e3]
              show am_V X 0 0 _ _ ad (62, [(0, .ref 79)], [.int (f_X14_is_79 I G (10 : Int32))], I, G, (gP 123))
              refine am_if_eq (tgt := 72) hX hi (off := (10)) (by decide +kernel) (by decide) (fun c62 => ?_) (fun c62 => ?_)
              · rw [if_pos c62] at h
                refine am_blk 72 [(.aload_n 0, 1, 0, 0, .null)] (73, [(0, .ref 79)], [.ref 79], I, G, (gP 123)) (True) hX hi (by decide +kernel) rfl trivial ?_
                obtain ⟨r101, I101, G101, hc, h⟩ := rb_some h
                refine am_callV hX hi (M := mX14_isOrderLine) (idx := 148) (d' := 49) (b := 79) (ci := 12) (As := []) (rest := []) mkX14_isOrderLine miX14_isOrderLine mvX14_isOrderLine (by decide +kernel) (by decide +kernel) rfl (by decide +kernel) rfl ⟨by omega, by decide, Nat.le_of_ble_eq_true rfl⟩ rfl (c_X14_isOrderLine_79 I G  hc) ?_
                rintro r9 I9 G9 P9 ⟨e0, e1, e2, e3⟩
                rw [e0, e1, e2, e3]
                show am_V X 0 0 _ _ ad (76, [(0, .ref 79)], [.int r101], I101, G101, (gP 123))
                refine am_blk 76 [(.istore_n 1, 1, 1, 0, .null), (.iload_n 1, 1, 1, 0, .null)] (78, [(0, .ref 79), (1, .int r101)], [.int r101], I101, G101, (gP 123)) (True) hX hi (by decide +kernel) rfl trivial ?_
                refine am_if_eq (tgt := 90) hX hi (off := (12)) (by decide +kernel) (by decide) (fun c78 => ?_) (fun c78 => ?_)
                · rw [if_pos c78] at h
                  refine am_blk 90 [(.iconst (0), 1, 0, 0, .int (0 : Int32))] (91, [(0, .ref 79), (1, .int r101)], [.int (0 : Int32)], I101, G101, (gP 123)) (True) hX hi (by decide +kernel) rfl trivial ?_
                  cases h
                  refine am_iret hX hi rfl (by first | rfl | decide | (simp [narrow]; done)) (by decide +kernel) ?_
                  exact ⟨rfl, rfl, rfl, rfl⟩
                · rw [if_neg c78] at h
                  refine am_blk 81 [(.aload_n 0, 1, 0, 0, .null), (.bipush (59), 2, 0, 0, .int (59 : Int32))] (84, [(0, .ref 79), (1, .int r101)], [.int (59 : Int32), .ref 79], I101, G101, (gP 123)) (True) hX hi (by decide +kernel) rfl trivial ?_
                  obtain ⟨r102, I102, G102, hc, h⟩ := rb_some h
                  refine am_callV hX hi (M := mX14_eatSign) (idx := 151) (d' := 3) (b := 79) (ci := 12) (As := [.int (59 : Int32)]) (rest := []) mkX14_eatSign miX14_eatSign mvX14_eatSign (by decide +kernel) (by decide +kernel) rfl (by decide +kernel) rfl ⟨by omega, by decide, Nat.le_of_ble_eq_true rfl⟩ rfl (c_X14_eatSign_79 I101 G101 (59 : Int32) hc) ?_
                  rintro r9 I9 G9 P9 ⟨e0, e1, e2, e3⟩
                  rw [e0, e1, e2, e3]
                  show am_V X 0 0 _ _ ad (87, [(0, .ref 79), (1, .int r101)], [.int r102], I102, G102, (gP 123))
                  refine am_if_ne (tgt := 92) hX hi (off := (5)) (by decide +kernel) (by decide) (fun c87 => ?_) (fun c87 => ?_)
                  · rw [if_neg c87] at h
                    refine am_blk 92 [(.goto (-92), 3, 0, 0, .null)] (0, [(0, .ref 79), (1, .int r101)], [], I102, G102, (gP 123)) (True) hX hi (by decide +kernel) rfl trivial ?_
                    refine am_sub (L' := [(0, .ref 79)]) (by simp) ?_
                    exact ih _ _  _ h
                  · rw [if_pos c87] at h
                    refine am_blk 90 [(.iconst (0), 1, 0, 0, .int (0 : Int32))] (91, [(0, .ref 79), (1, .int r101)], [.int (0 : Int32)], I102, G102, (gP 123)) (True) hX hi (by decide +kernel) rfl trivial ?_
                    cases h
                    refine am_iret hX hi rfl (by first | rfl | decide | (simp [narrow]; done)) (by decide +kernel) ?_
                    exact ⟨rfl, rfl, rfl, rfl⟩
              · rw [if_neg c62] at h
                refine am_blk 65 [(.aload_n 0, 1, 0, 0, .null)] (66, [(0, .ref 79)], [.ref 79], I, G, (gP 123)) (True) hX hi (by decide +kernel) rfl trivial ?_
                obtain ⟨r103, I103, G103, hc, h⟩ := rb_some h
                refine am_callV hX hi (M := mX14_isInkLine) (idx := 145) (d' := 4) (b := 79) (ci := 12) (As := []) (rest := []) mkX14_isInkLine miX14_isInkLine mvX14_isInkLine (by decide +kernel) (by decide +kernel) rfl (by decide +kernel) rfl ⟨by omega, by decide, Nat.le_of_ble_eq_true rfl⟩ rfl (c_X14_isInkLine_79 I G  hc) ?_
                rintro r9 I9 G9 P9 ⟨e0, e1, e2, e3⟩
                rw [e0, e1, e2, e3]
                show am_V X 0 0 _ _ ad (69, [(0, .ref 79)], [.int r103], I103, G103, (gP 123))
                refine am_blk 69 [(.goto (7), 3, 0, 76, .null), (.istore_n 1, 1, 1, 0, .null), (.iload_n 1, 1, 1, 0, .null)] (78, [(0, .ref 79), (1, .int r103)], [.int r103], I103, G103, (gP 123)) (True) hX hi (by decide +kernel) rfl trivial ?_
                refine am_if_eq (tgt := 90) hX hi (off := (12)) (by decide +kernel) (by decide) (fun c78 => ?_) (fun c78 => ?_)
                · rw [if_pos c78] at h
                  refine am_blk 90 [(.iconst (0), 1, 0, 0, .int (0 : Int32))] (91, [(0, .ref 79), (1, .int r103)], [.int (0 : Int32)], I103, G103, (gP 123)) (True) hX hi (by decide +kernel) rfl trivial ?_
                  cases h
                  refine am_iret hX hi rfl (by first | rfl | decide | (simp [narrow]; done)) (by decide +kernel) ?_
                  exact ⟨rfl, rfl, rfl, rfl⟩
                · rw [if_neg c78] at h
                  refine am_blk 81 [(.aload_n 0, 1, 0, 0, .null), (.bipush (59), 2, 0, 0, .int (59 : Int32))] (84, [(0, .ref 79), (1, .int r103)], [.int (59 : Int32), .ref 79], I103, G103, (gP 123)) (True) hX hi (by decide +kernel) rfl trivial ?_
                  obtain ⟨r104, I104, G104, hc, h⟩ := rb_some h
                  refine am_callV hX hi (M := mX14_eatSign) (idx := 151) (d' := 3) (b := 79) (ci := 12) (As := [.int (59 : Int32)]) (rest := []) mkX14_eatSign miX14_eatSign mvX14_eatSign (by decide +kernel) (by decide +kernel) rfl (by decide +kernel) rfl ⟨by omega, by decide, Nat.le_of_ble_eq_true rfl⟩ rfl (c_X14_eatSign_79 I103 G103 (59 : Int32) hc) ?_
                  rintro r9 I9 G9 P9 ⟨e0, e1, e2, e3⟩
                  rw [e0, e1, e2, e3]
                  show am_V X 0 0 _ _ ad (87, [(0, .ref 79), (1, .int r103)], [.int r104], I104, G104, (gP 123))
                  refine am_if_ne (tgt := 92) hX hi (off := (5)) (by decide +kernel) (by decide) (fun c87 => ?_) (fun c87 => ?_)
                  · rw [if_neg c87] at h
                    refine am_blk 92 [(.goto (-92), 3, 0, 0, .null)] (0, [(0, .ref 79), (1, .int r103)], [], I104, G104, (gP 123)) (True) hX hi (by decide +kernel) rfl trivial ?_
                    refine am_sub (L' := [(0, .ref 79)]) (by simp) ?_
                    exact ih _ _  _ h
                  · rw [if_pos c87] at h
                    refine am_blk 90 [(.iconst (0), 1, 0, 0, .int (0 : Int32))] (91, [(0, .ref 79), (1, .int r103)], [.int (0 : Int32)], I104, G104, (gP 123)) (True) hX hi (by decide +kernel) rfl trivial ?_
                    cases h
                    refine am_iret hX hi rfl (by first | rfl | decide | (simp [narrow]; done)) (by decide +kernel) ?_
                    exact ⟨rfl, rfl, rfl, rfl⟩
            · rw [if_neg c46] at h
              refine am_blk 49 [(.aload_n 0, 1, 0, 0, .null)] (50, [(0, .ref 79)], [.ref 79], I, G, (gP 123)) (True) hX hi (by decide +kernel) rfl trivial ?_
              obtain ⟨r105, I105, G105, hc, h⟩ := rb_some h
              refine am_callV hX hi (M := mX14_isCombLine) (idx := 142) (d' := 4) (b := 79) (ci := 12) (As := []) (rest := []) mkX14_isCombLine miX14_isCombLine mvX14_isCombLine (by decide +kernel) (by decide +kernel) rfl (by decide +kernel) rfl ⟨by omega, by decide, Nat.le_of_ble_eq_true rfl⟩ rfl (c_X14_isCombLine_79 I G  hc) ?_
              rintro r9 I9 G9 P9 ⟨e0, e1, e2, e3⟩
              rw [e0, e1, e2, e3]
              show am_V X 0 0 _ _ ad (53, [(0, .ref 79)], [.int r105], I105, G105, (gP 123))
              refine am_blk 53 [(.goto (23), 3, 0, 76, .null), (.istore_n 1, 1, 1, 0, .null), (.iload_n 1, 1, 1, 0, .null)] (78, [(0, .ref 79), (1, .int r105)], [.int r105], I105, G105, (gP 123)) (True) hX hi (by decide +kernel) rfl trivial ?_
              refine am_if_eq (tgt := 90) hX hi (off := (12)) (by decide +kernel) (by decide) (fun c78 => ?_) (fun c78 => ?_)
              · rw [if_pos c78] at h
                refine am_blk 90 [(.iconst (0), 1, 0, 0, .int (0 : Int32))] (91, [(0, .ref 79), (1, .int r105)], [.int (0 : Int32)], I105, G105, (gP 123)) (True) hX hi (by decide +kernel) rfl trivial ?_
                cases h
                refine am_iret hX hi rfl (by first | rfl | decide | (simp [narrow]; done)) (by decide +kernel) ?_
                exact ⟨rfl, rfl, rfl, rfl⟩
              · rw [if_neg c78] at h
                refine am_blk 81 [(.aload_n 0, 1, 0, 0, .null), (.bipush (59), 2, 0, 0, .int (59 : Int32))] (84, [(0, .ref 79), (1, .int r105)], [.int (59 : Int32), .ref 79], I105, G105, (gP 123)) (True) hX hi (by decide +kernel) rfl trivial ?_
                obtain ⟨r106, I106, G106, hc, h⟩ := rb_some h
                refine am_callV hX hi (M := mX14_eatSign) (idx := 151) (d' := 3) (b := 79) (ci := 12) (As := [.int (59 : Int32)]) (rest := []) mkX14_eatSign miX14_eatSign mvX14_eatSign (by decide +kernel) (by decide +kernel) rfl (by decide +kernel) rfl ⟨by omega, by decide, Nat.le_of_ble_eq_true rfl⟩ rfl (c_X14_eatSign_79 I105 G105 (59 : Int32) hc) ?_
                rintro r9 I9 G9 P9 ⟨e0, e1, e2, e3⟩
                rw [e0, e1, e2, e3]
                show am_V X 0 0 _ _ ad (87, [(0, .ref 79), (1, .int r105)], [.int r106], I106, G106, (gP 123))
                refine am_if_ne (tgt := 92) hX hi (off := (5)) (by decide +kernel) (by decide) (fun c87 => ?_) (fun c87 => ?_)
                · rw [if_neg c87] at h
                  refine am_blk 92 [(.goto (-92), 3, 0, 0, .null)] (0, [(0, .ref 79), (1, .int r105)], [], I106, G106, (gP 123)) (True) hX hi (by decide +kernel) rfl trivial ?_
                  refine am_sub (L' := [(0, .ref 79)]) (by simp) ?_
                  exact ih _ _  _ h
                · rw [if_pos c87] at h
                  refine am_blk 90 [(.iconst (0), 1, 0, 0, .int (0 : Int32))] (91, [(0, .ref 79), (1, .int r105)], [.int (0 : Int32)], I106, G106, (gP 123)) (True) hX hi (by decide +kernel) rfl trivial ?_
                  cases h
                  refine am_iret hX hi rfl (by first | rfl | decide | (simp [narrow]; done)) (by decide +kernel) ?_
                  exact ⟨rfl, rfl, rfl, rfl⟩
          · rw [if_neg c30] at h
            refine am_blk 33 [(.aload_n 0, 1, 0, 0, .null)] (34, [(0, .ref 79)], [.ref 79], I, G, (gP 123)) (True) hX hi (by decide +kernel) rfl trivial ?_
            obtain ⟨r107, I107, G107, hc, h⟩ := rb_some h
            refine am_callV hX hi (M := mX14_isOctaveLine) (idx := 139) (d' := 4) (b := 79) (ci := 12) (As := []) (rest := []) mkX14_isOctaveLine miX14_isOctaveLine mvX14_isOctaveLine (by decide +kernel) (by decide +kernel) rfl (by decide +kernel) rfl ⟨by omega, by decide, Nat.le_of_ble_eq_true rfl⟩ rfl (c_X14_isOctaveLine_79 I G  hc) ?_
            rintro r9 I9 G9 P9 ⟨e0, e1, e2, e3⟩
            rw [e0, e1, e2, e3]
            show am_V X 0 0 _ _ ad (37, [(0, .ref 79)], [.int r107], I107, G107, (gP 123))
            refine am_blk 37 [(.goto (39), 3, 0, 76, .null), (.istore_n 1, 1, 1, 0, .null), (.iload_n 1, 1, 1, 0, .null)] (78, [(0, .ref 79), (1, .int r107)], [.int r107], I107, G107, (gP 123)) (True) hX hi (by decide +kernel) rfl trivial ?_
            refine am_if_eq (tgt := 90) hX hi (off := (12)) (by decide +kernel) (by decide) (fun c78 => ?_) (fun c78 => ?_)
            · rw [if_pos c78] at h
              refine am_blk 90 [(.iconst (0), 1, 0, 0, .int (0 : Int32))] (91, [(0, .ref 79), (1, .int r107)], [.int (0 : Int32)], I107, G107, (gP 123)) (True) hX hi (by decide +kernel) rfl trivial ?_
              cases h
              refine am_iret hX hi rfl (by first | rfl | decide | (simp [narrow]; done)) (by decide +kernel) ?_
              exact ⟨rfl, rfl, rfl, rfl⟩
            · rw [if_neg c78] at h
              refine am_blk 81 [(.aload_n 0, 1, 0, 0, .null), (.bipush (59), 2, 0, 0, .int (59 : Int32))] (84, [(0, .ref 79), (1, .int r107)], [.int (59 : Int32), .ref 79], I107, G107, (gP 123)) (True) hX hi (by decide +kernel) rfl trivial ?_
              obtain ⟨r108, I108, G108, hc, h⟩ := rb_some h
              refine am_callV hX hi (M := mX14_eatSign) (idx := 151) (d' := 3) (b := 79) (ci := 12) (As := [.int (59 : Int32)]) (rest := []) mkX14_eatSign miX14_eatSign mvX14_eatSign (by decide +kernel) (by decide +kernel) rfl (by decide +kernel) rfl ⟨by omega, by decide, Nat.le_of_ble_eq_true rfl⟩ rfl (c_X14_eatSign_79 I107 G107 (59 : Int32) hc) ?_
              rintro r9 I9 G9 P9 ⟨e0, e1, e2, e3⟩
              rw [e0, e1, e2, e3]
              show am_V X 0 0 _ _ ad (87, [(0, .ref 79), (1, .int r107)], [.int r108], I108, G108, (gP 123))
              refine am_if_ne (tgt := 92) hX hi (off := (5)) (by decide +kernel) (by decide) (fun c87 => ?_) (fun c87 => ?_)
              · rw [if_neg c87] at h
                refine am_blk 92 [(.goto (-92), 3, 0, 0, .null)] (0, [(0, .ref 79), (1, .int r107)], [], I108, G108, (gP 123)) (True) hX hi (by decide +kernel) rfl trivial ?_
                refine am_sub (L' := [(0, .ref 79)]) (by simp) ?_
                exact ih _ _  _ h
              · rw [if_pos c87] at h
                refine am_blk 90 [(.iconst (0), 1, 0, 0, .int (0 : Int32))] (91, [(0, .ref 79), (1, .int r107)], [.int (0 : Int32)], I108, G108, (gP 123)) (True) hX hi (by decide +kernel) rfl trivial ?_
                cases h
                refine am_iret hX hi rfl (by first | rfl | decide | (simp [narrow]; done)) (by decide +kernel) ?_
                exact ⟨rfl, rfl, rfl, rfl⟩
        · rw [if_neg c15] at h
          refine am_blk 18 [(.aload_n 0, 1, 0, 0, .null)] (19, [(0, .ref 79)], [.ref 79], I, G, (gP 123)) (True) hX hi (by decide +kernel) rfl trivial ?_
          obtain ⟨r109, I109, G109, hc, h⟩ := rb_some h
          refine am_callV hX hi (M := mX14_isPaper) (idx := 135) (d' := 4) (b := 79) (ci := 12) (As := []) (rest := []) mkX14_isPaper miX14_isPaper mvX14_isPaper (by decide +kernel) (by decide +kernel) rfl (by decide +kernel) rfl ⟨by omega, by decide, Nat.le_of_ble_eq_true rfl⟩ rfl (c_X14_isPaper_79 I G  hc) ?_
          rintro r9 I9 G9 P9 ⟨e0, e1, e2, e3⟩
          rw [e0, e1, e2, e3]
          show am_V X 0 0 _ _ ad (22, [(0, .ref 79)], [.int r109], I109, G109, (gP 123))
          refine am_blk 22 [(.goto (54), 3, 0, 76, .null), (.istore_n 1, 1, 1, 0, .null), (.iload_n 1, 1, 1, 0, .null)] (78, [(0, .ref 79), (1, .int r109)], [.int r109], I109, G109, (gP 123)) (True) hX hi (by decide +kernel) rfl trivial ?_
          refine am_if_eq (tgt := 90) hX hi (off := (12)) (by decide +kernel) (by decide) (fun c78 => ?_) (fun c78 => ?_)
          · rw [if_pos c78] at h
            refine am_blk 90 [(.iconst (0), 1, 0, 0, .int (0 : Int32))] (91, [(0, .ref 79), (1, .int r109)], [.int (0 : Int32)], I109, G109, (gP 123)) (True) hX hi (by decide +kernel) rfl trivial ?_
            cases h
            refine am_iret hX hi rfl (by first | rfl | decide | (simp [narrow]; done)) (by decide +kernel) ?_
            exact ⟨rfl, rfl, rfl, rfl⟩
          · rw [if_neg c78] at h
            refine am_blk 81 [(.aload_n 0, 1, 0, 0, .null), (.bipush (59), 2, 0, 0, .int (59 : Int32))] (84, [(0, .ref 79), (1, .int r109)], [.int (59 : Int32), .ref 79], I109, G109, (gP 123)) (True) hX hi (by decide +kernel) rfl trivial ?_
            obtain ⟨r110, I110, G110, hc, h⟩ := rb_some h
            refine am_callV hX hi (M := mX14_eatSign) (idx := 151) (d' := 3) (b := 79) (ci := 12) (As := [.int (59 : Int32)]) (rest := []) mkX14_eatSign miX14_eatSign mvX14_eatSign (by decide +kernel) (by decide +kernel) rfl (by decide +kernel) rfl ⟨by omega, by decide, Nat.le_of_ble_eq_true rfl⟩ rfl (c_X14_eatSign_79 I109 G109 (59 : Int32) hc) ?_
            rintro r9 I9 G9 P9 ⟨e0, e1, e2, e3⟩
            rw [e0, e1, e2, e3]
            show am_V X 0 0 _ _ ad (87, [(0, .ref 79), (1, .int r109)], [.int r110], I110, G110, (gP 123))
            refine am_if_ne (tgt := 92) hX hi (off := (5)) (by decide +kernel) (by decide) (fun c87 => ?_) (fun c87 => ?_)
            · rw [if_neg c87] at h
              refine am_blk 92 [(.goto (-92), 3, 0, 0, .null)] (0, [(0, .ref 79), (1, .int r109)], [], I110, G110, (gP 123)) (True) hX hi (by decide +kernel) rfl trivial ?_
              refine am_sub (L' := [(0, .ref 79)]) (by simp) ?_
              exact ih _ _  _ h
            · rw [if_pos c87] at h
              refine am_blk 90 [(.iconst (0), 1, 0, 0, .int (0 : Int32))] (91, [(0, .ref 79), (1, .int r109)], [.int (0 : Int32)], I110, G110, (gP 123)) (True) hX hi (by decide +kernel) rfl trivial ?_
              cases h
              refine am_iret hX hi rfl (by first | rfl | decide | (simp [narrow]; done)) (by decide +kernel) ?_
              exact ⟨rfl, rfl, rfl, rfl⟩
set_option maxRecDepth 20000 in
set_option maxHeartbeats 4000000 in
theorem c_X14_isPlan_79 (I : am_I) (G : am_G)  {out : Int32 × am_I × am_G} (h : R_X14_isPlan_79 I G  = some out) : am_Ct mX14_isPlan 50 gS2 [.ref 79] I G (gP 123) (pI out.1 out.2.1 out.2.2 (gP 123)) := by
  refine am_ofF (by decide +kernel) rfl (by decide) (by omega) (Nat.le_of_ble_eq_true rfl) (fun X ad hX hi => ?_)
  have hi : am_info X 12 cX14_isPlan 2 false (Option.some Jvm.ClassFile.FieldType.boolean) 50 := hi
  show am_V X 0 0 _ _ ad (0, [(0, .ref 79)], [], I, G, (gP 123))
  unfold R_X14_isPlan_79 at h
  exact (l_X14_isPlan_79 hX hi FU) _ _  _ h
noncomputable def R_X14_number_79_124 (I : am_I) (G : am_G) (x1 : Int32) (x2 : Int32) (x3 : Int32) (x4 : Int32) : Option (Int32 × am_I × am_G) := rb (R_X14_numberAt_79 I G x1) (fun r1 I1 G1 => rg (vp_in x2 4) (rb (R_X14_inRange_79 (am_up I1 124 x2.toNatClampNeg r1) G1 x1 x3 x4) (fun r2 I2 G2 => some (r2, I2, G2))))
set_option maxRecDepth 20000 in
set_option maxHeartbeats 4000000 in
theorem c_X14_number_79_124 (I : am_I) (G : am_G) (x1 : Int32) (x2 : Int32) (x3 : Int32) (x4 : Int32) {out : Int32 × am_I × am_G} (h : R_X14_number_79_124 I G x1 x2 x3 x4 = some out) : am_Ct mX14_number 3 gS2 [.ref 79, .int x1, .ref 124, .int x2, .int x3, .int x4] I G (gP 123) (pI out.1 out.2.1 out.2.2 (gP 123)) := by
  refine am_ofF (by decide +kernel) rfl (by decide) (by omega) (Nat.le_of_ble_eq_true rfl) (fun X ad hX hi => ?_)
  have hi : am_info X 12 cX14_number 6 false (Option.some Jvm.ClassFile.FieldType.int) 3 := hi
  show am_V X 0 0 _ _ ad (0, [(0, .ref 79), (1, .int x1), (2, .ref 124), (3, .int x2), (4, .int x3), (5, .int x4)], [], I, G, (gP 123))
  unfold R_X14_number_79_124 at h
  refine am_blk 0 [(.aload_n 2, 1, 2, 0, .null), (.iload_n 3, 1, 3, 0, .null), (.aload_n 0, 1, 0, 0, .null), (.iload_n 1, 1, 1, 0, .null)] (4, [(0, .ref 79), (1, .int x1), (2, .ref 124), (3, .int x2), (4, .int x3), (5, .int x4)], [.int x1, .ref 79, .int x2, .ref 124], I, G, (gP 123)) (True) hX hi (by decide +kernel) rfl trivial ?_
  obtain ⟨r1, I1, G1, hc, h⟩ := rb_some h
  refine am_callV hX hi (M := mX14_numberAt) (idx := 217) (d' := 1) (b := 79) (ci := 12) (As := [.int x1]) (rest := [.int x2, .ref 124]) mkX14_numberAt miX14_numberAt mvX14_numberAt (by decide +kernel) (by decide +kernel) rfl (by decide +kernel) rfl ⟨by omega, by decide, Nat.le_of_ble_eq_true rfl⟩ rfl (c_X14_numberAt_79 I G x1 hc) ?_
  rintro r9 I9 G9 P9 ⟨e0, e1, e2, e3⟩
  rw [e0, e1, e2, e3]
  show am_V X 0 0 _ _ ad (7, [(0, .ref 79), (1, .int x1), (2, .ref 124), (3, .int x2), (4, .int x3), (5, .int x4)], [.int r1, .int x2, .ref 124], I1, G1, (gP 123))
  obtain ⟨g0, h⟩ := rg_some h
  refine am_blk 7 [(.iastore, 1, 0, 0, .null), (.aload_n 0, 1, 0, 0, .null), (.iload_n 1, 1, 1, 0, .null), (.iload 4, 2, 4, 0, .null), (.iload 5, 2, 5, 0, .null)] (14, [(0, .ref 79), (1, .int x1), (2, .ref 124), (3, .int x2), (4, .int x3), (5, .int x4)], [.int x4, .int x3, .int x1, .ref 79], (am_up I1 124 x2.toNatClampNeg r1), G1, (gP 123)) (vp_in x2 4 ∧ True) hX hi (by decide +kernel) rfl ⟨g0, trivial⟩ ?_
  obtain ⟨r2, I2, G2, hc, h⟩ := rb_some h
  refine am_callV hX hi (M := mX14_inRange) (idx := 246) (d' := 2) (b := 79) (ci := 12) (As := [.int x1, .int x3, .int x4]) (rest := []) mkX14_inRange miX14_inRange mvX14_inRange (by decide +kernel) (by decide +kernel) rfl (by decide +kernel) rfl ⟨by omega, by decide, Nat.le_of_ble_eq_true rfl⟩ rfl (c_X14_inRange_79 (am_up I1 124 x2.toNatClampNeg r1) G1 x1 x3 x4 hc) ?_
  rintro r9 I9 G9 P9 ⟨e0, e1, e2, e3⟩
  rw [e0, e1, e2, e3]
  show am_V X 0 0 _ _ ad (17, [(0, .ref 79), (1, .int x1), (2, .ref 124), (3, .int x2), (4, .int x3), (5, .int x4)], [.int r2], I2, G2, (gP 123))
  cases h
  refine am_iret hX hi rfl rfl (by decide +kernel) ?_
  exact ⟨rfl, rfl, rfl, rfl⟩
noncomputable def R_X14_number_79_125 (I : am_I) (G : am_G) (x1 : Int32) (x2 : Int32) (x3 : Int32) (x4 : Int32) : Option (Int32 × am_I × am_G) := rb (R_X14_numberAt_79 I G x1) (fun r1 I1 G1 => rg (vp_in x2 4) (rb (R_X14_inRange_79 (am_up I1 125 x2.toNatClampNeg r1) G1 x1 x3 x4) (fun r2 I2 G2 => some (r2, I2, G2))))
set_option maxRecDepth 20000 in
set_option maxHeartbeats 4000000 in
theorem c_X14_number_79_125 (I : am_I) (G : am_G) (x1 : Int32) (x2 : Int32) (x3 : Int32) (x4 : Int32) {out : Int32 × am_I × am_G} (h : R_X14_number_79_125 I G x1 x2 x3 x4 = some out) : am_Ct mX14_number 3 gS2 [.ref 79, .int x1, .ref 125, .int x2, .int x3, .int x4] I G (gP 123) (pI out.1 out.2.1 out.2.2 (gP 123)) := by
  refine am_ofF (by decide +kernel) rfl (by decide) (by omega) (Nat.le_of_ble_eq_true rfl) (fun X ad hX hi => ?_)
  have hi : am_info X 12 cX14_number 6 false (Option.some Jvm.ClassFile.FieldType.int) 3 := hi
  show am_V X 0 0 _ _ ad (0, [(0, .ref 79), (1, .int x1), (2, .ref 125), (3, .int x2), (4, .int x3), (5, .int x4)], [], I, G, (gP 123))
  unfold R_X14_number_79_125 at h
  refine am_blk 0 [(.aload_n 2, 1, 2, 0, .null), (.iload_n 3, 1, 3, 0, .null), (.aload_n 0, 1, 0, 0, .null), (.iload_n 1, 1, 1, 0, .null)] (4, [(0, .ref 79), (1, .int x1), (2, .ref 125), (3, .int x2), (4, .int x3), (5, .int x4)], [.int x1, .ref 79, .int x2, .ref 125], I, G, (gP 123)) (True) hX hi (by decide +kernel) rfl trivial ?_
  obtain ⟨r1, I1, G1, hc, h⟩ := rb_some h
  refine am_callV hX hi (M := mX14_numberAt) (idx := 217) (d' := 1) (b := 79) (ci := 12) (As := [.int x1]) (rest := [.int x2, .ref 125]) mkX14_numberAt miX14_numberAt mvX14_numberAt (by decide +kernel) (by decide +kernel) rfl (by decide +kernel) rfl ⟨by omega, by decide, Nat.le_of_ble_eq_true rfl⟩ rfl (c_X14_numberAt_79 I G x1 hc) ?_
  rintro r9 I9 G9 P9 ⟨e0, e1, e2, e3⟩
  rw [e0, e1, e2, e3]
  show am_V X 0 0 _ _ ad (7, [(0, .ref 79), (1, .int x1), (2, .ref 125), (3, .int x2), (4, .int x3), (5, .int x4)], [.int r1, .int x2, .ref 125], I1, G1, (gP 123))
  obtain ⟨g0, h⟩ := rg_some h
  refine am_blk 7 [(.iastore, 1, 0, 0, .null), (.aload_n 0, 1, 0, 0, .null), (.iload_n 1, 1, 1, 0, .null), (.iload 4, 2, 4, 0, .null), (.iload 5, 2, 5, 0, .null)] (14, [(0, .ref 79), (1, .int x1), (2, .ref 125), (3, .int x2), (4, .int x3), (5, .int x4)], [.int x4, .int x3, .int x1, .ref 79], (am_up I1 125 x2.toNatClampNeg r1), G1, (gP 123)) (vp_in x2 4 ∧ True) hX hi (by decide +kernel) rfl ⟨g0, trivial⟩ ?_
  obtain ⟨r2, I2, G2, hc, h⟩ := rb_some h
  refine am_callV hX hi (M := mX14_inRange) (idx := 246) (d' := 2) (b := 79) (ci := 12) (As := [.int x1, .int x3, .int x4]) (rest := []) mkX14_inRange miX14_inRange mvX14_inRange (by decide +kernel) (by decide +kernel) rfl (by decide +kernel) rfl ⟨by omega, by decide, Nat.le_of_ble_eq_true rfl⟩ rfl (c_X14_inRange_79 (am_up I1 125 x2.toNatClampNeg r1) G1 x1 x3 x4 hc) ?_
  rintro r9 I9 G9 P9 ⟨e0, e1, e2, e3⟩
  rw [e0, e1, e2, e3]
  show am_V X 0 0 _ _ ad (17, [(0, .ref 79), (1, .int x1), (2, .ref 125), (3, .int x2), (4, .int x3), (5, .int x4)], [.int r2], I2, G2, (gP 123))
  cases h
  refine am_iret hX hi rfl rfl (by decide +kernel) ?_
  exact ⟨rfl, rfl, rfl, rfl⟩
noncomputable def R_X14_number_79_126 (I : am_I) (G : am_G) (x1 : Int32) (x2 : Int32) (x3 : Int32) (x4 : Int32) : Option (Int32 × am_I × am_G) := rb (R_X14_numberAt_79 I G x1) (fun r1 I1 G1 => rg (vp_in x2 4) (rb (R_X14_inRange_79 (am_up I1 126 x2.toNatClampNeg r1) G1 x1 x3 x4) (fun r2 I2 G2 => some (r2, I2, G2))))
set_option maxRecDepth 20000 in
set_option maxHeartbeats 4000000 in
theorem c_X14_number_79_126 (I : am_I) (G : am_G) (x1 : Int32) (x2 : Int32) (x3 : Int32) (x4 : Int32) {out : Int32 × am_I × am_G} (h : R_X14_number_79_126 I G x1 x2 x3 x4 = some out) : am_Ct mX14_number 3 gS2 [.ref 79, .int x1, .ref 126, .int x2, .int x3, .int x4] I G (gP 123) (pI out.1 out.2.1 out.2.2 (gP 123)) := by
  refine am_ofF (by decide +kernel) rfl (by decide) (by omega) (Nat.le_of_ble_eq_true rfl) (fun X ad hX hi => ?_)
  have hi : am_info X 12 cX14_number 6 false (Option.some Jvm.ClassFile.FieldType.int) 3 := hi
  show am_V X 0 0 _ _ ad (0, [(0, .ref 79), (1, .int x1), (2, .ref 126), (3, .int x2), (4, .int x3), (5, .int x4)], [], I, G, (gP 123))
  unfold R_X14_number_79_126 at h
  refine am_blk 0 [(.aload_n 2, 1, 2, 0, .null), (.iload_n 3, 1, 3, 0, .null), (.aload_n 0, 1, 0, 0, .null), (.iload_n 1, 1, 1, 0, .null)] (4, [(0, .ref 79), (1, .int x1), (2, .ref 126), (3, .int x2), (4, .int x3), (5, .int x4)], [.int x1, .ref 79, .int x2, .ref 126], I, G, (gP 123)) (True) hX hi (by decide +kernel) rfl trivial ?_
  obtain ⟨r1, I1, G1, hc, h⟩ := rb_some h
  refine am_callV hX hi (M := mX14_numberAt) (idx := 217) (d' := 1) (b := 79) (ci := 12) (As := [.int x1]) (rest := [.int x2, .ref 126]) mkX14_numberAt miX14_numberAt mvX14_numberAt (by decide +kernel) (by decide +kernel) rfl (by decide +kernel) rfl ⟨by omega, by decide, Nat.le_of_ble_eq_true rfl⟩ rfl (c_X14_numberAt_79 I G x1 hc) ?_
  rintro r9 I9 G9 P9 ⟨e0, e1, e2, e3⟩
  rw [e0, e1, e2, e3]
  show am_V X 0 0 _ _ ad (7, [(0, .ref 79), (1, .int x1), (2, .ref 126), (3, .int x2), (4, .int x3), (5, .int x4)], [.int r1, .int x2, .ref 126], I1, G1, (gP 123))
  obtain ⟨g0, h⟩ := rg_some h
  refine am_blk 7 [(.iastore, 1, 0, 0, .null), (.aload_n 0, 1, 0, 0, .null), (.iload_n 1, 1, 1, 0, .null), (.iload 4, 2, 4, 0, .null), (.iload 5, 2, 5, 0, .null)] (14, [(0, .ref 79), (1, .int x1), (2, .ref 126), (3, .int x2), (4, .int x3), (5, .int x4)], [.int x4, .int x3, .int x1, .ref 79], (am_up I1 126 x2.toNatClampNeg r1), G1, (gP 123)) (vp_in x2 4 ∧ True) hX hi (by decide +kernel) rfl ⟨g0, trivial⟩ ?_
  obtain ⟨r2, I2, G2, hc, h⟩ := rb_some h
  refine am_callV hX hi (M := mX14_inRange) (idx := 246) (d' := 2) (b := 79) (ci := 12) (As := [.int x1, .int x3, .int x4]) (rest := []) mkX14_inRange miX14_inRange mvX14_inRange (by decide +kernel) (by decide +kernel) rfl (by decide +kernel) rfl ⟨by omega, by decide, Nat.le_of_ble_eq_true rfl⟩ rfl (c_X14_inRange_79 (am_up I1 126 x2.toNatClampNeg r1) G1 x1 x3 x4 hc) ?_
  rintro r9 I9 G9 P9 ⟨e0, e1, e2, e3⟩
  rw [e0, e1, e2, e3]
  show am_V X 0 0 _ _ ad (17, [(0, .ref 79), (1, .int x1), (2, .ref 126), (3, .int x2), (4, .int x3), (5, .int x4)], [.int r2], I2, G2, (gP 123))
  cases h
  refine am_iret hX hi rfl rfl (by decide +kernel) ?_
  exact ⟨rfl, rfl, rfl, rfl⟩
noncomputable def R_X14_number_79_127 (I : am_I) (G : am_G) (x1 : Int32) (x2 : Int32) (x3 : Int32) (x4 : Int32) : Option (Int32 × am_I × am_G) := rb (R_X14_numberAt_79 I G x1) (fun r1 I1 G1 => rg (vp_in x2 4) (rb (R_X14_inRange_79 (am_up I1 127 x2.toNatClampNeg r1) G1 x1 x3 x4) (fun r2 I2 G2 => some (r2, I2, G2))))
set_option maxRecDepth 20000 in
set_option maxHeartbeats 4000000 in
theorem c_X14_number_79_127 (I : am_I) (G : am_G) (x1 : Int32) (x2 : Int32) (x3 : Int32) (x4 : Int32) {out : Int32 × am_I × am_G} (h : R_X14_number_79_127 I G x1 x2 x3 x4 = some out) : am_Ct mX14_number 3 gS2 [.ref 79, .int x1, .ref 127, .int x2, .int x3, .int x4] I G (gP 123) (pI out.1 out.2.1 out.2.2 (gP 123)) := by
  refine am_ofF (by decide +kernel) rfl (by decide) (by omega) (Nat.le_of_ble_eq_true rfl) (fun X ad hX hi => ?_)
  have hi : am_info X 12 cX14_number 6 false (Option.some Jvm.ClassFile.FieldType.int) 3 := hi
  show am_V X 0 0 _ _ ad (0, [(0, .ref 79), (1, .int x1), (2, .ref 127), (3, .int x2), (4, .int x3), (5, .int x4)], [], I, G, (gP 123))
  unfold R_X14_number_79_127 at h
  refine am_blk 0 [(.aload_n 2, 1, 2, 0, .null), (.iload_n 3, 1, 3, 0, .null), (.aload_n 0, 1, 0, 0, .null), (.iload_n 1, 1, 1, 0, .null)] (4, [(0, .ref 79), (1, .int x1), (2, .ref 127), (3, .int x2), (4, .int x3), (5, .int x4)], [.int x1, .ref 79, .int x2, .ref 127], I, G, (gP 123)) (True) hX hi (by decide +kernel) rfl trivial ?_
  obtain ⟨r1, I1, G1, hc, h⟩ := rb_some h
  refine am_callV hX hi (M := mX14_numberAt) (idx := 217) (d' := 1) (b := 79) (ci := 12) (As := [.int x1]) (rest := [.int x2, .ref 127]) mkX14_numberAt miX14_numberAt mvX14_numberAt (by decide +kernel) (by decide +kernel) rfl (by decide +kernel) rfl ⟨by omega, by decide, Nat.le_of_ble_eq_true rfl⟩ rfl (c_X14_numberAt_79 I G x1 hc) ?_
  rintro r9 I9 G9 P9 ⟨e0, e1, e2, e3⟩
  rw [e0, e1, e2, e3]
  show am_V X 0 0 _ _ ad (7, [(0, .ref 79), (1, .int x1), (2, .ref 127), (3, .int x2), (4, .int x3), (5, .int x4)], [.int r1, .int x2, .ref 127], I1, G1, (gP 123))
  obtain ⟨g0, h⟩ := rg_some h
  refine am_blk 7 [(.iastore, 1, 0, 0, .null), (.aload_n 0, 1, 0, 0, .null), (.iload_n 1, 1, 1, 0, .null), (.iload 4, 2, 4, 0, .null), (.iload 5, 2, 5, 0, .null)] (14, [(0, .ref 79), (1, .int x1), (2, .ref 127), (3, .int x2), (4, .int x3), (5, .int x4)], [.int x4, .int x3, .int x1, .ref 79], (am_up I1 127 x2.toNatClampNeg r1), G1, (gP 123)) (vp_in x2 4 ∧ True) hX hi (by decide +kernel) rfl ⟨g0, trivial⟩ ?_
  obtain ⟨r2, I2, G2, hc, h⟩ := rb_some h
  refine am_callV hX hi (M := mX14_inRange) (idx := 246) (d' := 2) (b := 79) (ci := 12) (As := [.int x1, .int x3, .int x4]) (rest := []) mkX14_inRange miX14_inRange mvX14_inRange (by decide +kernel) (by decide +kernel) rfl (by decide +kernel) rfl ⟨by omega, by decide, Nat.le_of_ble_eq_true rfl⟩ rfl (c_X14_inRange_79 (am_up I1 127 x2.toNatClampNeg r1) G1 x1 x3 x4 hc) ?_
  rintro r9 I9 G9 P9 ⟨e0, e1, e2, e3⟩
  rw [e0, e1, e2, e3]
  show am_V X 0 0 _ _ ad (17, [(0, .ref 79), (1, .int x1), (2, .ref 127), (3, .int x2), (4, .int x3), (5, .int x4)], [.int r2], I2, G2, (gP 123))
  cases h
  refine am_iret hX hi rfl rfl (by decide +kernel) ?_
  exact ⟨rfl, rfl, rfl, rfl⟩
noncomputable def R_X14_number_79_129 (I : am_I) (G : am_G) (x1 : Int32) (x2 : Int32) (x3 : Int32) (x4 : Int32) : Option (Int32 × am_I × am_G) := rb (R_X14_numberAt_79 I G x1) (fun r1 I1 G1 => rg (vp_in x2 4) (rb (R_X14_inRange_79 (am_up I1 129 x2.toNatClampNeg r1) G1 x1 x3 x4) (fun r2 I2 G2 => some (r2, I2, G2))))
set_option maxRecDepth 20000 in
set_option maxHeartbeats 4000000 in
theorem c_X14_number_79_129 (I : am_I) (G : am_G) (x1 : Int32) (x2 : Int32) (x3 : Int32) (x4 : Int32) {out : Int32 × am_I × am_G} (h : R_X14_number_79_129 I G x1 x2 x3 x4 = some out) : am_Ct mX14_number 3 gS2 [.ref 79, .int x1, .ref 129, .int x2, .int x3, .int x4] I G (gP 123) (pI out.1 out.2.1 out.2.2 (gP 123)) := by
  refine am_ofF (by decide +kernel) rfl (by decide) (by omega) (Nat.le_of_ble_eq_true rfl) (fun X ad hX hi => ?_)
  have hi : am_info X 12 cX14_number 6 false (Option.some Jvm.ClassFile.FieldType.int) 3 := hi
  show am_V X 0 0 _ _ ad (0, [(0, .ref 79), (1, .int x1), (2, .ref 129), (3, .int x2), (4, .int x3), (5, .int x4)], [], I, G, (gP 123))
  unfold R_X14_number_79_129 at h
  refine am_blk 0 [(.aload_n 2, 1, 2, 0, .null), (.iload_n 3, 1, 3, 0, .null), (.aload_n 0, 1, 0, 0, .null), (.iload_n 1, 1, 1, 0, .null)] (4, [(0, .ref 79), (1, .int x1), (2, .ref 129), (3, .int x2), (4, .int x3), (5, .int x4)], [.int x1, .ref 79, .int x2, .ref 129], I, G, (gP 123)) (True) hX hi (by decide +kernel) rfl trivial ?_
  obtain ⟨r1, I1, G1, hc, h⟩ := rb_some h
  refine am_callV hX hi (M := mX14_numberAt) (idx := 217) (d' := 1) (b := 79) (ci := 12) (As := [.int x1]) (rest := [.int x2, .ref 129]) mkX14_numberAt miX14_numberAt mvX14_numberAt (by decide +kernel) (by decide +kernel) rfl (by decide +kernel) rfl ⟨by omega, by decide, Nat.le_of_ble_eq_true rfl⟩ rfl (c_X14_numberAt_79 I G x1 hc) ?_
  rintro r9 I9 G9 P9 ⟨e0, e1, e2, e3⟩
  rw [e0, e1, e2, e3]
  show am_V X 0 0 _ _ ad (7, [(0, .ref 79), (1, .int x1), (2, .ref 129), (3, .int x2), (4, .int x3), (5, .int x4)], [.int r1, .int x2, .ref 129], I1, G1, (gP 123))
  obtain ⟨g0, h⟩ := rg_some h
  refine am_blk 7 [(.iastore, 1, 0, 0, .null), (.aload_n 0, 1, 0, 0, .null), (.iload_n 1, 1, 1, 0, .null), (.iload 4, 2, 4, 0, .null), (.iload 5, 2, 5, 0, .null)] (14, [(0, .ref 79), (1, .int x1), (2, .ref 129), (3, .int x2), (4, .int x3), (5, .int x4)], [.int x4, .int x3, .int x1, .ref 79], (am_up I1 129 x2.toNatClampNeg r1), G1, (gP 123)) (vp_in x2 4 ∧ True) hX hi (by decide +kernel) rfl ⟨g0, trivial⟩ ?_
  obtain ⟨r2, I2, G2, hc, h⟩ := rb_some h
  refine am_callV hX hi (M := mX14_inRange) (idx := 246) (d' := 2) (b := 79) (ci := 12) (As := [.int x1, .int x3, .int x4]) (rest := []) mkX14_inRange miX14_inRange mvX14_inRange (by decide +kernel) (by decide +kernel) rfl (by decide +kernel) rfl ⟨by omega, by decide, Nat.le_of_ble_eq_true rfl⟩ rfl (c_X14_inRange_79 (am_up I1 129 x2.toNatClampNeg r1) G1 x1 x3 x4 hc) ?_
  rintro r9 I9 G9 P9 ⟨e0, e1, e2, e3⟩
  rw [e0, e1, e2, e3]
  show am_V X 0 0 _ _ ad (17, [(0, .ref 79), (1, .int x1), (2, .ref 129), (3, .int x2), (4, .int x3), (5, .int x4)], [.int r2], I2, G2, (gP 123))
  cases h
  refine am_iret hX hi rfl rfl (by decide +kernel) ?_
  exact ⟨rfl, rfl, rfl, rfl⟩
noncomputable def R_X14_number_79_130 (I : am_I) (G : am_G) (x1 : Int32) (x2 : Int32) (x3 : Int32) (x4 : Int32) : Option (Int32 × am_I × am_G) := rb (R_X14_numberAt_79 I G x1) (fun r1 I1 G1 => rg (vp_in x2 4) (rb (R_X14_inRange_79 (am_up I1 130 x2.toNatClampNeg r1) G1 x1 x3 x4) (fun r2 I2 G2 => some (r2, I2, G2))))
set_option maxRecDepth 20000 in
set_option maxHeartbeats 4000000 in
theorem c_X14_number_79_130 (I : am_I) (G : am_G) (x1 : Int32) (x2 : Int32) (x3 : Int32) (x4 : Int32) {out : Int32 × am_I × am_G} (h : R_X14_number_79_130 I G x1 x2 x3 x4 = some out) : am_Ct mX14_number 3 gS2 [.ref 79, .int x1, .ref 130, .int x2, .int x3, .int x4] I G (gP 123) (pI out.1 out.2.1 out.2.2 (gP 123)) := by
  refine am_ofF (by decide +kernel) rfl (by decide) (by omega) (Nat.le_of_ble_eq_true rfl) (fun X ad hX hi => ?_)
  have hi : am_info X 12 cX14_number 6 false (Option.some Jvm.ClassFile.FieldType.int) 3 := hi
  show am_V X 0 0 _ _ ad (0, [(0, .ref 79), (1, .int x1), (2, .ref 130), (3, .int x2), (4, .int x3), (5, .int x4)], [], I, G, (gP 123))
  unfold R_X14_number_79_130 at h
  refine am_blk 0 [(.aload_n 2, 1, 2, 0, .null), (.iload_n 3, 1, 3, 0, .null), (.aload_n 0, 1, 0, 0, .null), (.iload_n 1, 1, 1, 0, .null)] (4, [(0, .ref 79), (1, .int x1), (2, .ref 130), (3, .int x2), (4, .int x3), (5, .int x4)], [.int x1, .ref 79, .int x2, .ref 130], I, G, (gP 123)) (True) hX hi (by decide +kernel) rfl trivial ?_
  obtain ⟨r1, I1, G1, hc, h⟩ := rb_some h
  refine am_callV hX hi (M := mX14_numberAt) (idx := 217) (d' := 1) (b := 79) (ci := 12) (As := [.int x1]) (rest := [.int x2, .ref 130]) mkX14_numberAt miX14_numberAt mvX14_numberAt (by decide +kernel) (by decide +kernel) rfl (by decide +kernel) rfl ⟨by omega, by decide, Nat.le_of_ble_eq_true rfl⟩ rfl (c_X14_numberAt_79 I G x1 hc) ?_
  rintro r9 I9 G9 P9 ⟨e0, e1, e2, e3⟩
  rw [e0, e1, e2, e3]
  show am_V X 0 0 _ _ ad (7, [(0, .ref 79), (1, .int x1), (2, .ref 130), (3, .int x2), (4, .int x3), (5, .int x4)], [.int r1, .int x2, .ref 130], I1, G1, (gP 123))
  obtain ⟨g0, h⟩ := rg_some h
  refine am_blk 7 [(.iastore, 1, 0, 0, .null), (.aload_n 0, 1, 0, 0, .null), (.iload_n 1, 1, 1, 0, .null), (.iload 4, 2, 4, 0, .null), (.iload 5, 2, 5, 0, .null)] (14, [(0, .ref 79), (1, .int x1), (2, .ref 130), (3, .int x2), (4, .int x3), (5, .int x4)], [.int x4, .int x3, .int x1, .ref 79], (am_up I1 130 x2.toNatClampNeg r1), G1, (gP 123)) (vp_in x2 4 ∧ True) hX hi (by decide +kernel) rfl ⟨g0, trivial⟩ ?_
  obtain ⟨r2, I2, G2, hc, h⟩ := rb_some h
  refine am_callV hX hi (M := mX14_inRange) (idx := 246) (d' := 2) (b := 79) (ci := 12) (As := [.int x1, .int x3, .int x4]) (rest := []) mkX14_inRange miX14_inRange mvX14_inRange (by decide +kernel) (by decide +kernel) rfl (by decide +kernel) rfl ⟨by omega, by decide, Nat.le_of_ble_eq_true rfl⟩ rfl (c_X14_inRange_79 (am_up I1 130 x2.toNatClampNeg r1) G1 x1 x3 x4 hc) ?_
  rintro r9 I9 G9 P9 ⟨e0, e1, e2, e3⟩
  rw [e0, e1, e2, e3]
  show am_V X 0 0 _ _ ad (17, [(0, .ref 79), (1, .int x1), (2, .ref 130), (3, .int x2), (4, .int x3), (5, .int x4)], [.int r2], I2, G2, (gP 123))
  cases h
  refine am_iret hX hi rfl rfl (by decide +kernel) ?_
  exact ⟨rfl, rfl, rfl, rfl⟩
noncomputable def R_X14_number_79_131 (I : am_I) (G : am_G) (x1 : Int32) (x2 : Int32) (x3 : Int32) (x4 : Int32) : Option (Int32 × am_I × am_G) := rb (R_X14_numberAt_79 I G x1) (fun r1 I1 G1 => rg (vp_in x2 5) (rb (R_X14_inRange_79 (am_up I1 131 x2.toNatClampNeg r1) G1 x1 x3 x4) (fun r2 I2 G2 => some (r2, I2, G2))))
set_option maxRecDepth 20000 in
set_option maxHeartbeats 4000000 in
theorem c_X14_number_79_131 (I : am_I) (G : am_G) (x1 : Int32) (x2 : Int32) (x3 : Int32) (x4 : Int32) {out : Int32 × am_I × am_G} (h : R_X14_number_79_131 I G x1 x2 x3 x4 = some out) : am_Ct mX14_number 3 gS2 [.ref 79, .int x1, .ref 131, .int x2, .int x3, .int x4] I G (gP 123) (pI out.1 out.2.1 out.2.2 (gP 123)) := by
  refine am_ofF (by decide +kernel) rfl (by decide) (by omega) (Nat.le_of_ble_eq_true rfl) (fun X ad hX hi => ?_)
  have hi : am_info X 12 cX14_number 6 false (Option.some Jvm.ClassFile.FieldType.int) 3 := hi
  show am_V X 0 0 _ _ ad (0, [(0, .ref 79), (1, .int x1), (2, .ref 131), (3, .int x2), (4, .int x3), (5, .int x4)], [], I, G, (gP 123))
  unfold R_X14_number_79_131 at h
  refine am_blk 0 [(.aload_n 2, 1, 2, 0, .null), (.iload_n 3, 1, 3, 0, .null), (.aload_n 0, 1, 0, 0, .null), (.iload_n 1, 1, 1, 0, .null)] (4, [(0, .ref 79), (1, .int x1), (2, .ref 131), (3, .int x2), (4, .int x3), (5, .int x4)], [.int x1, .ref 79, .int x2, .ref 131], I, G, (gP 123)) (True) hX hi (by decide +kernel) rfl trivial ?_
  obtain ⟨r1, I1, G1, hc, h⟩ := rb_some h
  refine am_callV hX hi (M := mX14_numberAt) (idx := 217) (d' := 1) (b := 79) (ci := 12) (As := [.int x1]) (rest := [.int x2, .ref 131]) mkX14_numberAt miX14_numberAt mvX14_numberAt (by decide +kernel) (by decide +kernel) rfl (by decide +kernel) rfl ⟨by omega, by decide, Nat.le_of_ble_eq_true rfl⟩ rfl (c_X14_numberAt_79 I G x1 hc) ?_
  rintro r9 I9 G9 P9 ⟨e0, e1, e2, e3⟩
  rw [e0, e1, e2, e3]
  show am_V X 0 0 _ _ ad (7, [(0, .ref 79), (1, .int x1), (2, .ref 131), (3, .int x2), (4, .int x3), (5, .int x4)], [.int r1, .int x2, .ref 131], I1, G1, (gP 123))
  obtain ⟨g0, h⟩ := rg_some h
  refine am_blk 7 [(.iastore, 1, 0, 0, .null), (.aload_n 0, 1, 0, 0, .null), (.iload_n 1, 1, 1, 0, .null), (.iload 4, 2, 4, 0, .null), (.iload 5, 2, 5, 0, .null)] (14, [(0, .ref 79), (1, .int x1), (2, .ref 131), (3, .int x2), (4, .int x3), (5, .int x4)], [.int x4, .int x3, .int x1, .ref 79], (am_up I1 131 x2.toNatClampNeg r1), G1, (gP 123)) (vp_in x2 5 ∧ True) hX hi (by decide +kernel) rfl ⟨g0, trivial⟩ ?_
  obtain ⟨r2, I2, G2, hc, h⟩ := rb_some h
  refine am_callV hX hi (M := mX14_inRange) (idx := 246) (d' := 2) (b := 79) (ci := 12) (As := [.int x1, .int x3, .int x4]) (rest := []) mkX14_inRange miX14_inRange mvX14_inRange (by decide +kernel) (by decide +kernel) rfl (by decide +kernel) rfl ⟨by omega, by decide, Nat.le_of_ble_eq_true rfl⟩ rfl (c_X14_inRange_79 (am_up I1 131 x2.toNatClampNeg r1) G1 x1 x3 x4 hc) ?_
  rintro r9 I9 G9 P9 ⟨e0, e1, e2, e3⟩
  rw [e0, e1, e2, e3]
  show am_V X 0 0 _ _ ad (17, [(0, .ref 79), (1, .int x1), (2, .ref 131), (3, .int x2), (4, .int x3), (5, .int x4)], [.int r2], I2, G2, (gP 123))
  cases h
  refine am_iret hX hi rfl rfl (by decide +kernel) ?_
  exact ⟨rfl, rfl, rfl, rfl⟩
noncomputable def R_X6_readLine_28 (I : am_I) (G : am_G)  : Option (Unit × am_I × am_G) := (if (I 28 6) = 0 then some ((), (g_X6_expect_28 (g_X6_readPaper_28 I G ) G (28 : Int32)), G) else (if (I 28 6) = (2 : Int32) then rb (R_X6_readOctave_28 I G ) (fun r6 I6 G6 => some ((), (g_X6_expect_28 I6 G6 (28 : Int32)), G6)) else (if (I 28 6) = (7 : Int32) then rb (R_X6_readComb_28 I G ) (fun r5 I5 G5 => some ((), (g_X6_expect_28 I5 G5 (28 : Int32)), G5)) else (if (I 28 6) = (10 : Int32) then rb (R_X6_readInk_28 I G ) (fun r4 I4 G4 => some ((), (g_X6_expect_28 I4 G4 (28 : Int32)), G4)) else rb (R_X6_readOrderHead_28 I G ) (fun r1 I1 G1 => rb (PG_X6_readTest GDN 3 I1 G1 (0 : Int32) (0 : Int32)) (fun r2 I2 G2 => (if ((g_X3_endSum_38 I2 G2 ) 28 6) = (14 : Int32) then rb (PG_X6_readTest GDN 0 (g_X6_advance_28 (g_X3_endSum_38 I2 G2 ) G2 ) G2 (0 : Int32) (0 : Int32)) (fun r3 I3 G3 => some ((), (g_X6_expect_28 (g_X3_endTest_38 I3 G3 ) G3 (28 : Int32)), G3)) else (if (I 28 6) = (12 : Int32) then some ((), (g_X6_expect_28 (g_X3_endTest_38 (g_X3_endSum_38 I2 G2 ) G2 ) G2 (28 : Int32)), G2) else some ((), (g_X6_expect_28 (g_X3_endTest_38 (g_X6_refuse_28 (g_X3_endSum_38 I2 G2 ) G2 ) G2 ) G2 (28 : Int32)), G2)))))))))
set_option maxRecDepth 20000 in
set_option maxHeartbeats 4000000 in
theorem c_X6_readLine_28 (rd : Nat) (I : am_I) (G : am_G)  {out : Unit × am_I × am_G} (h : R_X6_readLine_28 I G  = some out) : am_Ct mX6_readLine 49 gS [.ref 28] I G (gP rd) (pV out.2.1 out.2.2 (gP rd)) := by
  refine am_ofF (by decide +kernel) rfl (by decide) (by omega) (Nat.le_of_ble_eq_true rfl) (fun X ad hX hi => ?_)
  have hi : am_info X 4 cX6_readLine 2 false none 49 := hi
  show am_V X 0 0 _ _ ad (0, [(0, .ref 28)], [], I, G, (gP rd))
  unfold R_X6_readLine_28 at h
  refine am_blk 0 [(.aload_n 0, 1, 0, 0, .null), (.getfield 62, 3, 4, 6, .null), (.istore_n 1, 1, 1, 0, .null), (.iload_n 1, 1, 1, 0, .null)] (6, [(0, .ref 28), (1, .int (I 28 6))], [.int (I 28 6)], I, G, (gP rd)) (True) hX hi (by decide +kernel) rfl trivial ?_
  refine am_if_ne (tgt := 16) hX hi (off := (10)) (by decide +kernel) (by decide) (fun c6 => ?_) (fun c6 => ?_)
  · rw [if_neg c6] at h
    refine am_blk 16 [(.iload_n 1, 1, 1, 0, .null), (.iconst (2), 1, 0, 0, .int (2 : Int32))] (18, [(0, .ref 28), (1, .int (I 28 6))], [.int (2 : Int32), .int (I 28 6)], I, G, (gP rd)) (True) hX hi (by decide +kernel) rfl trivial ?_
    refine am_icmp_ne (tgt := 28) hX hi (off := (10)) (by decide +kernel) (by decide) (fun c18 => ?_) (fun c18 => ?_)
    · rw [if_neg c18] at h
      refine am_blk 28 [(.iload_n 1, 1, 1, 0, .null), (.bipush (7), 2, 0, 0, .int (7 : Int32))] (31, [(0, .ref 28), (1, .int (I 28 6))], [.int (7 : Int32), .int (I 28 6)], I, G, (gP rd)) (True) hX hi (by decide +kernel) rfl trivial ?_
      refine am_icmp_ne (tgt := 41) hX hi (off := (10)) (by decide +kernel) (by decide) (fun c31 => ?_) (fun c31 => ?_)
      · rw [if_neg c31] at h
        refine am_blk 41 [(.iload_n 1, 1, 1, 0, .null), (.bipush (10), 2, 0, 0, .int (10 : Int32))] (44, [(0, .ref 28), (1, .int (I 28 6))], [.int (10 : Int32), .int (I 28 6)], I, G, (gP rd)) (True) hX hi (by decide +kernel) rfl trivial ?_
        refine am_icmp_ne (tgt := 54) hX hi (off := (10)) (by decide +kernel) (by decide) (fun c44 => ?_) (fun c44 => ?_)
        · rw [if_neg c44] at h
          refine am_blk 54 [(.aload_n 0, 1, 0, 0, .null)] (55, [(0, .ref 28), (1, .int (I 28 6))], [.ref 28], I, G, (gP rd)) (True) hX hi (by decide +kernel) rfl trivial ?_
          obtain ⟨r1, I1, G1, hc, h⟩ := rb_some h
          refine am_callV hX hi (M := mX6_readOrderHead) (idx := 85) (d' := 4) (b := 28) (ci := 4) (As := []) (rest := []) mkX6_readOrderHead miX6_readOrderHead mvX6_readOrderHead (by decide +kernel) (by decide +kernel) rfl (by decide +kernel) rfl ⟨by omega, by decide, Nat.le_of_ble_eq_true rfl⟩ rfl (c_X6_readOrderHead_28 _ I G  hc) ?_
          rintro r9 I9 G9 P9 ⟨e0, e1, e2, e3⟩
          rw [e0, e1, e2, e3]
          show am_V X 0 0 _ _ ad (58, [(0, .ref 28), (1, .int (I 28 6))], [], I1, G1, (gP rd))
          refine am_blk 58 [(.aload_n 0, 1, 0, 0, .null), (.iconst (0), 1, 0, 0, .int (0 : Int32))] (60, [(0, .ref 28), (1, .int (I 28 6))], [.int (0 : Int32), .ref 28], I1, G1, (gP rd)) (True) hX hi (by decide +kernel) rfl trivial ?_
          obtain ⟨r2, I2, G2, hc, h⟩ := rb_some h
          refine am_callV hX hi (M := mX6_readSum) (idx := 88) (d' := 48) (b := 28) (ci := 4) (As := [.int (0 : Int32)]) (rest := []) mkX6_readSum miX6_readSum mvX6_readSum (by decide +kernel) (by decide +kernel) rfl (by decide +kernel) rfl ⟨by omega, by decide, Nat.le_of_ble_eq_true rfl⟩ rfl ((cg_X6_readTest GDN).2.2.2.1 _ I1 G1 (0 : Int32) _ hc) ?_
          rintro r9 I9 G9 P9 ⟨e0, e1, e2, e3⟩
          rw [e0, e1, e2, e3]
          show am_V X 0 0 _ _ ad (63, [(0, .ref 28), (1, .int (I 28 6))], [], I2, G2, (gP rd))
          refine am_blk 63 [(.aload_n 0, 1, 0, 0, .null), (.getfield 12, 3, 4, 1, .null), (.getfield 91, 3, 3, 8, .null)] (70, [(0, .ref 28), (1, .int (I 28 6))], [.ref 38], I2, G2, (gP rd)) (True) hX hi (by decide +kernel) rfl trivial ?_
          refine am_callV hX hi (M := mX3_endSum) (idx := 95) (d' := 2) (b := 38) (ci := 1) (As := []) (rest := []) mkX3_endSum miX3_endSum mvX3_endSum (by decide +kernel) (by decide +kernel) rfl (by decide +kernel) rfl ⟨by omega, by decide, Nat.le_of_ble_eq_true rfl⟩ rfl (c_X3_endSum_38 _ I2 G2 ) ?_
          rintro r9 I9 G9 P9 ⟨e0, e1, e2, e3⟩
          rw [e0, e1, e2, e3]
          show am_V X 0 0 _ _ ad (73, [(0, .ref 28), (1, .int (I 28 6))], [], (g_X3_endSum_38 I2 G2 ), G2, (gP rd))
          refine am_blk 73 [(.aload_n 0, 1, 0, 0, .null), (.getfield 62, 3, 4, 6, .null), (.bipush (14), 2, 0, 0, .int (14 : Int32))] (79, [(0, .ref 28), (1, .int (I 28 6))], [.int (14 : Int32), .int ((g_X3_endSum_38 I2 G2 ) 28 6)], (g_X3_endSum_38 I2 G2 ), G2, (gP rd)) (True) hX hi (by decide +kernel) rfl trivial ?_
          refine am_icmp_ne (tgt := 94) hX hi (off := (15)) (by decide +kernel) (by decide) (fun c79 => ?_) (fun c79 => ?_)
          · rw [if_neg c79] at h
            refine am_blk 94 [(.iload_n 1, 1, 1, 0, .null), (.bipush (12), 2, 0, 0, .int (12 : Int32))] (97, [(0, .ref 28), (1, .int (I 28 6))], [.int (12 : Int32), .int (I 28 6)], (g_X3_endSum_38 I2 G2 ), G2, (gP rd)) (True) hX hi (by decide +kernel) rfl trivial ?_
            refine am_icmp_eq (tgt := 104) hX hi (off := (7)) (by decide +kernel) (by decide) (fun c97 => ?_) (fun c97 => ?_)
            · rw [if_pos c97] at h
              refine am_blk 104 [(.aload_n 0, 1, 0, 0, .null), (.getfield 12, 3, 4, 1, .null), (.getfield 91, 3, 3, 8, .null)] (111, [(0, .ref 28), (1, .int (I 28 6))], [.ref 38], (g_X3_endSum_38 I2 G2 ), G2, (gP rd)) (True) hX hi (by decide +kernel) rfl trivial ?_
              refine am_callV hX hi (M := mX3_endTest) (idx := 106) (d' := 2) (b := 38) (ci := 1) (As := []) (rest := []) mkX3_endTest miX3_endTest mvX3_endTest (by decide +kernel) (by decide +kernel) rfl (by decide +kernel) rfl ⟨by omega, by decide, Nat.le_of_ble_eq_true rfl⟩ rfl (c_X3_endTest_38 _ (g_X3_endSum_38 I2 G2 ) G2 ) ?_
              rintro r9 I9 G9 P9 ⟨e0, e1, e2, e3⟩
              rw [e0, e1, e2, e3]
              show am_V X 0 0 _ _ ad (114, [(0, .ref 28), (1, .int (I 28 6))], [], (g_X3_endTest_38 (g_X3_endSum_38 I2 G2 ) G2 ), G2, (gP rd))
              refine am_blk 114 [(.aload_n 0, 1, 0, 0, .null), (.bipush (28), 2, 0, 0, .int (28 : Int32))] (117, [(0, .ref 28), (1, .int (I 28 6))], [.int (28 : Int32), .ref 28], (g_X3_endTest_38 (g_X3_endSum_38 I2 G2 ) G2 ), G2, (gP rd)) (True) hX hi (by decide +kernel) rfl trivial ?_
              refine am_callV hX hi (M := mX6_expect) (idx := 109) (d' := 3) (b := 28) (ci := 4) (As := [.int (28 : Int32)]) (rest := []) mkX6_expect miX6_expect mvX6_expect (by decide +kernel) (by decide +kernel) rfl (by decide +kernel) rfl ⟨by omega, by decide, Nat.le_of_ble_eq_true rfl⟩ rfl (c_X6_expect_28 _ (g_X3_endTest_38 (g_X3_endSum_38 I2 G2 ) G2 ) G2 (28 : Int32)) ?_
              rintro r9 I9 G9 P9 ⟨e0, e1, e2, e3⟩
              rw [e0, e1, e2, e3]
              show am_V X 0 0 _ _ ad (120, [(0, .ref 28), (1, .int (I 28 6))], [], (g_X6_expect_28 (g_X3_endTest_38 (g_X3_endSum_38 I2 G2 ) G2 ) G2 (28 : Int32)), G2, (gP rd))
              cases h
              refine am_vret hX hi rfl (by decide +kernel) ?_
              exact ⟨rfl, rfl, rfl, rfl⟩
            · rw [if_neg c97] at h
              refine am_blk 100 [(.aload_n 0, 1, 0, 0, .null)] (101, [(0, .ref 28), (1, .int (I 28 6))], [.ref 28], (g_X3_endSum_38 I2 G2 ), G2, (gP rd)) (True) hX hi (by decide +kernel) rfl trivial ?_
              refine am_callV hX hi (M := mX6_refuse) (idx := 70) (d' := 2) (b := 28) (ci := 4) (As := []) (rest := []) mkX6_refuse miX6_refuse mvX6_refuse (by decide +kernel) (by decide +kernel) rfl (by decide +kernel) rfl ⟨by omega, by decide, Nat.le_of_ble_eq_true rfl⟩ rfl (c_X6_refuse_28 _ (g_X3_endSum_38 I2 G2 ) G2 ) ?_
              rintro r9 I9 G9 P9 ⟨e0, e1, e2, e3⟩
              rw [e0, e1, e2, e3]
              show am_V X 0 0 _ _ ad (104, [(0, .ref 28), (1, .int (I 28 6))], [], (g_X6_refuse_28 (g_X3_endSum_38 I2 G2 ) G2 ), G2, (gP rd))
              refine am_blk 104 [(.aload_n 0, 1, 0, 0, .null), (.getfield 12, 3, 4, 1, .null), (.getfield 91, 3, 3, 8, .null)] (111, [(0, .ref 28), (1, .int (I 28 6))], [.ref 38], (g_X6_refuse_28 (g_X3_endSum_38 I2 G2 ) G2 ), G2, (gP rd)) (True) hX hi (by decide +kernel) rfl trivial ?_
              refine am_callV hX hi (M := mX3_endTest) (idx := 106) (d' := 2) (b := 38) (ci := 1) (As := []) (rest := []) mkX3_endTest miX3_endTest mvX3_endTest (by decide +kernel) (by decide +kernel) rfl (by decide +kernel) rfl ⟨by omega, by decide, Nat.le_of_ble_eq_true rfl⟩ rfl (c_X3_endTest_38 _ (g_X6_refuse_28 (g_X3_endSum_38 I2 G2 ) G2 ) G2 ) ?_
              rintro r9 I9 G9 P9 ⟨e0, e1, e2, e3⟩
              rw [e0, e1, e2, e3]
              show am_V X 0 0 _ _ ad (114, [(0, .ref 28), (1, .int (I 28 6))], [], (g_X3_endTest_38 (g_X6_refuse_28 (g_X3_endSum_38 I2 G2 ) G2 ) G2 ), G2, (gP rd))
              refine am_blk 114 [(.aload_n 0, 1, 0, 0, .null), (.bipush (28), 2, 0, 0, .int (28 : Int32))] (117, [(0, .ref 28), (1, .int (I 28 6))], [.int (28 : Int32), .ref 28], (g_X3_endTest_38 (g_X6_refuse_28 (g_X3_endSum_38 I2 G2 ) G2 ) G2 ), G2, (gP rd)) (True) hX hi (by decide +kernel) rfl trivial ?_
              refine am_callV hX hi (M := mX6_expect) (idx := 109) (d' := 3) (b := 28) (ci := 4) (As := [.int (28 : Int32)]) (rest := []) mkX6_expect miX6_expect mvX6_expect (by decide +kernel) (by decide +kernel) rfl (by decide +kernel) rfl ⟨by omega, by decide, Nat.le_of_ble_eq_true rfl⟩ rfl (c_X6_expect_28 _ (g_X3_endTest_38 (g_X6_refuse_28 (g_X3_endSum_38 I2 G2 ) G2 ) G2 ) G2 (28 : Int32)) ?_
              rintro r9 I9 G9 P9 ⟨e0, e1, e2, e3⟩
              rw [e0, e1, e2, e3]
              show am_V X 0 0 _ _ ad (120, [(0, .ref 28), (1, .int (I 28 6))], [], (g_X6_expect_28 (g_X3_endTest_38 (g_X6_refuse_28 (g_X3_endSum_38 I2 G2 ) G2 ) G2 ) G2 (28 : Int32)), G2, (gP rd))
              cases h
              refine am_vret hX hi rfl (by decide +kernel) ?_
              exact ⟨rfl, rfl, rfl, rfl⟩
          · rw [if_pos c79] at h
            refine am_blk 82 [(.aload_n 0, 1, 0, 0, .null)] (83, [(0, .ref 28), (1, .int (I 28 6))], [.ref 28], (g_X3_endSum_38 I2 G2 ), G2, (gP rd)) (True) hX hi (by decide +kernel) rfl trivial ?_
            refine am_callV hX hi (M := mX6_advance) (idx := 100) (d' := 2) (b := 28) (ci := 4) (As := []) (rest := []) mkX6_advance miX6_advance mvX6_advance (by decide +kernel) (by decide +kernel) rfl (by decide +kernel) rfl ⟨by omega, by decide, Nat.le_of_ble_eq_true rfl⟩ rfl (c_X6_advance_28 _ (g_X3_endSum_38 I2 G2 ) G2 ) ?_
            rintro r9 I9 G9 P9 ⟨e0, e1, e2, e3⟩
            rw [e0, e1, e2, e3]
            show am_V X 0 0 _ _ ad (86, [(0, .ref 28), (1, .int (I 28 6))], [], (g_X6_advance_28 (g_X3_endSum_38 I2 G2 ) G2 ), G2, (gP rd))
            refine am_blk 86 [(.aload_n 0, 1, 0, 0, .null), (.iconst (0), 1, 0, 0, .int (0 : Int32))] (88, [(0, .ref 28), (1, .int (I 28 6))], [.int (0 : Int32), .ref 28], (g_X6_advance_28 (g_X3_endSum_38 I2 G2 ) G2 ), G2, (gP rd)) (True) hX hi (by decide +kernel) rfl trivial ?_
            obtain ⟨r3, I3, G3, hc, h⟩ := rb_some h
            refine am_callV hX hi (M := mX6_readTest) (idx := 103) (d' := 48) (b := 28) (ci := 4) (As := [.int (0 : Int32)]) (rest := []) mkX6_readTest miX6_readTest mvX6_readTest (by decide +kernel) (by decide +kernel) rfl (by decide +kernel) rfl ⟨by omega, by decide, Nat.le_of_ble_eq_true rfl⟩ rfl ((cg_X6_readTest GDN).1 _ (g_X6_advance_28 (g_X3_endSum_38 I2 G2 ) G2 ) G2 (0 : Int32) _ hc) ?_
            rintro r9 I9 G9 P9 ⟨e0, e1, e2, e3⟩
            rw [e0, e1, e2, e3]
            show am_V X 0 0 _ _ ad (91, [(0, .ref 28), (1, .int (I 28 6))], [], I3, G3, (gP rd))
            refine am_blk 91 [(.goto (13), 3, 0, 104, .null), (.aload_n 0, 1, 0, 0, .null), (.getfield 12, 3, 4, 1, .null), (.getfield 91, 3, 3, 8, .null)] (111, [(0, .ref 28), (1, .int (I 28 6))], [.ref 38], I3, G3, (gP rd)) (True) hX hi (by decide +kernel) rfl trivial ?_
            refine am_callV hX hi (M := mX3_endTest) (idx := 106) (d' := 2) (b := 38) (ci := 1) (As := []) (rest := []) mkX3_endTest miX3_endTest mvX3_endTest (by decide +kernel) (by decide +kernel) rfl (by decide +kernel) rfl ⟨by omega, by decide, Nat.le_of_ble_eq_true rfl⟩ rfl (c_X3_endTest_38 _ I3 G3 ) ?_
            rintro r9 I9 G9 P9 ⟨e0, e1, e2, e3⟩
            rw [e0, e1, e2, e3]
            show am_V X 0 0 _ _ ad (114, [(0, .ref 28), (1, .int (I 28 6))], [], (g_X3_endTest_38 I3 G3 ), G3, (gP rd))
            refine am_blk 114 [(.aload_n 0, 1, 0, 0, .null), (.bipush (28), 2, 0, 0, .int (28 : Int32))] (117, [(0, .ref 28), (1, .int (I 28 6))], [.int (28 : Int32), .ref 28], (g_X3_endTest_38 I3 G3 ), G3, (gP rd)) (True) hX hi (by decide +kernel) rfl trivial ?_
            refine am_callV hX hi (M := mX6_expect) (idx := 109) (d' := 3) (b := 28) (ci := 4) (As := [.int (28 : Int32)]) (rest := []) mkX6_expect miX6_expect mvX6_expect (by decide +kernel) (by decide +kernel) rfl (by decide +kernel) rfl ⟨by omega, by decide, Nat.le_of_ble_eq_true rfl⟩ rfl (c_X6_expect_28 _ (g_X3_endTest_38 I3 G3 ) G3 (28 : Int32)) ?_
            rintro r9 I9 G9 P9 ⟨e0, e1, e2, e3⟩
            rw [e0, e1, e2, e3]
            show am_V X 0 0 _ _ ad (120, [(0, .ref 28), (1, .int (I 28 6))], [], (g_X6_expect_28 (g_X3_endTest_38 I3 G3 ) G3 (28 : Int32)), G3, (gP rd))
            cases h
            refine am_vret hX hi rfl (by decide +kernel) ?_
            exact ⟨rfl, rfl, rfl, rfl⟩
        · rw [if_pos c44] at h
          refine am_blk 47 [(.aload_n 0, 1, 0, 0, .null)] (48, [(0, .ref 28), (1, .int (I 28 6))], [.ref 28], I, G, (gP rd)) (True) hX hi (by decide +kernel) rfl trivial ?_
          obtain ⟨r4, I4, G4, hc, h⟩ := rb_some h
          refine am_callV hX hi (M := mX6_readInk) (idx := 82) (d' := 4) (b := 28) (ci := 4) (As := []) (rest := []) mkX6_readInk miX6_readInk mvX6_readInk (by decide +kernel) (by decide +kernel) rfl (by decide +kernel) rfl ⟨by omega, by decide, Nat.le_of_ble_eq_true rfl⟩ rfl (c_X6_readInk_28 _ I G  hc) ?_
          rintro r9 I9 G9 P9 ⟨e0, e1, e2, e3⟩
          rw [e0, e1, e2, e3]
          show am_V X 0 0 _ _ ad (51, [(0, .ref 28), (1, .int (I 28 6))], [], I4, G4, (gP rd))
          refine am_blk 51 [(.goto (63), 3, 0, 114, .null), (.aload_n 0, 1, 0, 0, .null), (.bipush (28), 2, 0, 0, .int (28 : Int32))] (117, [(0, .ref 28), (1, .int (I 28 6))], [.int (28 : Int32), .ref 28], I4, G4, (gP rd)) (True) hX hi (by decide +kernel) rfl trivial ?_
          refine am_callV hX hi (M := mX6_expect) (idx := 109) (d' := 3) (b := 28) (ci := 4) (As := [.int (28 : Int32)]) (rest := []) mkX6_expect miX6_expect mvX6_expect (by decide +kernel) (by decide +kernel) rfl (by decide +kernel) rfl ⟨by omega, by decide, Nat.le_of_ble_eq_true rfl⟩ rfl (c_X6_expect_28 _ I4 G4 (28 : Int32)) ?_
          rintro r9 I9 G9 P9 ⟨e0, e1, e2, e3⟩
          rw [e0, e1, e2, e3]
          show am_V X 0 0 _ _ ad (120, [(0, .ref 28), (1, .int (I 28 6))], [], (g_X6_expect_28 I4 G4 (28 : Int32)), G4, (gP rd))
          cases h
          refine am_vret hX hi rfl (by decide +kernel) ?_
          exact ⟨rfl, rfl, rfl, rfl⟩
      · rw [if_pos c31] at h
        refine am_blk 34 [(.aload_n 0, 1, 0, 0, .null)] (35, [(0, .ref 28), (1, .int (I 28 6))], [.ref 28], I, G, (gP rd)) (True) hX hi (by decide +kernel) rfl trivial ?_
        obtain ⟨r5, I5, G5, hc, h⟩ := rb_some h
        refine am_callV hX hi (M := mX6_readComb) (idx := 79) (d' := 4) (b := 28) (ci := 4) (As := []) (rest := []) mkX6_readComb miX6_readComb mvX6_readComb (by decide +kernel) (by decide +kernel) rfl (by decide +kernel) rfl ⟨by omega, by decide, Nat.le_of_ble_eq_true rfl⟩ rfl (c_X6_readComb_28 _ I G  hc) ?_
        rintro r9 I9 G9 P9 ⟨e0, e1, e2, e3⟩
        rw [e0, e1, e2, e3]
        show am_V X 0 0 _ _ ad (38, [(0, .ref 28), (1, .int (I 28 6))], [], I5, G5, (gP rd))
        refine am_blk 38 [(.goto (76), 3, 0, 114, .null), (.aload_n 0, 1, 0, 0, .null), (.bipush (28), 2, 0, 0, .int (28 : Int32))] (117, [(0, .ref 28), (1, .int (I 28 6))], [.int (28 : Int32), .ref 28], I5, G5, (gP rd)) (True) hX hi (by decide +kernel) rfl trivial ?_
        refine am_callV hX hi (M := mX6_expect) (idx := 109) (d' := 3) (b := 28) (ci := 4) (As := [.int (28 : Int32)]) (rest := []) mkX6_expect miX6_expect mvX6_expect (by decide +kernel) (by decide +kernel) rfl (by decide +kernel) rfl ⟨by omega, by decide, Nat.le_of_ble_eq_true rfl⟩ rfl (c_X6_expect_28 _ I5 G5 (28 : Int32)) ?_
        rintro r9 I9 G9 P9 ⟨e0, e1, e2, e3⟩
        rw [e0, e1, e2, e3]
        show am_V X 0 0 _ _ ad (120, [(0, .ref 28), (1, .int (I 28 6))], [], (g_X6_expect_28 I5 G5 (28 : Int32)), G5, (gP rd))
        cases h
        refine am_vret hX hi rfl (by decide +kernel) ?_
        exact ⟨rfl, rfl, rfl, rfl⟩
    · rw [if_pos c18] at h
      refine am_blk 21 [(.aload_n 0, 1, 0, 0, .null)] (22, [(0, .ref 28), (1, .int (I 28 6))], [.ref 28], I, G, (gP rd)) (True) hX hi (by decide +kernel) rfl trivial ?_
      obtain ⟨r6, I6, G6, hc, h⟩ := rb_some h
      refine am_callV hX hi (M := mX6_readOctave) (idx := 76) (d' := 4) (b := 28) (ci := 4) (As := []) (rest := []) mkX6_readOctave miX6_readOctave mvX6_readOctave (by decide +kernel) (by decide +kernel) rfl (by decide +kernel) rfl ⟨by omega, by decide, Nat.le_of_ble_eq_true rfl⟩ rfl (c_X6_readOctave_28 _ I G  hc) ?_
      rintro r9 I9 G9 P9 ⟨e0, e1, e2, e3⟩
      rw [e0, e1, e2, e3]
      show am_V X 0 0 _ _ ad (25, [(0, .ref 28), (1, .int (I 28 6))], [], I6, G6, (gP rd))
      refine am_blk 25 [(.goto (89), 3, 0, 114, .null), (.aload_n 0, 1, 0, 0, .null), (.bipush (28), 2, 0, 0, .int (28 : Int32))] (117, [(0, .ref 28), (1, .int (I 28 6))], [.int (28 : Int32), .ref 28], I6, G6, (gP rd)) (True) hX hi (by decide +kernel) rfl trivial ?_
      refine am_callV hX hi (M := mX6_expect) (idx := 109) (d' := 3) (b := 28) (ci := 4) (As := [.int (28 : Int32)]) (rest := []) mkX6_expect miX6_expect mvX6_expect (by decide +kernel) (by decide +kernel) rfl (by decide +kernel) rfl ⟨by omega, by decide, Nat.le_of_ble_eq_true rfl⟩ rfl (c_X6_expect_28 _ I6 G6 (28 : Int32)) ?_
      rintro r9 I9 G9 P9 ⟨e0, e1, e2, e3⟩
      rw [e0, e1, e2, e3]
      show am_V X 0 0 _ _ ad (120, [(0, .ref 28), (1, .int (I 28 6))], [], (g_X6_expect_28 I6 G6 (28 : Int32)), G6, (gP rd))
      cases h
      refine am_vret hX hi rfl (by decide +kernel) ?_
      exact ⟨rfl, rfl, rfl, rfl⟩
  · rw [if_pos c6] at h
    refine am_blk 9 [(.aload_n 0, 1, 0, 0, .null)] (10, [(0, .ref 28), (1, .int (I 28 6))], [.ref 28], I, G, (gP rd)) (True) hX hi (by decide +kernel) rfl trivial ?_
    refine am_callV hX hi (M := mX6_readPaper) (idx := 73) (d' := 4) (b := 28) (ci := 4) (As := []) (rest := []) mkX6_readPaper miX6_readPaper mvX6_readPaper (by decide +kernel) (by decide +kernel) rfl (by decide +kernel) rfl ⟨by omega, by decide, Nat.le_of_ble_eq_true rfl⟩ rfl (c_X6_readPaper_28 _ I G ) ?_
    rintro r9 I9 G9 P9 ⟨e0, e1, e2, e3⟩
    rw [e0, e1, e2, e3]
    show am_V X 0 0 _ _ ad (13, [(0, .ref 28), (1, .int (I 28 6))], [], (g_X6_readPaper_28 I G ), G, (gP rd))
    refine am_blk 13 [(.goto (101), 3, 0, 114, .null), (.aload_n 0, 1, 0, 0, .null), (.bipush (28), 2, 0, 0, .int (28 : Int32))] (117, [(0, .ref 28), (1, .int (I 28 6))], [.int (28 : Int32), .ref 28], (g_X6_readPaper_28 I G ), G, (gP rd)) (True) hX hi (by decide +kernel) rfl trivial ?_
    refine am_callV hX hi (M := mX6_expect) (idx := 109) (d' := 3) (b := 28) (ci := 4) (As := [.int (28 : Int32)]) (rest := []) mkX6_expect miX6_expect mvX6_expect (by decide +kernel) (by decide +kernel) rfl (by decide +kernel) rfl ⟨by omega, by decide, Nat.le_of_ble_eq_true rfl⟩ rfl (c_X6_expect_28 _ (g_X6_readPaper_28 I G ) G (28 : Int32)) ?_
    rintro r9 I9 G9 P9 ⟨e0, e1, e2, e3⟩
    rw [e0, e1, e2, e3]
    show am_V X 0 0 _ _ ad (120, [(0, .ref 28), (1, .int (I 28 6))], [], (g_X6_expect_28 (g_X6_readPaper_28 I G ) G (28 : Int32)), G, (gP rd))
    cases h
    refine am_vret hX hi rfl (by decide +kernel) ?_
    exact ⟨rfl, rfl, rfl, rfl⟩
noncomputable def R_X7_begin_53 (I : am_I) (G : am_G)  : Option (Unit × am_I × am_G) := rb (R_X7_takePulls_53_14 (am_up (am_up (am_up (am_up I 53 10 (0 : Int32)) 53 11 (0 : Int32)) 53 12 (0 : Int32)) 53 13 (0 : Int32)) G ) (fun r1 I1 G1 => some ((), (g_X7_spoil_53 (am_cp I1 11 56 4) G1 ), G1))
set_option maxRecDepth 20000 in
set_option maxHeartbeats 4000000 in
theorem c_X7_begin_53 (rd : Nat) (I : am_I) (G : am_G)  {out : Unit × am_I × am_G} (h : R_X7_begin_53 I G  = some out) : am_Ct mX7_begin 5 gS [.ref 53] I G (gP rd) (pV out.2.1 out.2.2 (gP rd)) := by
  refine am_ofF (by decide +kernel) rfl (by decide) (by omega) (Nat.le_of_ble_eq_true rfl) (fun X ad hX hi => ?_)
  have hi : am_info X 5 cX7_begin 1 false none 5 := hi
  show am_V X 0 0 _ _ ad (0, [(0, .ref 53)], [], I, G, (gP rd))
  unfold R_X7_begin_53 at h
  refine am_blk 0 [(.aload_n 0, 1, 0, 0, .null), (.iconst (0), 1, 0, 0, .int (0 : Int32)), (.putfield 52, 3, 5, 10, .null), (.aload_n 0, 1, 0, 0, .null), (.iconst (0), 1, 0, 0, .int (0 : Int32)), (.putfield 56, 3, 5, 11, .null), (.aload_n 0, 1, 0, 0, .null), (.iconst (0), 1, 0, 0, .int (0 : Int32)), (.putfield 59, 3, 5, 12, .null), (.aload_n 0, 1, 0, 0, .null), (.iconst (0), 1, 0, 0, .int (0 : Int32)), (.putfield 62, 3, 5, 13, .null), (.aload_n 0, 1, 0, 0, .null), (.aload_n 0, 1, 0, 0, .null), (.getfield 44, 3, 5, 0, .null), (.getfield 65, 3, 3, 6, .null)] (28, [(0, .ref 53)], [.ref 14, .ref 53], (am_up (am_up (am_up (am_up I 53 10 (0 : Int32)) 53 11 (0 : Int32)) 53 12 (0 : Int32)) 53 13 (0 : Int32)), G, (gP rd)) (True) hX hi (by decide +kernel) rfl trivial ?_
  obtain ⟨r1, I1, G1, hc, h⟩ := rb_some h
  refine am_callV hX hi (M := mX7_takePulls) (idx := 68) (d' := 4) (b := 53) (ci := 5) (As := [.ref 14]) (rest := []) mkX7_takePulls miX7_takePulls mvX7_takePulls (by decide +kernel) (by decide +kernel) rfl (by decide +kernel) rfl ⟨by omega, by decide, Nat.le_of_ble_eq_true rfl⟩ rfl (c_X7_takePulls_53_14 _ (am_up (am_up (am_up (am_up I 53 10 (0 : Int32)) 53 11 (0 : Int32)) 53 12 (0 : Int32)) 53 13 (0 : Int32)) G  hc) ?_
  rintro r9 I9 G9 P9 ⟨e0, e1, e2, e3⟩
  rw [e0, e1, e2, e3]
  show am_V X 0 0 _ _ ad (31, [(0, .ref 53)], [], I1, G1, (gP rd))
  refine am_blk 31 [(.aload_n 0, 1, 0, 0, .null), (.getfield 44, 3, 5, 0, .null), (.getfield 72, 3, 3, 3, .null), (.aload_n 0, 1, 0, 0, .null), (.getfield 18, 3, 5, 4, .null)] (42, [(0, .ref 53)], [.ref 56, .ref 11], I1, G1, (gP rd)) (True) hX hi (by decide +kernel) rfl trivial ?_
  refine am_callS hX hi (M := mX0_copy) (idx := 73) (d' := 2) (As := [.ref 11, .ref 56]) (rest := []) mkX0_copy msX0_copy (by decide +kernel) (by decide +kernel) rfl ⟨by omega, by decide, Nat.le_of_ble_eq_true rfl⟩ rfl (c_copy rfl rfl (by decide)) ?_
  rintro r9 I9 G9 P9 ⟨e0, e1, e2, e3⟩
  rw [e0, e1, e2, e3]
  show am_V X 0 0 _ _ ad (45, [(0, .ref 53)], [], (am_cp I1 11 56 4), G1, (gP rd))
  refine am_blk 45 [(.aload_n 0, 1, 0, 0, .null)] (46, [(0, .ref 53)], [.ref 53], (am_cp I1 11 56 4), G1, (gP rd)) (True) hX hi (by decide +kernel) rfl trivial ?_
  refine am_callV hX hi (M := mX7_spoil) (idx := 79) (d' := 1) (b := 53) (ci := 5) (As := []) (rest := []) mkX7_spoil miX7_spoil mvX7_spoil (by decide +kernel) (by decide +kernel) rfl (by decide +kernel) rfl ⟨by omega, by decide, Nat.le_of_ble_eq_true rfl⟩ rfl (c_X7_spoil_53 _ (am_cp I1 11 56 4) G1 ) ?_
  rintro r9 I9 G9 P9 ⟨e0, e1, e2, e3⟩
  rw [e0, e1, e2, e3]
  show am_V X 0 0 _ _ ad (49, [(0, .ref 53)], [], (g_X7_spoil_53 (am_cp I1 11 56 4) G1 ), G1, (gP rd))
  cases h
  refine am_vret hX hi rfl (by decide +kernel) ?_
  exact ⟨rfl, rfl, rfl, rfl⟩
noncomputable def R_X7_take_66_53 (I : am_I) (G : am_G)  : Option (Unit × am_I × am_G) := rb (R_X7_takePulls_66_54 (am_up (am_up (am_up (am_up I 66 10 (I 53 10)) 66 11 (I 53 11)) 66 12 (I 53 12)) 66 13 (I 53 13)) G ) (fun r1 I1 G1 => some ((), (g_X7_spoil_66 (am_cp I1 56 69 4) G1 ), G1))
set_option maxRecDepth 20000 in
set_option maxHeartbeats 4000000 in
theorem c_X7_take_66_53 (rd : Nat) (I : am_I) (G : am_G)  {out : Unit × am_I × am_G} (h : R_X7_take_66_53 I G  = some out) : am_Ct mX7_take 5 gS [.ref 66, .ref 53] I G (gP rd) (pV out.2.1 out.2.2 (gP rd)) := by
  refine am_ofF (by decide +kernel) rfl (by decide) (by omega) (Nat.le_of_ble_eq_true rfl) (fun X ad hX hi => ?_)
  have hi : am_info X 5 cX7_take 2 false none 5 := hi
  show am_V X 0 0 _ _ ad (0, [(0, .ref 66), (1, .ref 53)], [], I, G, (gP rd))
  unfold R_X7_take_66_53 at h
  refine am_blk 0 [(.aload_n 0, 1, 0, 0, .null), (.aload_n 1, 1, 1, 0, .null), (.getfield 52, 3, 5, 10, .null), (.putfield 52, 3, 5, 10, .null), (.aload_n 0, 1, 0, 0, .null), (.aload_n 1, 1, 1, 0, .null), (.getfield 56, 3, 5, 11, .null), (.putfield 56, 3, 5, 11, .null), (.aload_n 0, 1, 0, 0, .null), (.aload_n 1, 1, 1, 0, .null), (.getfield 59, 3, 5, 12, .null), (.putfield 59, 3, 5, 12, .null), (.aload_n 0, 1, 0, 0, .null), (.aload_n 1, 1, 1, 0, .null), (.getfield 62, 3, 5, 13, .null), (.putfield 62, 3, 5, 13, .null), (.aload_n 0, 1, 0, 0, .null), (.aload_n 1, 1, 1, 0, .null), (.getfield 9, 3, 5, 2, .null)] (37, [(0, .ref 66), (1, .ref 53)], [.ref 54, .ref 66], (am_up (am_up (am_up (am_up I 66 10 (I 53 10)) 66 11 (I 53 11)) 66 12 (I 53 12)) 66 13 (I 53 13)), G, (gP rd)) (True) hX hi (by decide +kernel) rfl trivial ?_
  obtain ⟨r1, I1, G1, hc, h⟩ := rb_some h
  refine am_callV hX hi (M := mX7_takePulls) (idx := 68) (d' := 4) (b := 66) (ci := 5) (As := [.ref 54]) (rest := []) mkX7_takePulls miX7_takePulls mvX7_takePulls (by decide +kernel) (by decide +kernel) rfl (by decide +kernel) rfl ⟨by omega, by decide, Nat.le_of_ble_eq_true rfl⟩ rfl (c_X7_takePulls_66_54 _ (am_up (am_up (am_up (am_up I 66 10 (I 53 10)) 66 11 (I 53 11)) 66 12 (I 53 12)) 66 13 (I 53 13)) G  hc) ?_
  rintro r9 I9 G9 P9 ⟨e0, e1, e2, e3⟩
  rw [e0, e1, e2, e3]
  show am_V X 0 0 _ _ ad (40, [(0, .ref 66), (1, .ref 53)], [], I1, G1, (gP rd))
  refine am_blk 40 [(.aload_n 1, 1, 1, 0, .null), (.getfield 18, 3, 5, 4, .null), (.aload_n 0, 1, 0, 0, .null), (.getfield 18, 3, 5, 4, .null)] (48, [(0, .ref 66), (1, .ref 53)], [.ref 69, .ref 56], I1, G1, (gP rd)) (True) hX hi (by decide +kernel) rfl trivial ?_
  refine am_callS hX hi (M := mX0_copy) (idx := 73) (d' := 2) (As := [.ref 56, .ref 69]) (rest := []) mkX0_copy msX0_copy (by decide +kernel) (by decide +kernel) rfl ⟨by omega, by decide, Nat.le_of_ble_eq_true rfl⟩ rfl (c_copy rfl rfl (by decide)) ?_
  rintro r9 I9 G9 P9 ⟨e0, e1, e2, e3⟩
  rw [e0, e1, e2, e3]
  show am_V X 0 0 _ _ ad (51, [(0, .ref 66), (1, .ref 53)], [], (am_cp I1 56 69 4), G1, (gP rd))
  refine am_blk 51 [(.aload_n 0, 1, 0, 0, .null)] (52, [(0, .ref 66), (1, .ref 53)], [.ref 66], (am_cp I1 56 69 4), G1, (gP rd)) (True) hX hi (by decide +kernel) rfl trivial ?_
  refine am_callV hX hi (M := mX7_spoil) (idx := 79) (d' := 1) (b := 66) (ci := 5) (As := []) (rest := []) mkX7_spoil miX7_spoil mvX7_spoil (by decide +kernel) (by decide +kernel) rfl (by decide +kernel) rfl ⟨by omega, by decide, Nat.le_of_ble_eq_true rfl⟩ rfl (c_X7_spoil_66 _ (am_cp I1 56 69 4) G1 ) ?_
  rintro r9 I9 G9 P9 ⟨e0, e1, e2, e3⟩
  rw [e0, e1, e2, e3]
  show am_V X 0 0 _ _ ad (55, [(0, .ref 66), (1, .ref 53)], [], (g_X7_spoil_66 (am_cp I1 56 69 4) G1 ), G1, (gP rd))
  cases h
  refine am_vret hX hi rfl (by decide +kernel) ?_
  exact ⟨rfl, rfl, rfl, rfl⟩
noncomputable def L_X7_reckon_53 (n0 : Nat) (hd : Nat) (I : am_I) (G : am_G) (v1 : Int32) (v2 : Int32) (v3 : Int32) : Option (Int32 × am_I × am_G) := match n0 with
  | 0 => none
  | n + 1 => match hd with
    | _ => (if v2 ≤ v3 then some ((f_X8_pop_64 I G ), (g_X8_pop_64 I G ), G) else rb (R_X7_step_53 I G (gAt (I 23) 400 v3) (gAt (I 24) 400 v3)) (fun r101 I101 G101 => L_X7_reckon_53 n 0 I101 G101 v1 v2 (v3 + (1 : Int32))))
theorem L_X7_reckon_53_0 (n : Nat) (I : am_I) (G : am_G) (v1 : Int32) (v2 : Int32) (v3 : Int32) : L_X7_reckon_53 (n + 1) 0 I G v1 v2 v3 = (if v2 ≤ v3 then some ((f_X8_pop_64 I G ), (g_X8_pop_64 I G ), G) else rb (R_X7_step_53 I G (gAt (I 23) 400 v3) (gAt (I 24) 400 v3)) (fun r101 I101 G101 => L_X7_reckon_53 n 0 I101 G101 v1 v2 (v3 + (1 : Int32)))) := rfl
theorem L_X7_reckon_53_z (h : Nat) (I : am_I) (G : am_G) (v1 : Int32) (v2 : Int32) (v3 : Int32) : L_X7_reckon_53 0 h I G v1 v2 v3 = none := rfl
noncomputable def R_X7_reckon_53 (I : am_I) (G : am_G) (x1 : Int32) (x2 : Int32) : Option (Int32 × am_I × am_G) := L_X7_reckon_53 FU 0 (g_X8_clear_64 I G ) G x1 x2 x1
set_option maxRecDepth 20000 in
set_option maxHeartbeats 4000000 in
theorem l_X7_reckon_53 (rd : Nat) {X : am_X} {ad : Nat → Nat} (hX : am_okz X ad) (hi : am_info X 5 cX7_reckon 4 false (Option.some Jvm.ClassFile.FieldType.int) 5) (n : Nat) : (∀ (I : am_I) (G : am_G) (v1 : Int32) (v2 : Int32) (v3 : Int32) (out : Int32 × am_I × am_G), L_X7_reckon_53 n 0 I G v1 v2 v3 = some out → am_V X 0 0 (am_Rt X gS ad (pI out.1 out.2.1 out.2.2 (gP rd))) gS ad (9, [(0, .ref 53), (1, .int v1), (2, .int v2), (3, .int v3)], [], I, G, (gP rd))) := by
  induction n with
  | zero => exact fun I G v1 v2 v3 out h => by rw [L_X7_reckon_53_z] at h; cases h
  | succ n ih =>
    · intro I G v1 v2 v3 out h
      rw [L_X7_reckon_53_0] at h
      refine am_blk 9 [(.iload_n 3, 1, 3, 0, .null), (.iload_n 2, 1, 2, 0, .null)] (11, [(0, .ref 53), (1, .int v1), (2, .int v2), (3, .int v3)], [.int v2, .int v3], I, G, (gP rd)) (True) hX hi (by decide +kernel) rfl trivial ?_
      refine am_icmp_ge (tgt := 52) hX hi (off := (41)) (by decide +kernel) (by decide) (fun c11 => ?_) (fun c11 => ?_)
      · rw [if_pos c11] at h
        refine am_blk 52 [(.aload_n 0, 1, 0, 0, .null), (.getfield 40, 3, 5, 9, .null)] (56, [(0, .ref 53), (1, .int v1), (2, .int v2), (3, .int v3)], [.ref 64], I, G, (gP rd)) (True) hX hi (by decide +kernel) rfl trivial ?_
        refine am_callV hX hi (M := mX8_pop) (idx := 179) (d' := 1) (b := 64) (ci := 6) (As := []) (rest := []) mkX8_pop miX8_pop mvX8_pop (by decide +kernel) (by decide +kernel) rfl (by decide +kernel) rfl ⟨by omega, by decide, Nat.le_of_ble_eq_true rfl⟩ rfl (c_X8_pop_64 _ I G ) ?_
        rintro r9 I9 G9 P9 ⟨e0, e1, e2, e3⟩
        rw [e0, e1, e2, e3]
        show am_V X 0 0 _ _ ad (59, [(0, .ref 53), (1, .int v1), (2, .int v2), (3, .int v3)], [.int (f_X8_pop_64 I G )], (g_X8_pop_64 I G ), G, (gP rd))
        cases h
        refine am_iret hX hi rfl rfl (by decide +kernel) ?_
        exact ⟨rfl, rfl, rfl, rfl⟩
      · rw [if_neg c11] at h
        refine am_blk 14 [(.aload_n 0, 1, 0, 0, .null), (.aload_n 0, 1, 0, 0, .null), (.getfield 44, 3, 5, 0, .null), (.getfield 114, 3, 3, 8, .null), (.getfield 169, 3, 1, 6, .null), (.iload_n 3, 1, 3, 0, .null)] (26, [(0, .ref 53), (1, .int v1), (2, .int v2), (3, .int v3)], [.int v3, .ref 23, .ref 53], I, G, (gP rd)) (True) hX hi (by decide +kernel) rfl trivial ?_
        refine am_callS hX hi (M := mX0_at) (idx := 85) (d' := 1) (As := [.ref 23, .int v3]) (rest := [.ref 53]) mkX0_at msX0_at (by decide +kernel) (by decide +kernel) rfl ⟨by omega, by decide, Nat.le_of_ble_eq_true rfl⟩ rfl (c_at rfl (by decide) v3) ?_
        rintro r9 I9 G9 P9 ⟨e0, e1, e2, e3⟩
        rw [e0, e1, e2, e3]
        show am_V X 0 0 _ _ ad (29, [(0, .ref 53), (1, .int v1), (2, .int v2), (3, .int v3)], [.int (gAt (I 23) 400 v3), .ref 53], I, G, (gP rd))
        refine am_blk 29 [(.aload_n 0, 1, 0, 0, .null), (.getfield 44, 3, 5, 0, .null), (.getfield 114, 3, 3, 8, .null), (.getfield 172, 3, 1, 7, .null), (.iload_n 3, 1, 3, 0, .null)] (40, [(0, .ref 53), (1, .int v1), (2, .int v2), (3, .int v3)], [.int v3, .ref 24, .int (gAt (I 23) 400 v3), .ref 53], I, G, (gP rd)) (True) hX hi (by decide +kernel) rfl trivial ?_
        refine am_callS hX hi (M := mX0_at) (idx := 85) (d' := 1) (As := [.ref 24, .int v3]) (rest := [.int (gAt (I 23) 400 v3), .ref 53]) mkX0_at msX0_at (by decide +kernel) (by decide +kernel) rfl ⟨by omega, by decide, Nat.le_of_ble_eq_true rfl⟩ rfl (c_at rfl (by decide) v3) ?_
        rintro r9 I9 G9 P9 ⟨e0, e1, e2, e3⟩
        rw [e0, e1, e2, e3]
        show am_V X 0 0 _ _ ad (43, [(0, .ref 53), (1, .int v1), (2, .int v2), (3, .int v3)], [.int (gAt (I 24) 400 v3), .int (gAt (I 23) 400 v3), .ref 53], I, G, (gP rd))
        obtain ⟨r101, I101, G101, hc, h⟩ := rb_some h
        refine am_callV hX hi (M := mX7_step) (idx := 175) (d' := 4) (b := 53) (ci := 5) (As := [.int (gAt (I 23) 400 v3), .int (gAt (I 24) 400 v3)]) (rest := []) mkX7_step miX7_step mvX7_step (by decide +kernel) (by decide +kernel) rfl (by decide +kernel) rfl ⟨by omega, by decide, Nat.le_of_ble_eq_true rfl⟩ rfl (c_X7_step_53 _ I G (gAt (I 23) 400 v3) (gAt (I 24) 400 v3) hc) ?_
        rintro r9 I9 G9 P9 ⟨e0, e1, e2, e3⟩
        rw [e0, e1, e2, e3]
        show am_V X 0 0 _ _ ad (46, [(0, .ref 53), (1, .int v1), (2, .int v2), (3, .int v3)], [], I101, G101, (gP rd))
        refine am_blk 46 [(.iinc 3 (1), 3, 3, 0, .int (1 : Int32)), (.goto (-40), 3, 0, 9, .null)] (9, [(0, .ref 53), (1, .int v1), (2, .int v2), (3, .int (v3 + (1 : Int32)))], [], I101, G101, (gP rd)) (True) hX hi (by decide +kernel) rfl trivial ?_
        exact ih _ _ _ _ _ _ h
set_option maxRecDepth 20000 in
set_option maxHeartbeats 4000000 in
theorem c_X7_reckon_53 (rd : Nat) (I : am_I) (G : am_G) (x1 : Int32) (x2 : Int32) {out : Int32 × am_I × am_G} (h : R_X7_reckon_53 I G x1 x2 = some out) : am_Ct mX7_reckon 5 gS [.ref 53, .int x1, .int x2] I G (gP rd) (pI out.1 out.2.1 out.2.2 (gP rd)) := by
  refine am_ofF (by decide +kernel) rfl (by decide) (by omega) (Nat.le_of_ble_eq_true rfl) (fun X ad hX hi => ?_)
  have hi : am_info X 5 cX7_reckon 4 false (Option.some Jvm.ClassFile.FieldType.int) 5 := hi
  show am_V X 0 0 _ _ ad (0, [(0, .ref 53), (1, .int x1), (2, .int x2)], [], I, G, (gP rd))
  unfold R_X7_reckon_53 at h
  refine am_blk 0 [(.aload_n 0, 1, 0, 0, .null), (.getfield 40, 3, 5, 9, .null)] (4, [(0, .ref 53), (1, .int x1), (2, .int x2)], [.ref 64], I, G, (gP rd)) (True) hX hi (by decide +kernel) rfl trivial ?_
  refine am_callV hX hi (M := mX8_clear) (idx := 166) (d' := 1) (b := 64) (ci := 6) (As := []) (rest := []) mkX8_clear miX8_clear mvX8_clear (by decide +kernel) (by decide +kernel) rfl (by decide +kernel) rfl ⟨by omega, by decide, Nat.le_of_ble_eq_true rfl⟩ rfl (c_X8_clear_64 _ I G ) ?_
  rintro r9 I9 G9 P9 ⟨e0, e1, e2, e3⟩
  rw [e0, e1, e2, e3]
  show am_V X 0 0 _ _ ad (7, [(0, .ref 53), (1, .int x1), (2, .int x2)], [], (g_X8_clear_64 I G ), G, (gP rd))
  refine am_blk 7 [(.iload_n 1, 1, 1, 0, .null), (.istore_n 3, 1, 3, 0, .null)] (9, [(0, .ref 53), (1, .int x1), (2, .int x2), (3, .int x1)], [], (g_X8_clear_64 I G ), G, (gP rd)) (True) hX hi (by decide +kernel) rfl trivial ?_
  exact (l_X7_reckon_53 rd hX hi FU) _ _ _ _ _ _ h
noncomputable def L_X7_reckon_66 (n0 : Nat) (hd : Nat) (I : am_I) (G : am_G) (v1 : Int32) (v2 : Int32) (v3 : Int32) : Option (Int32 × am_I × am_G) := match n0 with
  | 0 => none
  | n + 1 => match hd with
    | _ => (if v2 ≤ v3 then some ((f_X8_pop_77 I G ), (g_X8_pop_77 I G ), G) else rb (R_X7_step_66 I G (gAt (I 23) 400 v3) (gAt (I 24) 400 v3)) (fun r101 I101 G101 => L_X7_reckon_66 n 0 I101 G101 v1 v2 (v3 + (1 : Int32))))
theorem L_X7_reckon_66_0 (n : Nat) (I : am_I) (G : am_G) (v1 : Int32) (v2 : Int32) (v3 : Int32) : L_X7_reckon_66 (n + 1) 0 I G v1 v2 v3 = (if v2 ≤ v3 then some ((f_X8_pop_77 I G ), (g_X8_pop_77 I G ), G) else rb (R_X7_step_66 I G (gAt (I 23) 400 v3) (gAt (I 24) 400 v3)) (fun r101 I101 G101 => L_X7_reckon_66 n 0 I101 G101 v1 v2 (v3 + (1 : Int32)))) := rfl
theorem L_X7_reckon_66_z (h : Nat) (I : am_I) (G : am_G) (v1 : Int32) (v2 : Int32) (v3 : Int32) : L_X7_reckon_66 0 h I G v1 v2 v3 = none := rfl
noncomputable def R_X7_reckon_66 (I : am_I) (G : am_G) (x1 : Int32) (x2 : Int32) : Option (Int32 × am_I × am_G) := L_X7_reckon_66 FU 0 (g_X8_clear_77 I G ) G x1 x2 x1
set_option maxRecDepth 20000 in
set_option maxHeartbeats 4000000 in
theorem l_X7_reckon_66 (rd : Nat) {X : am_X} {ad : Nat → Nat} (hX : am_okz X ad) (hi : am_info X 5 cX7_reckon 4 false (Option.some Jvm.ClassFile.FieldType.int) 5) (n : Nat) : (∀ (I : am_I) (G : am_G) (v1 : Int32) (v2 : Int32) (v3 : Int32) (out : Int32 × am_I × am_G), L_X7_reckon_66 n 0 I G v1 v2 v3 = some out → am_V X 0 0 (am_Rt X gS ad (pI out.1 out.2.1 out.2.2 (gP rd))) gS ad (9, [(0, .ref 66), (1, .int v1), (2, .int v2), (3, .int v3)], [], I, G, (gP rd))) := by
  induction n with
  | zero => exact fun I G v1 v2 v3 out h => by rw [L_X7_reckon_66_z] at h; cases h
  | succ n ih =>
    · intro I G v1 v2 v3 out h
      rw [L_X7_reckon_66_0] at h
      refine am_blk 9 [(.iload_n 3, 1, 3, 0, .null), (.iload_n 2, 1, 2, 0, .null)] (11, [(0, .ref 66), (1, .int v1), (2, .int v2), (3, .int v3)], [.int v2, .int v3], I, G, (gP rd)) (True) hX hi (by decide +kernel) rfl trivial ?_
      refine am_icmp_ge (tgt := 52) hX hi (off := (41)) (by decide +kernel) (by decide) (fun c11 => ?_) (fun c11 => ?_)
      · rw [if_pos c11] at h
        refine am_blk 52 [(.aload_n 0, 1, 0, 0, .null), (.getfield 40, 3, 5, 9, .null)] (56, [(0, .ref 66), (1, .int v1), (2, .int v2), (3, .int v3)], [.ref 77], I, G, (gP rd)) (True) hX hi (by decide +kernel) rfl trivial ?_
        refine am_callV hX hi (M := mX8_pop) (idx := 179) (d' := 1) (b := 77) (ci := 6) (As := []) (rest := []) mkX8_pop miX8_pop mvX8_pop (by decide +kernel) (by decide +kernel) rfl (by decide +kernel) rfl ⟨by omega, by decide, Nat.le_of_ble_eq_true rfl⟩ rfl (c_X8_pop_77 _ I G ) ?_
        rintro r9 I9 G9 P9 ⟨e0, e1, e2, e3⟩
        rw [e0, e1, e2, e3]
        show am_V X 0 0 _ _ ad (59, [(0, .ref 66), (1, .int v1), (2, .int v2), (3, .int v3)], [.int (f_X8_pop_77 I G )], (g_X8_pop_77 I G ), G, (gP rd))
        cases h
        refine am_iret hX hi rfl rfl (by decide +kernel) ?_
        exact ⟨rfl, rfl, rfl, rfl⟩
      · rw [if_neg c11] at h
        refine am_blk 14 [(.aload_n 0, 1, 0, 0, .null), (.aload_n 0, 1, 0, 0, .null), (.getfield 44, 3, 5, 0, .null), (.getfield 114, 3, 3, 8, .null), (.getfield 169, 3, 1, 6, .null), (.iload_n 3, 1, 3, 0, .null)] (26, [(0, .ref 66), (1, .int v1), (2, .int v2), (3, .int v3)], [.int v3, .ref 23, .ref 66], I, G, (gP rd)) (True) hX hi (by decide +kernel) rfl trivial ?_
        refine am_callS hX hi (M := mX0_at) (idx := 85) (d' := 1) (As := [.ref 23, .int v3]) (rest := [.ref 66]) mkX0_at msX0_at (by decide +kernel) (by decide +kernel) rfl ⟨by omega, by decide, Nat.le_of_ble_eq_true rfl⟩ rfl (c_at rfl (by decide) v3) ?_
        rintro r9 I9 G9 P9 ⟨e0, e1, e2, e3⟩
        rw [e0, e1, e2, e3]
        show am_V X 0 0 _ _ ad (29, [(0, .ref 66), (1, .int v1), (2, .int v2), (3, .int v3)], [.int (gAt (I 23) 400 v3), .ref 66], I, G, (gP rd))
        refine am_blk 29 [(.aload_n 0, 1, 0, 0, .null), (.getfield 44, 3, 5, 0, .null), (.getfield 114, 3, 3, 8, .null), (.getfield 172, 3, 1, 7, .null), (.iload_n 3, 1, 3, 0, .null)] (40, [(0, .ref 66), (1, .int v1), (2, .int v2), (3, .int v3)], [.int v3, .ref 24, .int (gAt (I 23) 400 v3), .ref 66], I, G, (gP rd)) (True) hX hi (by decide +kernel) rfl trivial ?_
        refine am_callS hX hi (M := mX0_at) (idx := 85) (d' := 1) (As := [.ref 24, .int v3]) (rest := [.int (gAt (I 23) 400 v3), .ref 66]) mkX0_at msX0_at (by decide +kernel) (by decide +kernel) rfl ⟨by omega, by decide, Nat.le_of_ble_eq_true rfl⟩ rfl (c_at rfl (by decide) v3) ?_
        rintro r9 I9 G9 P9 ⟨e0, e1, e2, e3⟩
        rw [e0, e1, e2, e3]
        show am_V X 0 0 _ _ ad (43, [(0, .ref 66), (1, .int v1), (2, .int v2), (3, .int v3)], [.int (gAt (I 24) 400 v3), .int (gAt (I 23) 400 v3), .ref 66], I, G, (gP rd))
        obtain ⟨r101, I101, G101, hc, h⟩ := rb_some h
        refine am_callV hX hi (M := mX7_step) (idx := 175) (d' := 4) (b := 66) (ci := 5) (As := [.int (gAt (I 23) 400 v3), .int (gAt (I 24) 400 v3)]) (rest := []) mkX7_step miX7_step mvX7_step (by decide +kernel) (by decide +kernel) rfl (by decide +kernel) rfl ⟨by omega, by decide, Nat.le_of_ble_eq_true rfl⟩ rfl (c_X7_step_66 _ I G (gAt (I 23) 400 v3) (gAt (I 24) 400 v3) hc) ?_
        rintro r9 I9 G9 P9 ⟨e0, e1, e2, e3⟩
        rw [e0, e1, e2, e3]
        show am_V X 0 0 _ _ ad (46, [(0, .ref 66), (1, .int v1), (2, .int v2), (3, .int v3)], [], I101, G101, (gP rd))
        refine am_blk 46 [(.iinc 3 (1), 3, 3, 0, .int (1 : Int32)), (.goto (-40), 3, 0, 9, .null)] (9, [(0, .ref 66), (1, .int v1), (2, .int v2), (3, .int (v3 + (1 : Int32)))], [], I101, G101, (gP rd)) (True) hX hi (by decide +kernel) rfl trivial ?_
        exact ih _ _ _ _ _ _ h
set_option maxRecDepth 20000 in
set_option maxHeartbeats 4000000 in
theorem c_X7_reckon_66 (rd : Nat) (I : am_I) (G : am_G) (x1 : Int32) (x2 : Int32) {out : Int32 × am_I × am_G} (h : R_X7_reckon_66 I G x1 x2 = some out) : am_Ct mX7_reckon 5 gS [.ref 66, .int x1, .int x2] I G (gP rd) (pI out.1 out.2.1 out.2.2 (gP rd)) := by
  refine am_ofF (by decide +kernel) rfl (by decide) (by omega) (Nat.le_of_ble_eq_true rfl) (fun X ad hX hi => ?_)
  have hi : am_info X 5 cX7_reckon 4 false (Option.some Jvm.ClassFile.FieldType.int) 5 := hi
  show am_V X 0 0 _ _ ad (0, [(0, .ref 66), (1, .int x1), (2, .int x2)], [], I, G, (gP rd))
  unfold R_X7_reckon_66 at h
  refine am_blk 0 [(.aload_n 0, 1, 0, 0, .null), (.getfield 40, 3, 5, 9, .null)] (4, [(0, .ref 66), (1, .int x1), (2, .int x2)], [.ref 77], I, G, (gP rd)) (True) hX hi (by decide +kernel) rfl trivial ?_
  refine am_callV hX hi (M := mX8_clear) (idx := 166) (d' := 1) (b := 77) (ci := 6) (As := []) (rest := []) mkX8_clear miX8_clear mvX8_clear (by decide +kernel) (by decide +kernel) rfl (by decide +kernel) rfl ⟨by omega, by decide, Nat.le_of_ble_eq_true rfl⟩ rfl (c_X8_clear_77 _ I G ) ?_
  rintro r9 I9 G9 P9 ⟨e0, e1, e2, e3⟩
  rw [e0, e1, e2, e3]
  show am_V X 0 0 _ _ ad (7, [(0, .ref 66), (1, .int x1), (2, .int x2)], [], (g_X8_clear_77 I G ), G, (gP rd))
  refine am_blk 7 [(.iload_n 1, 1, 1, 0, .null), (.istore_n 3, 1, 3, 0, .null)] (9, [(0, .ref 66), (1, .int x1), (2, .int x2), (3, .int x1)], [], (g_X8_clear_77 I G ), G, (gP rd)) (True) hX hi (by decide +kernel) rfl trivial ?_
  exact (l_X7_reckon_66 rd hX hi FU) _ _ _ _ _ _ h
noncomputable def R_X13_order_102 (I : am_I) (G : am_G) (x1 : Int32) : Option (Int32 × am_I × am_G) := rg (vp_in x1 21) (rg (vp_in x1 21) (rb (R_X13_carryOut_102 I G (I 97 x1.toNatClampNeg) (I 98 x1.toNatClampNeg)) (fun r1 I1 G1 => rg (vp_in x1 20) ((if (I1 95 x1.toNatClampNeg) = (12 : Int32) then rg (vp_in x1 20) ((if (I1 96 x1.toNatClampNeg) = (1 : Int32) then rg (q_X13_letDrift_102 I1 G1 (1 : Int32) r1) (rg ((f_X13_letDrift_102 I1 G1 (1 : Int32) r1) = 0 ∨ (f_X13_letDrift_102 I1 G1 (1 : Int32) r1) = 1) (some ((f_X13_letDrift_102 I1 G1 (1 : Int32) r1), (g_X13_letDrift_102 I1 G1 (1 : Int32) r1), G1))) else rg (q_X13_letDrift_102 I1 G1 (0 : Int32) r1) (rg ((f_X13_letDrift_102 I1 G1 (0 : Int32) r1) = 0 ∨ (f_X13_letDrift_102 I1 G1 (0 : Int32) r1) = 1) (some ((f_X13_letDrift_102 I1 G1 (0 : Int32) r1), (g_X13_letDrift_102 I1 G1 (0 : Int32) r1), G1))))) else rg (vp_in x1 20) ((if (I1 95 x1.toNatClampNeg) = (9 : Int32) then rg (vp_in x1 20) (rg (q_X13_letPull_102 I1 G1 (I1 96 x1.toNatClampNeg) (if (0 : Int32) < (if r1 < (16 : Int32) then r1 else (16 : Int32)) then (if r1 < (16 : Int32) then r1 else (16 : Int32)) else (0 : Int32))) (rg ((f_X13_letPull_102 I1 G1 (I1 96 x1.toNatClampNeg) (if (0 : Int32) < (if r1 < (16 : Int32) then r1 else (16 : Int32)) then (if r1 < (16 : Int32) then r1 else (16 : Int32)) else (0 : Int32))) = 0 ∨ (f_X13_letPull_102 I1 G1 (I1 96 x1.toNatClampNeg) (if (0 : Int32) < (if r1 < (16 : Int32) then r1 else (16 : Int32)) then (if r1 < (16 : Int32) then r1 else (16 : Int32)) else (0 : Int32))) = 1) (some ((f_X13_letPull_102 I1 G1 (I1 96 x1.toNatClampNeg) (if (0 : Int32) < (if r1 < (16 : Int32) then r1 else (16 : Int32)) then (if r1 < (16 : Int32) then r1 else (16 : Int32)) else (0 : Int32))), (g_X13_letPull_102 I1 G1 (I1 96 x1.toNatClampNeg) (if (0 : Int32) < (if r1 < (16 : Int32) then r1 else (16 : Int32)) then (if r1 < (16 : Int32) then r1 else (16 : Int32)) else (0 : Int32))), G1)))) else rg (vp_in x1 20) (rg (q_X13_letSeed_102 I1 G1 (I1 96 x1.toNatClampNeg) (if (0 : Int32) < (if r1 < (999 : Int32) then r1 else (999 : Int32)) then (if r1 < (999 : Int32) then r1 else (999 : Int32)) else (0 : Int32))) (rg ((f_X13_letSeed_102 I1 G1 (I1 96 x1.toNatClampNeg) (if (0 : Int32) < (if r1 < (999 : Int32) then r1 else (999 : Int32)) then (if r1 < (999 : Int32) then r1 else (999 : Int32)) else (0 : Int32))) = 0 ∨ (f_X13_letSeed_102 I1 G1 (I1 96 x1.toNatClampNeg) (if (0 : Int32) < (if r1 < (999 : Int32) then r1 else (999 : Int32)) then (if r1 < (999 : Int32) then r1 else (999 : Int32)) else (0 : Int32))) = 1) (some ((f_X13_letSeed_102 I1 G1 (I1 96 x1.toNatClampNeg) (if (0 : Int32) < (if r1 < (999 : Int32) then r1 else (999 : Int32)) then (if r1 < (999 : Int32) then r1 else (999 : Int32)) else (0 : Int32))), (g_X13_letSeed_102 I1 G1 (I1 96 x1.toNatClampNeg) (if (0 : Int32) < (if r1 < (999 : Int32) then r1 else (999 : Int32)) then (if r1 < (999 : Int32) then r1 else (999 : Int32)) else (0 : Int32))), G1)))))))))))
set_option maxRecDepth 20000 in
set_option maxHeartbeats 4000000 in
theorem c_X13_order_102 (rd : Nat) (I : am_I) (G : am_G) (x1 : Int32) {out : Int32 × am_I × am_G} (h : R_X13_order_102 I G x1 = some out) : am_Ct mX13_order 13 gS [.ref 102, .int x1] I G (gP rd) (pI out.1 out.2.1 out.2.2 (gP rd)) := by
  refine am_ofF (by decide +kernel) rfl (by decide) (by omega) (Nat.le_of_ble_eq_true rfl) (fun X ad hX hi => ?_)
  have hi : am_info X 11 cX13_order 3 false (Option.some Jvm.ClassFile.FieldType.boolean) 13 := hi
  show am_V X 0 0 _ _ ad (0, [(0, .ref 102), (1, .int x1)], [], I, G, (gP rd))
  unfold R_X13_order_102 at h
  obtain ⟨g0, h⟩ := rg_some h
  obtain ⟨g1, h⟩ := rg_some h
  refine am_blk 0 [(.aload_n 0, 1, 0, 0, .null), (.aload_n 0, 1, 0, 0, .null), (.getfield 3, 3, 11, 14, .null), (.getfield 67, 3, 12, 11, .null), (.getfield 186, 3, 10, 17, .null), (.iload_n 1, 1, 1, 0, .null), (.iaload, 1, 0, 0, .null), (.aload_n 0, 1, 0, 0, .null), (.getfield 3, 3, 11, 14, .null), (.getfield 67, 3, 12, 11, .null), (.getfield 189, 3, 10, 18, .null), (.iload_n 1, 1, 1, 0, .null), (.iaload, 1, 0, 0, .null)] (25, [(0, .ref 102), (1, .int x1)], [.int (I 98 x1.toNatClampNeg), .int (I 97 x1.toNatClampNeg), .ref 102], I, G, (gP rd)) (vp_in x1 21 ∧ vp_in x1 21 ∧ True) hX hi (by decide +kernel) rfl ⟨g0, g1, trivial⟩ ?_
  obtain ⟨r1, I1, G1, hc, h⟩ := rb_some h
  refine am_callV hX hi (M := mX13_carryOut) (idx := 192) (d' := 12) (b := 102) (ci := 11) (As := [.int (I 97 x1.toNatClampNeg), .int (I 98 x1.toNatClampNeg)]) (rest := []) mkX13_carryOut miX13_carryOut mvX13_carryOut (by decide +kernel) (by decide +kernel) rfl (by decide +kernel) rfl ⟨by omega, by decide, Nat.le_of_ble_eq_true rfl⟩ rfl (c_X13_carryOut_102 _ I G (I 97 x1.toNatClampNeg) (I 98 x1.toNatClampNeg) hc) ?_
  rintro r9 I9 G9 P9 ⟨e0, e1, e2, e3⟩
  rw [e0, e1, e2, e3]
  show am_V X 0 0 _ _ ad (28, [(0, .ref 102), (1, .int x1)], [.int r1], I1, G1, (gP rd))
  obtain ⟨g0, h⟩ := rg_some h
  refine am_blk 28 [(.istore_n 2, 1, 2, 0, .null), (.aload_n 0, 1, 0, 0, .null), (.getfield 3, 3, 11, 14, .null), (.getfield 67, 3, 12, 11, .null), (.getfield 195, 3, 10, 15, .null), (.iload_n 1, 1, 1, 0, .null), (.iaload, 1, 0, 0, .null), (.bipush (12), 2, 0, 0, .int (12 : Int32))] (43, [(0, .ref 102), (1, .int x1), (2, .int r1)], [.int (12 : Int32), .int (I1 95 x1.toNatClampNeg)], I1, G1, (gP rd)) (vp_in x1 20 ∧ True) hX hi (by decide +kernel) rfl ⟨g0, trivial⟩ ?_
  refine am_icmp_ne (tgt := 73) hX hi (off := (30)) (by decide +kernel) (by decide) (fun c43 => ?_) (fun c43 => ?_)
  · rw [if_neg c43] at h
    obtain ⟨g0, h⟩ := rg_some h
    refine am_blk 73 [(.aload_n 0, 1, 0, 0, .null), (.getfield 3, 3, 11, 14, .null), (.getfield 67, 3, 12, 11, .null), (.getfield 195, 3, 10, 15, .null), (.iload_n 1, 1, 1, 0, .null), (.iaload, 1, 0, 0, .null), (.bipush (9), 2, 0, 0, .int (9 : Int32))] (87, [(0, .ref 102), (1, .int x1), (2, .int r1)], [.int (9 : Int32), .int (I1 95 x1.toNatClampNeg)], I1, G1, (gP rd)) (vp_in x1 20 ∧ True) hX hi (by decide +kernel) rfl ⟨g0, trivial⟩ ?_
    refine am_icmp_ne (tgt := 117) hX hi (off := (30)) (by decide +kernel) (by decide) (fun c87 => ?_) (fun c87 => ?_)
    · rw [if_neg c87] at h
      obtain ⟨g0, h⟩ := rg_some h
      refine am_blk 117 [(.aload_n 0, 1, 0, 0, .null), (.aload_n 0, 1, 0, 0, .null), (.getfield 3, 3, 11, 14, .null), (.getfield 67, 3, 12, 11, .null), (.getfield 198, 3, 10, 16, .null), (.iload_n 1, 1, 1, 0, .null), (.iaload, 1, 0, 0, .null), (.iconst (0), 1, 0, 0, .int (0 : Int32)), (.sipush (999), 3, 0, 0, .int (999 : Int32)), (.iload_n 2, 1, 2, 0, .null), (.invokestatic 130, 3, 1, 0, .null), (.invokestatic 153, 3, 2, 0, .null)] (141, [(0, .ref 102), (1, .int x1), (2, .int r1)], [.int (if (0 : Int32) < (if r1 < (999 : Int32) then r1 else (999 : Int32)) then (if r1 < (999 : Int32) then r1 else (999 : Int32)) else (0 : Int32)), .int (I1 96 x1.toNatClampNeg), .ref 102], I1, G1, (gP rd)) (vp_in x1 20 ∧ True) hX hi (by decide +kernel) rfl ⟨g0, trivial⟩ ?_
      obtain ⟨hq1, h⟩ := rg_some h
      refine am_callV hX hi (M := mX13_letSeed) (idx := 209) (d' := 1) (b := 102) (ci := 11) (As := [.int (I1 96 x1.toNatClampNeg), .int (if (0 : Int32) < (if r1 < (999 : Int32) then r1 else (999 : Int32)) then (if r1 < (999 : Int32) then r1 else (999 : Int32)) else (0 : Int32))]) (rest := []) mkX13_letSeed miX13_letSeed mvX13_letSeed (by decide +kernel) (by decide +kernel) rfl (by decide +kernel) rfl ⟨by omega, by decide, Nat.le_of_ble_eq_true rfl⟩ rfl (c_X13_letSeed_102 _ I1 G1 (I1 96 x1.toNatClampNeg) (if (0 : Int32) < (if r1 < (999 : Int32) then r1 else (999 : Int32)) then (if r1 < (999 : Int32) then r1 else (999 : Int32)) else (0 : Int32)) hq1) ?_
      rintro r9 I9 G9 P9 ⟨e0, e1, e2, e3⟩
      rw [e0, e1, e2, e3]
      show am_V X 0 0 _ _ ad (144, [(0, .ref 102), (1, .int x1), (2, .int r1)], [.int (f_X13_letSeed_102 I1 G1 (I1 96 x1.toNatClampNeg) (if (0 : Int32) < (if r1 < (999 : Int32) then r1 else (999 : Int32)) then (if r1 < (999 : Int32) then r1 else (999 : Int32)) else (0 : Int32)))], (g_X13_letSeed_102 I1 G1 (I1 96 x1.toNatClampNeg) (if (0 : Int32) < (if r1 < (999 : Int32) then r1 else (999 : Int32)) then (if r1 < (999 : Int32) then r1 else (999 : Int32)) else (0 : Int32))), G1, (gP rd))
      obtain ⟨gb, h⟩ := rg_some h
      cases h
      refine am_iret hX hi rfl (by rcases gb with gb | gb <;> rw [gb] <;> rfl) (by decide +kernel) ?_
      exact ⟨rfl, rfl, rfl, rfl⟩
    · rw [if_pos c87] at h
      obtain ⟨g0, h⟩ := rg_some h
      refine am_blk 90 [(.aload_n 0, 1, 0, 0, .null), (.aload_n 0, 1, 0, 0, .null), (.getfield 3, 3, 11, 14, .null), (.getfield 67, 3, 12, 11, .null), (.getfield 198, 3, 10, 16, .null), (.iload_n 1, 1, 1, 0, .null), (.iaload, 1, 0, 0, .null), (.iconst (0), 1, 0, 0, .int (0 : Int32)), (.bipush (16), 2, 0, 0, .int (16 : Int32)), (.iload_n 2, 1, 2, 0, .null), (.invokestatic 130, 3, 1, 0, .null), (.invokestatic 153, 3, 2, 0, .null)] (113, [(0, .ref 102), (1, .int x1), (2, .int r1)], [.int (if (0 : Int32) < (if r1 < (16 : Int32) then r1 else (16 : Int32)) then (if r1 < (16 : Int32) then r1 else (16 : Int32)) else (0 : Int32)), .int (I1 96 x1.toNatClampNeg), .ref 102], I1, G1, (gP rd)) (vp_in x1 20 ∧ True) hX hi (by decide +kernel) rfl ⟨g0, trivial⟩ ?_
      obtain ⟨hq1, h⟩ := rg_some h
      refine am_callV hX hi (M := mX13_letPull) (idx := 205) (d' := 1) (b := 102) (ci := 11) (As := [.int (I1 96 x1.toNatClampNeg), .int (if (0 : Int32) < (if r1 < (16 : Int32) then r1 else (16 : Int32)) then (if r1 < (16 : Int32) then r1 else (16 : Int32)) else (0 : Int32))]) (rest := []) mkX13_letPull miX13_letPull mvX13_letPull (by decide +kernel) (by decide +kernel) rfl (by decide +kernel) rfl ⟨by omega, by decide, Nat.le_of_ble_eq_true rfl⟩ rfl (c_X13_letPull_102 _ I1 G1 (I1 96 x1.toNatClampNeg) (if (0 : Int32) < (if r1 < (16 : Int32) then r1 else (16 : Int32)) then (if r1 < (16 : Int32) then r1 else (16 : Int32)) else (0 : Int32)) hq1) ?_
      rintro r9 I9 G9 P9 ⟨e0, e1, e2, e3⟩
      rw [e0, e1, e2, e3]
      show am_V X 0 0 _ _ ad (116, [(0, .ref 102), (1, .int x1), (2, .int r1)], [.int (f_X13_letPull_102 I1 G1 (I1 96 x1.toNatClampNeg) (if (0 : Int32) < (if r1 < (16 : Int32) then r1 else (16 : Int32)) then (if r1 < (16 : Int32) then r1 else (16 : Int32)) else (0 : Int32)))], (g_X13_letPull_102 I1 G1 (I1 96 x1.toNatClampNeg) (if (0 : Int32) < (if r1 < (16 : Int32) then r1 else (16 : Int32)) then (if r1 < (16 : Int32) then r1 else (16 : Int32)) else (0 : Int32))), G1, (gP rd))
      obtain ⟨gb, h⟩ := rg_some h
      cases h
      refine am_iret hX hi rfl (by rcases gb with gb | gb <;> rw [gb] <;> rfl) (by decide +kernel) ?_
      exact ⟨rfl, rfl, rfl, rfl⟩
  · rw [if_pos c43] at h
    obtain ⟨g0, h⟩ := rg_some h
    refine am_blk 46 [(.aload_n 0, 1, 0, 0, .null), (.aload_n 0, 1, 0, 0, .null), (.getfield 3, 3, 11, 14, .null), (.getfield 67, 3, 12, 11, .null), (.getfield 198, 3, 10, 16, .null), (.iload_n 1, 1, 1, 0, .null), (.iaload, 1, 0, 0, .null), (.iconst (1), 1, 0, 0, .int (1 : Int32))] (60, [(0, .ref 102), (1, .int x1), (2, .int r1)], [.int (1 : Int32), .int (I1 96 x1.toNatClampNeg), .ref 102], I1, G1, (gP rd)) (vp_in x1 20 ∧ True) hX hi (by decide +kernel) rfl ⟨g0, trivial⟩ ?_
    refine am_icmp_ne (tgt := 67) hX hi (off := (7)) (by decide +kernel) (by decide) (fun c60 => ?_) (fun c60 => ?_)
    · rw [if_neg c60] at h
      refine am_blk 67 [(.iconst (0), 1, 0, 0, .int (0 : Int32)), (.iload_n 2, 1, 2, 0, .null)] (69, [(0, .ref 102), (1, .int x1), (2, .int r1)], [.int r1, .int (0 : Int32), .ref 102], I1, G1, (gP rd)) (True) hX hi (by decide +kernel) rfl trivial ?_
      obtain ⟨hq1, h⟩ := rg_some h
      refine am_callV hX hi (M := mX13_letDrift) (idx := 201) (d' := 2) (b := 102) (ci := 11) (As := [.int (0 : Int32), .int r1]) (rest := []) mkX13_letDrift miX13_letDrift mvX13_letDrift (by decide +kernel) (by decide +kernel) rfl (by decide +kernel) rfl ⟨by omega, by decide, Nat.le_of_ble_eq_true rfl⟩ rfl (c_X13_letDrift_102 _ I1 G1 (0 : Int32) r1 hq1) ?_
      rintro r9 I9 G9 P9 ⟨e0, e1, e2, e3⟩
      rw [e0, e1, e2, e3]
      show am_V X 0 0 _ _ ad (72, [(0, .ref 102), (1, .int x1), (2, .int r1)], [.int (f_X13_letDrift_102 I1 G1 (0 : Int32) r1)], (g_X13_letDrift_102 I1 G1 (0 : Int32) r1), G1, (gP rd))
      obtain ⟨gb, h⟩ := rg_some h
      cases h
      refine am_iret hX hi rfl (by rcases gb with gb | gb <;> rw [gb] <;> rfl) (by decide +kernel) ?_
      exact ⟨rfl, rfl, rfl, rfl⟩
    · rw [if_pos c60] at h
      refine am_blk 63 [(.iconst (1), 1, 0, 0, .int (1 : Int32)), (.goto (4), 3, 0, 68, .null), (.iload_n 2, 1, 2, 0, .null)] (69, [(0, .ref 102), (1, .int x1), (2, .int r1)], [.int r1, .int (1 : Int32), .ref 102], I1, G1, (gP rd)) (True) hX hi (by decide +kernel) rfl trivial ?_
      obtain ⟨hq1, h⟩ := rg_some h
      refine am_callV hX hi (M := mX13_letDrift) (idx := 201) (d' := 2) (b := 102) (ci := 11) (As := [.int (1 : Int32), .int r1]) (rest := []) mkX13_letDrift miX13_letDrift mvX13_letDrift (by decide +kernel) (by decide +kernel) rfl (by decide +kernel) rfl ⟨by omega, by decide, Nat.le_of_ble_eq_true rfl⟩ rfl (c_X13_letDrift_102 _ I1 G1 (1 : Int32) r1 hq1) ?_
      rintro r9 I9 G9 P9 ⟨e0, e1, e2, e3⟩
      rw [e0, e1, e2, e3]
      show am_V X 0 0 _ _ ad (72, [(0, .ref 102), (1, .int x1), (2, .int r1)], [.int (f_X13_letDrift_102 I1 G1 (1 : Int32) r1)], (g_X13_letDrift_102 I1 G1 (1 : Int32) r1), G1, (gP rd))
      obtain ⟨gb, h⟩ := rg_some h
      cases h
      refine am_iret hX hi rfl (by rcases gb with gb | gb <;> rw [gb] <;> rfl) (by decide +kernel) ?_
      exact ⟨rfl, rfl, rfl, rfl⟩
noncomputable def R_X13_order_112 (I : am_I) (G : am_G) (x1 : Int32) : Option (Int32 × am_I × am_G) := rg (vp_in x1 21) (rg (vp_in x1 21) (rb (R_X13_carryOut_112 I G (I 97 x1.toNatClampNeg) (I 98 x1.toNatClampNeg)) (fun r1 I1 G1 => rg (vp_in x1 20) ((if (I1 95 x1.toNatClampNeg) = (12 : Int32) then rg (vp_in x1 20) ((if (I1 96 x1.toNatClampNeg) = (1 : Int32) then rg (q_X13_letDrift_112 I1 G1 (1 : Int32) r1) (rg ((f_X13_letDrift_112 I1 G1 (1 : Int32) r1) = 0 ∨ (f_X13_letDrift_112 I1 G1 (1 : Int32) r1) = 1) (some ((f_X13_letDrift_112 I1 G1 (1 : Int32) r1), (g_X13_letDrift_112 I1 G1 (1 : Int32) r1), G1))) else rg (q_X13_letDrift_112 I1 G1 (0 : Int32) r1) (rg ((f_X13_letDrift_112 I1 G1 (0 : Int32) r1) = 0 ∨ (f_X13_letDrift_112 I1 G1 (0 : Int32) r1) = 1) (some ((f_X13_letDrift_112 I1 G1 (0 : Int32) r1), (g_X13_letDrift_112 I1 G1 (0 : Int32) r1), G1))))) else rg (vp_in x1 20) ((if (I1 95 x1.toNatClampNeg) = (9 : Int32) then rg (vp_in x1 20) (rg (q_X13_letPull_112 I1 G1 (I1 96 x1.toNatClampNeg) (if (0 : Int32) < (if r1 < (16 : Int32) then r1 else (16 : Int32)) then (if r1 < (16 : Int32) then r1 else (16 : Int32)) else (0 : Int32))) (rg ((f_X13_letPull_112 I1 G1 (I1 96 x1.toNatClampNeg) (if (0 : Int32) < (if r1 < (16 : Int32) then r1 else (16 : Int32)) then (if r1 < (16 : Int32) then r1 else (16 : Int32)) else (0 : Int32))) = 0 ∨ (f_X13_letPull_112 I1 G1 (I1 96 x1.toNatClampNeg) (if (0 : Int32) < (if r1 < (16 : Int32) then r1 else (16 : Int32)) then (if r1 < (16 : Int32) then r1 else (16 : Int32)) else (0 : Int32))) = 1) (some ((f_X13_letPull_112 I1 G1 (I1 96 x1.toNatClampNeg) (if (0 : Int32) < (if r1 < (16 : Int32) then r1 else (16 : Int32)) then (if r1 < (16 : Int32) then r1 else (16 : Int32)) else (0 : Int32))), (g_X13_letPull_112 I1 G1 (I1 96 x1.toNatClampNeg) (if (0 : Int32) < (if r1 < (16 : Int32) then r1 else (16 : Int32)) then (if r1 < (16 : Int32) then r1 else (16 : Int32)) else (0 : Int32))), G1)))) else rg (vp_in x1 20) (rg (q_X13_letSeed_112 I1 G1 (I1 96 x1.toNatClampNeg) (if (0 : Int32) < (if r1 < (999 : Int32) then r1 else (999 : Int32)) then (if r1 < (999 : Int32) then r1 else (999 : Int32)) else (0 : Int32))) (rg ((f_X13_letSeed_112 I1 G1 (I1 96 x1.toNatClampNeg) (if (0 : Int32) < (if r1 < (999 : Int32) then r1 else (999 : Int32)) then (if r1 < (999 : Int32) then r1 else (999 : Int32)) else (0 : Int32))) = 0 ∨ (f_X13_letSeed_112 I1 G1 (I1 96 x1.toNatClampNeg) (if (0 : Int32) < (if r1 < (999 : Int32) then r1 else (999 : Int32)) then (if r1 < (999 : Int32) then r1 else (999 : Int32)) else (0 : Int32))) = 1) (some ((f_X13_letSeed_112 I1 G1 (I1 96 x1.toNatClampNeg) (if (0 : Int32) < (if r1 < (999 : Int32) then r1 else (999 : Int32)) then (if r1 < (999 : Int32) then r1 else (999 : Int32)) else (0 : Int32))), (g_X13_letSeed_112 I1 G1 (I1 96 x1.toNatClampNeg) (if (0 : Int32) < (if r1 < (999 : Int32) then r1 else (999 : Int32)) then (if r1 < (999 : Int32) then r1 else (999 : Int32)) else (0 : Int32))), G1)))))))))))
set_option maxRecDepth 20000 in
set_option maxHeartbeats 4000000 in
theorem c_X13_order_112 (rd : Nat) (I : am_I) (G : am_G) (x1 : Int32) {out : Int32 × am_I × am_G} (h : R_X13_order_112 I G x1 = some out) : am_Ct mX13_order 13 gS [.ref 112, .int x1] I G (gP rd) (pI out.1 out.2.1 out.2.2 (gP rd)) := by
  refine am_ofF (by decide +kernel) rfl (by decide) (by omega) (Nat.le_of_ble_eq_true rfl) (fun X ad hX hi => ?_)
  have hi : am_info X 11 cX13_order 3 false (Option.some Jvm.ClassFile.FieldType.boolean) 13 := hi
  show am_V X 0 0 _ _ ad (0, [(0, .ref 112), (1, .int x1)], [], I, G, (gP rd))
  unfold R_X13_order_112 at h
  obtain ⟨g0, h⟩ := rg_some h
  obtain ⟨g1, h⟩ := rg_some h
  refine am_blk 0 [(.aload_n 0, 1, 0, 0, .null), (.aload_n 0, 1, 0, 0, .null), (.getfield 3, 3, 11, 14, .null), (.getfield 67, 3, 12, 11, .null), (.getfield 186, 3, 10, 17, .null), (.iload_n 1, 1, 1, 0, .null), (.iaload, 1, 0, 0, .null), (.aload_n 0, 1, 0, 0, .null), (.getfield 3, 3, 11, 14, .null), (.getfield 67, 3, 12, 11, .null), (.getfield 189, 3, 10, 18, .null), (.iload_n 1, 1, 1, 0, .null), (.iaload, 1, 0, 0, .null)] (25, [(0, .ref 112), (1, .int x1)], [.int (I 98 x1.toNatClampNeg), .int (I 97 x1.toNatClampNeg), .ref 112], I, G, (gP rd)) (vp_in x1 21 ∧ vp_in x1 21 ∧ True) hX hi (by decide +kernel) rfl ⟨g0, g1, trivial⟩ ?_
  obtain ⟨r1, I1, G1, hc, h⟩ := rb_some h
  refine am_callV hX hi (M := mX13_carryOut) (idx := 192) (d' := 12) (b := 112) (ci := 11) (As := [.int (I 97 x1.toNatClampNeg), .int (I 98 x1.toNatClampNeg)]) (rest := []) mkX13_carryOut miX13_carryOut mvX13_carryOut (by decide +kernel) (by decide +kernel) rfl (by decide +kernel) rfl ⟨by omega, by decide, Nat.le_of_ble_eq_true rfl⟩ rfl (c_X13_carryOut_112 _ I G (I 97 x1.toNatClampNeg) (I 98 x1.toNatClampNeg) hc) ?_
  rintro r9 I9 G9 P9 ⟨e0, e1, e2, e3⟩
  rw [e0, e1, e2, e3]
  show am_V X 0 0 _ _ ad (28, [(0, .ref 112), (1, .int x1)], [.int r1], I1, G1, (gP rd))
  obtain ⟨g0, h⟩ := rg_some h
  refine am_blk 28 [(.istore_n 2, 1, 2, 0, .null), (.aload_n 0, 1, 0, 0, .null), (.getfield 3, 3, 11, 14, .null), (.getfield 67, 3, 12, 11, .null), (.getfield 195, 3, 10, 15, .null), (.iload_n 1, 1, 1, 0, .null), (.iaload, 1, 0, 0, .null), (.bipush (12), 2, 0, 0, .int (12 : Int32))] (43, [(0, .ref 112), (1, .int x1), (2, .int r1)], [.int (12 : Int32), .int (I1 95 x1.toNatClampNeg)], I1, G1, (gP rd)) (vp_in x1 20 ∧ True) hX hi (by decide +kernel) rfl ⟨g0, trivial⟩ ?_
  refine am_icmp_ne (tgt := 73) hX hi (off := (30)) (by decide +kernel) (by decide) (fun c43 => ?_) (fun c43 => ?_)
  · rw [if_neg c43] at h
    obtain ⟨g0, h⟩ := rg_some h
    refine am_blk 73 [(.aload_n 0, 1, 0, 0, .null), (.getfield 3, 3, 11, 14, .null), (.getfield 67, 3, 12, 11, .null), (.getfield 195, 3, 10, 15, .null), (.iload_n 1, 1, 1, 0, .null), (.iaload, 1, 0, 0, .null), (.bipush (9), 2, 0, 0, .int (9 : Int32))] (87, [(0, .ref 112), (1, .int x1), (2, .int r1)], [.int (9 : Int32), .int (I1 95 x1.toNatClampNeg)], I1, G1, (gP rd)) (vp_in x1 20 ∧ True) hX hi (by decide +kernel) rfl ⟨g0, trivial⟩ ?_
    refine am_icmp_ne (tgt := 117) hX hi (off := (30)) (by decide +kernel) (by decide) (fun c87 => ?_) (fun c87 => ?_)
    · rw [if_neg c87] at h
      obtain ⟨g0, h⟩ := rg_some h
      refine am_blk 117 [(.aload_n 0, 1, 0, 0, .null), (.aload_n 0, 1, 0, 0, .null), (.getfield 3, 3, 11, 14, .null), (.getfield 67, 3, 12, 11, .null), (.getfield 198, 3, 10, 16, .null), (.iload_n 1, 1, 1, 0, .null), (.iaload, 1, 0, 0, .null), (.iconst (0), 1, 0, 0, .int (0 : Int32)), (.sipush (999), 3, 0, 0, .int (999 : Int32)), (.iload_n 2, 1, 2, 0, .null), (.invokestatic 130, 3, 1, 0, .null), (.invokestatic 153, 3, 2, 0, .null)] (141, [(0, .ref 112), (1, .int x1), (2, .int r1)], [.int (if (0 : Int32) < (if r1 < (999 : Int32) then r1 else (999 : Int32)) then (if r1 < (999 : Int32) then r1 else (999 : Int32)) else (0 : Int32)), .int (I1 96 x1.toNatClampNeg), .ref 112], I1, G1, (gP rd)) (vp_in x1 20 ∧ True) hX hi (by decide +kernel) rfl ⟨g0, trivial⟩ ?_
      obtain ⟨hq1, h⟩ := rg_some h
      refine am_callV hX hi (M := mX13_letSeed) (idx := 209) (d' := 1) (b := 112) (ci := 11) (As := [.int (I1 96 x1.toNatClampNeg), .int (if (0 : Int32) < (if r1 < (999 : Int32) then r1 else (999 : Int32)) then (if r1 < (999 : Int32) then r1 else (999 : Int32)) else (0 : Int32))]) (rest := []) mkX13_letSeed miX13_letSeed mvX13_letSeed (by decide +kernel) (by decide +kernel) rfl (by decide +kernel) rfl ⟨by omega, by decide, Nat.le_of_ble_eq_true rfl⟩ rfl (c_X13_letSeed_112 _ I1 G1 (I1 96 x1.toNatClampNeg) (if (0 : Int32) < (if r1 < (999 : Int32) then r1 else (999 : Int32)) then (if r1 < (999 : Int32) then r1 else (999 : Int32)) else (0 : Int32)) hq1) ?_
      rintro r9 I9 G9 P9 ⟨e0, e1, e2, e3⟩
      rw [e0, e1, e2, e3]
      show am_V X 0 0 _ _ ad (144, [(0, .ref 112), (1, .int x1), (2, .int r1)], [.int (f_X13_letSeed_112 I1 G1 (I1 96 x1.toNatClampNeg) (if (0 : Int32) < (if r1 < (999 : Int32) then r1 else (999 : Int32)) then (if r1 < (999 : Int32) then r1 else (999 : Int32)) else (0 : Int32)))], (g_X13_letSeed_112 I1 G1 (I1 96 x1.toNatClampNeg) (if (0 : Int32) < (if r1 < (999 : Int32) then r1 else (999 : Int32)) then (if r1 < (999 : Int32) then r1 else (999 : Int32)) else (0 : Int32))), G1, (gP rd))
      obtain ⟨gb, h⟩ := rg_some h
      cases h
      refine am_iret hX hi rfl (by rcases gb with gb | gb <;> rw [gb] <;> rfl) (by decide +kernel) ?_
      exact ⟨rfl, rfl, rfl, rfl⟩
    · rw [if_pos c87] at h
      obtain ⟨g0, h⟩ := rg_some h
      refine am_blk 90 [(.aload_n 0, 1, 0, 0, .null), (.aload_n 0, 1, 0, 0, .null), (.getfield 3, 3, 11, 14, .null), (.getfield 67, 3, 12, 11, .null), (.getfield 198, 3, 10, 16, .null), (.iload_n 1, 1, 1, 0, .null), (.iaload, 1, 0, 0, .null), (.iconst (0), 1, 0, 0, .int (0 : Int32)), (.bipush (16), 2, 0, 0, .int (16 : Int32)), (.iload_n 2, 1, 2, 0, .null), (.invokestatic 130, 3, 1, 0, .null), (.invokestatic 153, 3, 2, 0, .null)] (113, [(0, .ref 112), (1, .int x1), (2, .int r1)], [.int (if (0 : Int32) < (if r1 < (16 : Int32) then r1 else (16 : Int32)) then (if r1 < (16 : Int32) then r1 else (16 : Int32)) else (0 : Int32)), .int (I1 96 x1.toNatClampNeg), .ref 112], I1, G1, (gP rd)) (vp_in x1 20 ∧ True) hX hi (by decide +kernel) rfl ⟨g0, trivial⟩ ?_
      obtain ⟨hq1, h⟩ := rg_some h
      refine am_callV hX hi (M := mX13_letPull) (idx := 205) (d' := 1) (b := 112) (ci := 11) (As := [.int (I1 96 x1.toNatClampNeg), .int (if (0 : Int32) < (if r1 < (16 : Int32) then r1 else (16 : Int32)) then (if r1 < (16 : Int32) then r1 else (16 : Int32)) else (0 : Int32))]) (rest := []) mkX13_letPull miX13_letPull mvX13_letPull (by decide +kernel) (by decide +kernel) rfl (by decide +kernel) rfl ⟨by omega, by decide, Nat.le_of_ble_eq_true rfl⟩ rfl (c_X13_letPull_112 _ I1 G1 (I1 96 x1.toNatClampNeg) (if (0 : Int32) < (if r1 < (16 : Int32) then r1 else (16 : Int32)) then (if r1 < (16 : Int32) then r1 else (16 : Int32)) else (0 : Int32)) hq1) ?_
      rintro r9 I9 G9 P9 ⟨e0, e1, e2, e3⟩
      rw [e0, e1, e2, e3]
      show am_V X 0 0 _ _ ad (116, [(0, .ref 112), (1, .int x1), (2, .int r1)], [.int (f_X13_letPull_112 I1 G1 (I1 96 x1.toNatClampNeg) (if (0 : Int32) < (if r1 < (16 : Int32) then r1 else (16 : Int32)) then (if r1 < (16 : Int32) then r1 else (16 : Int32)) else (0 : Int32)))], (g_X13_letPull_112 I1 G1 (I1 96 x1.toNatClampNeg) (if (0 : Int32) < (if r1 < (16 : Int32) then r1 else (16 : Int32)) then (if r1 < (16 : Int32) then r1 else (16 : Int32)) else (0 : Int32))), G1, (gP rd))
      obtain ⟨gb, h⟩ := rg_some h
      cases h
      refine am_iret hX hi rfl (by rcases gb with gb | gb <;> rw [gb] <;> rfl) (by decide +kernel) ?_
      exact ⟨rfl, rfl, rfl, rfl⟩
  · rw [if_pos c43] at h
    obtain ⟨g0, h⟩ := rg_some h
    refine am_blk 46 [(.aload_n 0, 1, 0, 0, .null), (.aload_n 0, 1, 0, 0, .null), (.getfield 3, 3, 11, 14, .null), (.getfield 67, 3, 12, 11, .null), (.getfield 198, 3, 10, 16, .null), (.iload_n 1, 1, 1, 0, .null), (.iaload, 1, 0, 0, .null), (.iconst (1), 1, 0, 0, .int (1 : Int32))] (60, [(0, .ref 112), (1, .int x1), (2, .int r1)], [.int (1 : Int32), .int (I1 96 x1.toNatClampNeg), .ref 112], I1, G1, (gP rd)) (vp_in x1 20 ∧ True) hX hi (by decide +kernel) rfl ⟨g0, trivial⟩ ?_
    refine am_icmp_ne (tgt := 67) hX hi (off := (7)) (by decide +kernel) (by decide) (fun c60 => ?_) (fun c60 => ?_)
    · rw [if_neg c60] at h
      refine am_blk 67 [(.iconst (0), 1, 0, 0, .int (0 : Int32)), (.iload_n 2, 1, 2, 0, .null)] (69, [(0, .ref 112), (1, .int x1), (2, .int r1)], [.int r1, .int (0 : Int32), .ref 112], I1, G1, (gP rd)) (True) hX hi (by decide +kernel) rfl trivial ?_
      obtain ⟨hq1, h⟩ := rg_some h
      refine am_callV hX hi (M := mX13_letDrift) (idx := 201) (d' := 2) (b := 112) (ci := 11) (As := [.int (0 : Int32), .int r1]) (rest := []) mkX13_letDrift miX13_letDrift mvX13_letDrift (by decide +kernel) (by decide +kernel) rfl (by decide +kernel) rfl ⟨by omega, by decide, Nat.le_of_ble_eq_true rfl⟩ rfl (c_X13_letDrift_112 _ I1 G1 (0 : Int32) r1 hq1) ?_
      rintro r9 I9 G9 P9 ⟨e0, e1, e2, e3⟩
      rw [e0, e1, e2, e3]
      show am_V X 0 0 _ _ ad (72, [(0, .ref 112), (1, .int x1), (2, .int r1)], [.int (f_X13_letDrift_112 I1 G1 (0 : Int32) r1)], (g_X13_letDrift_112 I1 G1 (0 : Int32) r1), G1, (gP rd))
      obtain ⟨gb, h⟩ := rg_some h
      cases h
      refine am_iret hX hi rfl (by rcases gb with gb | gb <;> rw [gb] <;> rfl) (by decide +kernel) ?_
      exact ⟨rfl, rfl, rfl, rfl⟩
    · rw [if_pos c60] at h
      refine am_blk 63 [(.iconst (1), 1, 0, 0, .int (1 : Int32)), (.goto (4), 3, 0, 68, .null), (.iload_n 2, 1, 2, 0, .null)] (69, [(0, .ref 112), (1, .int x1), (2, .int r1)], [.int r1, .int (1 : Int32), .ref 112], I1, G1, (gP rd)) (True) hX hi (by decide +kernel) rfl trivial ?_
      obtain ⟨hq1, h⟩ := rg_some h
      refine am_callV hX hi (M := mX13_letDrift) (idx := 201) (d' := 2) (b := 112) (ci := 11) (As := [.int (1 : Int32), .int r1]) (rest := []) mkX13_letDrift miX13_letDrift mvX13_letDrift (by decide +kernel) (by decide +kernel) rfl (by decide +kernel) rfl ⟨by omega, by decide, Nat.le_of_ble_eq_true rfl⟩ rfl (c_X13_letDrift_112 _ I1 G1 (1 : Int32) r1 hq1) ?_
      rintro r9 I9 G9 P9 ⟨e0, e1, e2, e3⟩
      rw [e0, e1, e2, e3]
      show am_V X 0 0 _ _ ad (72, [(0, .ref 112), (1, .int x1), (2, .int r1)], [.int (f_X13_letDrift_112 I1 G1 (1 : Int32) r1)], (g_X13_letDrift_112 I1 G1 (1 : Int32) r1), G1, (gP rd))
      obtain ⟨gb, h⟩ := rg_some h
      cases h
      refine am_iret hX hi rfl (by rcases gb with gb | gb <;> rw [gb] <;> rfl) (by decide +kernel) ?_
      exact ⟨rfl, rfl, rfl, rfl⟩
noncomputable def R_X13_holds_102 (I : am_I) (G : am_G) (x1 : Int32) : Option (Int32 × am_I × am_G) := rg (vp_in x1 21) (rg (vp_in x1 21) ((if (I 99 x1.toNatClampNeg) = (I 98 x1.toNatClampNeg) then some ((1 : Int32), I, G) else rg (vp_in x1 21) (rg (vp_in x1 21) (rb (R_X13_carryOut_102 I G (I 98 x1.toNatClampNeg) (I 99 x1.toNatClampNeg)) (fun r1 I1 G1 => (if r1 = (1 : Int32) then some ((1 : Int32), I1, G1) else some ((0 : Int32), I1, G1))))))))
set_option maxRecDepth 20000 in
set_option maxHeartbeats 4000000 in
theorem c_X13_holds_102 (rd : Nat) (I : am_I) (G : am_G) (x1 : Int32) {out : Int32 × am_I × am_G} (h : R_X13_holds_102 I G x1 = some out) : am_Ct mX13_holds 13 gS [.ref 102, .int x1] I G (gP rd) (pI out.1 out.2.1 out.2.2 (gP rd)) := by
  refine am_ofF (by decide +kernel) rfl (by decide) (by omega) (Nat.le_of_ble_eq_true rfl) (fun X ad hX hi => ?_)
  have hi : am_info X 11 cX13_holds 2 false (Option.some Jvm.ClassFile.FieldType.boolean) 13 := hi
  show am_V X 0 0 _ _ ad (0, [(0, .ref 102), (1, .int x1)], [], I, G, (gP rd))
  unfold R_X13_holds_102 at h
  obtain ⟨g0, h⟩ := rg_some h
  obtain ⟨g1, h⟩ := rg_some h
  refine am_blk 0 [(.aload_n 0, 1, 0, 0, .null), (.getfield 3, 3, 11, 14, .null), (.getfield 67, 3, 12, 11, .null), (.getfield 212, 3, 10, 19, .null), (.iload_n 1, 1, 1, 0, .null), (.iaload, 1, 0, 0, .null), (.aload_n 0, 1, 0, 0, .null), (.getfield 3, 3, 11, 14, .null), (.getfield 67, 3, 12, 11, .null), (.getfield 189, 3, 10, 18, .null), (.iload_n 1, 1, 1, 0, .null), (.iaload, 1, 0, 0, .null)] (24, [(0, .ref 102), (1, .int x1)], [.int (I 98 x1.toNatClampNeg), .int (I 99 x1.toNatClampNeg)], I, G, (gP rd)) (vp_in x1 21 ∧ vp_in x1 21 ∧ True) hX hi (by decide +kernel) rfl ⟨g0, g1, trivial⟩ ?_
  refine am_icmp_eq (tgt := 59) hX hi (off := (35)) (by decide +kernel) (by decide) (fun c24 => ?_) (fun c24 => ?_)
  · rw [if_pos c24] at h
    refine am_blk 59 [(.iconst (1), 1, 0, 0, .int (1 : Int32)), (.goto (4), 3, 0, 64, .null)] (64, [(0, .ref 102), (1, .int x1)], [.int (1 : Int32)], I, G, (gP rd)) (True) hX hi (by decide +kernel) rfl trivial ?_
    cases h
    refine am_iret hX hi rfl (by first | rfl | decide | (simp [narrow]; done)) (by decide +kernel) ?_
    exact ⟨rfl, rfl, rfl, rfl⟩
  · rw [if_neg c24] at h
    obtain ⟨g0, h⟩ := rg_some h
    obtain ⟨g1, h⟩ := rg_some h
    refine am_blk 27 [(.aload_n 0, 1, 0, 0, .null), (.aload_n 0, 1, 0, 0, .null), (.getfield 3, 3, 11, 14, .null), (.getfield 67, 3, 12, 11, .null), (.getfield 189, 3, 10, 18, .null), (.iload_n 1, 1, 1, 0, .null), (.iaload, 1, 0, 0, .null), (.aload_n 0, 1, 0, 0, .null), (.getfield 3, 3, 11, 14, .null), (.getfield 67, 3, 12, 11, .null), (.getfield 212, 3, 10, 19, .null), (.iload_n 1, 1, 1, 0, .null), (.iaload, 1, 0, 0, .null)] (52, [(0, .ref 102), (1, .int x1)], [.int (I 99 x1.toNatClampNeg), .int (I 98 x1.toNatClampNeg), .ref 102], I, G, (gP rd)) (vp_in x1 21 ∧ vp_in x1 21 ∧ True) hX hi (by decide +kernel) rfl ⟨g0, g1, trivial⟩ ?_
    obtain ⟨r1, I1, G1, hc, h⟩ := rb_some h
    refine am_callV hX hi (M := mX13_carryOut) (idx := 192) (d' := 12) (b := 102) (ci := 11) (As := [.int (I 98 x1.toNatClampNeg), .int (I 99 x1.toNatClampNeg)]) (rest := []) mkX13_carryOut miX13_carryOut mvX13_carryOut (by decide +kernel) (by decide +kernel) rfl (by decide +kernel) rfl ⟨by omega, by decide, Nat.le_of_ble_eq_true rfl⟩ rfl (c_X13_carryOut_102 _ I G (I 98 x1.toNatClampNeg) (I 99 x1.toNatClampNeg) hc) ?_
    rintro r9 I9 G9 P9 ⟨e0, e1, e2, e3⟩
    rw [e0, e1, e2, e3]
    show am_V X 0 0 _ _ ad (55, [(0, .ref 102), (1, .int x1)], [.int r1], I1, G1, (gP rd))
    refine am_blk 55 [(.iconst (1), 1, 0, 0, .int (1 : Int32))] (56, [(0, .ref 102), (1, .int x1)], [.int (1 : Int32), .int r1], I1, G1, (gP rd)) (True) hX hi (by decide +kernel) rfl trivial ?_
    refine am_icmp_ne (tgt := 63) hX hi (off := (7)) (by decide +kernel) (by decide) (fun c56 => ?_) (fun c56 => ?_)
    · rw [if_neg c56] at h
      refine am_blk 63 [(.iconst (0), 1, 0, 0, .int (0 : Int32))] (64, [(0, .ref 102), (1, .int x1)], [.int (0 : Int32)], I1, G1, (gP rd)) (True) hX hi (by decide +kernel) rfl trivial ?_
      cases h
      refine am_iret hX hi rfl (by first | rfl | decide | (simp [narrow]; done)) (by decide +kernel) ?_
      exact ⟨rfl, rfl, rfl, rfl⟩
    · rw [if_pos c56] at h
      refine am_blk 59 [(.iconst (1), 1, 0, 0, .int (1 : Int32)), (.goto (4), 3, 0, 64, .null)] (64, [(0, .ref 102), (1, .int x1)], [.int (1 : Int32)], I1, G1, (gP rd)) (True) hX hi (by decide +kernel) rfl trivial ?_
      cases h
      refine am_iret hX hi rfl (by first | rfl | decide | (simp [narrow]; done)) (by decide +kernel) ?_
      exact ⟨rfl, rfl, rfl, rfl⟩
noncomputable def R_X13_holds_112 (I : am_I) (G : am_G) (x1 : Int32) : Option (Int32 × am_I × am_G) := rg (vp_in x1 21) (rg (vp_in x1 21) ((if (I 99 x1.toNatClampNeg) = (I 98 x1.toNatClampNeg) then some ((1 : Int32), I, G) else rg (vp_in x1 21) (rg (vp_in x1 21) (rb (R_X13_carryOut_112 I G (I 98 x1.toNatClampNeg) (I 99 x1.toNatClampNeg)) (fun r1 I1 G1 => (if r1 = (1 : Int32) then some ((1 : Int32), I1, G1) else some ((0 : Int32), I1, G1))))))))
set_option maxRecDepth 20000 in
set_option maxHeartbeats 4000000 in
theorem c_X13_holds_112 (rd : Nat) (I : am_I) (G : am_G) (x1 : Int32) {out : Int32 × am_I × am_G} (h : R_X13_holds_112 I G x1 = some out) : am_Ct mX13_holds 13 gS [.ref 112, .int x1] I G (gP rd) (pI out.1 out.2.1 out.2.2 (gP rd)) := by
  refine am_ofF (by decide +kernel) rfl (by decide) (by omega) (Nat.le_of_ble_eq_true rfl) (fun X ad hX hi => ?_)
  have hi : am_info X 11 cX13_holds 2 false (Option.some Jvm.ClassFile.FieldType.boolean) 13 := hi
  show am_V X 0 0 _ _ ad (0, [(0, .ref 112), (1, .int x1)], [], I, G, (gP rd))
  unfold R_X13_holds_112 at h
  obtain ⟨g0, h⟩ := rg_some h
  obtain ⟨g1, h⟩ := rg_some h
  refine am_blk 0 [(.aload_n 0, 1, 0, 0, .null), (.getfield 3, 3, 11, 14, .null), (.getfield 67, 3, 12, 11, .null), (.getfield 212, 3, 10, 19, .null), (.iload_n 1, 1, 1, 0, .null), (.iaload, 1, 0, 0, .null), (.aload_n 0, 1, 0, 0, .null), (.getfield 3, 3, 11, 14, .null), (.getfield 67, 3, 12, 11, .null), (.getfield 189, 3, 10, 18, .null), (.iload_n 1, 1, 1, 0, .null), (.iaload, 1, 0, 0, .null)] (24, [(0, .ref 112), (1, .int x1)], [.int (I 98 x1.toNatClampNeg), .int (I 99 x1.toNatClampNeg)], I, G, (gP rd)) (vp_in x1 21 ∧ vp_in x1 21 ∧ True) hX hi (by decide +kernel) rfl ⟨g0, g1, trivial⟩ ?_
  refine am_icmp_eq (tgt := 59) hX hi (off := (35)) (by decide +kernel) (by decide) (fun c24 => ?_) (fun c24 => ?_)
  · rw [if_pos c24] at h
    refine am_blk 59 [(.iconst (1), 1, 0, 0, .int (1 : Int32)), (.goto (4), 3, 0, 64, .null)] (64, [(0, .ref 112), (1, .int x1)], [.int (1 : Int32)], I, G, (gP rd)) (True) hX hi (by decide +kernel) rfl trivial ?_
    cases h
    refine am_iret hX hi rfl (by first | rfl | decide | (simp [narrow]; done)) (by decide +kernel) ?_
    exact ⟨rfl, rfl, rfl, rfl⟩
  · rw [if_neg c24] at h
    obtain ⟨g0, h⟩ := rg_some h
    obtain ⟨g1, h⟩ := rg_some h
    refine am_blk 27 [(.aload_n 0, 1, 0, 0, .null), (.aload_n 0, 1, 0, 0, .null), (.getfield 3, 3, 11, 14, .null), (.getfield 67, 3, 12, 11, .null), (.getfield 189, 3, 10, 18, .null), (.iload_n 1, 1, 1, 0, .null), (.iaload, 1, 0, 0, .null), (.aload_n 0, 1, 0, 0, .null), (.getfield 3, 3, 11, 14, .null), (.getfield 67, 3, 12, 11, .null), (.getfield 212, 3, 10, 19, .null), (.iload_n 1, 1, 1, 0, .null), (.iaload, 1, 0, 0, .null)] (52, [(0, .ref 112), (1, .int x1)], [.int (I 99 x1.toNatClampNeg), .int (I 98 x1.toNatClampNeg), .ref 112], I, G, (gP rd)) (vp_in x1 21 ∧ vp_in x1 21 ∧ True) hX hi (by decide +kernel) rfl ⟨g0, g1, trivial⟩ ?_
    obtain ⟨r1, I1, G1, hc, h⟩ := rb_some h
    refine am_callV hX hi (M := mX13_carryOut) (idx := 192) (d' := 12) (b := 112) (ci := 11) (As := [.int (I 98 x1.toNatClampNeg), .int (I 99 x1.toNatClampNeg)]) (rest := []) mkX13_carryOut miX13_carryOut mvX13_carryOut (by decide +kernel) (by decide +kernel) rfl (by decide +kernel) rfl ⟨by omega, by decide, Nat.le_of_ble_eq_true rfl⟩ rfl (c_X13_carryOut_112 _ I G (I 98 x1.toNatClampNeg) (I 99 x1.toNatClampNeg) hc) ?_
    rintro r9 I9 G9 P9 ⟨e0, e1, e2, e3⟩
    rw [e0, e1, e2, e3]
    show am_V X 0 0 _ _ ad (55, [(0, .ref 112), (1, .int x1)], [.int r1], I1, G1, (gP rd))
    refine am_blk 55 [(.iconst (1), 1, 0, 0, .int (1 : Int32))] (56, [(0, .ref 112), (1, .int x1)], [.int (1 : Int32), .int r1], I1, G1, (gP rd)) (True) hX hi (by decide +kernel) rfl trivial ?_
    refine am_icmp_ne (tgt := 63) hX hi (off := (7)) (by decide +kernel) (by decide) (fun c56 => ?_) (fun c56 => ?_)
    · rw [if_neg c56] at h
      refine am_blk 63 [(.iconst (0), 1, 0, 0, .int (0 : Int32))] (64, [(0, .ref 112), (1, .int x1)], [.int (0 : Int32)], I1, G1, (gP rd)) (True) hX hi (by decide +kernel) rfl trivial ?_
      cases h
      refine am_iret hX hi rfl (by first | rfl | decide | (simp [narrow]; done)) (by decide +kernel) ?_
      exact ⟨rfl, rfl, rfl, rfl⟩
    · rw [if_pos c56] at h
      refine am_blk 59 [(.iconst (1), 1, 0, 0, .int (1 : Int32)), (.goto (4), 3, 0, 64, .null)] (64, [(0, .ref 112), (1, .int x1)], [.int (1 : Int32)], I1, G1, (gP rd)) (True) hX hi (by decide +kernel) rfl trivial ?_
      cases h
      refine am_iret hX hi rfl (by first | rfl | decide | (simp [narrow]; done)) (by decide +kernel) ?_
      exact ⟨rfl, rfl, rfl, rfl⟩
noncomputable def L_X13_dip_102 (n0 : Nat) (hd : Nat) (I : am_I) (G : am_G) (v1 : Int32) : Option (Unit × am_I × am_G) := match n0 with
  | 0 => none
  | n + 1 => match hd with
    | _ => (if (I 86 13) ≤ v1 then some ((), (am_up I 102 0 ((I 102 0) + (1 : Int32))), G) else rb (R_X13_holds_102 I G v1) (fun r101 I101 G101 => (if r101 = 0 then L_X13_dip_102 n 0 I101 G101 (v1 + (1 : Int32)) else rb (R_X13_order_102 I101 G101 v1) (fun r102 I102 G102 => (if r102 = 0 then L_X13_dip_102 n 0 I102 G102 (v1 + (1 : Int32)) else L_X13_dip_102 n 0 (am_up I102 102 1 ((I102 102 1) + (1 : Int32))) G102 (v1 + (1 : Int32)))))))
theorem L_X13_dip_102_0 (n : Nat) (I : am_I) (G : am_G) (v1 : Int32) : L_X13_dip_102 (n + 1) 0 I G v1 = (if (I 86 13) ≤ v1 then some ((), (am_up I 102 0 ((I 102 0) + (1 : Int32))), G) else rb (R_X13_holds_102 I G v1) (fun r101 I101 G101 => (if r101 = 0 then L_X13_dip_102 n 0 I101 G101 (v1 + (1 : Int32)) else rb (R_X13_order_102 I101 G101 v1) (fun r102 I102 G102 => (if r102 = 0 then L_X13_dip_102 n 0 I102 G102 (v1 + (1 : Int32)) else L_X13_dip_102 n 0 (am_up I102 102 1 ((I102 102 1) + (1 : Int32))) G102 (v1 + (1 : Int32))))))) := rfl
theorem L_X13_dip_102_z (h : Nat) (I : am_I) (G : am_G) (v1 : Int32) : L_X13_dip_102 0 h I G v1 = none := rfl
noncomputable def R_X13_dip_102 (I : am_I) (G : am_G)  : Option (Unit × am_I × am_G) := L_X13_dip_102 FU 0 I G (0 : Int32)
set_option maxRecDepth 20000 in
set_option maxHeartbeats 4000000 in
theorem l_X13_dip_102 (rd : Nat) {X : am_X} {ad : Nat → Nat} (hX : am_okz X ad) (hi : am_info X 11 cX13_dip 2 false none 14) (n : Nat) : (∀ (I : am_I) (G : am_G) (v1 : Int32) (out : Unit × am_I × am_G), L_X13_dip_102 n 0 I G v1 = some out → am_V X 0 0 (am_Rt X gS ad (pV out.2.1 out.2.2 (gP rd))) gS ad (2, [(0, .ref 102), (1, .int v1)], [], I, G, (gP rd))) := by
  induction n with
  | zero => exact fun I G v1 out h => by rw [L_X13_dip_102_z] at h; cases h
  | succ n ih =>
    · intro I G v1 out h
      rw [L_X13_dip_102_0] at h
      refine am_blk 2 [(.iload_n 1, 1, 1, 0, .null), (.aload_n 0, 1, 0, 0, .null), (.getfield 3, 3, 11, 14, .null), (.getfield 67, 3, 12, 11, .null), (.getfield 215, 3, 10, 13, .null)] (13, [(0, .ref 102), (1, .int v1)], [.int (I 86 13), .int v1], I, G, (gP rd)) (True) hX hi (by decide +kernel) rfl trivial ?_
      refine am_icmp_ge (tgt := 48) hX hi (off := (35)) (by decide +kernel) (by decide) (fun c13 => ?_) (fun c13 => ?_)
      · rw [if_pos c13] at h
        refine am_blk 48 [(.aload_n 0, 1, 0, 0, .null), (.dup, 1, 0, 0, .null), (.getfield 44, 3, 11, 0, .null), (.iconst (1), 1, 0, 0, .int (1 : Int32)), (.iadd, 1, 0, 0, .null), (.putfield 44, 3, 11, 0, .null)] (58, [(0, .ref 102), (1, .int v1)], [], (am_up I 102 0 ((I 102 0) + (1 : Int32))), G, (gP rd)) (True) hX hi (by decide +kernel) rfl trivial ?_
        cases h
        refine am_vret hX hi rfl (by decide +kernel) ?_
        exact ⟨rfl, rfl, rfl, rfl⟩
      · rw [if_neg c13] at h
        refine am_blk 16 [(.aload_n 0, 1, 0, 0, .null), (.iload_n 1, 1, 1, 0, .null)] (18, [(0, .ref 102), (1, .int v1)], [.int v1, .ref 102], I, G, (gP rd)) (True) hX hi (by decide +kernel) rfl trivial ?_
        obtain ⟨r101, I101, G101, hc, h⟩ := rb_some h
        refine am_callV hX hi (M := mX13_holds) (idx := 218) (d' := 13) (b := 102) (ci := 11) (As := [.int v1]) (rest := []) mkX13_holds miX13_holds mvX13_holds (by decide +kernel) (by decide +kernel) rfl (by decide +kernel) rfl ⟨by omega, by decide, Nat.le_of_ble_eq_true rfl⟩ rfl (c_X13_holds_102 _ I G v1 hc) ?_
        rintro r9 I9 G9 P9 ⟨e0, e1, e2, e3⟩
        rw [e0, e1, e2, e3]
        show am_V X 0 0 _ _ ad (21, [(0, .ref 102), (1, .int v1)], [.int r101], I101, G101, (gP rd))
        refine am_if_eq (tgt := 42) hX hi (off := (21)) (by decide +kernel) (by decide) (fun c21 => ?_) (fun c21 => ?_)
        · rw [if_pos c21] at h
          refine am_blk 42 [(.iinc 1 (1), 3, 1, 0, .int (1 : Int32)), (.goto (-43), 3, 0, 2, .null)] (2, [(0, .ref 102), (1, .int (v1 + (1 : Int32)))], [], I101, G101, (gP rd)) (True) hX hi (by decide +kernel) rfl trivial ?_
          exact ih _ _ _ _ h
        · rw [if_neg c21] at h
          refine am_blk 24 [(.aload_n 0, 1, 0, 0, .null), (.iload_n 1, 1, 1, 0, .null)] (26, [(0, .ref 102), (1, .int v1)], [.int v1, .ref 102], I101, G101, (gP rd)) (True) hX hi (by decide +kernel) rfl trivial ?_
          obtain ⟨r102, I102, G102, hc, h⟩ := rb_some h
          refine am_callV hX hi (M := mX13_order) (idx := 222) (d' := 13) (b := 102) (ci := 11) (As := [.int v1]) (rest := []) mkX13_order miX13_order mvX13_order (by decide +kernel) (by decide +kernel) rfl (by decide +kernel) rfl ⟨by omega, by decide, Nat.le_of_ble_eq_true rfl⟩ rfl (c_X13_order_102 _ I101 G101 v1 hc) ?_
          rintro r9 I9 G9 P9 ⟨e0, e1, e2, e3⟩
          rw [e0, e1, e2, e3]
          show am_V X 0 0 _ _ ad (29, [(0, .ref 102), (1, .int v1)], [.int r102], I102, G102, (gP rd))
          refine am_if_eq (tgt := 42) hX hi (off := (13)) (by decide +kernel) (by decide) (fun c29 => ?_) (fun c29 => ?_)
          · rw [if_pos c29] at h
            refine am_blk 42 [(.iinc 1 (1), 3, 1, 0, .int (1 : Int32)), (.goto (-43), 3, 0, 2, .null)] (2, [(0, .ref 102), (1, .int (v1 + (1 : Int32)))], [], I102, G102, (gP rd)) (True) hX hi (by decide +kernel) rfl trivial ?_
            exact ih _ _ _ _ h
          · rw [if_neg c29] at h
            refine am_blk 32 [(.aload_n 0, 1, 0, 0, .null), (.dup, 1, 0, 0, .null), (.getfield 48, 3, 11, 1, .null), (.iconst (1), 1, 0, 0, .int (1 : Int32)), (.iadd, 1, 0, 0, .null), (.putfield 48, 3, 11, 1, .null), (.iinc 1 (1), 3, 1, 0, .int (1 : Int32)), (.goto (-43), 3, 0, 2, .null)] (2, [(0, .ref 102), (1, .int (v1 + (1 : Int32)))], [], (am_up I102 102 1 ((I102 102 1) + (1 : Int32))), G102, (gP rd)) (True) hX hi (by decide +kernel) rfl trivial ?_
            exact ih _ _ _ _ h
set_option maxRecDepth 20000 in
set_option maxHeartbeats 4000000 in
theorem c_X13_dip_102 (rd : Nat) (I : am_I) (G : am_G)  {out : Unit × am_I × am_G} (h : R_X13_dip_102 I G  = some out) : am_Ct mX13_dip 14 gS [.ref 102] I G (gP rd) (pV out.2.1 out.2.2 (gP rd)) := by
  refine am_ofF (by decide +kernel) rfl (by decide) (by omega) (Nat.le_of_ble_eq_true rfl) (fun X ad hX hi => ?_)
  have hi : am_info X 11 cX13_dip 2 false none 14 := hi
  show am_V X 0 0 _ _ ad (0, [(0, .ref 102)], [], I, G, (gP rd))
  unfold R_X13_dip_102 at h
  refine am_blk 0 [(.iconst (0), 1, 0, 0, .int (0 : Int32)), (.istore_n 1, 1, 1, 0, .null)] (2, [(0, .ref 102), (1, .int (0 : Int32))], [], I, G, (gP rd)) (True) hX hi (by decide +kernel) rfl trivial ?_
  exact (l_X13_dip_102 rd hX hi FU) _ _ _ _ h
noncomputable def L_X13_dip_112 (n0 : Nat) (hd : Nat) (I : am_I) (G : am_G) (v1 : Int32) : Option (Unit × am_I × am_G) := match n0 with
  | 0 => none
  | n + 1 => match hd with
    | _ => (if (I 86 13) ≤ v1 then some ((), (am_up I 112 0 ((I 112 0) + (1 : Int32))), G) else rb (R_X13_holds_112 I G v1) (fun r101 I101 G101 => (if r101 = 0 then L_X13_dip_112 n 0 I101 G101 (v1 + (1 : Int32)) else rb (R_X13_order_112 I101 G101 v1) (fun r102 I102 G102 => (if r102 = 0 then L_X13_dip_112 n 0 I102 G102 (v1 + (1 : Int32)) else L_X13_dip_112 n 0 (am_up I102 112 1 ((I102 112 1) + (1 : Int32))) G102 (v1 + (1 : Int32)))))))
theorem L_X13_dip_112_0 (n : Nat) (I : am_I) (G : am_G) (v1 : Int32) : L_X13_dip_112 (n + 1) 0 I G v1 = (if (I 86 13) ≤ v1 then some ((), (am_up I 112 0 ((I 112 0) + (1 : Int32))), G) else rb (R_X13_holds_112 I G v1) (fun r101 I101 G101 => (if r101 = 0 then L_X13_dip_112 n 0 I101 G101 (v1 + (1 : Int32)) else rb (R_X13_order_112 I101 G101 v1) (fun r102 I102 G102 => (if r102 = 0 then L_X13_dip_112 n 0 I102 G102 (v1 + (1 : Int32)) else L_X13_dip_112 n 0 (am_up I102 112 1 ((I102 112 1) + (1 : Int32))) G102 (v1 + (1 : Int32))))))) := rfl
theorem L_X13_dip_112_z (h : Nat) (I : am_I) (G : am_G) (v1 : Int32) : L_X13_dip_112 0 h I G v1 = none := rfl
noncomputable def R_X13_dip_112 (I : am_I) (G : am_G)  : Option (Unit × am_I × am_G) := L_X13_dip_112 FU 0 I G (0 : Int32)
set_option maxRecDepth 20000 in
set_option maxHeartbeats 4000000 in
theorem l_X13_dip_112 (rd : Nat) {X : am_X} {ad : Nat → Nat} (hX : am_okz X ad) (hi : am_info X 11 cX13_dip 2 false none 14) (n : Nat) : (∀ (I : am_I) (G : am_G) (v1 : Int32) (out : Unit × am_I × am_G), L_X13_dip_112 n 0 I G v1 = some out → am_V X 0 0 (am_Rt X gS ad (pV out.2.1 out.2.2 (gP rd))) gS ad (2, [(0, .ref 112), (1, .int v1)], [], I, G, (gP rd))) := by
  induction n with
  | zero => exact fun I G v1 out h => by rw [L_X13_dip_112_z] at h; cases h
  | succ n ih =>
    · intro I G v1 out h
      rw [L_X13_dip_112_0] at h
      refine am_blk 2 [(.iload_n 1, 1, 1, 0, .null), (.aload_n 0, 1, 0, 0, .null), (.getfield 3, 3, 11, 14, .null), (.getfield 67, 3, 12, 11, .null), (.getfield 215, 3, 10, 13, .null)] (13, [(0, .ref 112), (1, .int v1)], [.int (I 86 13), .int v1], I, G, (gP rd)) (True) hX hi (by decide +kernel) rfl trivial ?_
      refine am_icmp_ge (tgt := 48) hX hi (off := (35)) (by decide +kernel) (by decide) (fun c13 => ?_) (fun c13 => ?_)
      · rw [if_pos c13] at h
        refine am_blk 48 [(.aload_n 0, 1, 0, 0, .null), (.dup, 1, 0, 0, .null), (.getfield 44, 3, 11, 0, .null), (.iconst (1), 1, 0, 0, .int (1 : Int32)), (.iadd, 1, 0, 0, .null), (.putfield 44, 3, 11, 0, .null)] (58, [(0, .ref 112), (1, .int v1)], [], (am_up I 112 0 ((I 112 0) + (1 : Int32))), G, (gP rd)) (True) hX hi (by decide +kernel) rfl trivial ?_
        cases h
        refine am_vret hX hi rfl (by decide +kernel) ?_
        exact ⟨rfl, rfl, rfl, rfl⟩
      · rw [if_neg c13] at h
        refine am_blk 16 [(.aload_n 0, 1, 0, 0, .null), (.iload_n 1, 1, 1, 0, .null)] (18, [(0, .ref 112), (1, .int v1)], [.int v1, .ref 112], I, G, (gP rd)) (True) hX hi (by decide +kernel) rfl trivial ?_
        obtain ⟨r101, I101, G101, hc, h⟩ := rb_some h
        refine am_callV hX hi (M := mX13_holds) (idx := 218) (d' := 13) (b := 112) (ci := 11) (As := [.int v1]) (rest := []) mkX13_holds miX13_holds mvX13_holds (by decide +kernel) (by decide +kernel) rfl (by decide +kernel) rfl ⟨by omega, by decide, Nat.le_of_ble_eq_true rfl⟩ rfl (c_X13_holds_112 _ I G v1 hc) ?_
        rintro r9 I9 G9 P9 ⟨e0, e1, e2, e3⟩
        rw [e0, e1, e2, e3]
        show am_V X 0 0 _ _ ad (21, [(0, .ref 112), (1, .int v1)], [.int r101], I101, G101, (gP rd))
        refine am_if_eq (tgt := 42) hX hi (off := (21)) (by decide +kernel) (by decide) (fun c21 => ?_) (fun c21 => ?_)
        · rw [if_pos c21] at h
          refine am_blk 42 [(.iinc 1 (1), 3, 1, 0, .int (1 : Int32)), (.goto (-43), 3, 0, 2, .null)] (2, [(0, .ref 112), (1, .int (v1 + (1 : Int32)))], [], I101, G101, (gP rd)) (True) hX hi (by decide +kernel) rfl trivial ?_
          exact ih _ _ _ _ h
        · rw [if_neg c21] at h
          refine am_blk 24 [(.aload_n 0, 1, 0, 0, .null), (.iload_n 1, 1, 1, 0, .null)] (26, [(0, .ref 112), (1, .int v1)], [.int v1, .ref 112], I101, G101, (gP rd)) (True) hX hi (by decide +kernel) rfl trivial ?_
          obtain ⟨r102, I102, G102, hc, h⟩ := rb_some h
          refine am_callV hX hi (M := mX13_order) (idx := 222) (d' := 13) (b := 112) (ci := 11) (As := [.int v1]) (rest := []) mkX13_order miX13_order mvX13_order (by decide +kernel) (by decide +kernel) rfl (by decide +kernel) rfl ⟨by omega, by decide, Nat.le_of_ble_eq_true rfl⟩ rfl (c_X13_order_112 _ I101 G101 v1 hc) ?_
          rintro r9 I9 G9 P9 ⟨e0, e1, e2, e3⟩
          rw [e0, e1, e2, e3]
          show am_V X 0 0 _ _ ad (29, [(0, .ref 112), (1, .int v1)], [.int r102], I102, G102, (gP rd))
          refine am_if_eq (tgt := 42) hX hi (off := (13)) (by decide +kernel) (by decide) (fun c29 => ?_) (fun c29 => ?_)
          · rw [if_pos c29] at h
            refine am_blk 42 [(.iinc 1 (1), 3, 1, 0, .int (1 : Int32)), (.goto (-43), 3, 0, 2, .null)] (2, [(0, .ref 112), (1, .int (v1 + (1 : Int32)))], [], I102, G102, (gP rd)) (True) hX hi (by decide +kernel) rfl trivial ?_
            exact ih _ _ _ _ h
          · rw [if_neg c29] at h
            refine am_blk 32 [(.aload_n 0, 1, 0, 0, .null), (.dup, 1, 0, 0, .null), (.getfield 48, 3, 11, 1, .null), (.iconst (1), 1, 0, 0, .int (1 : Int32)), (.iadd, 1, 0, 0, .null), (.putfield 48, 3, 11, 1, .null), (.iinc 1 (1), 3, 1, 0, .int (1 : Int32)), (.goto (-43), 3, 0, 2, .null)] (2, [(0, .ref 112), (1, .int (v1 + (1 : Int32)))], [], (am_up I102 112 1 ((I102 112 1) + (1 : Int32))), G102, (gP rd)) (True) hX hi (by decide +kernel) rfl trivial ?_
            exact ih _ _ _ _ h
set_option maxRecDepth 20000 in
set_option maxHeartbeats 4000000 in
theorem c_X13_dip_112 (rd : Nat) (I : am_I) (G : am_G)  {out : Unit × am_I × am_G} (h : R_X13_dip_112 I G  = some out) : am_Ct mX13_dip 14 gS [.ref 112] I G (gP rd) (pV out.2.1 out.2.2 (gP rd)) := by
  refine am_ofF (by decide +kernel) rfl (by decide) (by omega) (Nat.le_of_ble_eq_true rfl) (fun X ad hX hi => ?_)
  have hi : am_info X 11 cX13_dip 2 false none 14 := hi
  show am_V X 0 0 _ _ ad (0, [(0, .ref 112)], [], I, G, (gP rd))
  unfold R_X13_dip_112 at h
  refine am_blk 0 [(.iconst (0), 1, 0, 0, .int (0 : Int32)), (.istore_n 1, 1, 1, 0, .null)] (2, [(0, .ref 112), (1, .int (0 : Int32))], [], I, G, (gP rd)) (True) hX hi (by decide +kernel) rfl trivial ?_
  exact (l_X13_dip_112 rd hX hi FU) _ _ _ _ h
