/-! the public methods that may throw, where they don't -/
def pn9 (r : Int32 ⊕ Nat) (I : am_I) (G : am_G) (P : am_P) : am_Po := fun v I' G' P' => ∃ x, r = .inl x ∧ v = some (.int x) ∧ I' = I ∧ G' = G ∧ P' = P
noncomputable def R_X11_feed_0 (I : am_I) (G : am_G) (x1 : Int32) (x2 : Int32) (x3 : Int32) (x4 : Int32) (x5 : Int32) : Option ((Int32 ⊕ Nat) × am_I × am_G) := (if ((I 1 5) + (20 : Int32)) ≤ (2000 : Int32) then rb (R_X9_append_1 I G x1) (fun r1 I1 G1 => rb (R_X9_append_1 I1 G1 x2) (fun r2 I2 G2 => rb (R_X9_append_1 I2 G2 x3) (fun r3 I3 G3 => rb (R_X9_append_1 I3 G3 x4) (fun r4 I4 G4 => rb (R_X9_append_1 I4 G4 x5) (fun r5 I5 G5 => some (.inl (I5 1 5), I5, G5)))))) else some (.inr 60, I, G))
set_option maxRecDepth 20000 in
set_option maxHeartbeats 4000000 in
theorem c_X11_feed_0 (rd : Nat) (I : am_I) (G : am_G) (x1 : Int32) (x2 : Int32) (x3 : Int32) (x4 : Int32) (x5 : Int32) {out : (Int32 ⊕ Nat) × am_I × am_G} (h : R_X11_feed_0 I G x1 x2 x3 x4 x5 = some out) (hl : ∃ x, out.1 = .inl x) : am_Ct mX11_feed 6 gS [.ref 0, .int x1, .int x2, .int x3, .int x4, .int x5] I G (gP rd) (pn9 out.1 out.2.1 out.2.2 (gP rd)) := by
  refine am_ofF (by decide +kernel) rfl (by decide) (by omega) (Nat.le_of_ble_eq_true rfl) (fun X ad hX hi => ?_)
  have hi : am_info X 11 cX11_feed 6 false (Option.some Jvm.ClassFile.FieldType.int) 6 := hi
  show am_V X 0 0 _ _ ad (0, [(0, .ref 0), (1, .int x1), (2, .int x2), (3, .int x3), (4, .int x4), (5, .int x5)], [], I, G, (gP rd))
  unfold R_X11_feed_0 at h
  refine am_blk 0 [(.aload_n 0, 1, 0, 0, .null), (.getfield 20, 3, 11, 0, .null), (.getfield 57, 3, 9, 5, .null), (.bipush (20), 2, 0, 0, .int (20 : Int32)), (.iadd, 1, 0, 0, .null), (.sipush (2000), 3, 0, 0, .int (2000 : Int32))] (13, [(0, .ref 0), (1, .int x1), (2, .int x2), (3, .int x3), (4, .int x4), (5, .int x5)], [.int (2000 : Int32), .int ((I 1 5) + (20 : Int32))], I, G, (gP rd)) (True) hX hi (by decide +kernel) rfl trivial ?_
  refine am_icmp_le (tgt := 26) hX hi (off := (13)) (by decide +kernel) (by decide) (fun c13 => ?_) (fun c13 => ?_)
  · rw [if_pos c13] at h
    refine am_blk 26 [(.aload_n 0, 1, 0, 0, .null), (.getfield 20, 3, 11, 0, .null), (.iload_n 1, 1, 1, 0, .null)] (31, [(0, .ref 0), (1, .int x1), (2, .int x2), (3, .int x3), (4, .int x4), (5, .int x5)], [.int x1, .ref 1], I, G, (gP rd)) (True) hX hi (by decide +kernel) rfl trivial ?_
    obtain ⟨r1, I1, G1, hc, h⟩ := rb_some h
    refine am_callV hX hi (M := mX9_append) (idx := 67) (d' := 1) (b := 1) (ci := 9) (As := [.int x1]) (rest := []) mkX9_append miX9_append mvX9_append (by decide +kernel) (by decide +kernel) rfl (by decide +kernel) rfl ⟨by omega, by decide, Nat.le_of_ble_eq_true rfl⟩ rfl (c_X9_append_1 _ I G x1 hc) ?_
    rintro r9 I9 G9 P9 ⟨e0, e1, e2, e3⟩
    rw [e0, e1, e2, e3]
    show am_V X 0 0 _ _ ad (34, [(0, .ref 0), (1, .int x1), (2, .int x2), (3, .int x3), (4, .int x4), (5, .int x5)], [], I1, G1, (gP rd))
    refine am_blk 34 [(.aload_n 0, 1, 0, 0, .null), (.getfield 20, 3, 11, 0, .null), (.iload_n 2, 1, 2, 0, .null)] (39, [(0, .ref 0), (1, .int x1), (2, .int x2), (3, .int x3), (4, .int x4), (5, .int x5)], [.int x2, .ref 1], I1, G1, (gP rd)) (True) hX hi (by decide +kernel) rfl trivial ?_
    obtain ⟨r2, I2, G2, hc, h⟩ := rb_some h
    refine am_callV hX hi (M := mX9_append) (idx := 67) (d' := 1) (b := 1) (ci := 9) (As := [.int x2]) (rest := []) mkX9_append miX9_append mvX9_append (by decide +kernel) (by decide +kernel) rfl (by decide +kernel) rfl ⟨by omega, by decide, Nat.le_of_ble_eq_true rfl⟩ rfl (c_X9_append_1 _ I1 G1 x2 hc) ?_
    rintro r9 I9 G9 P9 ⟨e0, e1, e2, e3⟩
    rw [e0, e1, e2, e3]
    show am_V X 0 0 _ _ ad (42, [(0, .ref 0), (1, .int x1), (2, .int x2), (3, .int x3), (4, .int x4), (5, .int x5)], [], I2, G2, (gP rd))
    refine am_blk 42 [(.aload_n 0, 1, 0, 0, .null), (.getfield 20, 3, 11, 0, .null), (.iload_n 3, 1, 3, 0, .null)] (47, [(0, .ref 0), (1, .int x1), (2, .int x2), (3, .int x3), (4, .int x4), (5, .int x5)], [.int x3, .ref 1], I2, G2, (gP rd)) (True) hX hi (by decide +kernel) rfl trivial ?_
    obtain ⟨r3, I3, G3, hc, h⟩ := rb_some h
    refine am_callV hX hi (M := mX9_append) (idx := 67) (d' := 1) (b := 1) (ci := 9) (As := [.int x3]) (rest := []) mkX9_append miX9_append mvX9_append (by decide +kernel) (by decide +kernel) rfl (by decide +kernel) rfl ⟨by omega, by decide, Nat.le_of_ble_eq_true rfl⟩ rfl (c_X9_append_1 _ I2 G2 x3 hc) ?_
    rintro r9 I9 G9 P9 ⟨e0, e1, e2, e3⟩
    rw [e0, e1, e2, e3]
    show am_V X 0 0 _ _ ad (50, [(0, .ref 0), (1, .int x1), (2, .int x2), (3, .int x3), (4, .int x4), (5, .int x5)], [], I3, G3, (gP rd))
    refine am_blk 50 [(.aload_n 0, 1, 0, 0, .null), (.getfield 20, 3, 11, 0, .null), (.iload 4, 2, 4, 0, .null)] (56, [(0, .ref 0), (1, .int x1), (2, .int x2), (3, .int x3), (4, .int x4), (5, .int x5)], [.int x4, .ref 1], I3, G3, (gP rd)) (True) hX hi (by decide +kernel) rfl trivial ?_
    obtain ⟨r4, I4, G4, hc, h⟩ := rb_some h
    refine am_callV hX hi (M := mX9_append) (idx := 67) (d' := 1) (b := 1) (ci := 9) (As := [.int x4]) (rest := []) mkX9_append miX9_append mvX9_append (by decide +kernel) (by decide +kernel) rfl (by decide +kernel) rfl ⟨by omega, by decide, Nat.le_of_ble_eq_true rfl⟩ rfl (c_X9_append_1 _ I3 G3 x4 hc) ?_
    rintro r9 I9 G9 P9 ⟨e0, e1, e2, e3⟩
    rw [e0, e1, e2, e3]
    show am_V X 0 0 _ _ ad (59, [(0, .ref 0), (1, .int x1), (2, .int x2), (3, .int x3), (4, .int x4), (5, .int x5)], [], I4, G4, (gP rd))
    refine am_blk 59 [(.aload_n 0, 1, 0, 0, .null), (.getfield 20, 3, 11, 0, .null), (.iload 5, 2, 5, 0, .null)] (65, [(0, .ref 0), (1, .int x1), (2, .int x2), (3, .int x3), (4, .int x4), (5, .int x5)], [.int x5, .ref 1], I4, G4, (gP rd)) (True) hX hi (by decide +kernel) rfl trivial ?_
    obtain ⟨r5, I5, G5, hc, h⟩ := rb_some h
    refine am_callV hX hi (M := mX9_append) (idx := 67) (d' := 1) (b := 1) (ci := 9) (As := [.int x5]) (rest := []) mkX9_append miX9_append mvX9_append (by decide +kernel) (by decide +kernel) rfl (by decide +kernel) rfl ⟨by omega, by decide, Nat.le_of_ble_eq_true rfl⟩ rfl (c_X9_append_1 _ I4 G4 x5 hc) ?_
    rintro r9 I9 G9 P9 ⟨e0, e1, e2, e3⟩
    rw [e0, e1, e2, e3]
    show am_V X 0 0 _ _ ad (68, [(0, .ref 0), (1, .int x1), (2, .int x2), (3, .int x3), (4, .int x4), (5, .int x5)], [], I5, G5, (gP rd))
    refine am_blk 68 [(.aload_n 0, 1, 0, 0, .null), (.getfield 20, 3, 11, 0, .null), (.getfield 57, 3, 9, 5, .null)] (75, [(0, .ref 0), (1, .int x1), (2, .int x2), (3, .int x3), (4, .int x4), (5, .int x5)], [.int (I5 1 5)], I5, G5, (gP rd)) (True) hX hi (by decide +kernel) rfl trivial ?_
    cases h
    refine am_iret hX hi rfl rfl (by decide +kernel) ?_
    exact ⟨_, rfl, rfl, rfl, rfl, rfl⟩
  · rw [if_neg c13] at h
    cases h
    obtain ⟨x9, hx9⟩ := hl
    cases hx9
noncomputable def R_X11_trim_0 (I : am_I) (G : am_G) (x1 : Int32) : Option ((Int32 ⊕ Nat) × am_I × am_G) := (if x1 < 0 then some (.inr 71, I, G) else (if x1 ≤ (I 1 5) then some (.inl x1, (am_up I 1 5 x1), G) else some (.inr 71, I, G)))
set_option maxRecDepth 20000 in
set_option maxHeartbeats 4000000 in
theorem c_X11_trim_0 (rd : Nat) (I : am_I) (G : am_G) (x1 : Int32) {out : (Int32 ⊕ Nat) × am_I × am_G} (h : R_X11_trim_0 I G x1 = some out) (hl : ∃ x, out.1 = .inl x) : am_Ct mX11_trim 6 gS [.ref 0, .int x1] I G (gP rd) (pn9 out.1 out.2.1 out.2.2 (gP rd)) := by
  refine am_ofF (by decide +kernel) rfl (by decide) (by omega) (Nat.le_of_ble_eq_true rfl) (fun X ad hX hi => ?_)
  have hi : am_info X 11 cX11_trim 2 false (Option.some Jvm.ClassFile.FieldType.int) 6 := hi
  show am_V X 0 0 _ _ ad (0, [(0, .ref 0), (1, .int x1)], [], I, G, (gP rd))
  unfold R_X11_trim_0 at h
  refine am_blk 0 [(.iload_n 1, 1, 1, 0, .null)] (1, [(0, .ref 0), (1, .int x1)], [.int x1], I, G, (gP rd)) (True) hX hi (by decide +kernel) rfl trivial ?_
  refine am_if_lt (tgt := 15) hX hi (off := (14)) (by decide +kernel) (by decide) (fun c1 => ?_) (fun c1 => ?_)
  · rw [if_pos c1] at h
    cases h
    obtain ⟨x9, hx9⟩ := hl
    cases hx9
  · rw [if_neg c1] at h
    refine am_blk 4 [(.iload_n 1, 1, 1, 0, .null), (.aload_n 0, 1, 0, 0, .null), (.getfield 20, 3, 11, 0, .null), (.getfield 57, 3, 9, 5, .null)] (12, [(0, .ref 0), (1, .int x1)], [.int (I 1 5), .int x1], I, G, (gP rd)) (True) hX hi (by decide +kernel) rfl trivial ?_
    refine am_icmp_le (tgt := 25) hX hi (off := (13)) (by decide +kernel) (by decide) (fun c12 => ?_) (fun c12 => ?_)
    · rw [if_pos c12] at h
      refine am_blk 25 [(.aload_n 0, 1, 0, 0, .null), (.getfield 20, 3, 11, 0, .null), (.iload_n 1, 1, 1, 0, .null), (.putfield 57, 3, 9, 5, .null), (.iload_n 1, 1, 1, 0, .null)] (34, [(0, .ref 0), (1, .int x1)], [.int x1], (am_up I 1 5 x1), G, (gP rd)) (True) hX hi (by decide +kernel) rfl trivial ?_
      cases h
      refine am_iret hX hi rfl rfl (by decide +kernel) ?_
      exact ⟨_, rfl, rfl, rfl, rfl, rfl⟩
    · rw [if_neg c12] at h
      cases h
      obtain ⟨x9, hx9⟩ := hl
      cases hx9
noncomputable def R_X11_count_0 (I : am_I) (G : am_G) (x1 : Int32) : Option ((Int32 ⊕ Nat) × am_I × am_G) := (if x1 < 0 then some (.inr 93, I, G) else (if x1 ≤ (14 : Int32) then (if x1 < (7 : Int32) then (if x1 = (14 : Int32) then some (.inl (I 1 5), I, G) else rb (R_X7_tell_53 I G x1) (fun r1 I1 G1 => some (.inl r1, I1, G1))) else (if (10 : Int32) < x1 then (if x1 = (14 : Int32) then some (.inl (I 1 5), I, G) else rb (R_X7_tell_53 I G x1) (fun r2 I2 G2 => some (.inl r2, I2, G2))) else rb (R_X7_group_53 I G ) (fun r3 I3 G3 => (if x1 = (14 : Int32) then some (.inl (I3 1 5), I3, G3) else rb (R_X7_tell_53 I3 G3 x1) (fun r4 I4 G4 => some (.inl r4, I4, G4)))))) else some (.inr 93, I, G)))
set_option maxRecDepth 20000 in
set_option maxHeartbeats 4000000 in
theorem c_X11_count_0 (rd : Nat) (I : am_I) (G : am_G) (x1 : Int32) {out : (Int32 ⊕ Nat) × am_I × am_G} (h : R_X11_count_0 I G x1 = some out) (hl : ∃ x, out.1 = .inl x) : am_Ct mX11_count 9 gS [.ref 0, .int x1] I G (gP rd) (pn9 out.1 out.2.1 out.2.2 (gP rd)) := by
  refine am_ofF (by decide +kernel) rfl (by decide) (by omega) (Nat.le_of_ble_eq_true rfl) (fun X ad hX hi => ?_)
  have hi : am_info X 11 cX11_count 2 false (Option.some Jvm.ClassFile.FieldType.int) 9 := hi
  show am_V X 0 0 _ _ ad (0, [(0, .ref 0), (1, .int x1)], [], I, G, (gP rd))
  unfold R_X11_count_0 at h
  refine am_blk 0 [(.iload_n 1, 1, 1, 0, .null)] (1, [(0, .ref 0), (1, .int x1)], [.int x1], I, G, (gP rd)) (True) hX hi (by decide +kernel) rfl trivial ?_
  refine am_if_lt (tgt := 10) hX hi (off := (9)) (by decide +kernel) (by decide) (fun c1 => ?_) (fun c1 => ?_)
  · rw [if_pos c1] at h
    cases h
    obtain ⟨x9, hx9⟩ := hl
    cases hx9
  · rw [if_neg c1] at h
    refine am_blk 4 [(.iload_n 1, 1, 1, 0, .null), (.bipush (14), 2, 0, 0, .int (14 : Int32))] (7, [(0, .ref 0), (1, .int x1)], [.int (14 : Int32), .int x1], I, G, (gP rd)) (True) hX hi (by decide +kernel) rfl trivial ?_
    refine am_icmp_le (tgt := 20) hX hi (off := (13)) (by decide +kernel) (by decide) (fun c7 => ?_) (fun c7 => ?_)
    · rw [if_pos c7] at h
      refine am_blk 20 [(.iload_n 1, 1, 1, 0, .null), (.bipush (7), 2, 0, 0, .int (7 : Int32))] (23, [(0, .ref 0), (1, .int x1)], [.int (7 : Int32), .int x1], I, G, (gP rd)) (True) hX hi (by decide +kernel) rfl trivial ?_
      refine am_icmp_lt (tgt := 39) hX hi (off := (16)) (by decide +kernel) (by decide) (fun c23 => ?_) (fun c23 => ?_)
      · rw [if_pos c23] at h
        refine am_blk 39 [(.iload_n 1, 1, 1, 0, .null), (.bipush (14), 2, 0, 0, .int (14 : Int32))] (42, [(0, .ref 0), (1, .int x1)], [.int (14 : Int32), .int x1], I, G, (gP rd)) (True) hX hi (by decide +kernel) rfl trivial ?_
        refine am_icmp_ne (tgt := 55) hX hi (off := (13)) (by decide +kernel) (by decide) (fun c42 => ?_) (fun c42 => ?_)
        · rw [if_neg c42] at h
          refine am_blk 55 [(.aload_n 0, 1, 0, 0, .null), (.getfield 46, 3, 11, 4, .null), (.iload_n 1, 1, 1, 0, .null)] (60, [(0, .ref 0), (1, .int x1)], [.int x1, .ref 53], I, G, (gP rd)) (True) hX hi (by decide +kernel) rfl trivial ?_
          obtain ⟨r1, I1, G1, hc, h⟩ := rb_some h
          refine am_callV hX hi (M := mX7_tell) (idx := 101) (d' := 3) (b := 53) (ci := 7) (As := [.int x1]) (rest := []) mkX7_tell miX7_tell mvX7_tell (by decide +kernel) (by decide +kernel) rfl (by decide +kernel) rfl ⟨by omega, by decide, Nat.le_of_ble_eq_true rfl⟩ rfl (c_X7_tell_53 _ I G x1 hc) ?_
          rintro r9 I9 G9 P9 ⟨e0, e1, e2, e3⟩
          rw [e0, e1, e2, e3]
          show am_V X 0 0 _ _ ad (63, [(0, .ref 0), (1, .int x1)], [.int r1], I1, G1, (gP rd))
          cases h
          refine am_iret hX hi rfl rfl (by decide +kernel) ?_
          exact ⟨_, rfl, rfl, rfl, rfl, rfl⟩
        · rw [if_pos c42] at h
          refine am_blk 45 [(.aload_n 0, 1, 0, 0, .null), (.getfield 20, 3, 11, 0, .null), (.getfield 57, 3, 9, 5, .null), (.goto (11), 3, 0, 63, .null)] (63, [(0, .ref 0), (1, .int x1)], [.int (I 1 5)], I, G, (gP rd)) (True) hX hi (by decide +kernel) rfl trivial ?_
          cases h
          refine am_iret hX hi rfl rfl (by decide +kernel) ?_
          exact ⟨_, rfl, rfl, rfl, rfl, rfl⟩
      · rw [if_neg c23] at h
        refine am_blk 26 [(.iload_n 1, 1, 1, 0, .null), (.bipush (10), 2, 0, 0, .int (10 : Int32))] (29, [(0, .ref 0), (1, .int x1)], [.int (10 : Int32), .int x1], I, G, (gP rd)) (True) hX hi (by decide +kernel) rfl trivial ?_
        refine am_icmp_gt (tgt := 39) hX hi (off := (10)) (by decide +kernel) (by decide) (fun c29 => ?_) (fun c29 => ?_)
        · rw [if_pos c29] at h
          refine am_blk 39 [(.iload_n 1, 1, 1, 0, .null), (.bipush (14), 2, 0, 0, .int (14 : Int32))] (42, [(0, .ref 0), (1, .int x1)], [.int (14 : Int32), .int x1], I, G, (gP rd)) (True) hX hi (by decide +kernel) rfl trivial ?_
          refine am_icmp_ne (tgt := 55) hX hi (off := (13)) (by decide +kernel) (by decide) (fun c42 => ?_) (fun c42 => ?_)
          · rw [if_neg c42] at h
            refine am_blk 55 [(.aload_n 0, 1, 0, 0, .null), (.getfield 46, 3, 11, 4, .null), (.iload_n 1, 1, 1, 0, .null)] (60, [(0, .ref 0), (1, .int x1)], [.int x1, .ref 53], I, G, (gP rd)) (True) hX hi (by decide +kernel) rfl trivial ?_
            obtain ⟨r2, I2, G2, hc, h⟩ := rb_some h
            refine am_callV hX hi (M := mX7_tell) (idx := 101) (d' := 3) (b := 53) (ci := 7) (As := [.int x1]) (rest := []) mkX7_tell miX7_tell mvX7_tell (by decide +kernel) (by decide +kernel) rfl (by decide +kernel) rfl ⟨by omega, by decide, Nat.le_of_ble_eq_true rfl⟩ rfl (c_X7_tell_53 _ I G x1 hc) ?_
            rintro r9 I9 G9 P9 ⟨e0, e1, e2, e3⟩
            rw [e0, e1, e2, e3]
            show am_V X 0 0 _ _ ad (63, [(0, .ref 0), (1, .int x1)], [.int r2], I2, G2, (gP rd))
            cases h
            refine am_iret hX hi rfl rfl (by decide +kernel) ?_
            exact ⟨_, rfl, rfl, rfl, rfl, rfl⟩
          · rw [if_pos c42] at h
            refine am_blk 45 [(.aload_n 0, 1, 0, 0, .null), (.getfield 20, 3, 11, 0, .null), (.getfield 57, 3, 9, 5, .null), (.goto (11), 3, 0, 63, .null)] (63, [(0, .ref 0), (1, .int x1)], [.int (I 1 5)], I, G, (gP rd)) (True) hX hi (by decide +kernel) rfl trivial ?_
            cases h
            refine am_iret hX hi rfl rfl (by decide +kernel) ?_
            exact ⟨_, rfl, rfl, rfl, rfl, rfl⟩
        · rw [if_neg c29] at h
          refine am_blk 32 [(.aload_n 0, 1, 0, 0, .null), (.getfield 46, 3, 11, 4, .null)] (36, [(0, .ref 0), (1, .int x1)], [.ref 53], I, G, (gP rd)) (True) hX hi (by decide +kernel) rfl trivial ?_
          obtain ⟨r3, I3, G3, hc, h⟩ := rb_some h
          refine am_callV hX hi (M := mX7_group) (idx := 98) (d' := 8) (b := 53) (ci := 7) (As := []) (rest := []) mkX7_group miX7_group mvX7_group (by decide +kernel) (by decide +kernel) rfl (by decide +kernel) rfl ⟨by omega, by decide, Nat.le_of_ble_eq_true rfl⟩ rfl (c_X7_group_53 _ I G  hc) ?_
          rintro r9 I9 G9 P9 ⟨e0, e1, e2, e3⟩
          rw [e0, e1, e2, e3]
          show am_V X 0 0 _ _ ad (39, [(0, .ref 0), (1, .int x1)], [], I3, G3, (gP rd))
          refine am_blk 39 [(.iload_n 1, 1, 1, 0, .null), (.bipush (14), 2, 0, 0, .int (14 : Int32))] (42, [(0, .ref 0), (1, .int x1)], [.int (14 : Int32), .int x1], I3, G3, (gP rd)) (True) hX hi (by decide +kernel) rfl trivial ?_
          refine am_icmp_ne (tgt := 55) hX hi (off := (13)) (by decide +kernel) (by decide) (fun c42 => ?_) (fun c42 => ?_)
          · rw [if_neg c42] at h
            refine am_blk 55 [(.aload_n 0, 1, 0, 0, .null), (.getfield 46, 3, 11, 4, .null), (.iload_n 1, 1, 1, 0, .null)] (60, [(0, .ref 0), (1, .int x1)], [.int x1, .ref 53], I3, G3, (gP rd)) (True) hX hi (by decide +kernel) rfl trivial ?_
            obtain ⟨r4, I4, G4, hc, h⟩ := rb_some h
            refine am_callV hX hi (M := mX7_tell) (idx := 101) (d' := 3) (b := 53) (ci := 7) (As := [.int x1]) (rest := []) mkX7_tell miX7_tell mvX7_tell (by decide +kernel) (by decide +kernel) rfl (by decide +kernel) rfl ⟨by omega, by decide, Nat.le_of_ble_eq_true rfl⟩ rfl (c_X7_tell_53 _ I3 G3 x1 hc) ?_
            rintro r9 I9 G9 P9 ⟨e0, e1, e2, e3⟩
            rw [e0, e1, e2, e3]
            show am_V X 0 0 _ _ ad (63, [(0, .ref 0), (1, .int x1)], [.int r4], I4, G4, (gP rd))
            cases h
            refine am_iret hX hi rfl rfl (by decide +kernel) ?_
            exact ⟨_, rfl, rfl, rfl, rfl, rfl⟩
          · rw [if_pos c42] at h
            refine am_blk 45 [(.aload_n 0, 1, 0, 0, .null), (.getfield 20, 3, 11, 0, .null), (.getfield 57, 3, 9, 5, .null), (.goto (11), 3, 0, 63, .null)] (63, [(0, .ref 0), (1, .int x1)], [.int (I3 1 5)], I3, G3, (gP rd)) (True) hX hi (by decide +kernel) rfl trivial ?_
            cases h
            refine am_iret hX hi rfl rfl (by decide +kernel) ?_
            exact ⟨_, rfl, rfl, rfl, rfl, rfl⟩
    · rw [if_neg c7] at h
      cases h
      obtain ⟨x9, hx9⟩ := hl
      cases hx9
noncomputable def R_X11_share_0 (I : am_I) (G : am_G) (x1 : Int32) : Option ((Int32 ⊕ Nat) × am_I × am_G) := (if x1 < 0 then some (.inr 93, I, G) else (if x1 ≤ (I 7 13) then rb (R_X7_refresh_53 I G ) (fun r1 I1 G1 => some (.inl (gAt (I1 59) 6 x1), I1, G1)) else some (.inr 93, I, G)))
set_option maxRecDepth 20000 in
set_option maxHeartbeats 4000000 in
theorem c_X11_share_0 (rd : Nat) (I : am_I) (G : am_G) (x1 : Int32) {out : (Int32 ⊕ Nat) × am_I × am_G} (h : R_X11_share_0 I G x1 = some out) (hl : ∃ x, out.1 = .inl x) : am_Ct mX11_share 8 gS [.ref 0, .int x1] I G (gP rd) (pn9 out.1 out.2.1 out.2.2 (gP rd)) := by
  refine am_ofF (by decide +kernel) rfl (by decide) (by omega) (Nat.le_of_ble_eq_true rfl) (fun X ad hX hi => ?_)
  have hi : am_info X 11 cX11_share 2 false (Option.some Jvm.ClassFile.FieldType.int) 8 := hi
  show am_V X 0 0 _ _ ad (0, [(0, .ref 0), (1, .int x1)], [], I, G, (gP rd))
  unfold R_X11_share_0 at h
  refine am_blk 0 [(.iload_n 1, 1, 1, 0, .null)] (1, [(0, .ref 0), (1, .int x1)], [.int x1], I, G, (gP rd)) (True) hX hi (by decide +kernel) rfl trivial ?_
  refine am_if_lt (tgt := 15) hX hi (off := (14)) (by decide +kernel) (by decide) (fun c1 => ?_) (fun c1 => ?_)
  · rw [if_pos c1] at h
    cases h
    obtain ⟨x9, hx9⟩ := hl
    cases hx9
  · rw [if_neg c1] at h
    refine am_blk 4 [(.iload_n 1, 1, 1, 0, .null), (.aload_n 0, 1, 0, 0, .null), (.getfield 33, 3, 11, 2, .null), (.getfield 137, 3, 5, 13, .null)] (12, [(0, .ref 0), (1, .int x1)], [.int (I 7 13), .int x1], I, G, (gP rd)) (True) hX hi (by decide +kernel) rfl trivial ?_
    refine am_icmp_le (tgt := 25) hX hi (off := (13)) (by decide +kernel) (by decide) (fun c12 => ?_) (fun c12 => ?_)
    · rw [if_pos c12] at h
      refine am_blk 25 [(.aload_n 0, 1, 0, 0, .null), (.getfield 46, 3, 11, 4, .null)] (29, [(0, .ref 0), (1, .int x1)], [.ref 53], I, G, (gP rd)) (True) hX hi (by decide +kernel) rfl trivial ?_
      obtain ⟨r1, I1, G1, hc, h⟩ := rb_some h
      refine am_callV hX hi (M := mX7_refresh) (idx := 105) (d' := 7) (b := 53) (ci := 7) (As := []) (rest := []) mkX7_refresh miX7_refresh mvX7_refresh (by decide +kernel) (by decide +kernel) rfl (by decide +kernel) rfl ⟨by omega, by decide, Nat.le_of_ble_eq_true rfl⟩ rfl (c_X7_refresh_53 _ I G  hc) ?_
      rintro r9 I9 G9 P9 ⟨e0, e1, e2, e3⟩
      rw [e0, e1, e2, e3]
      show am_V X 0 0 _ _ ad (32, [(0, .ref 0), (1, .int x1)], [], I1, G1, (gP rd))
      refine am_blk 32 [(.aload_n 0, 1, 0, 0, .null), (.getfield 46, 3, 11, 4, .null), (.getfield 141, 3, 7, 7, .null), (.iload_n 1, 1, 1, 0, .null)] (40, [(0, .ref 0), (1, .int x1)], [.int x1, .ref 59], I1, G1, (gP rd)) (True) hX hi (by decide +kernel) rfl trivial ?_
      refine am_callS hX hi (M := mX0_at) (idx := 116) (d' := 1) (As := [.ref 59, .int x1]) (rest := []) mkX0_at msX0_at (by decide +kernel) (by decide +kernel) rfl ⟨by omega, by decide, Nat.le_of_ble_eq_true rfl⟩ rfl (c_at rfl (by decide) x1) ?_
      rintro r9 I9 G9 P9 ⟨e0, e1, e2, e3⟩
      rw [e0, e1, e2, e3]
      show am_V X 0 0 _ _ ad (43, [(0, .ref 0), (1, .int x1)], [.int (gAt (I1 59) 6 x1)], I1, G1, (gP rd))
      cases h
      refine am_iret hX hi rfl rfl (by decide +kernel) ?_
      exact ⟨_, rfl, rfl, rfl, rfl, rfl⟩
    · rw [if_neg c12] at h
      cases h
      obtain ⟨x9, hx9⟩ := hl
      cases hx9
noncomputable def R_X11_octave_0 (I : am_I) (G : am_G) (x1 : Int32) (x2 : Int32) : Option ((Int32 ⊕ Nat) × am_I × am_G) := (if x1 < 0 then some (.inr 93, I, G) else (if (I 7 11) ≤ x1 then some (.inr 93, I, G) else (if x2 < 0 then some (.inr 93, I, G) else (if x2 ≤ (3 : Int32) then some (.inl (f_X7_tellOctave_53 I G x1 x2), I, G) else some (.inr 93, I, G)))))
set_option maxRecDepth 20000 in
set_option maxHeartbeats 4000000 in
theorem c_X11_octave_0 (rd : Nat) (I : am_I) (G : am_G) (x1 : Int32) (x2 : Int32) {out : (Int32 ⊕ Nat) × am_I × am_G} (h : R_X11_octave_0 I G x1 x2 = some out) (hl : ∃ x, out.1 = .inl x) : am_Ct mX11_octave 6 gS [.ref 0, .int x1, .int x2] I G (gP rd) (pn9 out.1 out.2.1 out.2.2 (gP rd)) := by
  refine am_ofF (by decide +kernel) rfl (by decide) (by omega) (Nat.le_of_ble_eq_true rfl) (fun X ad hX hi => ?_)
  have hi : am_info X 11 cX11_octave 3 false (Option.some Jvm.ClassFile.FieldType.int) 6 := hi
  show am_V X 0 0 _ _ ad (0, [(0, .ref 0), (1, .int x1), (2, .int x2)], [], I, G, (gP rd))
  unfold R_X11_octave_0 at h
  refine am_blk 0 [(.iload_n 1, 1, 1, 0, .null)] (1, [(0, .ref 0), (1, .int x1), (2, .int x2)], [.int x1], I, G, (gP rd)) (True) hX hi (by decide +kernel) rfl trivial ?_
  refine am_if_lt (tgt := 24) hX hi (off := (23)) (by decide +kernel) (by decide) (fun c1 => ?_) (fun c1 => ?_)
  · rw [if_pos c1] at h
    cases h
    obtain ⟨x9, hx9⟩ := hl
    cases hx9
  · rw [if_neg c1] at h
    refine am_blk 4 [(.iload_n 1, 1, 1, 0, .null), (.aload_n 0, 1, 0, 0, .null), (.getfield 33, 3, 11, 2, .null), (.getfield 144, 3, 5, 11, .null)] (12, [(0, .ref 0), (1, .int x1), (2, .int x2)], [.int (I 7 11), .int x1], I, G, (gP rd)) (True) hX hi (by decide +kernel) rfl trivial ?_
    refine am_icmp_ge (tgt := 24) hX hi (off := (12)) (by decide +kernel) (by decide) (fun c12 => ?_) (fun c12 => ?_)
    · rw [if_pos c12] at h
      cases h
      obtain ⟨x9, hx9⟩ := hl
      cases hx9
    · rw [if_neg c12] at h
      refine am_blk 15 [(.iload_n 2, 1, 2, 0, .null)] (16, [(0, .ref 0), (1, .int x1), (2, .int x2)], [.int x2], I, G, (gP rd)) (True) hX hi (by decide +kernel) rfl trivial ?_
      refine am_if_lt (tgt := 24) hX hi (off := (8)) (by decide +kernel) (by decide) (fun c16 => ?_) (fun c16 => ?_)
      · rw [if_pos c16] at h
        cases h
        obtain ⟨x9, hx9⟩ := hl
        cases hx9
      · rw [if_neg c16] at h
        refine am_blk 19 [(.iload_n 2, 1, 2, 0, .null), (.iconst (3), 1, 0, 0, .int (3 : Int32))] (21, [(0, .ref 0), (1, .int x1), (2, .int x2)], [.int (3 : Int32), .int x2], I, G, (gP rd)) (True) hX hi (by decide +kernel) rfl trivial ?_
        refine am_icmp_le (tgt := 34) hX hi (off := (13)) (by decide +kernel) (by decide) (fun c21 => ?_) (fun c21 => ?_)
        · rw [if_pos c21] at h
          refine am_blk 34 [(.aload_n 0, 1, 0, 0, .null), (.getfield 46, 3, 11, 4, .null), (.iload_n 1, 1, 1, 0, .null), (.iload_n 2, 1, 2, 0, .null)] (40, [(0, .ref 0), (1, .int x1), (2, .int x2)], [.int x2, .int x1, .ref 53], I, G, (gP rd)) (True) hX hi (by decide +kernel) rfl trivial ?_
          refine am_callV hX hi (M := mX7_tellOctave) (idx := 149) (d' := 2) (b := 53) (ci := 7) (As := [.int x1, .int x2]) (rest := []) mkX7_tellOctave miX7_tellOctave mvX7_tellOctave (by decide +kernel) (by decide +kernel) rfl (by decide +kernel) rfl ⟨by omega, by decide, Nat.le_of_ble_eq_true rfl⟩ rfl (c_X7_tellOctave_53 _ I G x1 x2) ?_
          rintro r9 I9 G9 P9 ⟨e0, e1, e2, e3⟩
          rw [e0, e1, e2, e3]
          show am_V X 0 0 _ _ ad (43, [(0, .ref 0), (1, .int x1), (2, .int x2)], [.int (f_X7_tellOctave_53 I G x1 x2)], I, G, (gP rd))
          cases h
          refine am_iret hX hi rfl rfl (by decide +kernel) ?_
          exact ⟨_, rfl, rfl, rfl, rfl, rfl⟩
        · rw [if_neg c21] at h
          cases h
          obtain ⟨x9, hx9⟩ := hl
          cases hx9
noncomputable def R_X11_comb_0 (I : am_I) (G : am_G) (x1 : Int32) (x2 : Int32) : Option ((Int32 ⊕ Nat) × am_I × am_G) := (if x1 < 0 then some (.inr 93, I, G) else (if (I 7 12) ≤ x1 then some (.inr 93, I, G) else (if x2 < 0 then some (.inr 93, I, G) else (if x2 ≤ (2 : Int32) then some (.inl (f_X7_tellComb_53 I G x1 x2), I, G) else some (.inr 93, I, G)))))
set_option maxRecDepth 20000 in
set_option maxHeartbeats 4000000 in
theorem c_X11_comb_0 (rd : Nat) (I : am_I) (G : am_G) (x1 : Int32) (x2 : Int32) {out : (Int32 ⊕ Nat) × am_I × am_G} (h : R_X11_comb_0 I G x1 x2 = some out) (hl : ∃ x, out.1 = .inl x) : am_Ct mX11_comb 6 gS [.ref 0, .int x1, .int x2] I G (gP rd) (pn9 out.1 out.2.1 out.2.2 (gP rd)) := by
  refine am_ofF (by decide +kernel) rfl (by decide) (by omega) (Nat.le_of_ble_eq_true rfl) (fun X ad hX hi => ?_)
  have hi : am_info X 11 cX11_comb 3 false (Option.some Jvm.ClassFile.FieldType.int) 6 := hi
  show am_V X 0 0 _ _ ad (0, [(0, .ref 0), (1, .int x1), (2, .int x2)], [], I, G, (gP rd))
  unfold R_X11_comb_0 at h
  refine am_blk 0 [(.iload_n 1, 1, 1, 0, .null)] (1, [(0, .ref 0), (1, .int x1), (2, .int x2)], [.int x1], I, G, (gP rd)) (True) hX hi (by decide +kernel) rfl trivial ?_
  refine am_if_lt (tgt := 24) hX hi (off := (23)) (by decide +kernel) (by decide) (fun c1 => ?_) (fun c1 => ?_)
  · rw [if_pos c1] at h
    cases h
    obtain ⟨x9, hx9⟩ := hl
    cases hx9
  · rw [if_neg c1] at h
    refine am_blk 4 [(.iload_n 1, 1, 1, 0, .null), (.aload_n 0, 1, 0, 0, .null), (.getfield 33, 3, 11, 2, .null), (.getfield 176, 3, 5, 12, .null)] (12, [(0, .ref 0), (1, .int x1), (2, .int x2)], [.int (I 7 12), .int x1], I, G, (gP rd)) (True) hX hi (by decide +kernel) rfl trivial ?_
    refine am_icmp_ge (tgt := 24) hX hi (off := (12)) (by decide +kernel) (by decide) (fun c12 => ?_) (fun c12 => ?_)
    · rw [if_pos c12] at h
      cases h
      obtain ⟨x9, hx9⟩ := hl
      cases hx9
    · rw [if_neg c12] at h
      refine am_blk 15 [(.iload_n 2, 1, 2, 0, .null)] (16, [(0, .ref 0), (1, .int x1), (2, .int x2)], [.int x2], I, G, (gP rd)) (True) hX hi (by decide +kernel) rfl trivial ?_
      refine am_if_lt (tgt := 24) hX hi (off := (8)) (by decide +kernel) (by decide) (fun c16 => ?_) (fun c16 => ?_)
      · rw [if_pos c16] at h
        cases h
        obtain ⟨x9, hx9⟩ := hl
        cases hx9
      · rw [if_neg c16] at h
        refine am_blk 19 [(.iload_n 2, 1, 2, 0, .null), (.iconst (2), 1, 0, 0, .int (2 : Int32))] (21, [(0, .ref 0), (1, .int x1), (2, .int x2)], [.int (2 : Int32), .int x2], I, G, (gP rd)) (True) hX hi (by decide +kernel) rfl trivial ?_
        refine am_icmp_le (tgt := 34) hX hi (off := (13)) (by decide +kernel) (by decide) (fun c21 => ?_) (fun c21 => ?_)
        · rw [if_pos c21] at h
          refine am_blk 34 [(.aload_n 0, 1, 0, 0, .null), (.getfield 46, 3, 11, 4, .null), (.iload_n 1, 1, 1, 0, .null), (.iload_n 2, 1, 2, 0, .null)] (40, [(0, .ref 0), (1, .int x1), (2, .int x2)], [.int x2, .int x1, .ref 53], I, G, (gP rd)) (True) hX hi (by decide +kernel) rfl trivial ?_
          refine am_callV hX hi (M := mX7_tellComb) (idx := 181) (d' := 2) (b := 53) (ci := 7) (As := [.int x1, .int x2]) (rest := []) mkX7_tellComb miX7_tellComb mvX7_tellComb (by decide +kernel) (by decide +kernel) rfl (by decide +kernel) rfl ⟨by omega, by decide, Nat.le_of_ble_eq_true rfl⟩ rfl (c_X7_tellComb_53 _ I G x1 x2) ?_
          rintro r9 I9 G9 P9 ⟨e0, e1, e2, e3⟩
          rw [e0, e1, e2, e3]
          show am_V X 0 0 _ _ ad (43, [(0, .ref 0), (1, .int x1), (2, .int x2)], [.int (f_X7_tellComb_53 I G x1 x2)], I, G, (gP rd))
          cases h
          refine am_iret hX hi rfl rfl (by decide +kernel) ?_
          exact ⟨_, rfl, rfl, rfl, rfl, rfl⟩
        · rw [if_neg c21] at h
          cases h
          obtain ⟨x9, hx9⟩ := hl
          cases hx9
noncomputable def R_X11_moves_0 (I : am_I) (G : am_G) (x1 : Int32) (x2 : Int32) : Option ((Int32 ⊕ Nat) × am_I × am_G) := (if x1 < 0 then some (.inr 93, I, G) else (if x1 < (I 7 12) then some (.inl (f_X7_shiftOf_53 I G x1 (gWr x2.toInt64.toInt (f_X5_linesOf_7 I G x1))), I, G) else some (.inr 93, I, G)))
set_option maxRecDepth 20000 in
set_option maxHeartbeats 4000000 in
theorem c_X11_moves_0 (rd : Nat) (I : am_I) (G : am_G) (x1 : Int32) (x2 : Int32) {out : (Int32 ⊕ Nat) × am_I × am_G} (h : R_X11_moves_0 I G x1 x2 = some out) (hl : ∃ x, out.1 = .inl x) : am_Ct mX11_moves 6 gS [.ref 0, .int x1, .int x2] I G (gP rd) (pn9 out.1 out.2.1 out.2.2 (gP rd)) := by
  refine am_ofF (by decide +kernel) rfl (by decide) (by omega) (Nat.le_of_ble_eq_true rfl) (fun X ad hX hi => ?_)
  have hi : am_info X 11 cX11_moves 3 false (Option.some Jvm.ClassFile.FieldType.int) 6 := hi
  show am_V X 0 0 _ _ ad (0, [(0, .ref 0), (1, .int x1), (2, .int x2)], [], I, G, (gP rd))
  unfold R_X11_moves_0 at h
  refine am_blk 0 [(.iload_n 1, 1, 1, 0, .null)] (1, [(0, .ref 0), (1, .int x1), (2, .int x2)], [.int x1], I, G, (gP rd)) (True) hX hi (by decide +kernel) rfl trivial ?_
  refine am_if_lt (tgt := 15) hX hi (off := (14)) (by decide +kernel) (by decide) (fun c1 => ?_) (fun c1 => ?_)
  · rw [if_pos c1] at h
    cases h
    obtain ⟨x9, hx9⟩ := hl
    cases hx9
  · rw [if_neg c1] at h
    refine am_blk 4 [(.iload_n 1, 1, 1, 0, .null), (.aload_n 0, 1, 0, 0, .null), (.getfield 33, 3, 11, 2, .null), (.getfield 176, 3, 5, 12, .null)] (12, [(0, .ref 0), (1, .int x1), (2, .int x2)], [.int (I 7 12), .int x1], I, G, (gP rd)) (True) hX hi (by decide +kernel) rfl trivial ?_
    refine am_icmp_lt (tgt := 25) hX hi (off := (13)) (by decide +kernel) (by decide) (fun c12 => ?_) (fun c12 => ?_)
    · rw [if_pos c12] at h
      refine am_blk 25 [(.aload_n 0, 1, 0, 0, .null), (.getfield 46, 3, 11, 4, .null), (.iload_n 1, 1, 1, 0, .null), (.iload_n 2, 1, 2, 0, .null), (.i2l, 1, 0, 0, .null), (.aload_n 0, 1, 0, 0, .null), (.getfield 33, 3, 11, 2, .null), (.iload_n 1, 1, 1, 0, .null)] (37, [(0, .ref 0), (1, .int x1), (2, .int x2)], [.int x1, .ref 7, .long x2.toInt64, .int x1, .ref 53], I, G, (gP rd)) (True) hX hi (by decide +kernel) rfl trivial ?_
      refine am_callV hX hi (M := mX5_linesOf) (idx := 186) (d' := 2) (b := 7) (ci := 5) (As := [.int x1]) (rest := [.long x2.toInt64, .int x1, .ref 53]) mkX5_linesOf miX5_linesOf mvX5_linesOf (by decide +kernel) (by decide +kernel) rfl (by decide +kernel) rfl ⟨by omega, by decide, Nat.le_of_ble_eq_true rfl⟩ rfl (c_X5_linesOf_7 _ I G x1) ?_
      rintro r9 I9 G9 P9 ⟨e0, e1, e2, e3⟩
      rw [e0, e1, e2, e3]
      show am_V X 0 0 _ _ ad (40, [(0, .ref 0), (1, .int x1), (2, .int x2)], [.int (f_X5_linesOf_7 I G x1), .long x2.toInt64, .int x1, .ref 53], I, G, (gP rd))
      refine am_callS hX hi (M := mX0_wrap) (idx := 166) (d' := 2) (As := [.long x2.toInt64, .int (f_X5_linesOf_7 I G x1)]) (rest := [.int x1, .ref 53]) mkX0_wrap msX0_wrap (by decide +kernel) (by decide +kernel) rfl ⟨by omega, by decide, Nat.le_of_ble_eq_true rfl⟩ rfl (c_wrap x2.toInt64 (f_X5_linesOf_7 I G x1)) ?_
      rintro r9 I9 G9 P9 ⟨e0, e1, e2, e3⟩
      rw [e0, e1, e2, e3]
      show am_V X 0 0 _ _ ad (43, [(0, .ref 0), (1, .int x1), (2, .int x2)], [.int (gWr x2.toInt64.toInt (f_X5_linesOf_7 I G x1)), .int x1, .ref 53], I, G, (gP rd))
      refine am_callV hX hi (M := mX7_shiftOf) (idx := 189) (d' := 2) (b := 53) (ci := 7) (As := [.int x1, .int (gWr x2.toInt64.toInt (f_X5_linesOf_7 I G x1))]) (rest := []) mkX7_shiftOf miX7_shiftOf mvX7_shiftOf (by decide +kernel) (by decide +kernel) rfl (by decide +kernel) rfl ⟨by omega, by decide, Nat.le_of_ble_eq_true rfl⟩ rfl (c_X7_shiftOf_53 _ I G x1 (gWr x2.toInt64.toInt (f_X5_linesOf_7 I G x1))) ?_
      rintro r9 I9 G9 P9 ⟨e0, e1, e2, e3⟩
      rw [e0, e1, e2, e3]
      show am_V X 0 0 _ _ ad (46, [(0, .ref 0), (1, .int x1), (2, .int x2)], [.int (f_X7_shiftOf_53 I G x1 (gWr x2.toInt64.toInt (f_X5_linesOf_7 I G x1)))], I, G, (gP rd))
      cases h
      refine am_iret hX hi rfl rfl (by decide +kernel) ?_
      exact ⟨_, rfl, rfl, rfl, rfl, rfl⟩
    · rw [if_neg c12] at h
      cases h
      obtain ⟨x9, hx9⟩ := hl
      cases hx9
noncomputable def R_X11_setPull_0 (I : am_I) (G : am_G) (x1 : Int32) (x2 : Int32) : Option ((Int32 ⊕ Nat) × am_I × am_G) := (if x1 < 0 then some (.inr 93, I, G) else (if x1 < (I 7 12) then (if x2 < 0 then some (.inr 71, I, G) else (if x2 ≤ (16 : Int32) then rb (R_X7_changePull_53 I G x1 x2) (fun r1 I1 G1 => some (.inl (gAt (I 54) 4 x1), I1, G1)) else some (.inr 71, I, G))) else some (.inr 93, I, G)))
set_option maxRecDepth 20000 in
set_option maxHeartbeats 4000000 in
theorem c_X11_setPull_0 (rd : Nat) (I : am_I) (G : am_G) (x1 : Int32) (x2 : Int32) {out : (Int32 ⊕ Nat) × am_I × am_G} (h : R_X11_setPull_0 I G x1 x2 = some out) (hl : ∃ x, out.1 = .inl x) : am_Ct mX11_setPull 6 gS [.ref 0, .int x1, .int x2] I G (gP rd) (pn9 out.1 out.2.1 out.2.2 (gP rd)) := by
  refine am_ofF (by decide +kernel) rfl (by decide) (by omega) (Nat.le_of_ble_eq_true rfl) (fun X ad hX hi => ?_)
  have hi : am_info X 11 cX11_setPull 4 false (Option.some Jvm.ClassFile.FieldType.int) 6 := hi
  show am_V X 0 0 _ _ ad (0, [(0, .ref 0), (1, .int x1), (2, .int x2)], [], I, G, (gP rd))
  unfold R_X11_setPull_0 at h
  refine am_blk 0 [(.iload_n 1, 1, 1, 0, .null)] (1, [(0, .ref 0), (1, .int x1), (2, .int x2)], [.int x1], I, G, (gP rd)) (True) hX hi (by decide +kernel) rfl trivial ?_
  refine am_if_lt (tgt := 15) hX hi (off := (14)) (by decide +kernel) (by decide) (fun c1 => ?_) (fun c1 => ?_)
  · rw [if_pos c1] at h
    cases h
    obtain ⟨x9, hx9⟩ := hl
    cases hx9
  · rw [if_neg c1] at h
    refine am_blk 4 [(.iload_n 1, 1, 1, 0, .null), (.aload_n 0, 1, 0, 0, .null), (.getfield 33, 3, 11, 2, .null), (.getfield 176, 3, 5, 12, .null)] (12, [(0, .ref 0), (1, .int x1), (2, .int x2)], [.int (I 7 12), .int x1], I, G, (gP rd)) (True) hX hi (by decide +kernel) rfl trivial ?_
    refine am_icmp_lt (tgt := 25) hX hi (off := (13)) (by decide +kernel) (by decide) (fun c12 => ?_) (fun c12 => ?_)
    · rw [if_pos c12] at h
      refine am_blk 25 [(.iload_n 2, 1, 2, 0, .null)] (26, [(0, .ref 0), (1, .int x1), (2, .int x2)], [.int x2], I, G, (gP rd)) (True) hX hi (by decide +kernel) rfl trivial ?_
      refine am_if_lt (tgt := 35) hX hi (off := (9)) (by decide +kernel) (by decide) (fun c26 => ?_) (fun c26 => ?_)
      · rw [if_pos c26] at h
        cases h
        obtain ⟨x9, hx9⟩ := hl
        cases hx9
      · rw [if_neg c26] at h
        refine am_blk 29 [(.iload_n 2, 1, 2, 0, .null), (.bipush (16), 2, 0, 0, .int (16 : Int32))] (32, [(0, .ref 0), (1, .int x1), (2, .int x2)], [.int (16 : Int32), .int x2], I, G, (gP rd)) (True) hX hi (by decide +kernel) rfl trivial ?_
        refine am_icmp_le (tgt := 45) hX hi (off := (13)) (by decide +kernel) (by decide) (fun c32 => ?_) (fun c32 => ?_)
        · rw [if_pos c32] at h
          refine am_blk 45 [(.aload_n 0, 1, 0, 0, .null), (.getfield 46, 3, 11, 4, .null), (.getfield 194, 3, 7, 2, .null), (.iload_n 1, 1, 1, 0, .null)] (53, [(0, .ref 0), (1, .int x1), (2, .int x2)], [.int x1, .ref 54], I, G, (gP rd)) (True) hX hi (by decide +kernel) rfl trivial ?_
          refine am_callS hX hi (M := mX0_at) (idx := 116) (d' := 1) (As := [.ref 54, .int x1]) (rest := []) mkX0_at msX0_at (by decide +kernel) (by decide +kernel) rfl ⟨by omega, by decide, Nat.le_of_ble_eq_true rfl⟩ rfl (c_at rfl (by decide) x1) ?_
          rintro r9 I9 G9 P9 ⟨e0, e1, e2, e3⟩
          rw [e0, e1, e2, e3]
          show am_V X 0 0 _ _ ad (56, [(0, .ref 0), (1, .int x1), (2, .int x2)], [.int (gAt (I 54) 4 x1)], I, G, (gP rd))
          refine am_blk 56 [(.istore_n 3, 1, 3, 0, .null), (.aload_n 0, 1, 0, 0, .null), (.getfield 46, 3, 11, 4, .null), (.iload_n 1, 1, 1, 0, .null), (.iload_n 2, 1, 2, 0, .null)] (63, [(0, .ref 0), (1, .int x1), (2, .int x2), (3, .int (gAt (I 54) 4 x1))], [.int x2, .int x1, .ref 53], I, G, (gP rd)) (True) hX hi (by decide +kernel) rfl trivial ?_
          obtain ⟨r1, I1, G1, hc, h⟩ := rb_some h
          refine am_callV hX hi (M := mX7_changePull) (idx := 197) (d' := 4) (b := 53) (ci := 7) (As := [.int x1, .int x2]) (rest := []) mkX7_changePull miX7_changePull mvX7_changePull (by decide +kernel) (by decide +kernel) rfl (by decide +kernel) rfl ⟨by omega, by decide, Nat.le_of_ble_eq_true rfl⟩ rfl (c_X7_changePull_53 _ I G x1 x2 hc) ?_
          rintro r9 I9 G9 P9 ⟨e0, e1, e2, e3⟩
          rw [e0, e1, e2, e3]
          show am_V X 0 0 _ _ ad (66, [(0, .ref 0), (1, .int x1), (2, .int x2), (3, .int (gAt (I 54) 4 x1))], [.int r1], I1, G1, (gP rd))
          refine am_blk 66 [(.pop, 1, 0, 0, .null), (.iload_n 3, 1, 3, 0, .null)] (68, [(0, .ref 0), (1, .int x1), (2, .int x2), (3, .int (gAt (I 54) 4 x1))], [.int (gAt (I 54) 4 x1)], I1, G1, (gP rd)) (True) hX hi (by decide +kernel) rfl trivial ?_
          cases h
          refine am_iret hX hi rfl rfl (by decide +kernel) ?_
          exact ⟨_, rfl, rfl, rfl, rfl, rfl⟩
        · rw [if_neg c32] at h
          cases h
          obtain ⟨x9, hx9⟩ := hl
          cases hx9
    · rw [if_neg c12] at h
      cases h
      obtain ⟨x9, hx9⟩ := hl
      cases hx9
noncomputable def R_X11_setSeed_0 (I : am_I) (G : am_G) (x1 : Int32) (x2 : Int32) : Option ((Int32 ⊕ Nat) × am_I × am_G) := (if x1 < 0 then some (.inr 93, I, G) else (if x1 < (I 7 11) then (if x2 < 0 then some (.inr 71, I, G) else (if x2 ≤ (999 : Int32) then some (.inl (gAt (I 56) 4 x1), (g_X7_changeSeed_53 I G x1 x2), G) else some (.inr 71, I, G))) else some (.inr 93, I, G)))
set_option maxRecDepth 20000 in
set_option maxHeartbeats 4000000 in
theorem c_X11_setSeed_0 (rd : Nat) (I : am_I) (G : am_G) (x1 : Int32) (x2 : Int32) {out : (Int32 ⊕ Nat) × am_I × am_G} (h : R_X11_setSeed_0 I G x1 x2 = some out) (hl : ∃ x, out.1 = .inl x) : am_Ct mX11_setSeed 6 gS [.ref 0, .int x1, .int x2] I G (gP rd) (pn9 out.1 out.2.1 out.2.2 (gP rd)) := by
  refine am_ofF (by decide +kernel) rfl (by decide) (by omega) (Nat.le_of_ble_eq_true rfl) (fun X ad hX hi => ?_)
  have hi : am_info X 11 cX11_setSeed 4 false (Option.some Jvm.ClassFile.FieldType.int) 6 := hi
  show am_V X 0 0 _ _ ad (0, [(0, .ref 0), (1, .int x1), (2, .int x2)], [], I, G, (gP rd))
  unfold R_X11_setSeed_0 at h
  refine am_blk 0 [(.iload_n 1, 1, 1, 0, .null)] (1, [(0, .ref 0), (1, .int x1), (2, .int x2)], [.int x1], I, G, (gP rd)) (True) hX hi (by decide +kernel) rfl trivial ?_
  refine am_if_lt (tgt := 15) hX hi (off := (14)) (by decide +kernel) (by decide) (fun c1 => ?_) (fun c1 => ?_)
  · rw [if_pos c1] at h
    cases h
    obtain ⟨x9, hx9⟩ := hl
    cases hx9
  · rw [if_neg c1] at h
    refine am_blk 4 [(.iload_n 1, 1, 1, 0, .null), (.aload_n 0, 1, 0, 0, .null), (.getfield 33, 3, 11, 2, .null), (.getfield 144, 3, 5, 11, .null)] (12, [(0, .ref 0), (1, .int x1), (2, .int x2)], [.int (I 7 11), .int x1], I, G, (gP rd)) (True) hX hi (by decide +kernel) rfl trivial ?_
    refine am_icmp_lt (tgt := 25) hX hi (off := (13)) (by decide +kernel) (by decide) (fun c12 => ?_) (fun c12 => ?_)
    · rw [if_pos c12] at h
      refine am_blk 25 [(.iload_n 2, 1, 2, 0, .null)] (26, [(0, .ref 0), (1, .int x1), (2, .int x2)], [.int x2], I, G, (gP rd)) (True) hX hi (by decide +kernel) rfl trivial ?_
      refine am_if_lt (tgt := 36) hX hi (off := (10)) (by decide +kernel) (by decide) (fun c26 => ?_) (fun c26 => ?_)
      · rw [if_pos c26] at h
        cases h
        obtain ⟨x9, hx9⟩ := hl
        cases hx9
      · rw [if_neg c26] at h
        refine am_blk 29 [(.iload_n 2, 1, 2, 0, .null), (.sipush (999), 3, 0, 0, .int (999 : Int32))] (33, [(0, .ref 0), (1, .int x1), (2, .int x2)], [.int (999 : Int32), .int x2], I, G, (gP rd)) (True) hX hi (by decide +kernel) rfl trivial ?_
        refine am_icmp_le (tgt := 46) hX hi (off := (13)) (by decide +kernel) (by decide) (fun c33 => ?_) (fun c33 => ?_)
        · rw [if_pos c33] at h
          refine am_blk 46 [(.aload_n 0, 1, 0, 0, .null), (.getfield 46, 3, 11, 4, .null), (.getfield 156, 3, 7, 4, .null), (.iload_n 1, 1, 1, 0, .null)] (54, [(0, .ref 0), (1, .int x1), (2, .int x2)], [.int x1, .ref 56], I, G, (gP rd)) (True) hX hi (by decide +kernel) rfl trivial ?_
          refine am_callS hX hi (M := mX0_at) (idx := 116) (d' := 1) (As := [.ref 56, .int x1]) (rest := []) mkX0_at msX0_at (by decide +kernel) (by decide +kernel) rfl ⟨by omega, by decide, Nat.le_of_ble_eq_true rfl⟩ rfl (c_at rfl (by decide) x1) ?_
          rintro r9 I9 G9 P9 ⟨e0, e1, e2, e3⟩
          rw [e0, e1, e2, e3]
          show am_V X 0 0 _ _ ad (57, [(0, .ref 0), (1, .int x1), (2, .int x2)], [.int (gAt (I 56) 4 x1)], I, G, (gP rd))
          refine am_blk 57 [(.istore_n 3, 1, 3, 0, .null), (.aload_n 0, 1, 0, 0, .null), (.getfield 46, 3, 11, 4, .null), (.iload_n 1, 1, 1, 0, .null), (.iload_n 2, 1, 2, 0, .null)] (64, [(0, .ref 0), (1, .int x1), (2, .int x2), (3, .int (gAt (I 56) 4 x1))], [.int x2, .int x1, .ref 53], I, G, (gP rd)) (True) hX hi (by decide +kernel) rfl trivial ?_
          refine am_callV hX hi (M := mX7_changeSeed) (idx := 203) (d' := 2) (b := 53) (ci := 7) (As := [.int x1, .int x2]) (rest := []) mkX7_changeSeed miX7_changeSeed mvX7_changeSeed (by decide +kernel) (by decide +kernel) rfl (by decide +kernel) rfl ⟨by omega, by decide, Nat.le_of_ble_eq_true rfl⟩ rfl (c_X7_changeSeed_53 _ I G x1 x2) ?_
          rintro r9 I9 G9 P9 ⟨e0, e1, e2, e3⟩
          rw [e0, e1, e2, e3]
          show am_V X 0 0 _ _ ad (67, [(0, .ref 0), (1, .int x1), (2, .int x2), (3, .int (gAt (I 56) 4 x1))], [.int (f_X7_changeSeed_53 I G x1 x2)], (g_X7_changeSeed_53 I G x1 x2), G, (gP rd))
          refine am_blk 67 [(.pop, 1, 0, 0, .null), (.iload_n 3, 1, 3, 0, .null)] (69, [(0, .ref 0), (1, .int x1), (2, .int x2), (3, .int (gAt (I 56) 4 x1))], [.int (gAt (I 56) 4 x1)], (g_X7_changeSeed_53 I G x1 x2), G, (gP rd)) (True) hX hi (by decide +kernel) rfl trivial ?_
          cases h
          refine am_iret hX hi rfl rfl (by decide +kernel) ?_
          exact ⟨_, rfl, rfl, rfl, rfl, rfl⟩
        · rw [if_neg c33] at h
          cases h
          obtain ⟨x9, hx9⟩ := hl
          cases hx9
    · rw [if_neg c12] at h
      cases h
      obtain ⟨x9, hx9⟩ := hl
      cases hx9
noncomputable def R_X11_drift_0 (I : am_I) (G : am_G) (x1 : Int32) (x2 : Int32) : Option ((Int32 ⊕ Nat) × am_I × am_G) := (if x1 < (-999 : Int32) then some (.inr 71, I, G) else (if (999 : Int32) < x1 then some (.inr 71, I, G) else (if x2 < (-999 : Int32) then some (.inr 71, I, G) else (if x2 ≤ (999 : Int32) then some (.inl ((((g_X7_changeDrift_53 I G x1 x2) 53 11) * ((g_X7_changeDrift_53 I G x1 x2) 7 9)) + ((g_X7_changeDrift_53 I G x1 x2) 53 10)), (g_X7_changeDrift_53 I G x1 x2), G) else some (.inr 71, I, G)))))
set_option maxRecDepth 20000 in
set_option maxHeartbeats 4000000 in
theorem c_X11_drift_0 (rd : Nat) (I : am_I) (G : am_G) (x1 : Int32) (x2 : Int32) {out : (Int32 ⊕ Nat) × am_I × am_G} (h : R_X11_drift_0 I G x1 x2 = some out) (hl : ∃ x, out.1 = .inl x) : am_Ct mX11_drift 6 gS [.ref 0, .int x1, .int x2] I G (gP rd) (pn9 out.1 out.2.1 out.2.2 (gP rd)) := by
  refine am_ofF (by decide +kernel) rfl (by decide) (by omega) (Nat.le_of_ble_eq_true rfl) (fun X ad hX hi => ?_)
  have hi : am_info X 11 cX11_drift 3 false (Option.some Jvm.ClassFile.FieldType.int) 6 := hi
  show am_V X 0 0 _ _ ad (0, [(0, .ref 0), (1, .int x1), (2, .int x2)], [], I, G, (gP rd))
  unfold R_X11_drift_0 at h
  refine am_blk 0 [(.iload_n 1, 1, 1, 0, .null), (.sipush (-999), 3, 0, 0, .int (-999 : Int32))] (4, [(0, .ref 0), (1, .int x1), (2, .int x2)], [.int (-999 : Int32), .int x1], I, G, (gP rd)) (True) hX hi (by decide +kernel) rfl trivial ?_
  refine am_icmp_lt (tgt := 28) hX hi (off := (24)) (by decide +kernel) (by decide) (fun c4 => ?_) (fun c4 => ?_)
  · rw [if_pos c4] at h
    cases h
    obtain ⟨x9, hx9⟩ := hl
    cases hx9
  · rw [if_neg c4] at h
    refine am_blk 7 [(.iload_n 1, 1, 1, 0, .null), (.sipush (999), 3, 0, 0, .int (999 : Int32))] (11, [(0, .ref 0), (1, .int x1), (2, .int x2)], [.int (999 : Int32), .int x1], I, G, (gP rd)) (True) hX hi (by decide +kernel) rfl trivial ?_
    refine am_icmp_gt (tgt := 28) hX hi (off := (17)) (by decide +kernel) (by decide) (fun c11 => ?_) (fun c11 => ?_)
    · rw [if_pos c11] at h
      cases h
      obtain ⟨x9, hx9⟩ := hl
      cases hx9
    · rw [if_neg c11] at h
      refine am_blk 14 [(.iload_n 2, 1, 2, 0, .null), (.sipush (-999), 3, 0, 0, .int (-999 : Int32))] (18, [(0, .ref 0), (1, .int x1), (2, .int x2)], [.int (-999 : Int32), .int x2], I, G, (gP rd)) (True) hX hi (by decide +kernel) rfl trivial ?_
      refine am_icmp_lt (tgt := 28) hX hi (off := (10)) (by decide +kernel) (by decide) (fun c18 => ?_) (fun c18 => ?_)
      · rw [if_pos c18] at h
        cases h
        obtain ⟨x9, hx9⟩ := hl
        cases hx9
      · rw [if_neg c18] at h
        refine am_blk 21 [(.iload_n 2, 1, 2, 0, .null), (.sipush (999), 3, 0, 0, .int (999 : Int32))] (25, [(0, .ref 0), (1, .int x1), (2, .int x2)], [.int (999 : Int32), .int x2], I, G, (gP rd)) (True) hX hi (by decide +kernel) rfl trivial ?_
        refine am_icmp_le (tgt := 38) hX hi (off := (13)) (by decide +kernel) (by decide) (fun c25 => ?_) (fun c25 => ?_)
        · rw [if_pos c25] at h
          refine am_blk 38 [(.aload_n 0, 1, 0, 0, .null), (.getfield 46, 3, 11, 4, .null), (.iload_n 1, 1, 1, 0, .null), (.iload_n 2, 1, 2, 0, .null)] (44, [(0, .ref 0), (1, .int x1), (2, .int x2)], [.int x2, .int x1, .ref 53], I, G, (gP rd)) (True) hX hi (by decide +kernel) rfl trivial ?_
          refine am_callV hX hi (M := mX7_changeDrift) (idx := 208) (d' := 3) (b := 53) (ci := 7) (As := [.int x1, .int x2]) (rest := []) mkX7_changeDrift miX7_changeDrift mvX7_changeDrift (by decide +kernel) (by decide +kernel) rfl (by decide +kernel) rfl ⟨by omega, by decide, Nat.le_of_ble_eq_true rfl⟩ rfl (c_X7_changeDrift_53 _ I G x1 x2) ?_
          rintro r9 I9 G9 P9 ⟨e0, e1, e2, e3⟩
          rw [e0, e1, e2, e3]
          show am_V X 0 0 _ _ ad (47, [(0, .ref 0), (1, .int x1), (2, .int x2)], [.int (f_X7_changeDrift_53 I G x1 x2)], (g_X7_changeDrift_53 I G x1 x2), G, (gP rd))
          refine am_blk 47 [(.pop, 1, 0, 0, .null), (.aload_n 0, 1, 0, 0, .null), (.getfield 46, 3, 11, 4, .null), (.getfield 211, 3, 7, 11, .null), (.aload_n 0, 1, 0, 0, .null), (.getfield 33, 3, 11, 2, .null), (.getfield 163, 3, 5, 9, .null), (.imul, 1, 0, 0, .null), (.aload_n 0, 1, 0, 0, .null), (.getfield 46, 3, 11, 4, .null), (.getfield 214, 3, 7, 10, .null), (.iadd, 1, 0, 0, .null)] (71, [(0, .ref 0), (1, .int x1), (2, .int x2)], [.int ((((g_X7_changeDrift_53 I G x1 x2) 53 11) * ((g_X7_changeDrift_53 I G x1 x2) 7 9)) + ((g_X7_changeDrift_53 I G x1 x2) 53 10))], (g_X7_changeDrift_53 I G x1 x2), G, (gP rd)) (True) hX hi (by decide +kernel) rfl trivial ?_
          cases h
          refine am_iret hX hi rfl rfl (by decide +kernel) ?_
          exact ⟨_, rfl, rfl, rfl, rfl, rfl⟩
        · rw [if_neg c25] at h
          cases h
          obtain ⟨x9, hx9⟩ := hl
          cases hx9
noncomputable def L_X11_dip_0 (n0 : Nat) (hd : Nat) (I : am_I) (G : am_G) (v1 : Int32) (v2 : Int32) (v3 : Int32) : Option ((Int32 ⊕ Nat) × am_I × am_G) := match n0 with
  | 0 => none
  | n + 1 => match hd with
    | _ => (if v1 ≤ v3 then some (.inl ((I 53 13) - v2), I, G) else rb (R_X7_dipOnce_53 I G ) (fun r101 I101 G101 => L_X11_dip_0 n 0 I101 G101 v1 v2 (v3 + (1 : Int32))))
theorem L_X11_dip_0_0 (n : Nat) (I : am_I) (G : am_G) (v1 : Int32) (v2 : Int32) (v3 : Int32) : L_X11_dip_0 (n + 1) 0 I G v1 v2 v3 = (if v1 ≤ v3 then some (.inl ((I 53 13) - v2), I, G) else rb (R_X7_dipOnce_53 I G ) (fun r101 I101 G101 => L_X11_dip_0 n 0 I101 G101 v1 v2 (v3 + (1 : Int32)))) := rfl
theorem L_X11_dip_0_z (h : Nat) (I : am_I) (G : am_G) (v1 : Int32) (v2 : Int32) (v3 : Int32) : L_X11_dip_0 0 h I G v1 v2 v3 = none := rfl
noncomputable def R_X11_dip_0 (I : am_I) (G : am_G) (x1 : Int32) : Option ((Int32 ⊕ Nat) × am_I × am_G) := (if x1 < (1 : Int32) then some (.inr 71, I, G) else (if x1 ≤ (20 : Int32) then L_X11_dip_0 FU 0 I G x1 (I 53 13) (0 : Int32) else some (.inr 71, I, G)))
set_option maxRecDepth 20000 in
set_option maxHeartbeats 4000000 in
theorem l_X11_dip_0 (rd : Nat) {X : am_X} {ad : Nat → Nat} (hX : am_okz X ad) (hi : am_info X 11 cX11_dip 4 false (Option.some Jvm.ClassFile.FieldType.int) 9) (n : Nat) : (∀ (I : am_I) (G : am_G) (v1 : Int32) (v2 : Int32) (v3 : Int32) (out : (Int32 ⊕ Nat) × am_I × am_G), L_X11_dip_0 n 0 I G v1 v2 v3 = some out → (∃ x, out.1 = .inl x) → am_V X 0 0 (am_Rt X gS ad (pn9 out.1 out.2.1 out.2.2 (gP rd))) gS ad (31, [(0, .ref 0), (1, .int v1), (2, .int v2), (3, .int v3)], [], I, G, (gP rd))) := by
  induction n with
  | zero => exact fun I G v1 v2 v3 out h _ => by rw [L_X11_dip_0_z] at h; cases h
  | succ n ih =>
    · intro I G v1 v2 v3 out h hl
      rw [L_X11_dip_0_0] at h
      refine am_blk 31 [(.iload_n 3, 1, 3, 0, .null), (.iload_n 1, 1, 1, 0, .null)] (33, [(0, .ref 0), (1, .int v1), (2, .int v2), (3, .int v3)], [.int v1, .int v3], I, G, (gP rd)) (True) hX hi (by decide +kernel) rfl trivial ?_
      refine am_icmp_ge (tgt := 49) hX hi (off := (16)) (by decide +kernel) (by decide) (fun c33 => ?_) (fun c33 => ?_)
      · rw [if_pos c33] at h
        refine am_blk 49 [(.aload_n 0, 1, 0, 0, .null), (.getfield 46, 3, 11, 4, .null), (.getfield 219, 3, 7, 13, .null), (.iload_n 2, 1, 2, 0, .null), (.isub, 1, 0, 0, .null)] (58, [(0, .ref 0), (1, .int v1), (2, .int v2), (3, .int v3)], [.int ((I 53 13) - v2)], I, G, (gP rd)) (True) hX hi (by decide +kernel) rfl trivial ?_
        cases h
        refine am_iret hX hi rfl rfl (by decide +kernel) ?_
        exact ⟨_, rfl, rfl, rfl, rfl, rfl⟩
      · rw [if_neg c33] at h
        refine am_blk 36 [(.aload_n 0, 1, 0, 0, .null), (.getfield 46, 3, 11, 4, .null)] (40, [(0, .ref 0), (1, .int v1), (2, .int v2), (3, .int v3)], [.ref 53], I, G, (gP rd)) (True) hX hi (by decide +kernel) rfl trivial ?_
        obtain ⟨r101, I101, G101, hc, h⟩ := rb_some h
        refine am_callV hX hi (M := mX7_dipOnce) (idx := 222) (d' := 8) (b := 53) (ci := 7) (As := []) (rest := []) mkX7_dipOnce miX7_dipOnce mvX7_dipOnce (by decide +kernel) (by decide +kernel) rfl (by decide +kernel) rfl ⟨by omega, by decide, Nat.le_of_ble_eq_true rfl⟩ rfl (c_X7_dipOnce_53 _ I G  hc) ?_
        rintro r9 I9 G9 P9 ⟨e0, e1, e2, e3⟩
        rw [e0, e1, e2, e3]
        show am_V X 0 0 _ _ ad (43, [(0, .ref 0), (1, .int v1), (2, .int v2), (3, .int v3)], [], I101, G101, (gP rd))
        refine am_blk 43 [(.iinc 3 (1), 3, 3, 0, .int (1 : Int32)), (.goto (-15), 3, 0, 31, .null)] (31, [(0, .ref 0), (1, .int v1), (2, .int v2), (3, .int (v3 + (1 : Int32)))], [], I101, G101, (gP rd)) (True) hX hi (by decide +kernel) rfl trivial ?_
        exact ih _ _ _ _ _ _ h hl
set_option maxRecDepth 20000 in
set_option maxHeartbeats 4000000 in
theorem c_X11_dip_0 (rd : Nat) (I : am_I) (G : am_G) (x1 : Int32) {out : (Int32 ⊕ Nat) × am_I × am_G} (h : R_X11_dip_0 I G x1 = some out) (hl : ∃ x, out.1 = .inl x) : am_Ct mX11_dip 9 gS [.ref 0, .int x1] I G (gP rd) (pn9 out.1 out.2.1 out.2.2 (gP rd)) := by
  refine am_ofF (by decide +kernel) rfl (by decide) (by omega) (Nat.le_of_ble_eq_true rfl) (fun X ad hX hi => ?_)
  have hi : am_info X 11 cX11_dip 4 false (Option.some Jvm.ClassFile.FieldType.int) 9 := hi
  show am_V X 0 0 _ _ ad (0, [(0, .ref 0), (1, .int x1)], [], I, G, (gP rd))
  unfold R_X11_dip_0 at h
  refine am_blk 0 [(.iload_n 1, 1, 1, 0, .null), (.iconst (1), 1, 0, 0, .int (1 : Int32))] (2, [(0, .ref 0), (1, .int x1)], [.int (1 : Int32), .int x1], I, G, (gP rd)) (True) hX hi (by decide +kernel) rfl trivial ?_
  refine am_icmp_lt (tgt := 11) hX hi (off := (9)) (by decide +kernel) (by decide) (fun c2 => ?_) (fun c2 => ?_)
  · rw [if_pos c2] at h
    cases h
    obtain ⟨x9, hx9⟩ := hl
    cases hx9
  · rw [if_neg c2] at h
    refine am_blk 5 [(.iload_n 1, 1, 1, 0, .null), (.bipush (20), 2, 0, 0, .int (20 : Int32))] (8, [(0, .ref 0), (1, .int x1)], [.int (20 : Int32), .int x1], I, G, (gP rd)) (True) hX hi (by decide +kernel) rfl trivial ?_
    refine am_icmp_le (tgt := 21) hX hi (off := (13)) (by decide +kernel) (by decide) (fun c8 => ?_) (fun c8 => ?_)
    · rw [if_pos c8] at h
      refine am_blk 21 [(.aload_n 0, 1, 0, 0, .null), (.getfield 46, 3, 11, 4, .null), (.getfield 219, 3, 7, 13, .null), (.istore_n 2, 1, 2, 0, .null), (.iconst (0), 1, 0, 0, .int (0 : Int32)), (.istore_n 3, 1, 3, 0, .null)] (31, [(0, .ref 0), (1, .int x1), (2, .int (I 53 13)), (3, .int (0 : Int32))], [], I, G, (gP rd)) (True) hX hi (by decide +kernel) rfl trivial ?_
      exact (l_X11_dip_0 rd hX hi FU) _ _ _ _ _ _ h hl
    · rw [if_neg c8] at h
      cases h
      obtain ⟨x9, hx9⟩ := hl
      cases hx9
noncomputable def L_X11_foresee_0 (n0 : Nat) (hd : Nat) (I : am_I) (G : am_G) (v1 : Int32) (v2 : Int32) (v3 : Int32) : Option ((Int32 ⊕ Nat) × am_I × am_G) := match n0 with
  | 0 => none
  | n + 1 => match hd with
    | _ => (if v1 ≤ v3 then (if (10 : Int32) < v2 then rb (R_X7_tell_66 I G v2) (fun r101 I101 G101 => some (.inl r101, I101, G101)) else rb (R_X7_group_66 I G ) (fun r102 I102 G102 => rb (R_X7_tell_66 I102 G102 v2) (fun r103 I103 G103 => some (.inl r103, I103, G103)))) else rb (R_X7_dipOnce_66 I G ) (fun r104 I104 G104 => L_X11_foresee_0 n 0 I104 G104 v1 v2 (v3 + (1 : Int32))))
theorem L_X11_foresee_0_0 (n : Nat) (I : am_I) (G : am_G) (v1 : Int32) (v2 : Int32) (v3 : Int32) : L_X11_foresee_0 (n + 1) 0 I G v1 v2 v3 = (if v1 ≤ v3 then (if (10 : Int32) < v2 then rb (R_X7_tell_66 I G v2) (fun r101 I101 G101 => some (.inl r101, I101, G101)) else rb (R_X7_group_66 I G ) (fun r102 I102 G102 => rb (R_X7_tell_66 I102 G102 v2) (fun r103 I103 G103 => some (.inl r103, I103, G103)))) else rb (R_X7_dipOnce_66 I G ) (fun r104 I104 G104 => L_X11_foresee_0 n 0 I104 G104 v1 v2 (v3 + (1 : Int32)))) := rfl
theorem L_X11_foresee_0_z (h : Nat) (I : am_I) (G : am_G) (v1 : Int32) (v2 : Int32) (v3 : Int32) : L_X11_foresee_0 0 h I G v1 v2 v3 = none := rfl
noncomputable def R_X11_foresee_0 (I : am_I) (G : am_G) (x1 : Int32) (x2 : Int32) : Option ((Int32 ⊕ Nat) × am_I × am_G) := (if x1 < (1 : Int32) then some (.inr 71, I, G) else (if x1 ≤ (20 : Int32) then (if x2 < (7 : Int32) then some (.inr 93, I, G) else (if x2 ≤ (13 : Int32) then rb (R_X7_take_66_53 I G ) (fun r1 I1 G1 => L_X11_foresee_0 FU 0 I1 G1 x1 x2 (0 : Int32)) else some (.inr 93, I, G))) else some (.inr 71, I, G)))
set_option maxRecDepth 20000 in
set_option maxHeartbeats 4000000 in
theorem l_X11_foresee_0 (rd : Nat) {X : am_X} {ad : Nat → Nat} (hX : am_okz X ad) (hi : am_info X 11 cX11_foresee 4 false (Option.some Jvm.ClassFile.FieldType.int) 9) (n : Nat) : (∀ (I : am_I) (G : am_G) (v1 : Int32) (v2 : Int32) (v3 : Int32) (out : (Int32 ⊕ Nat) × am_I × am_G), L_X11_foresee_0 n 0 I G v1 v2 v3 = some out → (∃ x, out.1 = .inl x) → am_V X 0 0 (am_Rt X gS ad (pn9 out.1 out.2.1 out.2.2 (gP rd))) gS ad (56, [(0, .ref 0), (1, .int v1), (2, .int v2), (3, .int v3)], [], I, G, (gP rd))) := by
  induction n with
  | zero => exact fun I G v1 v2 v3 out h _ => by rw [L_X11_foresee_0_z] at h; cases h
  | succ n ih =>
    · intro I G v1 v2 v3 out h hl
      rw [L_X11_foresee_0_0] at h
      refine am_blk 56 [(.iload_n 3, 1, 3, 0, .null), (.iload_n 1, 1, 1, 0, .null)] (58, [(0, .ref 0), (1, .int v1), (2, .int v2), (3, .int v3)], [.int v1, .int v3], I, G, (gP rd)) (True) hX hi (by decide +kernel) rfl trivial ?_
      refine am_icmp_ge (tgt := 74) hX hi (off := (16)) (by decide +kernel) (by decide) (fun c58 => ?_) (fun c58 => ?_)
      · rw [if_pos c58] at h
        refine am_blk 74 [(.iload_n 2, 1, 2, 0, .null), (.bipush (10), 2, 0, 0, .int (10 : Int32))] (77, [(0, .ref 0), (1, .int v1), (2, .int v2), (3, .int v3)], [.int (10 : Int32), .int v2], I, G, (gP rd)) (True) hX hi (by decide +kernel) rfl trivial ?_
        refine am_icmp_gt (tgt := 87) hX hi (off := (10)) (by decide +kernel) (by decide) (fun c77 => ?_) (fun c77 => ?_)
        · rw [if_pos c77] at h
          refine am_blk 87 [(.aload_n 0, 1, 0, 0, .null), (.getfield 50, 3, 11, 5, .null), (.iload_n 2, 1, 2, 0, .null)] (92, [(0, .ref 0), (1, .int v1), (2, .int v2), (3, .int v3)], [.int v2, .ref 66], I, G, (gP rd)) (True) hX hi (by decide +kernel) rfl trivial ?_
          obtain ⟨r101, I101, G101, hc, h⟩ := rb_some h
          refine am_callV hX hi (M := mX7_tell) (idx := 101) (d' := 3) (b := 66) (ci := 7) (As := [.int v2]) (rest := []) mkX7_tell miX7_tell mvX7_tell (by decide +kernel) (by decide +kernel) rfl (by decide +kernel) rfl ⟨by omega, by decide, Nat.le_of_ble_eq_true rfl⟩ rfl (c_X7_tell_66 _ I G v2 hc) ?_
          rintro r9 I9 G9 P9 ⟨e0, e1, e2, e3⟩
          rw [e0, e1, e2, e3]
          show am_V X 0 0 _ _ ad (95, [(0, .ref 0), (1, .int v1), (2, .int v2), (3, .int v3)], [.int r101], I101, G101, (gP rd))
          cases h
          refine am_iret hX hi rfl rfl (by decide +kernel) ?_
          exact ⟨_, rfl, rfl, rfl, rfl, rfl⟩
        · rw [if_neg c77] at h
          refine am_blk 80 [(.aload_n 0, 1, 0, 0, .null), (.getfield 50, 3, 11, 5, .null)] (84, [(0, .ref 0), (1, .int v1), (2, .int v2), (3, .int v3)], [.ref 66], I, G, (gP rd)) (True) hX hi (by decide +kernel) rfl trivial ?_
          obtain ⟨r102, I102, G102, hc, h⟩ := rb_some h
          refine am_callV hX hi (M := mX7_group) (idx := 98) (d' := 8) (b := 66) (ci := 7) (As := []) (rest := []) mkX7_group miX7_group mvX7_group (by decide +kernel) (by decide +kernel) rfl (by decide +kernel) rfl ⟨by omega, by decide, Nat.le_of_ble_eq_true rfl⟩ rfl (c_X7_group_66 _ I G  hc) ?_
          rintro r9 I9 G9 P9 ⟨e0, e1, e2, e3⟩
          rw [e0, e1, e2, e3]
          show am_V X 0 0 _ _ ad (87, [(0, .ref 0), (1, .int v1), (2, .int v2), (3, .int v3)], [], I102, G102, (gP rd))
          refine am_blk 87 [(.aload_n 0, 1, 0, 0, .null), (.getfield 50, 3, 11, 5, .null), (.iload_n 2, 1, 2, 0, .null)] (92, [(0, .ref 0), (1, .int v1), (2, .int v2), (3, .int v3)], [.int v2, .ref 66], I102, G102, (gP rd)) (True) hX hi (by decide +kernel) rfl trivial ?_
          obtain ⟨r103, I103, G103, hc, h⟩ := rb_some h
          refine am_callV hX hi (M := mX7_tell) (idx := 101) (d' := 3) (b := 66) (ci := 7) (As := [.int v2]) (rest := []) mkX7_tell miX7_tell mvX7_tell (by decide +kernel) (by decide +kernel) rfl (by decide +kernel) rfl ⟨by omega, by decide, Nat.le_of_ble_eq_true rfl⟩ rfl (c_X7_tell_66 _ I102 G102 v2 hc) ?_
          rintro r9 I9 G9 P9 ⟨e0, e1, e2, e3⟩
          rw [e0, e1, e2, e3]
          show am_V X 0 0 _ _ ad (95, [(0, .ref 0), (1, .int v1), (2, .int v2), (3, .int v3)], [.int r103], I103, G103, (gP rd))
          cases h
          refine am_iret hX hi rfl rfl (by decide +kernel) ?_
          exact ⟨_, rfl, rfl, rfl, rfl, rfl⟩
      · rw [if_neg c58] at h
        refine am_blk 61 [(.aload_n 0, 1, 0, 0, .null), (.getfield 50, 3, 11, 5, .null)] (65, [(0, .ref 0), (1, .int v1), (2, .int v2), (3, .int v3)], [.ref 66], I, G, (gP rd)) (True) hX hi (by decide +kernel) rfl trivial ?_
        obtain ⟨r104, I104, G104, hc, h⟩ := rb_some h
        refine am_callV hX hi (M := mX7_dipOnce) (idx := 222) (d' := 8) (b := 66) (ci := 7) (As := []) (rest := []) mkX7_dipOnce miX7_dipOnce mvX7_dipOnce (by decide +kernel) (by decide +kernel) rfl (by decide +kernel) rfl ⟨by omega, by decide, Nat.le_of_ble_eq_true rfl⟩ rfl (c_X7_dipOnce_66 _ I G  hc) ?_
        rintro r9 I9 G9 P9 ⟨e0, e1, e2, e3⟩
        rw [e0, e1, e2, e3]
        show am_V X 0 0 _ _ ad (68, [(0, .ref 0), (1, .int v1), (2, .int v2), (3, .int v3)], [], I104, G104, (gP rd))
        refine am_blk 68 [(.iinc 3 (1), 3, 3, 0, .int (1 : Int32)), (.goto (-15), 3, 0, 56, .null)] (56, [(0, .ref 0), (1, .int v1), (2, .int v2), (3, .int (v3 + (1 : Int32)))], [], I104, G104, (gP rd)) (True) hX hi (by decide +kernel) rfl trivial ?_
        exact ih _ _ _ _ _ _ h hl
set_option maxRecDepth 20000 in
set_option maxHeartbeats 4000000 in
theorem c_X11_foresee_0 (rd : Nat) (I : am_I) (G : am_G) (x1 : Int32) (x2 : Int32) {out : (Int32 ⊕ Nat) × am_I × am_G} (h : R_X11_foresee_0 I G x1 x2 = some out) (hl : ∃ x, out.1 = .inl x) : am_Ct mX11_foresee 9 gS [.ref 0, .int x1, .int x2] I G (gP rd) (pn9 out.1 out.2.1 out.2.2 (gP rd)) := by
  refine am_ofF (by decide +kernel) rfl (by decide) (by omega) (Nat.le_of_ble_eq_true rfl) (fun X ad hX hi => ?_)
  have hi : am_info X 11 cX11_foresee 4 false (Option.some Jvm.ClassFile.FieldType.int) 9 := hi
  show am_V X 0 0 _ _ ad (0, [(0, .ref 0), (1, .int x1), (2, .int x2)], [], I, G, (gP rd))
  unfold R_X11_foresee_0 at h
  refine am_blk 0 [(.iload_n 1, 1, 1, 0, .null), (.iconst (1), 1, 0, 0, .int (1 : Int32))] (2, [(0, .ref 0), (1, .int x1), (2, .int x2)], [.int (1 : Int32), .int x1], I, G, (gP rd)) (True) hX hi (by decide +kernel) rfl trivial ?_
  refine am_icmp_lt (tgt := 11) hX hi (off := (9)) (by decide +kernel) (by decide) (fun c2 => ?_) (fun c2 => ?_)
  · rw [if_pos c2] at h
    cases h
    obtain ⟨x9, hx9⟩ := hl
    cases hx9
  · rw [if_neg c2] at h
    refine am_blk 5 [(.iload_n 1, 1, 1, 0, .null), (.bipush (20), 2, 0, 0, .int (20 : Int32))] (8, [(0, .ref 0), (1, .int x1), (2, .int x2)], [.int (20 : Int32), .int x1], I, G, (gP rd)) (True) hX hi (by decide +kernel) rfl trivial ?_
    refine am_icmp_le (tgt := 21) hX hi (off := (13)) (by decide +kernel) (by decide) (fun c8 => ?_) (fun c8 => ?_)
    · rw [if_pos c8] at h
      refine am_blk 21 [(.iload_n 2, 1, 2, 0, .null), (.bipush (7), 2, 0, 0, .int (7 : Int32))] (24, [(0, .ref 0), (1, .int x1), (2, .int x2)], [.int (7 : Int32), .int x2], I, G, (gP rd)) (True) hX hi (by decide +kernel) rfl trivial ?_
      refine am_icmp_lt (tgt := 33) hX hi (off := (9)) (by decide +kernel) (by decide) (fun c24 => ?_) (fun c24 => ?_)
      · rw [if_pos c24] at h
        cases h
        obtain ⟨x9, hx9⟩ := hl
        cases hx9
      · rw [if_neg c24] at h
        refine am_blk 27 [(.iload_n 2, 1, 2, 0, .null), (.bipush (13), 2, 0, 0, .int (13 : Int32))] (30, [(0, .ref 0), (1, .int x1), (2, .int x2)], [.int (13 : Int32), .int x2], I, G, (gP rd)) (True) hX hi (by decide +kernel) rfl trivial ?_
        refine am_icmp_le (tgt := 43) hX hi (off := (13)) (by decide +kernel) (by decide) (fun c30 => ?_) (fun c30 => ?_)
        · rw [if_pos c30] at h
          refine am_blk 43 [(.aload_n 0, 1, 0, 0, .null), (.getfield 50, 3, 11, 5, .null), (.aload_n 0, 1, 0, 0, .null), (.getfield 46, 3, 11, 4, .null)] (51, [(0, .ref 0), (1, .int x1), (2, .int x2)], [.ref 53, .ref 66], I, G, (gP rd)) (True) hX hi (by decide +kernel) rfl trivial ?_
          obtain ⟨r1, I1, G1, hc, h⟩ := rb_some h
          refine am_callV hX hi (M := mX7_take) (idx := 227) (d' := 5) (b := 66) (ci := 7) (As := [.ref 53]) (rest := []) mkX7_take miX7_take mvX7_take (by decide +kernel) (by decide +kernel) rfl (by decide +kernel) rfl ⟨by omega, by decide, Nat.le_of_ble_eq_true rfl⟩ rfl (c_X7_take_66_53 _ I G  hc) ?_
          rintro r9 I9 G9 P9 ⟨e0, e1, e2, e3⟩
          rw [e0, e1, e2, e3]
          show am_V X 0 0 _ _ ad (54, [(0, .ref 0), (1, .int x1), (2, .int x2)], [], I1, G1, (gP rd))
          refine am_blk 54 [(.iconst (0), 1, 0, 0, .int (0 : Int32)), (.istore_n 3, 1, 3, 0, .null)] (56, [(0, .ref 0), (1, .int x1), (2, .int x2), (3, .int (0 : Int32))], [], I1, G1, (gP rd)) (True) hX hi (by decide +kernel) rfl trivial ?_
          exact (l_X11_foresee_0 rd hX hi FU) _ _ _ _ _ _ h hl
        · rw [if_neg c30] at h
          cases h
          obtain ⟨x9, hx9⟩ := hl
          cases hx9
    · rw [if_neg c8] at h
      cases h
      obtain ⟨x9, hx9⟩ := hl
      cases hx9
noncomputable def L_X11_until_0 (n0 : Nat) (hd : Nat) (I : am_I) (G : am_G) (v1 : Int32) (v2 : Int32) (v3 : Int32) (v4 : Int32) (v5 : Int32) : Option ((Int32 ⊕ Nat) × am_I × am_G) := match n0 with
  | 0 => none
  | n + 1 => match hd with
    | _ => (if (20 : Int32) < v5 then some (.inl (-1 : Int32), I, G) else (if v5 ≤ 0 then rb (R_X7_refresh_66 I G ) (fun r101 I101 G101 => (if (gAt (I101 71) 576 v4) = v3 then some (.inl v5, I101, G101) else L_X11_until_0 n 0 I101 G101 v1 v2 v3 v4 (v5 + (1 : Int32)))) else rb (R_X7_dipOnce_66 I G ) (fun r102 I102 G102 => rb (R_X7_refresh_66 I102 G102 ) (fun r103 I103 G103 => (if (gAt (I103 71) 576 v4) = v3 then some (.inl v5, I103, G103) else L_X11_until_0 n 0 I103 G103 v1 v2 v3 v4 (v5 + (1 : Int32)))))))
theorem L_X11_until_0_0 (n : Nat) (I : am_I) (G : am_G) (v1 : Int32) (v2 : Int32) (v3 : Int32) (v4 : Int32) (v5 : Int32) : L_X11_until_0 (n + 1) 0 I G v1 v2 v3 v4 v5 = (if (20 : Int32) < v5 then some (.inl (-1 : Int32), I, G) else (if v5 ≤ 0 then rb (R_X7_refresh_66 I G ) (fun r101 I101 G101 => (if (gAt (I101 71) 576 v4) = v3 then some (.inl v5, I101, G101) else L_X11_until_0 n 0 I101 G101 v1 v2 v3 v4 (v5 + (1 : Int32)))) else rb (R_X7_dipOnce_66 I G ) (fun r102 I102 G102 => rb (R_X7_refresh_66 I102 G102 ) (fun r103 I103 G103 => (if (gAt (I103 71) 576 v4) = v3 then some (.inl v5, I103, G103) else L_X11_until_0 n 0 I103 G103 v1 v2 v3 v4 (v5 + (1 : Int32))))))) := rfl
theorem L_X11_until_0_z (h : Nat) (I : am_I) (G : am_G) (v1 : Int32) (v2 : Int32) (v3 : Int32) (v4 : Int32) (v5 : Int32) : L_X11_until_0 0 h I G v1 v2 v3 v4 v5 = none := rfl
noncomputable def R_X11_until_0 (I : am_I) (G : am_G) (x1 : Int32) (x2 : Int32) (x3 : Int32) : Option ((Int32 ⊕ Nat) × am_I × am_G) := (if x3 < 0 then some (.inr 93, I, G) else (if x3 ≤ (I 7 13) then rb (R_X7_take_66_53 I G ) (fun r1 I1 G1 => L_X11_until_0 FU 0 I1 G1 x1 x2 x3 (f_X5_spot_7 I G x1 x2) (0 : Int32)) else some (.inr 93, I, G)))
set_option maxRecDepth 20000 in
set_option maxHeartbeats 4000000 in
theorem l_X11_until_0 (rd : Nat) {X : am_X} {ad : Nat → Nat} (hX : am_okz X ad) (hi : am_info X 11 cX11_until 6 false (Option.some Jvm.ClassFile.FieldType.int) 9) (n : Nat) : (∀ (I : am_I) (G : am_G) (v1 : Int32) (v2 : Int32) (v3 : Int32) (v4 : Int32) (v5 : Int32) (out : (Int32 ⊕ Nat) × am_I × am_G), L_X11_until_0 n 0 I G v1 v2 v3 v4 v5 = some out → (∃ x, out.1 = .inl x) → am_V X 0 0 (am_Rt X gS ad (pn9 out.1 out.2.1 out.2.2 (gP rd))) gS ad (50, [(0, .ref 0), (1, .int v1), (2, .int v2), (3, .int v3), (4, .int v4), (5, .int v5)], [], I, G, (gP rd))) := by
  induction n with
  | zero => exact fun I G v1 v2 v3 v4 v5 out h _ => by rw [L_X11_until_0_z] at h; cases h
  | succ n ih =>
    · intro I G v1 v2 v3 v4 v5 out h hl
      rw [L_X11_until_0_0] at h
      refine am_blk 50 [(.iload 5, 2, 5, 0, .null), (.bipush (20), 2, 0, 0, .int (20 : Int32))] (54, [(0, .ref 0), (1, .int v1), (2, .int v2), (3, .int v3), (4, .int v4), (5, .int v5)], [.int (20 : Int32), .int v5], I, G, (gP rd)) (True) hX hi (by decide +kernel) rfl trivial ?_
      refine am_icmp_gt (tgt := 101) hX hi (off := (47)) (by decide +kernel) (by decide) (fun c54 => ?_) (fun c54 => ?_)
      · rw [if_pos c54] at h
        refine am_blk 101 [(.iconst (-1), 1, 0, 0, .int (-1 : Int32))] (102, [(0, .ref 0), (1, .int v1), (2, .int v2), (3, .int v3), (4, .int v4), (5, .int v5)], [.int (-1 : Int32)], I, G, (gP rd)) (True) hX hi (by decide +kernel) rfl trivial ?_
        cases h
        refine am_iret hX hi rfl rfl (by decide +kernel) ?_
        exact ⟨_, rfl, rfl, rfl, rfl, rfl⟩
      · rw [if_neg c54] at h
        refine am_blk 57 [(.iload 5, 2, 5, 0, .null)] (59, [(0, .ref 0), (1, .int v1), (2, .int v2), (3, .int v3), (4, .int v4), (5, .int v5)], [.int v5], I, G, (gP rd)) (True) hX hi (by decide +kernel) rfl trivial ?_
        refine am_if_le (tgt := 69) hX hi (off := (10)) (by decide +kernel) (by decide) (fun c59 => ?_) (fun c59 => ?_)
        · rw [if_pos c59] at h
          refine am_blk 69 [(.aload_n 0, 1, 0, 0, .null), (.getfield 50, 3, 11, 5, .null)] (73, [(0, .ref 0), (1, .int v1), (2, .int v2), (3, .int v3), (4, .int v4), (5, .int v5)], [.ref 66], I, G, (gP rd)) (True) hX hi (by decide +kernel) rfl trivial ?_
          obtain ⟨r101, I101, G101, hc, h⟩ := rb_some h
          refine am_callV hX hi (M := mX7_refresh) (idx := 105) (d' := 7) (b := 66) (ci := 7) (As := []) (rest := []) mkX7_refresh miX7_refresh mvX7_refresh (by decide +kernel) (by decide +kernel) rfl (by decide +kernel) rfl ⟨by omega, by decide, Nat.le_of_ble_eq_true rfl⟩ rfl (c_X7_refresh_66 _ I G  hc) ?_
          rintro r9 I9 G9 P9 ⟨e0, e1, e2, e3⟩
          rw [e0, e1, e2, e3]
          show am_V X 0 0 _ _ ad (76, [(0, .ref 0), (1, .int v1), (2, .int v2), (3, .int v3), (4, .int v4), (5, .int v5)], [], I101, G101, (gP rd))
          refine am_blk 76 [(.aload_n 0, 1, 0, 0, .null), (.getfield 50, 3, 11, 5, .null), (.getfield 122, 3, 7, 6, .null), (.iload 4, 2, 4, 0, .null)] (85, [(0, .ref 0), (1, .int v1), (2, .int v2), (3, .int v3), (4, .int v4), (5, .int v5)], [.int v4, .ref 71], I101, G101, (gP rd)) (True) hX hi (by decide +kernel) rfl trivial ?_
          refine am_callS hX hi (M := mX0_at) (idx := 116) (d' := 1) (As := [.ref 71, .int v4]) (rest := []) mkX0_at msX0_at (by decide +kernel) (by decide +kernel) rfl ⟨by omega, by decide, Nat.le_of_ble_eq_true rfl⟩ rfl (c_at rfl (by decide) v4) ?_
          rintro r9 I9 G9 P9 ⟨e0, e1, e2, e3⟩
          rw [e0, e1, e2, e3]
          show am_V X 0 0 _ _ ad (88, [(0, .ref 0), (1, .int v1), (2, .int v2), (3, .int v3), (4, .int v4), (5, .int v5)], [.int (gAt (I101 71) 576 v4)], I101, G101, (gP rd))
          refine am_blk 88 [(.iload_n 3, 1, 3, 0, .null)] (89, [(0, .ref 0), (1, .int v1), (2, .int v2), (3, .int v3), (4, .int v4), (5, .int v5)], [.int v3, .int (gAt (I101 71) 576 v4)], I101, G101, (gP rd)) (True) hX hi (by decide +kernel) rfl trivial ?_
          refine am_icmp_ne (tgt := 95) hX hi (off := (6)) (by decide +kernel) (by decide) (fun c89 => ?_) (fun c89 => ?_)
          · rw [if_neg c89] at h
            refine am_blk 95 [(.iinc 5 (1), 3, 5, 0, .int (1 : Int32)), (.goto (-48), 3, 0, 50, .null)] (50, [(0, .ref 0), (1, .int v1), (2, .int v2), (3, .int v3), (4, .int v4), (5, .int (v5 + (1 : Int32)))], [], I101, G101, (gP rd)) (True) hX hi (by decide +kernel) rfl trivial ?_
            exact ih _ _ _ _ _ _ _ _ h hl
          · rw [if_pos c89] at h
            refine am_blk 92 [(.iload 5, 2, 5, 0, .null)] (94, [(0, .ref 0), (1, .int v1), (2, .int v2), (3, .int v3), (4, .int v4), (5, .int v5)], [.int v5], I101, G101, (gP rd)) (True) hX hi (by decide +kernel) rfl trivial ?_
            cases h
            refine am_iret hX hi rfl rfl (by decide +kernel) ?_
            exact ⟨_, rfl, rfl, rfl, rfl, rfl⟩
        · rw [if_neg c59] at h
          refine am_blk 62 [(.aload_n 0, 1, 0, 0, .null), (.getfield 50, 3, 11, 5, .null)] (66, [(0, .ref 0), (1, .int v1), (2, .int v2), (3, .int v3), (4, .int v4), (5, .int v5)], [.ref 66], I, G, (gP rd)) (True) hX hi (by decide +kernel) rfl trivial ?_
          obtain ⟨r102, I102, G102, hc, h⟩ := rb_some h
          refine am_callV hX hi (M := mX7_dipOnce) (idx := 222) (d' := 8) (b := 66) (ci := 7) (As := []) (rest := []) mkX7_dipOnce miX7_dipOnce mvX7_dipOnce (by decide +kernel) (by decide +kernel) rfl (by decide +kernel) rfl ⟨by omega, by decide, Nat.le_of_ble_eq_true rfl⟩ rfl (c_X7_dipOnce_66 _ I G  hc) ?_
          rintro r9 I9 G9 P9 ⟨e0, e1, e2, e3⟩
          rw [e0, e1, e2, e3]
          show am_V X 0 0 _ _ ad (69, [(0, .ref 0), (1, .int v1), (2, .int v2), (3, .int v3), (4, .int v4), (5, .int v5)], [], I102, G102, (gP rd))
          refine am_blk 69 [(.aload_n 0, 1, 0, 0, .null), (.getfield 50, 3, 11, 5, .null)] (73, [(0, .ref 0), (1, .int v1), (2, .int v2), (3, .int v3), (4, .int v4), (5, .int v5)], [.ref 66], I102, G102, (gP rd)) (True) hX hi (by decide +kernel) rfl trivial ?_
          obtain ⟨r103, I103, G103, hc, h⟩ := rb_some h
          refine am_callV hX hi (M := mX7_refresh) (idx := 105) (d' := 7) (b := 66) (ci := 7) (As := []) (rest := []) mkX7_refresh miX7_refresh mvX7_refresh (by decide +kernel) (by decide +kernel) rfl (by decide +kernel) rfl ⟨by omega, by decide, Nat.le_of_ble_eq_true rfl⟩ rfl (c_X7_refresh_66 _ I102 G102  hc) ?_
          rintro r9 I9 G9 P9 ⟨e0, e1, e2, e3⟩
          rw [e0, e1, e2, e3]
          show am_V X 0 0 _ _ ad (76, [(0, .ref 0), (1, .int v1), (2, .int v2), (3, .int v3), (4, .int v4), (5, .int v5)], [], I103, G103, (gP rd))
          refine am_blk 76 [(.aload_n 0, 1, 0, 0, .null), (.getfield 50, 3, 11, 5, .null), (.getfield 122, 3, 7, 6, .null), (.iload 4, 2, 4, 0, .null)] (85, [(0, .ref 0), (1, .int v1), (2, .int v2), (3, .int v3), (4, .int v4), (5, .int v5)], [.int v4, .ref 71], I103, G103, (gP rd)) (True) hX hi (by decide +kernel) rfl trivial ?_
          refine am_callS hX hi (M := mX0_at) (idx := 116) (d' := 1) (As := [.ref 71, .int v4]) (rest := []) mkX0_at msX0_at (by decide +kernel) (by decide +kernel) rfl ⟨by omega, by decide, Nat.le_of_ble_eq_true rfl⟩ rfl (c_at rfl (by decide) v4) ?_
          rintro r9 I9 G9 P9 ⟨e0, e1, e2, e3⟩
          rw [e0, e1, e2, e3]
          show am_V X 0 0 _ _ ad (88, [(0, .ref 0), (1, .int v1), (2, .int v2), (3, .int v3), (4, .int v4), (5, .int v5)], [.int (gAt (I103 71) 576 v4)], I103, G103, (gP rd))
          refine am_blk 88 [(.iload_n 3, 1, 3, 0, .null)] (89, [(0, .ref 0), (1, .int v1), (2, .int v2), (3, .int v3), (4, .int v4), (5, .int v5)], [.int v3, .int (gAt (I103 71) 576 v4)], I103, G103, (gP rd)) (True) hX hi (by decide +kernel) rfl trivial ?_
          refine am_icmp_ne (tgt := 95) hX hi (off := (6)) (by decide +kernel) (by decide) (fun c89 => ?_) (fun c89 => ?_)
          · rw [if_neg c89] at h
            refine am_blk 95 [(.iinc 5 (1), 3, 5, 0, .int (1 : Int32)), (.goto (-48), 3, 0, 50, .null)] (50, [(0, .ref 0), (1, .int v1), (2, .int v2), (3, .int v3), (4, .int v4), (5, .int (v5 + (1 : Int32)))], [], I103, G103, (gP rd)) (True) hX hi (by decide +kernel) rfl trivial ?_
            exact ih _ _ _ _ _ _ _ _ h hl
          · rw [if_pos c89] at h
            refine am_blk 92 [(.iload 5, 2, 5, 0, .null)] (94, [(0, .ref 0), (1, .int v1), (2, .int v2), (3, .int v3), (4, .int v4), (5, .int v5)], [.int v5], I103, G103, (gP rd)) (True) hX hi (by decide +kernel) rfl trivial ?_
            cases h
            refine am_iret hX hi rfl rfl (by decide +kernel) ?_
            exact ⟨_, rfl, rfl, rfl, rfl, rfl⟩
set_option maxRecDepth 20000 in
set_option maxHeartbeats 4000000 in
theorem c_X11_until_0 (rd : Nat) (I : am_I) (G : am_G) (x1 : Int32) (x2 : Int32) (x3 : Int32) {out : (Int32 ⊕ Nat) × am_I × am_G} (h : R_X11_until_0 I G x1 x2 x3 = some out) (hl : ∃ x, out.1 = .inl x) : am_Ct mX11_until 9 gS [.ref 0, .int x1, .int x2, .int x3] I G (gP rd) (pn9 out.1 out.2.1 out.2.2 (gP rd)) := by
  refine am_ofF (by decide +kernel) rfl (by decide) (by omega) (Nat.le_of_ble_eq_true rfl) (fun X ad hX hi => ?_)
  have hi : am_info X 11 cX11_until 6 false (Option.some Jvm.ClassFile.FieldType.int) 9 := hi
  show am_V X 0 0 _ _ ad (0, [(0, .ref 0), (1, .int x1), (2, .int x2), (3, .int x3)], [], I, G, (gP rd))
  unfold R_X11_until_0 at h
  refine am_blk 0 [(.iload_n 3, 1, 3, 0, .null)] (1, [(0, .ref 0), (1, .int x1), (2, .int x2), (3, .int x3)], [.int x3], I, G, (gP rd)) (True) hX hi (by decide +kernel) rfl trivial ?_
  refine am_if_lt (tgt := 15) hX hi (off := (14)) (by decide +kernel) (by decide) (fun c1 => ?_) (fun c1 => ?_)
  · rw [if_pos c1] at h
    cases h
    obtain ⟨x9, hx9⟩ := hl
    cases hx9
  · rw [if_neg c1] at h
    refine am_blk 4 [(.iload_n 3, 1, 3, 0, .null), (.aload_n 0, 1, 0, 0, .null), (.getfield 33, 3, 11, 2, .null), (.getfield 137, 3, 5, 13, .null)] (12, [(0, .ref 0), (1, .int x1), (2, .int x2), (3, .int x3)], [.int (I 7 13), .int x3], I, G, (gP rd)) (True) hX hi (by decide +kernel) rfl trivial ?_
    refine am_icmp_le (tgt := 25) hX hi (off := (13)) (by decide +kernel) (by decide) (fun c12 => ?_) (fun c12 => ?_)
    · rw [if_pos c12] at h
      refine am_blk 25 [(.aload_n 0, 1, 0, 0, .null), (.getfield 33, 3, 11, 2, .null), (.iload_n 1, 1, 1, 0, .null), (.iload_n 2, 1, 2, 0, .null)] (31, [(0, .ref 0), (1, .int x1), (2, .int x2), (3, .int x3)], [.int x2, .int x1, .ref 7], I, G, (gP rd)) (True) hX hi (by decide +kernel) rfl trivial ?_
      refine am_callV hX hi (M := mX5_spot) (idx := 112) (d' := 3) (b := 7) (ci := 5) (As := [.int x1, .int x2]) (rest := []) mkX5_spot miX5_spot mvX5_spot (by decide +kernel) (by decide +kernel) rfl (by decide +kernel) rfl ⟨by omega, by decide, Nat.le_of_ble_eq_true rfl⟩ rfl (c_X5_spot_7 _ I G x1 x2) ?_
      rintro r9 I9 G9 P9 ⟨e0, e1, e2, e3⟩
      rw [e0, e1, e2, e3]
      show am_V X 0 0 _ _ ad (34, [(0, .ref 0), (1, .int x1), (2, .int x2), (3, .int x3)], [.int (f_X5_spot_7 I G x1 x2)], I, G, (gP rd))
      refine am_blk 34 [(.istore 4, 2, 4, 0, .null), (.aload_n 0, 1, 0, 0, .null), (.getfield 50, 3, 11, 5, .null), (.aload_n 0, 1, 0, 0, .null), (.getfield 46, 3, 11, 4, .null)] (44, [(0, .ref 0), (1, .int x1), (2, .int x2), (3, .int x3), (4, .int (f_X5_spot_7 I G x1 x2))], [.ref 53, .ref 66], I, G, (gP rd)) (True) hX hi (by decide +kernel) rfl trivial ?_
      obtain ⟨r1, I1, G1, hc, h⟩ := rb_some h
      refine am_callV hX hi (M := mX7_take) (idx := 227) (d' := 5) (b := 66) (ci := 7) (As := [.ref 53]) (rest := []) mkX7_take miX7_take mvX7_take (by decide +kernel) (by decide +kernel) rfl (by decide +kernel) rfl ⟨by omega, by decide, Nat.le_of_ble_eq_true rfl⟩ rfl (c_X7_take_66_53 _ I G  hc) ?_
      rintro r9 I9 G9 P9 ⟨e0, e1, e2, e3⟩
      rw [e0, e1, e2, e3]
      show am_V X 0 0 _ _ ad (47, [(0, .ref 0), (1, .int x1), (2, .int x2), (3, .int x3), (4, .int (f_X5_spot_7 I G x1 x2))], [], I1, G1, (gP rd))
      refine am_blk 47 [(.iconst (0), 1, 0, 0, .int (0 : Int32)), (.istore 5, 2, 5, 0, .null)] (50, [(0, .ref 0), (1, .int x1), (2, .int x2), (3, .int x3), (4, .int (f_X5_spot_7 I G x1 x2)), (5, .int (0 : Int32))], [], I1, G1, (gP rd)) (True) hX hi (by decide +kernel) rfl trivial ?_
      exact (l_X11_until_0 rd hX hi FU) _ _ _ _ _ _ _ _ h hl
    · rw [if_neg c12] at h
      cases h
      obtain ⟨x9, hx9⟩ := hl
      cases hx9
noncomputable def L_X11_advise_0 (n0 : Nat) (hd : Nat) (I : am_I) (G : am_G) (v1 : Int32) (v2 : Int32) (v3 : Int32) (v4 : Int32) : Option ((Int32 ⊕ Nat) × am_I × am_G) := match n0 with
  | 0 => none
  | n + 1 => match hd with
    | _ => (if (16 : Int32) < v4 then some (.inl v2, I, G) else rb (R_X7_changePull_66 I G v1 v4) (fun r101 I101 G101 => rb (R_X7_group_66 I101 G101 ) (fun r102 I102 G102 => (if v3 ≤ (I102 73 4) then L_X11_advise_0 n 0 I102 G102 v1 v2 v3 (v4 + (1 : Int32)) else L_X11_advise_0 n 0 I102 G102 v1 v4 (I102 73 4) (v4 + (1 : Int32))))))
theorem L_X11_advise_0_0 (n : Nat) (I : am_I) (G : am_G) (v1 : Int32) (v2 : Int32) (v3 : Int32) (v4 : Int32) : L_X11_advise_0 (n + 1) 0 I G v1 v2 v3 v4 = (if (16 : Int32) < v4 then some (.inl v2, I, G) else rb (R_X7_changePull_66 I G v1 v4) (fun r101 I101 G101 => rb (R_X7_group_66 I101 G101 ) (fun r102 I102 G102 => (if v3 ≤ (I102 73 4) then L_X11_advise_0 n 0 I102 G102 v1 v2 v3 (v4 + (1 : Int32)) else L_X11_advise_0 n 0 I102 G102 v1 v4 (I102 73 4) (v4 + (1 : Int32)))))) := rfl
theorem L_X11_advise_0_z (h : Nat) (I : am_I) (G : am_G) (v1 : Int32) (v2 : Int32) (v3 : Int32) (v4 : Int32) : L_X11_advise_0 0 h I G v1 v2 v3 v4 = none := rfl
noncomputable def R_X11_advise_0 (I : am_I) (G : am_G) (x1 : Int32) : Option ((Int32 ⊕ Nat) × am_I × am_G) := (if x1 < 0 then some (.inr 93, I, G) else (if x1 < (I 7 12) then rb (R_X7_take_66_53 I G ) (fun r1 I1 G1 => L_X11_advise_0 FU 0 I1 G1 x1 (0 : Int32) (577 : Int32) (0 : Int32)) else some (.inr 93, I, G)))
set_option maxRecDepth 20000 in
set_option maxHeartbeats 4000000 in
theorem l_X11_advise_0 (rd : Nat) {X : am_X} {ad : Nat → Nat} (hX : am_okz X ad) (hi : am_info X 11 cX11_advise 5 false (Option.some Jvm.ClassFile.FieldType.int) 9) (n : Nat) : (∀ (I : am_I) (G : am_G) (v1 : Int32) (v2 : Int32) (v3 : Int32) (v4 : Int32) (out : (Int32 ⊕ Nat) × am_I × am_G), L_X11_advise_0 n 0 I G v1 v2 v3 v4 = some out → (∃ x, out.1 = .inl x) → am_V X 0 0 (am_Rt X gS ad (pn9 out.1 out.2.1 out.2.2 (gP rd))) gS ad (45, [(0, .ref 0), (1, .int v1), (2, .int v2), (3, .int v3), (4, .int v4)], [], I, G, (gP rd))) := by
  induction n with
  | zero => exact fun I G v1 v2 v3 v4 out h _ => by rw [L_X11_advise_0_z] at h; cases h
  | succ n ih =>
    · intro I G v1 v2 v3 v4 out h hl
      rw [L_X11_advise_0_0] at h
      refine am_blk 45 [(.iload 4, 2, 4, 0, .null), (.bipush (16), 2, 0, 0, .int (16 : Int32))] (49, [(0, .ref 0), (1, .int v1), (2, .int v2), (3, .int v3), (4, .int v4)], [.int (16 : Int32), .int v4], I, G, (gP rd)) (True) hX hi (by decide +kernel) rfl trivial ?_
      refine am_icmp_gt (tgt := 104) hX hi (off := (55)) (by decide +kernel) (by decide) (fun c49 => ?_) (fun c49 => ?_)
      · rw [if_pos c49] at h
        refine am_blk 104 [(.iload_n 2, 1, 2, 0, .null)] (105, [(0, .ref 0), (1, .int v1), (2, .int v2), (3, .int v3), (4, .int v4)], [.int v2], I, G, (gP rd)) (True) hX hi (by decide +kernel) rfl trivial ?_
        cases h
        refine am_iret hX hi rfl rfl (by decide +kernel) ?_
        exact ⟨_, rfl, rfl, rfl, rfl, rfl⟩
      · rw [if_neg c49] at h
        refine am_blk 52 [(.aload_n 0, 1, 0, 0, .null), (.getfield 50, 3, 11, 5, .null), (.iload_n 1, 1, 1, 0, .null), (.iload 4, 2, 4, 0, .null)] (59, [(0, .ref 0), (1, .int v1), (2, .int v2), (3, .int v3), (4, .int v4)], [.int v4, .int v1, .ref 66], I, G, (gP rd)) (True) hX hi (by decide +kernel) rfl trivial ?_
        obtain ⟨r101, I101, G101, hc, h⟩ := rb_some h
        refine am_callV hX hi (M := mX7_changePull) (idx := 197) (d' := 4) (b := 66) (ci := 7) (As := [.int v1, .int v4]) (rest := []) mkX7_changePull miX7_changePull mvX7_changePull (by decide +kernel) (by decide +kernel) rfl (by decide +kernel) rfl ⟨by omega, by decide, Nat.le_of_ble_eq_true rfl⟩ rfl (c_X7_changePull_66 _ I G v1 v4 hc) ?_
        rintro r9 I9 G9 P9 ⟨e0, e1, e2, e3⟩
        rw [e0, e1, e2, e3]
        show am_V X 0 0 _ _ ad (62, [(0, .ref 0), (1, .int v1), (2, .int v2), (3, .int v3), (4, .int v4)], [.int r101], I101, G101, (gP rd))
        refine am_blk 62 [(.pop, 1, 0, 0, .null), (.aload_n 0, 1, 0, 0, .null), (.getfield 50, 3, 11, 5, .null)] (67, [(0, .ref 0), (1, .int v1), (2, .int v2), (3, .int v3), (4, .int v4)], [.ref 66], I101, G101, (gP rd)) (True) hX hi (by decide +kernel) rfl trivial ?_
        obtain ⟨r102, I102, G102, hc, h⟩ := rb_some h
        refine am_callV hX hi (M := mX7_group) (idx := 98) (d' := 8) (b := 66) (ci := 7) (As := []) (rest := []) mkX7_group miX7_group mvX7_group (by decide +kernel) (by decide +kernel) rfl (by decide +kernel) rfl ⟨by omega, by decide, Nat.le_of_ble_eq_true rfl⟩ rfl (c_X7_group_66 _ I101 G101  hc) ?_
        rintro r9 I9 G9 P9 ⟨e0, e1, e2, e3⟩
        rw [e0, e1, e2, e3]
        show am_V X 0 0 _ _ ad (70, [(0, .ref 0), (1, .int v1), (2, .int v2), (3, .int v3), (4, .int v4)], [], I102, G102, (gP rd))
        refine am_blk 70 [(.aload_n 0, 1, 0, 0, .null), (.getfield 50, 3, 11, 5, .null), (.getfield 125, 3, 7, 8, .null), (.getfield 230, 3, 4, 4, .null), (.iload_n 3, 1, 3, 0, .null)] (81, [(0, .ref 0), (1, .int v1), (2, .int v2), (3, .int v3), (4, .int v4)], [.int v3, .int (I102 73 4)], I102, G102, (gP rd)) (True) hX hi (by decide +kernel) rfl trivial ?_
        refine am_icmp_ge (tgt := 98) hX hi (off := (17)) (by decide +kernel) (by decide) (fun c81 => ?_) (fun c81 => ?_)
        · rw [if_pos c81] at h
          refine am_blk 98 [(.iinc 4 (1), 3, 4, 0, .int (1 : Int32)), (.goto (-56), 3, 0, 45, .null)] (45, [(0, .ref 0), (1, .int v1), (2, .int v2), (3, .int v3), (4, .int (v4 + (1 : Int32)))], [], I102, G102, (gP rd)) (True) hX hi (by decide +kernel) rfl trivial ?_
          exact ih _ _ _ _ _ _ _ h hl
        · rw [if_neg c81] at h
          refine am_blk 84 [(.aload_n 0, 1, 0, 0, .null), (.getfield 50, 3, 11, 5, .null), (.getfield 125, 3, 7, 8, .null), (.getfield 230, 3, 4, 4, .null), (.istore_n 3, 1, 3, 0, .null), (.iload 4, 2, 4, 0, .null), (.istore_n 2, 1, 2, 0, .null), (.iinc 4 (1), 3, 4, 0, .int (1 : Int32)), (.goto (-56), 3, 0, 45, .null)] (45, [(0, .ref 0), (1, .int v1), (2, .int v4), (3, .int (I102 73 4)), (4, .int (v4 + (1 : Int32)))], [], I102, G102, (gP rd)) (True) hX hi (by decide +kernel) rfl trivial ?_
          exact ih _ _ _ _ _ _ _ h hl
set_option maxRecDepth 20000 in
set_option maxHeartbeats 4000000 in
theorem c_X11_advise_0 (rd : Nat) (I : am_I) (G : am_G) (x1 : Int32) {out : (Int32 ⊕ Nat) × am_I × am_G} (h : R_X11_advise_0 I G x1 = some out) (hl : ∃ x, out.1 = .inl x) : am_Ct mX11_advise 9 gS [.ref 0, .int x1] I G (gP rd) (pn9 out.1 out.2.1 out.2.2 (gP rd)) := by
  refine am_ofF (by decide +kernel) rfl (by decide) (by omega) (Nat.le_of_ble_eq_true rfl) (fun X ad hX hi => ?_)
  have hi : am_info X 11 cX11_advise 5 false (Option.some Jvm.ClassFile.FieldType.int) 9 := hi
  show am_V X 0 0 _ _ ad (0, [(0, .ref 0), (1, .int x1)], [], I, G, (gP rd))
  unfold R_X11_advise_0 at h
  refine am_blk 0 [(.iload_n 1, 1, 1, 0, .null)] (1, [(0, .ref 0), (1, .int x1)], [.int x1], I, G, (gP rd)) (True) hX hi (by decide +kernel) rfl trivial ?_
  refine am_if_lt (tgt := 15) hX hi (off := (14)) (by decide +kernel) (by decide) (fun c1 => ?_) (fun c1 => ?_)
  · rw [if_pos c1] at h
    cases h
    obtain ⟨x9, hx9⟩ := hl
    cases hx9
  · rw [if_neg c1] at h
    refine am_blk 4 [(.iload_n 1, 1, 1, 0, .null), (.aload_n 0, 1, 0, 0, .null), (.getfield 33, 3, 11, 2, .null), (.getfield 176, 3, 5, 12, .null)] (12, [(0, .ref 0), (1, .int x1)], [.int (I 7 12), .int x1], I, G, (gP rd)) (True) hX hi (by decide +kernel) rfl trivial ?_
    refine am_icmp_lt (tgt := 25) hX hi (off := (13)) (by decide +kernel) (by decide) (fun c12 => ?_) (fun c12 => ?_)
    · rw [if_pos c12] at h
      refine am_blk 25 [(.iconst (0), 1, 0, 0, .int (0 : Int32)), (.istore_n 2, 1, 2, 0, .null), (.sipush (577), 3, 0, 0, .int (577 : Int32)), (.istore_n 3, 1, 3, 0, .null), (.aload_n 0, 1, 0, 0, .null), (.getfield 50, 3, 11, 5, .null), (.aload_n 0, 1, 0, 0, .null), (.getfield 46, 3, 11, 4, .null)] (39, [(0, .ref 0), (1, .int x1), (2, .int (0 : Int32)), (3, .int (577 : Int32))], [.ref 53, .ref 66], I, G, (gP rd)) (True) hX hi (by decide +kernel) rfl trivial ?_
      obtain ⟨r1, I1, G1, hc, h⟩ := rb_some h
      refine am_callV hX hi (M := mX7_take) (idx := 227) (d' := 5) (b := 66) (ci := 7) (As := [.ref 53]) (rest := []) mkX7_take miX7_take mvX7_take (by decide +kernel) (by decide +kernel) rfl (by decide +kernel) rfl ⟨by omega, by decide, Nat.le_of_ble_eq_true rfl⟩ rfl (c_X7_take_66_53 _ I G  hc) ?_
      rintro r9 I9 G9 P9 ⟨e0, e1, e2, e3⟩
      rw [e0, e1, e2, e3]
      show am_V X 0 0 _ _ ad (42, [(0, .ref 0), (1, .int x1), (2, .int (0 : Int32)), (3, .int (577 : Int32))], [], I1, G1, (gP rd))
      refine am_blk 42 [(.iconst (0), 1, 0, 0, .int (0 : Int32)), (.istore 4, 2, 4, 0, .null)] (45, [(0, .ref 0), (1, .int x1), (2, .int (0 : Int32)), (3, .int (577 : Int32)), (4, .int (0 : Int32))], [], I1, G1, (gP rd)) (True) hX hi (by decide +kernel) rfl trivial ?_
      exact (l_X11_advise_0 rd hX hi FU) _ _ _ _ _ _ _ h hl
    · rw [if_neg c12] at h
      cases h
      obtain ⟨x9, hx9⟩ := hl
      cases hx9
