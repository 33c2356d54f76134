theorem am_hd131 : (1 : Nat) = 1 := rfl  -- methods with loops, and those that call them, further on
noncomputable def R_X11_whence_0 (I : am_I) (G : am_G) (x1 : Int32) (x2 : Int32) : Option (Int32 × am_I × am_G) := rb (R_X7_source_53 I G x1 x2) (fun r1 I1 G1 => some (r1, I1, G1))
set_option maxRecDepth 20000 in
set_option maxHeartbeats 4000000 in
theorem c_X11_whence_0 (rd : Nat) (I : am_I) (G : am_G) (x1 : Int32) (x2 : Int32) {out : Int32 × am_I × am_G} (h : R_X11_whence_0 I G x1 x2 = some out) : am_Ct mX11_whence 5 gS [.ref 0, .int x1, .int x2] I G (gP rd) (pI out.1 out.2.1 out.2.2 (gP rd)) := by
  refine am_ofF (by decide +kernel) rfl (by decide) (by omega) (Nat.le_of_ble_eq_true rfl) (fun X ad hX hi => ?_)
  have hi : am_info X 9 cX11_whence 3 false (Option.some Jvm.ClassFile.FieldType.int) 5 := hi
  show am_V X 0 0 _ _ ad (0, [(0, .ref 0), (1, .int x1), (2, .int x2)], [], I, G, (gP rd))
  unfold R_X11_whence_0 at h
  refine am_blk 0 [(.aload_n 0, 1, 0, 0, .null), (.getfield 46, 3, 9, 4, .null), (.iload_n 1, 1, 1, 0, .null), (.iload_n 2, 1, 2, 0, .null)] (6, [(0, .ref 0), (1, .int x1), (2, .int x2)], [.int x2, .int x1, .ref 53], I, G, (gP rd)) (True) hX hi (by decide +kernel) rfl trivial ?_
  obtain ⟨r1, I1, G1, hc, h⟩ := rb_some h
  refine am_callV hX hi (M := mX7_source) (idx := 134) (d' := 4) (b := 53) (ci := 5) (As := [.int x1, .int x2]) (rest := []) mkX7_source miX7_source mvX7_source (by decide +kernel) (by decide +kernel) rfl (by decide +kernel) rfl ⟨by omega, by decide, Nat.le_of_ble_eq_true rfl⟩ rfl (c_X7_source_53 _ I G x1 x2 hc) ?_
  rintro r9 I9 G9 P9 ⟨e0, e1, e2, e3⟩
  rw [e0, e1, e2, e3]
  show am_V X 0 0 _ _ ad (9, [(0, .ref 0), (1, .int x1), (2, .int x2)], [.int r1], I1, G1, (gP rd))
  cases h
  refine am_iret hX hi rfl rfl (by decide +kernel) ?_
  exact ⟨rfl, rfl, rfl, rfl⟩
noncomputable def L_X13_become_112_102 (n0 : Nat) (hd : Nat) (I : am_I) (G : am_G) (v2 : Int32) : Option (Unit × am_I × am_G) := match n0 with
  | 0 => none
  | n + 1 => match hd with
    | 0 => (if (4 : Int32) ≤ v2 then L_X13_become_112_102 n 1 I G (0 : Int32) else rg (vp_in v2 4) (rg (vp_in v2 4) (L_X13_become_112_102 n 0 (am_up I 114 v2.toNatClampNeg (I 104 v2.toNatClampNeg)) G (v2 + (1 : Int32)))))
    | _ => (if (4 : Int32) ≤ v2 then some ((), (am_cp I 105 115 (Int32.ofNat 2304).toInt.toNat), G) else rg (vp_in v2 4) (rg ((vp_in v2 4 ∧ ((I 106 v2.toNatClampNeg) = 0 ∨ (I 106 v2.toNatClampNeg) = 1))) (rg (vp_in v2 4) (rg (vp_in v2 4) (L_X13_become_112_102 n 1 (am_up (am_up I 116 v2.toNatClampNeg (I 106 v2.toNatClampNeg)) 113 v2.toNatClampNeg (I 103 v2.toNatClampNeg)) G (v2 + (1 : Int32)))))))
theorem L_X13_become_112_102_0 (n : Nat) (I : am_I) (G : am_G) (v2 : Int32) : L_X13_become_112_102 (n + 1) 0 I G v2 = (if (4 : Int32) ≤ v2 then L_X13_become_112_102 n 1 I G (0 : Int32) else rg (vp_in v2 4) (rg (vp_in v2 4) (L_X13_become_112_102 n 0 (am_up I 114 v2.toNatClampNeg (I 104 v2.toNatClampNeg)) G (v2 + (1 : Int32))))) := rfl
theorem L_X13_become_112_102_1 (n : Nat) (I : am_I) (G : am_G) (v2 : Int32) : L_X13_become_112_102 (n + 1) 1 I G v2 = (if (4 : Int32) ≤ v2 then some ((), (am_cp I 105 115 (Int32.ofNat 2304).toInt.toNat), G) else rg (vp_in v2 4) (rg ((vp_in v2 4 ∧ ((I 106 v2.toNatClampNeg) = 0 ∨ (I 106 v2.toNatClampNeg) = 1))) (rg (vp_in v2 4) (rg (vp_in v2 4) (L_X13_become_112_102 n 1 (am_up (am_up I 116 v2.toNatClampNeg (I 106 v2.toNatClampNeg)) 113 v2.toNatClampNeg (I 103 v2.toNatClampNeg)) G (v2 + (1 : Int32))))))) := rfl
theorem L_X13_become_112_102_z (h : Nat) (I : am_I) (G : am_G) (v2 : Int32) : L_X13_become_112_102 0 h I G v2 = none := rfl
noncomputable def R_X13_become_112_102 (I : am_I) (G : am_G)  : Option (Unit × am_I × am_G) := rg (((0 : Int32) = 0 ∨ (0 : Int32) = 1)) (L_X13_become_112_102 FU 0 (am_up (am_up (am_up (am_up (am_up I 112 0 (I 102 0)) 112 1 (I 102 1)) 112 2 (I 102 2)) 112 3 (I 102 3)) 112 10 (0 : Int32)) G (0 : Int32))
set_option maxRecDepth 20000 in
set_option maxHeartbeats 4000000 in
theorem l_X13_become_112_102 (rd : Nat) {X : am_X} {ad : Nat → Nat} (hX : am_okz X ad) (hi : am_info X 11 cX13_become 3 false (Option.some (Jvm.ClassFile.FieldType.object "MarbledPaperModel$State")) 2) (n : Nat) : (∀ (I : am_I) (G : am_G) (v2 : Int32) (out : Unit × am_I × am_G), L_X13_become_112_102 n 0 I G v2 = some out → am_V X 0 0 (am_Rt X gS ad (pR 112 out.2.1 out.2.2 (gP rd))) gS ad (39, [(0, .ref 112), (1, .ref 102), (2, .int v2)], [], I, G, (gP rd))) ∧ (∀ (I : am_I) (G : am_G) (v2 : Int32) (out : Unit × am_I × am_G), L_X13_become_112_102 n 1 I G v2 = some out → am_V X 0 0 (am_Rt X gS ad (pR 112 out.2.1 out.2.2 (gP rd))) gS ad (64, [(0, .ref 112), (1, .ref 102), (2, .int v2)], [], I, G, (gP rd))) := by
  induction n with
  | zero => exact ⟨(fun I G v2 out h => by rw [L_X13_become_112_102_z] at h; cases h), (fun I G v2 out h => by rw [L_X13_become_112_102_z] at h; cases h)⟩
  | succ n ih =>
    refine ⟨?_, ?_⟩
    · intro I G v2 out h
      rw [L_X13_become_112_102_0] at h
      refine am_blk 39 [(.iload_n 2, 1, 2, 0, .null), (.iconst (4), 1, 0, 0, .int (4 : Int32))] (41, [(0, .ref 112), (1, .ref 102), (2, .int v2)], [.int (4 : Int32), .int v2], I, G, (gP rd)) (True) hX hi (by decide +kernel) rfl trivial ?_
      refine am_icmp_ge (tgt := 62) hX hi (off := (21)) (by decide +kernel) (by decide) (fun c41 => ?_) (fun c41 => ?_)
      · rw [if_pos c41] at h
        refine am_blk 62 [(.iconst (0), 1, 0, 0, .int (0 : Int32)), (.istore_n 2, 1, 2, 0, .null)] (64, [(0, .ref 112), (1, .ref 102), (2, .int (0 : Int32))], [], I, G, (gP rd)) (True) hX hi (by decide +kernel) rfl trivial ?_
        exact ih.2 _ _ _ _ h
      · rw [if_neg c41] at h
        obtain ⟨g0, h⟩ := rg_some h
        obtain ⟨g1, h⟩ := rg_some h
        refine am_blk 44 [(.aload_n 0, 1, 0, 0, .null), (.getfield 19, 3, 11, 5, .null), (.iload_n 2, 1, 2, 0, .null), (.aload_n 1, 1, 1, 0, .null), (.getfield 19, 3, 11, 5, .null), (.iload_n 2, 1, 2, 0, .null), (.iaload, 1, 0, 0, .null), (.iastore, 1, 0, 0, .null), (.iinc 2 (1), 3, 2, 0, .int (1 : Int32)), (.goto (-20), 3, 0, 39, .null)] (39, [(0, .ref 112), (1, .ref 102), (2, .int (v2 + (1 : Int32)))], [], (am_up I 114 v2.toNatClampNeg (I 104 v2.toNatClampNeg)), G, (gP rd)) (vp_in v2 4 ∧ vp_in v2 4 ∧ True) hX hi (by decide +kernel) rfl ⟨g0, g1, trivial⟩ ?_
        exact ih.1 _ _ _ _ h
    · intro I G v2 out h
      rw [L_X13_become_112_102_1] at h
      refine am_blk 64 [(.iload_n 2, 1, 2, 0, .null), (.iconst (4), 1, 0, 0, .int (4 : Int32))] (66, [(0, .ref 112), (1, .ref 102), (2, .int v2)], [.int (4 : Int32), .int v2], I, G, (gP rd)) (True) hX hi (by decide +kernel) rfl trivial ?_
      refine am_icmp_ge (tgt := 99) hX hi (off := (33)) (by decide +kernel) (by decide) (fun c66 => ?_) (fun c66 => ?_)
      · rw [if_pos c66] at h
        refine am_blk 99 [(.aload_n 1, 1, 1, 0, .null), (.getfield 22, 3, 11, 6, .null), (.iconst (0), 1, 0, 0, .int (0 : Int32)), (.aload_n 0, 1, 0, 0, .null), (.getfield 22, 3, 11, 6, .null), (.iconst (0), 1, 0, 0, .int (0 : Int32)), (.aload_n 0, 1, 0, 0, .null), (.getfield 22, 3, 11, 6, .null), (.arraylength, 1, 0, 0, .null)] (114, [(0, .ref 112), (1, .ref 102), (2, .int v2)], [.int (Int32.ofNat 2304), .int (0 : Int32), .ref 115, .int (0 : Int32), .ref 105], I, G, (gP rd)) (True) hX hi (by decide +kernel) rfl trivial ?_
        refine am_acopy hX hi (idx := 61) rfl rfl (by decide +kernel) (List.mem_of_getElem? (i := 2035) (by decide +kernel)) (by decide +kernel) ⟨by omega, Nat.le_of_ble_eq_true rfl⟩ ?_
        show am_V X 0 0 _ _ ad (117, [(0, .ref 112), (1, .ref 102), (2, .int v2)], [], (am_cp I 105 115 (Int32.ofNat 2304).toInt.toNat), G, (gP rd))
        refine am_blk 117 [(.aload_n 0, 1, 0, 0, .null)] (118, [(0, .ref 112), (1, .ref 102), (2, .int v2)], [.ref 112], (am_cp I 105 115 (Int32.ofNat 2304).toInt.toNat), G, (gP rd)) (True) hX hi (by decide +kernel) rfl trivial ?_
        cases h
        refine am_aret hX hi rfl (by decide +kernel) ?_
        exact ⟨rfl, rfl, rfl, rfl⟩
      · rw [if_neg c66] at h
        obtain ⟨g0, h⟩ := rg_some h
        obtain ⟨g1, h⟩ := rg_some h
        obtain ⟨g2, h⟩ := rg_some h
        obtain ⟨g3, h⟩ := rg_some h
        refine am_blk 69 [(.aload_n 0, 1, 0, 0, .null), (.getfield 25, 3, 11, 7, .null), (.iload_n 2, 1, 2, 0, .null), (.aload_n 1, 1, 1, 0, .null), (.getfield 25, 3, 11, 7, .null), (.iload_n 2, 1, 2, 0, .null), (.baload, 1, 0, 0, .null), (.bastore, 1, 0, 0, .null), (.aload_n 0, 1, 0, 0, .null), (.getfield 15, 3, 11, 4, .null), (.iload_n 2, 1, 2, 0, .null), (.aload_n 1, 1, 1, 0, .null), (.getfield 15, 3, 11, 4, .null), (.iload_n 2, 1, 2, 0, .null), (.iaload, 1, 0, 0, .null), (.iastore, 1, 0, 0, .null), (.iinc 2 (1), 3, 2, 0, .int (1 : Int32)), (.goto (-32), 3, 0, 64, .null)] (64, [(0, .ref 112), (1, .ref 102), (2, .int (v2 + (1 : Int32)))], [], (am_up (am_up I 116 v2.toNatClampNeg (I 106 v2.toNatClampNeg)) 113 v2.toNatClampNeg (I 103 v2.toNatClampNeg)), G, (gP rd)) (vp_in v2 4 ∧ (vp_in v2 4 ∧ ((I 106 v2.toNatClampNeg) = 0 ∨ (I 106 v2.toNatClampNeg) = 1)) ∧ vp_in v2 4 ∧ vp_in v2 4 ∧ True) hX hi (by decide +kernel) rfl ⟨g0, g1, g2, g3, trivial⟩ ?_
        exact ih.2 _ _ _ _ h
set_option maxRecDepth 20000 in
set_option maxHeartbeats 4000000 in
theorem c_X13_become_112_102 (rd : Nat) (I : am_I) (G : am_G)  {out : Unit × am_I × am_G} (h : R_X13_become_112_102 I G  = some out) : am_Ct mX13_become 2 gS [.ref 112, .ref 102] I G (gP rd) (pR 112 out.2.1 out.2.2 (gP rd)) := by
  refine am_ofF (by decide +kernel) rfl (by decide) (by omega) (Nat.le_of_ble_eq_true rfl) (fun X ad hX hi => ?_)
  have hi : am_info X 11 cX13_become 3 false (Option.some (Jvm.ClassFile.FieldType.object "MarbledPaperModel$State")) 2 := hi
  show am_V X 0 0 _ _ ad (0, [(0, .ref 112), (1, .ref 102)], [], I, G, (gP rd))
  unfold R_X13_become_112_102 at h
  obtain ⟨g0, h⟩ := rg_some h
  refine am_blk 0 [(.aload_n 0, 1, 0, 0, .null), (.aload_n 1, 1, 1, 0, .null), (.getfield 44, 3, 11, 0, .null), (.putfield 44, 3, 11, 0, .null), (.aload_n 0, 1, 0, 0, .null), (.aload_n 1, 1, 1, 0, .null), (.getfield 48, 3, 11, 1, .null), (.putfield 48, 3, 11, 1, .null), (.aload_n 0, 1, 0, 0, .null), (.aload_n 1, 1, 1, 0, .null), (.getfield 51, 3, 11, 2, .null), (.putfield 51, 3, 11, 2, .null), (.aload_n 0, 1, 0, 0, .null), (.aload_n 1, 1, 1, 0, .null), (.getfield 54, 3, 11, 3, .null), (.putfield 54, 3, 11, 3, .null), (.aload_n 0, 1, 0, 0, .null), (.iconst (0), 1, 0, 0, .int (0 : Int32)), (.putfield 57, 3, 11, 10, .null), (.iconst (0), 1, 0, 0, .int (0 : Int32)), (.istore_n 2, 1, 2, 0, .null)] (39, [(0, .ref 112), (1, .ref 102), (2, .int (0 : Int32))], [], (am_up (am_up (am_up (am_up (am_up I 112 0 (I 102 0)) 112 1 (I 102 1)) 112 2 (I 102 2)) 112 3 (I 102 3)) 112 10 (0 : Int32)), G, (gP rd)) (((0 : Int32) = 0 ∨ (0 : Int32) = 1) ∧ True) hX hi (by decide +kernel) rfl ⟨g0, trivial⟩ ?_
  exact (l_X13_become_112_102 rd hX hi FU).1 _ _ _ _ h
noncomputable def L_X13_begin_102 (n0 : Nat) (hd : Nat) (I : am_I) (G : am_G) (v1 : Int32) : Option (Unit × am_I × am_G) := match n0 with
  | 0 => none
  | n + 1 => match hd with
    | 0 => (if (4 : Int32) ≤ v1 then L_X13_begin_102 n 1 I G (0 : Int32) else rg (vp_in v1 4) (rg (vp_in v1 4) (L_X13_begin_102 n 0 (am_up I 104 v1.toNatClampNeg (I 93 v1.toNatClampNeg)) G (v1 + (1 : Int32)))))
    | _ => (if (4 : Int32) ≤ v1 then some ((), I, G) else rg (vp_in v1 4) (rg (vp_in v1 4) (rg ((vp_in v1 4 ∧ ((0 : Int32) = 0 ∨ (0 : Int32) = 1))) (L_X13_begin_102 n 1 (am_up (am_up I 103 v1.toNatClampNeg (I 90 v1.toNatClampNeg)) 106 v1.toNatClampNeg (0 : Int32)) G (v1 + (1 : Int32))))))
theorem L_X13_begin_102_0 (n : Nat) (I : am_I) (G : am_G) (v1 : Int32) : L_X13_begin_102 (n + 1) 0 I G v1 = (if (4 : Int32) ≤ v1 then L_X13_begin_102 n 1 I G (0 : Int32) else rg (vp_in v1 4) (rg (vp_in v1 4) (L_X13_begin_102 n 0 (am_up I 104 v1.toNatClampNeg (I 93 v1.toNatClampNeg)) G (v1 + (1 : Int32))))) := rfl
theorem L_X13_begin_102_1 (n : Nat) (I : am_I) (G : am_G) (v1 : Int32) : L_X13_begin_102 (n + 1) 1 I G v1 = (if (4 : Int32) ≤ v1 then some ((), I, G) else rg (vp_in v1 4) (rg (vp_in v1 4) (rg ((vp_in v1 4 ∧ ((0 : Int32) = 0 ∨ (0 : Int32) = 1))) (L_X13_begin_102 n 1 (am_up (am_up I 103 v1.toNatClampNeg (I 90 v1.toNatClampNeg)) 106 v1.toNatClampNeg (0 : Int32)) G (v1 + (1 : Int32)))))) := rfl
theorem L_X13_begin_102_z (h : Nat) (I : am_I) (G : am_G) (v1 : Int32) : L_X13_begin_102 0 h I G v1 = none := rfl
noncomputable def R_X13_begin_102 (I : am_I) (G : am_G)  : Option (Unit × am_I × am_G) := rg (((0 : Int32) = 0 ∨ (0 : Int32) = 1)) (L_X13_begin_102 FU 0 (am_up (am_up (am_up (am_up (am_up I 102 0 (0 : Int32)) 102 1 (0 : Int32)) 102 2 (0 : Int32)) 102 3 (0 : Int32)) 102 10 (0 : Int32)) G (0 : Int32))
set_option maxRecDepth 20000 in
set_option maxHeartbeats 4000000 in
theorem l_X13_begin_102 (rd : Nat) {X : am_X} {ad : Nat → Nat} (hX : am_okz X ad) (hi : am_info X 11 cX13_begin 2 false none 1) (n : Nat) : (∀ (I : am_I) (G : am_G) (v1 : Int32) (out : Unit × am_I × am_G), L_X13_begin_102 n 0 I G v1 = some out → am_V X 0 0 (am_Rt X gS ad (pV out.2.1 out.2.2 (gP rd))) gS ad (27, [(0, .ref 102), (1, .int v1)], [], I, G, (gP rd))) ∧ (∀ (I : am_I) (G : am_G) (v1 : Int32) (out : Unit × am_I × am_G), L_X13_begin_102 n 1 I G v1 = some out → am_V X 0 0 (am_Rt X gS ad (pV out.2.1 out.2.2 (gP rd))) gS ad (58, [(0, .ref 102), (1, .int v1)], [], I, G, (gP rd))) := by
  induction n with
  | zero => exact ⟨(fun I G v1 out h => by rw [L_X13_begin_102_z] at h; cases h), (fun I G v1 out h => by rw [L_X13_begin_102_z] at h; cases h)⟩
  | succ n ih =>
    refine ⟨?_, ?_⟩
    · intro I G v1 out h
      rw [L_X13_begin_102_0] at h
      refine am_blk 27 [(.iload_n 1, 1, 1, 0, .null), (.iconst (4), 1, 0, 0, .int (4 : Int32))] (29, [(0, .ref 102), (1, .int v1)], [.int (4 : Int32), .int v1], I, G, (gP rd)) (True) hX hi (by decide +kernel) rfl trivial ?_
      refine am_icmp_ge (tgt := 56) hX hi (off := (27)) (by decide +kernel) (by decide) (fun c29 => ?_) (fun c29 => ?_)
      · rw [if_pos c29] at h
        refine am_blk 56 [(.iconst (0), 1, 0, 0, .int (0 : Int32)), (.istore_n 1, 1, 1, 0, .null)] (58, [(0, .ref 102), (1, .int (0 : Int32))], [], I, G, (gP rd)) (True) hX hi (by decide +kernel) rfl trivial ?_
        exact ih.2 _ _ _ _ h
      · rw [if_neg c29] at h
        obtain ⟨g0, h⟩ := rg_some h
        obtain ⟨g1, h⟩ := rg_some h
        refine am_blk 32 [(.aload_n 0, 1, 0, 0, .null), (.getfield 19, 3, 11, 5, .null), (.iload_n 1, 1, 1, 0, .null), (.aload_n 0, 1, 0, 0, .null), (.getfield 3, 3, 11, 14, .null), (.getfield 67, 3, 12, 11, .null), (.getfield 71, 3, 10, 11, .null), (.iload_n 1, 1, 1, 0, .null), (.iaload, 1, 0, 0, .null), (.iastore, 1, 0, 0, .null), (.iinc 1 (1), 3, 1, 0, .int (1 : Int32)), (.goto (-26), 3, 0, 27, .null)] (27, [(0, .ref 102), (1, .int (v1 + (1 : Int32)))], [], (am_up I 104 v1.toNatClampNeg (I 93 v1.toNatClampNeg)), G, (gP rd)) (vp_in v1 4 ∧ vp_in v1 4 ∧ True) hX hi (by decide +kernel) rfl ⟨g0, g1, trivial⟩ ?_
        exact ih.1 _ _ _ _ h
    · intro I G v1 out h
      rw [L_X13_begin_102_1] at h
      refine am_blk 58 [(.iload_n 1, 1, 1, 0, .null), (.iconst (4), 1, 0, 0, .int (4 : Int32))] (60, [(0, .ref 102), (1, .int v1)], [.int (4 : Int32), .int v1], I, G, (gP rd)) (True) hX hi (by decide +kernel) rfl trivial ?_
      refine am_icmp_ge (tgt := 94) hX hi (off := (34)) (by decide +kernel) (by decide) (fun c60 => ?_) (fun c60 => ?_)
      · rw [if_pos c60] at h
        cases h
        refine am_vret hX hi rfl (by decide +kernel) ?_
        exact ⟨rfl, rfl, rfl, rfl⟩
      · rw [if_neg c60] at h
        obtain ⟨g0, h⟩ := rg_some h
        obtain ⟨g1, h⟩ := rg_some h
        obtain ⟨g2, h⟩ := rg_some h
        refine am_blk 63 [(.aload_n 0, 1, 0, 0, .null), (.getfield 15, 3, 11, 4, .null), (.iload_n 1, 1, 1, 0, .null), (.aload_n 0, 1, 0, 0, .null), (.getfield 3, 3, 11, 14, .null), (.getfield 67, 3, 12, 11, .null), (.getfield 74, 3, 10, 8, .null), (.iload_n 1, 1, 1, 0, .null), (.iaload, 1, 0, 0, .null), (.iastore, 1, 0, 0, .null), (.aload_n 0, 1, 0, 0, .null), (.getfield 25, 3, 11, 7, .null), (.iload_n 1, 1, 1, 0, .null), (.iconst (0), 1, 0, 0, .int (0 : Int32)), (.bastore, 1, 0, 0, .null), (.iinc 1 (1), 3, 1, 0, .int (1 : Int32)), (.goto (-33), 3, 0, 58, .null)] (58, [(0, .ref 102), (1, .int (v1 + (1 : Int32)))], [], (am_up (am_up I 103 v1.toNatClampNeg (I 90 v1.toNatClampNeg)) 106 v1.toNatClampNeg (0 : Int32)), G, (gP rd)) (vp_in v1 4 ∧ vp_in v1 4 ∧ (vp_in v1 4 ∧ ((0 : Int32) = 0 ∨ (0 : Int32) = 1)) ∧ True) hX hi (by decide +kernel) rfl ⟨g0, g1, g2, trivial⟩ ?_
        exact ih.2 _ _ _ _ h
set_option maxRecDepth 20000 in
set_option maxHeartbeats 4000000 in
theorem c_X13_begin_102 (rd : Nat) (I : am_I) (G : am_G)  {out : Unit × am_I × am_G} (h : R_X13_begin_102 I G  = some out) : am_Ct mX13_begin 1 gS [.ref 102] I G (gP rd) (pV out.2.1 out.2.2 (gP rd)) := by
  refine am_ofF (by decide +kernel) rfl (by decide) (by omega) (Nat.le_of_ble_eq_true rfl) (fun X ad hX hi => ?_)
  have hi : am_info X 11 cX13_begin 2 false none 1 := hi
  show am_V X 0 0 _ _ ad (0, [(0, .ref 102)], [], I, G, (gP rd))
  unfold R_X13_begin_102 at h
  obtain ⟨g0, h⟩ := rg_some h
  refine am_blk 0 [(.aload_n 0, 1, 0, 0, .null), (.iconst (0), 1, 0, 0, .int (0 : Int32)), (.putfield 44, 3, 11, 0, .null), (.aload_n 0, 1, 0, 0, .null), (.iconst (0), 1, 0, 0, .int (0 : Int32)), (.putfield 48, 3, 11, 1, .null), (.aload_n 0, 1, 0, 0, .null), (.iconst (0), 1, 0, 0, .int (0 : Int32)), (.putfield 51, 3, 11, 2, .null), (.aload_n 0, 1, 0, 0, .null), (.iconst (0), 1, 0, 0, .int (0 : Int32)), (.putfield 54, 3, 11, 3, .null), (.aload_n 0, 1, 0, 0, .null), (.iconst (0), 1, 0, 0, .int (0 : Int32)), (.putfield 57, 3, 11, 10, .null), (.iconst (0), 1, 0, 0, .int (0 : Int32)), (.istore_n 1, 1, 1, 0, .null)] (27, [(0, .ref 102), (1, .int (0 : Int32))], [], (am_up (am_up (am_up (am_up (am_up I 102 0 (0 : Int32)) 102 1 (0 : Int32)) 102 2 (0 : Int32)) 102 3 (0 : Int32)) 102 10 (0 : Int32)), G, (gP rd)) (((0 : Int32) = 0 ∨ (0 : Int32) = 1) ∧ True) hX hi (by decide +kernel) rfl ⟨g0, trivial⟩ ?_
  exact (l_X13_begin_102 rd hX hi FU).1 _ _ _ _ h
noncomputable def L_X13_begin_112 (n0 : Nat) (hd : Nat) (I : am_I) (G : am_G) (v1 : Int32) : Option (Unit × am_I × am_G) := match n0 with
  | 0 => none
  | n + 1 => match hd with
    | 0 => (if (4 : Int32) ≤ v1 then L_X13_begin_112 n 1 I G (0 : Int32) else rg (vp_in v1 4) (rg (vp_in v1 4) (L_X13_begin_112 n 0 (am_up I 114 v1.toNatClampNeg (I 93 v1.toNatClampNeg)) G (v1 + (1 : Int32)))))
    | _ => (if (4 : Int32) ≤ v1 then some ((), I, G) else rg (vp_in v1 4) (rg (vp_in v1 4) (rg ((vp_in v1 4 ∧ ((0 : Int32) = 0 ∨ (0 : Int32) = 1))) (L_X13_begin_112 n 1 (am_up (am_up I 113 v1.toNatClampNeg (I 90 v1.toNatClampNeg)) 116 v1.toNatClampNeg (0 : Int32)) G (v1 + (1 : Int32))))))
theorem L_X13_begin_112_0 (n : Nat) (I : am_I) (G : am_G) (v1 : Int32) : L_X13_begin_112 (n + 1) 0 I G v1 = (if (4 : Int32) ≤ v1 then L_X13_begin_112 n 1 I G (0 : Int32) else rg (vp_in v1 4) (rg (vp_in v1 4) (L_X13_begin_112 n 0 (am_up I 114 v1.toNatClampNeg (I 93 v1.toNatClampNeg)) G (v1 + (1 : Int32))))) := rfl
theorem L_X13_begin_112_1 (n : Nat) (I : am_I) (G : am_G) (v1 : Int32) : L_X13_begin_112 (n + 1) 1 I G v1 = (if (4 : Int32) ≤ v1 then some ((), I, G) else rg (vp_in v1 4) (rg (vp_in v1 4) (rg ((vp_in v1 4 ∧ ((0 : Int32) = 0 ∨ (0 : Int32) = 1))) (L_X13_begin_112 n 1 (am_up (am_up I 113 v1.toNatClampNeg (I 90 v1.toNatClampNeg)) 116 v1.toNatClampNeg (0 : Int32)) G (v1 + (1 : Int32)))))) := rfl
theorem L_X13_begin_112_z (h : Nat) (I : am_I) (G : am_G) (v1 : Int32) : L_X13_begin_112 0 h I G v1 = none := rfl
noncomputable def R_X13_begin_112 (I : am_I) (G : am_G)  : Option (Unit × am_I × am_G) := rg (((0 : Int32) = 0 ∨ (0 : Int32) = 1)) (L_X13_begin_112 FU 0 (am_up (am_up (am_up (am_up (am_up I 112 0 (0 : Int32)) 112 1 (0 : Int32)) 112 2 (0 : Int32)) 112 3 (0 : Int32)) 112 10 (0 : Int32)) G (0 : Int32))
set_option maxRecDepth 20000 in
set_option maxHeartbeats 4000000 in
theorem l_X13_begin_112 (rd : Nat) {X : am_X} {ad : Nat → Nat} (hX : am_okz X ad) (hi : am_info X 11 cX13_begin 2 false none 1) (n : Nat) : (∀ (I : am_I) (G : am_G) (v1 : Int32) (out : Unit × am_I × am_G), L_X13_begin_112 n 0 I G v1 = some out → am_V X 0 0 (am_Rt X gS ad (pV out.2.1 out.2.2 (gP rd))) gS ad (27, [(0, .ref 112), (1, .int v1)], [], I, G, (gP rd))) ∧ (∀ (I : am_I) (G : am_G) (v1 : Int32) (out : Unit × am_I × am_G), L_X13_begin_112 n 1 I G v1 = some out → am_V X 0 0 (am_Rt X gS ad (pV out.2.1 out.2.2 (gP rd))) gS ad (58, [(0, .ref 112), (1, .int v1)], [], I, G, (gP rd))) := by
  induction n with
  | zero => exact ⟨(fun I G v1 out h => by rw [L_X13_begin_112_z] at h; cases h), (fun I G v1 out h => by rw [L_X13_begin_112_z] at h; cases h)⟩
  | succ n ih =>
    refine ⟨?_, ?_⟩
    · intro I G v1 out h
      rw [L_X13_begin_112_0] at h
      refine am_blk 27 [(.iload_n 1, 1, 1, 0, .null), (.iconst (4), 1, 0, 0, .int (4 : Int32))] (29, [(0, .ref 112), (1, .int v1)], [.int (4 : Int32), .int v1], I, G, (gP rd)) (True) hX hi (by decide +kernel) rfl trivial ?_
      refine am_icmp_ge (tgt := 56) hX hi (off := (27)) (by decide +kernel) (by decide) (fun c29 => ?_) (fun c29 => ?_)
      · rw [if_pos c29] at h
        refine am_blk 56 [(.iconst (0), 1, 0, 0, .int (0 : Int32)), (.istore_n 1, 1, 1, 0, .null)] (58, [(0, .ref 112), (1, .int (0 : Int32))], [], I, G, (gP rd)) (True) hX hi (by decide +kernel) rfl trivial ?_
        exact ih.2 _ _ _ _ h
      · rw [if_neg c29] at h
        obtain ⟨g0, h⟩ := rg_some h
        obtain ⟨g1, h⟩ := rg_some h
        refine am_blk 32 [(.aload_n 0, 1, 0, 0, .null), (.getfield 19, 3, 11, 5, .null), (.iload_n 1, 1, 1, 0, .null), (.aload_n 0, 1, 0, 0, .null), (.getfield 3, 3, 11, 14, .null), (.getfield 67, 3, 12, 11, .null), (.getfield 71, 3, 10, 11, .null), (.iload_n 1, 1, 1, 0, .null), (.iaload, 1, 0, 0, .null), (.iastore, 1, 0, 0, .null), (.iinc 1 (1), 3, 1, 0, .int (1 : Int32)), (.goto (-26), 3, 0, 27, .null)] (27, [(0, .ref 112), (1, .int (v1 + (1 : Int32)))], [], (am_up I 114 v1.toNatClampNeg (I 93 v1.toNatClampNeg)), G, (gP rd)) (vp_in v1 4 ∧ vp_in v1 4 ∧ True) hX hi (by decide +kernel) rfl ⟨g0, g1, trivial⟩ ?_
        exact ih.1 _ _ _ _ h
    · intro I G v1 out h
      rw [L_X13_begin_112_1] at h
      refine am_blk 58 [(.iload_n 1, 1, 1, 0, .null), (.iconst (4), 1, 0, 0, .int (4 : Int32))] (60, [(0, .ref 112), (1, .int v1)], [.int (4 : Int32), .int v1], I, G, (gP rd)) (True) hX hi (by decide +kernel) rfl trivial ?_
      refine am_icmp_ge (tgt := 94) hX hi (off := (34)) (by decide +kernel) (by decide) (fun c60 => ?_) (fun c60 => ?_)
      · rw [if_pos c60] at h
        cases h
        refine am_vret hX hi rfl (by decide +kernel) ?_
        exact ⟨rfl, rfl, rfl, rfl⟩
      · rw [if_neg c60] at h
        obtain ⟨g0, h⟩ := rg_some h
        obtain ⟨g1, h⟩ := rg_some h
        obtain ⟨g2, h⟩ := rg_some h
        refine am_blk 63 [(.aload_n 0, 1, 0, 0, .null), (.getfield 15, 3, 11, 4, .null), (.iload_n 1, 1, 1, 0, .null), (.aload_n 0, 1, 0, 0, .null), (.getfield 3, 3, 11, 14, .null), (.getfield 67, 3, 12, 11, .null), (.getfield 74, 3, 10, 8, .null), (.iload_n 1, 1, 1, 0, .null), (.iaload, 1, 0, 0, .null), (.iastore, 1, 0, 0, .null), (.aload_n 0, 1, 0, 0, .null), (.getfield 25, 3, 11, 7, .null), (.iload_n 1, 1, 1, 0, .null), (.iconst (0), 1, 0, 0, .int (0 : Int32)), (.bastore, 1, 0, 0, .null), (.iinc 1 (1), 3, 1, 0, .int (1 : Int32)), (.goto (-33), 3, 0, 58, .null)] (58, [(0, .ref 112), (1, .int (v1 + (1 : Int32)))], [], (am_up (am_up I 113 v1.toNatClampNeg (I 90 v1.toNatClampNeg)) 116 v1.toNatClampNeg (0 : Int32)), G, (gP rd)) (vp_in v1 4 ∧ vp_in v1 4 ∧ (vp_in v1 4 ∧ ((0 : Int32) = 0 ∨ (0 : Int32) = 1)) ∧ True) hX hi (by decide +kernel) rfl ⟨g0, g1, g2, trivial⟩ ?_
        exact ih.2 _ _ _ _ h
set_option maxRecDepth 20000 in
set_option maxHeartbeats 4000000 in
theorem c_X13_begin_112 (rd : Nat) (I : am_I) (G : am_G)  {out : Unit × am_I × am_G} (h : R_X13_begin_112 I G  = some out) : am_Ct mX13_begin 1 gS [.ref 112] I G (gP rd) (pV out.2.1 out.2.2 (gP rd)) := by
  refine am_ofF (by decide +kernel) rfl (by decide) (by omega) (Nat.le_of_ble_eq_true rfl) (fun X ad hX hi => ?_)
  have hi : am_info X 11 cX13_begin 2 false none 1 := hi
  show am_V X 0 0 _ _ ad (0, [(0, .ref 112)], [], I, G, (gP rd))
  unfold R_X13_begin_112 at h
  obtain ⟨g0, h⟩ := rg_some h
  refine am_blk 0 [(.aload_n 0, 1, 0, 0, .null), (.iconst (0), 1, 0, 0, .int (0 : Int32)), (.putfield 44, 3, 11, 0, .null), (.aload_n 0, 1, 0, 0, .null), (.iconst (0), 1, 0, 0, .int (0 : Int32)), (.putfield 48, 3, 11, 1, .null), (.aload_n 0, 1, 0, 0, .null), (.iconst (0), 1, 0, 0, .int (0 : Int32)), (.putfield 51, 3, 11, 2, .null), (.aload_n 0, 1, 0, 0, .null), (.iconst (0), 1, 0, 0, .int (0 : Int32)), (.putfield 54, 3, 11, 3, .null), (.aload_n 0, 1, 0, 0, .null), (.iconst (0), 1, 0, 0, .int (0 : Int32)), (.putfield 57, 3, 11, 10, .null), (.iconst (0), 1, 0, 0, .int (0 : Int32)), (.istore_n 1, 1, 1, 0, .null)] (27, [(0, .ref 112), (1, .int (0 : Int32))], [], (am_up (am_up (am_up (am_up (am_up I 112 0 (0 : Int32)) 112 1 (0 : Int32)) 112 2 (0 : Int32)) 112 3 (0 : Int32)) 112 10 (0 : Int32)), G, (gP rd)) (((0 : Int32) = 0 ∨ (0 : Int32) = 1) ∧ True) hX hi (by decide +kernel) rfl ⟨g0, trivial⟩ ?_
  exact (l_X13_begin_112 rd hX hi FU).1 _ _ _ _ h
noncomputable def R_X13_pullOf_102 (I : am_I) (G : am_G) (x1 : Int32) (x2 : Int32) (x3 : Int32) (x4 : Int32) (x5 : Int32) : Option (Int32 × am_I × am_G) := rg (vp_in x1 4) (rg (q_X12_gradient_86 I G x1 (I 103 x1.toNatClampNeg) x2 x3) (rg (vp_in (f_X12_gradient_86 I G x1 (I 103 x1.toNatClampNeg) x2 x3) 8) (rg (vp_in (f_X12_gradient_86 I G x1 (I 103 x1.toNatClampNeg) x2 x3) 8) (some (((((am_sT.getD 2 ("", "", [])).2.2.getD (f_X12_gradient_86 I G x1 (I 103 x1.toNatClampNeg) x2 x3).toNatClampNeg 0) * x4) + (((am_sT.getD 3 ("", "", [])).2.2.getD (f_X12_gradient_86 I G x1 (I 103 x1.toNatClampNeg) x2 x3).toNatClampNeg 0) * x5)), I, G)))))
set_option maxRecDepth 20000 in
set_option maxHeartbeats 4000000 in
theorem c_X13_pullOf_102 (rd : Nat) (I : am_I) (G : am_G) (x1 : Int32) (x2 : Int32) (x3 : Int32) (x4 : Int32) (x5 : Int32) {out : Int32 × am_I × am_G} (h : R_X13_pullOf_102 I G x1 x2 x3 x4 x5 = some out) : am_Ct mX13_pullOf 2 gS [.ref 102, .int x1, .int x2, .int x3, .int x4, .int x5] I G (gP rd) (pI out.1 out.2.1 out.2.2 (gP rd)) := by
  refine am_ofF (by decide +kernel) rfl (by decide) (by omega) (Nat.le_of_ble_eq_true rfl) (fun X ad hX hi => ?_)
  have hi : am_info X 11 cX13_pullOf 7 false (Option.some Jvm.ClassFile.FieldType.int) 2 := hi
  show am_V X 0 0 _ _ ad (0, [(0, .ref 102), (1, .int x1), (2, .int x2), (3, .int x3), (4, .int x4), (5, .int x5)], [], I, G, (gP rd))
  unfold R_X13_pullOf_102 at h
  obtain ⟨g0, h⟩ := rg_some h
  refine am_blk 0 [(.aload_n 0, 1, 0, 0, .null), (.getfield 3, 3, 11, 14, .null), (.getfield 67, 3, 12, 11, .null), (.iload_n 1, 1, 1, 0, .null), (.aload_n 0, 1, 0, 0, .null), (.getfield 15, 3, 11, 4, .null), (.iload_n 1, 1, 1, 0, .null), (.iaload, 1, 0, 0, .null), (.iload_n 2, 1, 2, 0, .null), (.iload_n 3, 1, 3, 0, .null)] (16, [(0, .ref 102), (1, .int x1), (2, .int x2), (3, .int x3), (4, .int x4), (5, .int x5)], [.int x3, .int x2, .int (I 103 x1.toNatClampNeg), .int x1, .ref 86], I, G, (gP rd)) (vp_in x1 4 ∧ True) hX hi (by decide +kernel) rfl ⟨g0, trivial⟩ ?_
  obtain ⟨hq1, h⟩ := rg_some h
  refine am_callV hX hi (M := mX12_gradient) (idx := 75) (d' := 1) (b := 86) (ci := 10) (As := [.int x1, .int (I 103 x1.toNatClampNeg), .int x2, .int x3]) (rest := []) mkX12_gradient miX12_gradient mvX12_gradient (by decide +kernel) (by decide +kernel) rfl (by decide +kernel) rfl ⟨by omega, by decide, Nat.le_of_ble_eq_true rfl⟩ rfl (c_X12_gradient_86 _ I G x1 (I 103 x1.toNatClampNeg) x2 x3 hq1) ?_
  rintro r9 I9 G9 P9 ⟨e0, e1, e2, e3⟩
  rw [e0, e1, e2, e3]
  show am_V X 0 0 _ _ ad (19, [(0, .ref 102), (1, .int x1), (2, .int x2), (3, .int x3), (4, .int x4), (5, .int x5)], [.int (f_X12_gradient_86 I G x1 (I 103 x1.toNatClampNeg) x2 x3)], I, G, (gP rd))
  refine am_blk 19 [(.istore 6, 2, 6, 0, .null)] (21, [(0, .ref 102), (1, .int x1), (2, .int x2), (3, .int x3), (4, .int x4), (5, .int x5), (6, .int (f_X12_gradient_86 I G x1 (I 103 x1.toNatClampNeg) x2 x3))], [], I, G, (gP rd)) (True) hX hi (by decide +kernel) rfl trivial ?_
  refine am_gstN hX hi (i := 2) (idx := 79) rfl (List.mem_of_getElem? (i := 1860) (by decide +kernel)) (by decide +kernel) ?_
  show am_V X 0 0 _ _ ad (24, [(0, .ref 102), (1, .int x1), (2, .int x2), (3, .int x3), (4, .int x4), (5, .int x5), (6, .int (f_X12_gradient_86 I G x1 (I 103 x1.toNatClampNeg) x2 x3))], [.ref 1002], I, G, (gP rd))
  refine am_blk 24 [(.iload 6, 2, 6, 0, .null)] (26, [(0, .ref 102), (1, .int x1), (2, .int x2), (3, .int x3), (4, .int x4), (5, .int x5), (6, .int (f_X12_gradient_86 I G x1 (I 103 x1.toNatClampNeg) x2 x3))], [.int (f_X12_gradient_86 I G x1 (I 103 x1.toNatClampNeg) x2 x3), .ref 1002], I, G, (gP rd)) (True) hX hi (by decide +kernel) rfl trivial ?_
  obtain ⟨g0, h⟩ := rg_some h
  refine am_gel hX hi (i := 2) rfl g0 (by decide +kernel) ?_
  show am_V X 0 0 _ _ ad (27, [(0, .ref 102), (1, .int x1), (2, .int x2), (3, .int x3), (4, .int x4), (5, .int x5), (6, .int (f_X12_gradient_86 I G x1 (I 103 x1.toNatClampNeg) x2 x3))], [.int ((am_sT.getD 2 ("", "", [])).2.2.getD (f_X12_gradient_86 I G x1 (I 103 x1.toNatClampNeg) x2 x3).toNatClampNeg 0)], I, G, (gP rd))
  refine am_blk 27 [(.iload 4, 2, 4, 0, .null), (.imul, 1, 0, 0, .null)] (30, [(0, .ref 102), (1, .int x1), (2, .int x2), (3, .int x3), (4, .int x4), (5, .int x5), (6, .int (f_X12_gradient_86 I G x1 (I 103 x1.toNatClampNeg) x2 x3))], [.int (((am_sT.getD 2 ("", "", [])).2.2.getD (f_X12_gradient_86 I G x1 (I 103 x1.toNatClampNeg) x2 x3).toNatClampNeg 0) * x4)], I, G, (gP rd)) (True) hX hi (by decide +kernel) rfl trivial ?_
  refine am_gstN hX hi (i := 3) (idx := 82) rfl (List.mem_of_getElem? (i := 1862) (by decide +kernel)) (by decide +kernel) ?_
  show am_V X 0 0 _ _ ad (33, [(0, .ref 102), (1, .int x1), (2, .int x2), (3, .int x3), (4, .int x4), (5, .int x5), (6, .int (f_X12_gradient_86 I G x1 (I 103 x1.toNatClampNeg) x2 x3))], [.ref 1003, .int (((am_sT.getD 2 ("", "", [])).2.2.getD (f_X12_gradient_86 I G x1 (I 103 x1.toNatClampNeg) x2 x3).toNatClampNeg 0) * x4)], I, G, (gP rd))
  refine am_blk 33 [(.iload 6, 2, 6, 0, .null)] (35, [(0, .ref 102), (1, .int x1), (2, .int x2), (3, .int x3), (4, .int x4), (5, .int x5), (6, .int (f_X12_gradient_86 I G x1 (I 103 x1.toNatClampNeg) x2 x3))], [.int (f_X12_gradient_86 I G x1 (I 103 x1.toNatClampNeg) x2 x3), .ref 1003, .int (((am_sT.getD 2 ("", "", [])).2.2.getD (f_X12_gradient_86 I G x1 (I 103 x1.toNatClampNeg) x2 x3).toNatClampNeg 0) * x4)], I, G, (gP rd)) (True) hX hi (by decide +kernel) rfl trivial ?_
  obtain ⟨g0, h⟩ := rg_some h
  refine am_gel hX hi (i := 3) rfl g0 (by decide +kernel) ?_
  show am_V X 0 0 _ _ ad (36, [(0, .ref 102), (1, .int x1), (2, .int x2), (3, .int x3), (4, .int x4), (5, .int x5), (6, .int (f_X12_gradient_86 I G x1 (I 103 x1.toNatClampNeg) x2 x3))], [.int ((am_sT.getD 3 ("", "", [])).2.2.getD (f_X12_gradient_86 I G x1 (I 103 x1.toNatClampNeg) x2 x3).toNatClampNeg 0), .int (((am_sT.getD 2 ("", "", [])).2.2.getD (f_X12_gradient_86 I G x1 (I 103 x1.toNatClampNeg) x2 x3).toNatClampNeg 0) * x4)], I, G, (gP rd))
  refine am_blk 36 [(.iload 5, 2, 5, 0, .null), (.imul, 1, 0, 0, .null), (.iadd, 1, 0, 0, .null)] (40, [(0, .ref 102), (1, .int x1), (2, .int x2), (3, .int x3), (4, .int x4), (5, .int x5), (6, .int (f_X12_gradient_86 I G x1 (I 103 x1.toNatClampNeg) x2 x3))], [.int ((((am_sT.getD 2 ("", "", [])).2.2.getD (f_X12_gradient_86 I G x1 (I 103 x1.toNatClampNeg) x2 x3).toNatClampNeg 0) * x4) + (((am_sT.getD 3 ("", "", [])).2.2.getD (f_X12_gradient_86 I G x1 (I 103 x1.toNatClampNeg) x2 x3).toNatClampNeg 0) * x5))], I, G, (gP rd)) (True) hX hi (by decide +kernel) rfl trivial ?_
  cases h
  refine am_iret hX hi rfl rfl (by decide +kernel) ?_
  exact ⟨rfl, rfl, rfl, rfl⟩
noncomputable def R_X13_pullOf_112 (I : am_I) (G : am_G) (x1 : Int32) (x2 : Int32) (x3 : Int32) (x4 : Int32) (x5 : Int32) : Option (Int32 × am_I × am_G) := rg (vp_in x1 4) (rg (q_X12_gradient_86 I G x1 (I 113 x1.toNatClampNeg) x2 x3) (rg (vp_in (f_X12_gradient_86 I G x1 (I 113 x1.toNatClampNeg) x2 x3) 8) (rg (vp_in (f_X12_gradient_86 I G x1 (I 113 x1.toNatClampNeg) x2 x3) 8) (some (((((am_sT.getD 2 ("", "", [])).2.2.getD (f_X12_gradient_86 I G x1 (I 113 x1.toNatClampNeg) x2 x3).toNatClampNeg 0) * x4) + (((am_sT.getD 3 ("", "", [])).2.2.getD (f_X12_gradient_86 I G x1 (I 113 x1.toNatClampNeg) x2 x3).toNatClampNeg 0) * x5)), I, G)))))
set_option maxRecDepth 20000 in
set_option maxHeartbeats 4000000 in
theorem c_X13_pullOf_112 (rd : Nat) (I : am_I) (G : am_G) (x1 : Int32) (x2 : Int32) (x3 : Int32) (x4 : Int32) (x5 : Int32) {out : Int32 × am_I × am_G} (h : R_X13_pullOf_112 I G x1 x2 x3 x4 x5 = some out) : am_Ct mX13_pullOf 2 gS [.ref 112, .int x1, .int x2, .int x3, .int x4, .int x5] I G (gP rd) (pI out.1 out.2.1 out.2.2 (gP rd)) := by
  refine am_ofF (by decide +kernel) rfl (by decide) (by omega) (Nat.le_of_ble_eq_true rfl) (fun X ad hX hi => ?_)
  have hi : am_info X 11 cX13_pullOf 7 false (Option.some Jvm.ClassFile.FieldType.int) 2 := hi
  show am_V X 0 0 _ _ ad (0, [(0, .ref 112), (1, .int x1), (2, .int x2), (3, .int x3), (4, .int x4), (5, .int x5)], [], I, G, (gP rd))
  unfold R_X13_pullOf_112 at h
  obtain ⟨g0, h⟩ := rg_some h
  refine am_blk 0 [(.aload_n 0, 1, 0, 0, .null), (.getfield 3, 3, 11, 14, .null), (.getfield 67, 3, 12, 11, .null), (.iload_n 1, 1, 1, 0, .null), (.aload_n 0, 1, 0, 0, .null), (.getfield 15, 3, 11, 4, .null), (.iload_n 1, 1, 1, 0, .null), (.iaload, 1, 0, 0, .null), (.iload_n 2, 1, 2, 0, .null), (.iload_n 3, 1, 3, 0, .null)] (16, [(0, .ref 112), (1, .int x1), (2, .int x2), (3, .int x3), (4, .int x4), (5, .int x5)], [.int x3, .int x2, .int (I 113 x1.toNatClampNeg), .int x1, .ref 86], I, G, (gP rd)) (vp_in x1 4 ∧ True) hX hi (by decide +kernel) rfl ⟨g0, trivial⟩ ?_
  obtain ⟨hq1, h⟩ := rg_some h
  refine am_callV hX hi (M := mX12_gradient) (idx := 75) (d' := 1) (b := 86) (ci := 10) (As := [.int x1, .int (I 113 x1.toNatClampNeg), .int x2, .int x3]) (rest := []) mkX12_gradient miX12_gradient mvX12_gradient (by decide +kernel) (by decide +kernel) rfl (by decide +kernel) rfl ⟨by omega, by decide, Nat.le_of_ble_eq_true rfl⟩ rfl (c_X12_gradient_86 _ I G x1 (I 113 x1.toNatClampNeg) x2 x3 hq1) ?_
  rintro r9 I9 G9 P9 ⟨e0, e1, e2, e3⟩
  rw [e0, e1, e2, e3]
  show am_V X 0 0 _ _ ad (19, [(0, .ref 112), (1, .int x1), (2, .int x2), (3, .int x3), (4, .int x4), (5, .int x5)], [.int (f_X12_gradient_86 I G x1 (I 113 x1.toNatClampNeg) x2 x3)], I, G, (gP rd))
  refine am_blk 19 [(.istore 6, 2, 6, 0, .null)] (21, [(0, .ref 112), (1, .int x1), (2, .int x2), (3, .int x3), (4, .int x4), (5, .int x5), (6, .int (f_X12_gradient_86 I G x1 (I 113 x1.toNatClampNeg) x2 x3))], [], I, G, (gP rd)) (True) hX hi (by decide +kernel) rfl trivial ?_
  refine am_gstN hX hi (i := 2) (idx := 79) rfl (List.mem_of_getElem? (i := 1860) (by decide +kernel)) (by decide +kernel) ?_
  show am_V X 0 0 _ _ ad (24, [(0, .ref 112), (1, .int x1), (2, .int x2), (3, .int x3), (4, .int x4), (5, .int x5), (6, .int (f_X12_gradient_86 I G x1 (I 113 x1.toNatClampNeg) x2 x3))], [.ref 1002], I, G, (gP rd))
  refine am_blk 24 [(.iload 6, 2, 6, 0, .null)] (26, [(0, .ref 112), (1, .int x1), (2, .int x2), (3, .int x3), (4, .int x4), (5, .int x5), (6, .int (f_X12_gradient_86 I G x1 (I 113 x1.toNatClampNeg) x2 x3))], [.int (f_X12_gradient_86 I G x1 (I 113 x1.toNatClampNeg) x2 x3), .ref 1002], I, G, (gP rd)) (True) hX hi (by decide +kernel) rfl trivial ?_
  obtain ⟨g0, h⟩ := rg_some h
  refine am_gel hX hi (i := 2) rfl g0 (by decide +kernel) ?_
  show am_V X 0 0 _ _ ad (27, [(0, .ref 112), (1, .int x1), (2, .int x2), (3, .int x3), (4, .int x4), (5, .int x5), (6, .int (f_X12_gradient_86 I G x1 (I 113 x1.toNatClampNeg) x2 x3))], [.int ((am_sT.getD 2 ("", "", [])).2.2.getD (f_X12_gradient_86 I G x1 (I 113 x1.toNatClampNeg) x2 x3).toNatClampNeg 0)], I, G, (gP rd))
  refine am_blk 27 [(.iload 4, 2, 4, 0, .null), (.imul, 1, 0, 0, .null)] (30, [(0, .ref 112), (1, .int x1), (2, .int x2), (3, .int x3), (4, .int x4), (5, .int x5), (6, .int (f_X12_gradient_86 I G x1 (I 113 x1.toNatClampNeg) x2 x3))], [.int (((am_sT.getD 2 ("", "", [])).2.2.getD (f_X12_gradient_86 I G x1 (I 113 x1.toNatClampNeg) x2 x3).toNatClampNeg 0) * x4)], I, G, (gP rd)) (True) hX hi (by decide +kernel) rfl trivial ?_
  refine am_gstN hX hi (i := 3) (idx := 82) rfl (List.mem_of_getElem? (i := 1862) (by decide +kernel)) (by decide +kernel) ?_
  show am_V X 0 0 _ _ ad (33, [(0, .ref 112), (1, .int x1), (2, .int x2), (3, .int x3), (4, .int x4), (5, .int x5), (6, .int (f_X12_gradient_86 I G x1 (I 113 x1.toNatClampNeg) x2 x3))], [.ref 1003, .int (((am_sT.getD 2 ("", "", [])).2.2.getD (f_X12_gradient_86 I G x1 (I 113 x1.toNatClampNeg) x2 x3).toNatClampNeg 0) * x4)], I, G, (gP rd))
  refine am_blk 33 [(.iload 6, 2, 6, 0, .null)] (35, [(0, .ref 112), (1, .int x1), (2, .int x2), (3, .int x3), (4, .int x4), (5, .int x5), (6, .int (f_X12_gradient_86 I G x1 (I 113 x1.toNatClampNeg) x2 x3))], [.int (f_X12_gradient_86 I G x1 (I 113 x1.toNatClampNeg) x2 x3), .ref 1003, .int (((am_sT.getD 2 ("", "", [])).2.2.getD (f_X12_gradient_86 I G x1 (I 113 x1.toNatClampNeg) x2 x3).toNatClampNeg 0) * x4)], I, G, (gP rd)) (True) hX hi (by decide +kernel) rfl trivial ?_
  obtain ⟨g0, h⟩ := rg_some h
  refine am_gel hX hi (i := 3) rfl g0 (by decide +kernel) ?_
  show am_V X 0 0 _ _ ad (36, [(0, .ref 112), (1, .int x1), (2, .int x2), (3, .int x3), (4, .int x4), (5, .int x5), (6, .int (f_X12_gradient_86 I G x1 (I 113 x1.toNatClampNeg) x2 x3))], [.int ((am_sT.getD 3 ("", "", [])).2.2.getD (f_X12_gradient_86 I G x1 (I 113 x1.toNatClampNeg) x2 x3).toNatClampNeg 0), .int (((am_sT.getD 2 ("", "", [])).2.2.getD (f_X12_gradient_86 I G x1 (I 113 x1.toNatClampNeg) x2 x3).toNatClampNeg 0) * x4)], I, G, (gP rd))
  refine am_blk 36 [(.iload 5, 2, 5, 0, .null), (.imul, 1, 0, 0, .null), (.iadd, 1, 0, 0, .null)] (40, [(0, .ref 112), (1, .int x1), (2, .int x2), (3, .int x3), (4, .int x4), (5, .int x5), (6, .int (f_X12_gradient_86 I G x1 (I 113 x1.toNatClampNeg) x2 x3))], [.int ((((am_sT.getD 2 ("", "", [])).2.2.getD (f_X12_gradient_86 I G x1 (I 113 x1.toNatClampNeg) x2 x3).toNatClampNeg 0) * x4) + (((am_sT.getD 3 ("", "", [])).2.2.getD (f_X12_gradient_86 I G x1 (I 113 x1.toNatClampNeg) x2 x3).toNatClampNeg 0) * x5))], I, G, (gP rd)) (True) hX hi (by decide +kernel) rfl trivial ?_
  cases h
  refine am_iret hX hi rfl rfl (by decide +kernel) ?_
  exact ⟨rfl, rfl, rfl, rfl⟩
noncomputable def R_X13_valueAt_102 (I : am_I) (G : am_G) (x1 : Int32) (x2 : Int32) (x3 : Int32) : Option (Int32 × am_I × am_G) := rg (vp_in x1 4) (rg (¬ (I 86 0) = 0) (rg (vp_in x1 4) (rg (¬ (I 86 1) = 0) (rg (¬ (256 : Int32) = 0) (rg (¬ (256 : Int32) = 0) (rg (¬ (256 : Int32) = 0) (rg (¬ (256 : Int32) = 0) (rb (R_X13_pullOf_102 I G x1 (((((256 : Int32) * x2) * (I 87 x1.toNatClampNeg)) / (I 86 0)) / (256 : Int32)) (((((256 : Int32) * x3) * (I 88 x1.toNatClampNeg)) / (I 86 1)) / (256 : Int32)) (((((256 : Int32) * x2) * (I 87 x1.toNatClampNeg)) / (I 86 0)) - ((((256 : Int32) * x2) * (I 87 x1.toNatClampNeg)) / (I 86 0)) / (256 : Int32) * (256 : Int32)) (((((256 : Int32) * x3) * (I 88 x1.toNatClampNeg)) / (I 86 1)) - ((((256 : Int32) * x3) * (I 88 x1.toNatClampNeg)) / (I 86 1)) / (256 : Int32) * (256 : Int32))) (fun r1 I1 G1 => rb (R_X13_pullOf_102 I1 G1 x1 ((((((256 : Int32) * x2) * (I 87 x1.toNatClampNeg)) / (I 86 0)) / (256 : Int32)) + (1 : Int32)) (((((256 : Int32) * x3) * (I 88 x1.toNatClampNeg)) / (I 86 1)) / (256 : Int32)) ((((((256 : Int32) * x2) * (I 87 x1.toNatClampNeg)) / (I 86 0)) - ((((256 : Int32) * x2) * (I 87 x1.toNatClampNeg)) / (I 86 0)) / (256 : Int32) * (256 : Int32)) - (256 : Int32)) (((((256 : Int32) * x3) * (I 88 x1.toNatClampNeg)) / (I 86 1)) - ((((256 : Int32) * x3) * (I 88 x1.toNatClampNeg)) / (I 86 1)) / (256 : Int32) * (256 : Int32))) (fun r2 I2 G2 => rg (q_X14_fade I2 G2 (((((256 : Int32) * x2) * (I 87 x1.toNatClampNeg)) / (I 86 0)) - ((((256 : Int32) * x2) * (I 87 x1.toNatClampNeg)) / (I 86 0)) / (256 : Int32) * (256 : Int32))) (rg (q_X14_between I2 G2 r1 r2 (f_X14_fade I2 G2 (((((256 : Int32) * x2) * (I 87 x1.toNatClampNeg)) / (I 86 0)) - ((((256 : Int32) * x2) * (I 87 x1.toNatClampNeg)) / (I 86 0)) / (256 : Int32) * (256 : Int32)))) (rb (R_X13_pullOf_102 I2 G2 x1 (((((256 : Int32) * x2) * (I 87 x1.toNatClampNeg)) / (I 86 0)) / (256 : Int32)) ((((((256 : Int32) * x3) * (I 88 x1.toNatClampNeg)) / (I 86 1)) / (256 : Int32)) + (1 : Int32)) (((((256 : Int32) * x2) * (I 87 x1.toNatClampNeg)) / (I 86 0)) - ((((256 : Int32) * x2) * (I 87 x1.toNatClampNeg)) / (I 86 0)) / (256 : Int32) * (256 : Int32)) ((((((256 : Int32) * x3) * (I 88 x1.toNatClampNeg)) / (I 86 1)) - ((((256 : Int32) * x3) * (I 88 x1.toNatClampNeg)) / (I 86 1)) / (256 : Int32) * (256 : Int32)) - (256 : Int32))) (fun r3 I3 G3 => rb (R_X13_pullOf_102 I3 G3 x1 ((((((256 : Int32) * x2) * (I 87 x1.toNatClampNeg)) / (I 86 0)) / (256 : Int32)) + (1 : Int32)) ((((((256 : Int32) * x3) * (I 88 x1.toNatClampNeg)) / (I 86 1)) / (256 : Int32)) + (1 : Int32)) ((((((256 : Int32) * x2) * (I 87 x1.toNatClampNeg)) / (I 86 0)) - ((((256 : Int32) * x2) * (I 87 x1.toNatClampNeg)) / (I 86 0)) / (256 : Int32) * (256 : Int32)) - (256 : Int32)) ((((((256 : Int32) * x3) * (I 88 x1.toNatClampNeg)) / (I 86 1)) - ((((256 : Int32) * x3) * (I 88 x1.toNatClampNeg)) / (I 86 1)) / (256 : Int32) * (256 : Int32)) - (256 : Int32))) (fun r4 I4 G4 => rg (q_X14_fade I4 G4 (((((256 : Int32) * x2) * (I 87 x1.toNatClampNeg)) / (I 86 0)) - ((((256 : Int32) * x2) * (I 87 x1.toNatClampNeg)) / (I 86 0)) / (256 : Int32) * (256 : Int32))) (rg (q_X14_between I4 G4 r3 r4 (f_X14_fade I4 G4 (((((256 : Int32) * x2) * (I 87 x1.toNatClampNeg)) / (I 86 0)) - ((((256 : Int32) * x2) * (I 87 x1.toNatClampNeg)) / (I 86 0)) / (256 : Int32) * (256 : Int32)))) (rg (q_X14_fade I4 G4 (((((256 : Int32) * x3) * (I 88 x1.toNatClampNeg)) / (I 86 1)) - ((((256 : Int32) * x3) * (I 88 x1.toNatClampNeg)) / (I 86 1)) / (256 : Int32) * (256 : Int32))) (rg (q_X14_between I4 G4 (f_X14_between I2 G2 r1 r2 (f_X14_fade I2 G2 (((((256 : Int32) * x2) * (I 87 x1.toNatClampNeg)) / (I 86 0)) - ((((256 : Int32) * x2) * (I 87 x1.toNatClampNeg)) / (I 86 0)) / (256 : Int32) * (256 : Int32)))) (f_X14_between I4 G4 r3 r4 (f_X14_fade I4 G4 (((((256 : Int32) * x2) * (I 87 x1.toNatClampNeg)) / (I 86 0)) - ((((256 : Int32) * x2) * (I 87 x1.toNatClampNeg)) / (I 86 0)) / (256 : Int32) * (256 : Int32)))) (f_X14_fade I4 G4 (((((256 : Int32) * x3) * (I 88 x1.toNatClampNeg)) / (I 86 1)) - ((((256 : Int32) * x3) * (I 88 x1.toNatClampNeg)) / (I 86 1)) / (256 : Int32) * (256 : Int32)))) (some ((f_X14_between I4 G4 (f_X14_between I2 G2 r1 r2 (f_X14_fade I2 G2 (((((256 : Int32) * x2) * (I 87 x1.toNatClampNeg)) / (I 86 0)) - ((((256 : Int32) * x2) * (I 87 x1.toNatClampNeg)) / (I 86 0)) / (256 : Int32) * (256 : Int32)))) (f_X14_between I4 G4 r3 r4 (f_X14_fade I4 G4 (((((256 : Int32) * x2) * (I 87 x1.toNatClampNeg)) / (I 86 0)) - ((((256 : Int32) * x2) * (I 87 x1.toNatClampNeg)) / (I 86 0)) / (256 : Int32) * (256 : Int32)))) (f_X14_fade I4 G4 (((((256 : Int32) * x3) * (I 88 x1.toNatClampNeg)) / (I 86 1)) - ((((256 : Int32) * x3) * (I 88 x1.toNatClampNeg)) / (I 86 1)) / (256 : Int32) * (256 : Int32)))), I4, G4)))))))))))))))))))
set_option maxRecDepth 20000 in
set_option maxHeartbeats 4000000 in
theorem c_X13_valueAt_102 (rd : Nat) (I : am_I) (G : am_G) (x1 : Int32) (x2 : Int32) (x3 : Int32) {out : Int32 × am_I × am_G} (h : R_X13_valueAt_102 I G x1 x2 x3 = some out) : am_Ct mX13_valueAt 3 gS [.ref 102, .int x1, .int x2, .int x3] I G (gP rd) (pI out.1 out.2.1 out.2.2 (gP rd)) := by
  refine am_ofF (by decide +kernel) rfl (by decide) (by omega) (Nat.le_of_ble_eq_true rfl) (fun X ad hX hi => ?_)
  have hi : am_info X 11 cX13_valueAt 12 false (Option.some Jvm.ClassFile.FieldType.int) 3 := hi
  show am_V X 0 0 _ _ ad (0, [(0, .ref 102), (1, .int x1), (2, .int x2), (3, .int x3)], [], I, G, (gP rd))
  unfold R_X13_valueAt_102 at h
  obtain ⟨g0, h⟩ := rg_some h
  obtain ⟨g1, h⟩ := rg_some h
  obtain ⟨g2, h⟩ := rg_some h
  obtain ⟨g3, h⟩ := rg_some h
  obtain ⟨g4, h⟩ := rg_some h
  obtain ⟨g5, h⟩ := rg_some h
  obtain ⟨g6, h⟩ := rg_some h
  obtain ⟨g7, h⟩ := rg_some h
  refine am_blk 0 [(.sipush (256), 3, 0, 0, .int (256 : Int32)), (.iload_n 2, 1, 2, 0, .null), (.imul, 1, 0, 0, .null), (.aload_n 0, 1, 0, 0, .null), (.getfield 3, 3, 11, 14, .null), (.getfield 67, 3, 12, 11, .null), (.getfield 85, 3, 10, 5, .null), (.iload_n 1, 1, 1, 0, .null), (.iaload, 1, 0, 0, .null), (.imul, 1, 0, 0, .null), (.aload_n 0, 1, 0, 0, .null), (.getfield 3, 3, 11, 14, .null), (.getfield 67, 3, 12, 11, .null), (.getfield 87, 3, 10, 0, .null), (.idiv, 1, 0, 0, .null), (.istore 4, 2, 4, 0, .null), (.sipush (256), 3, 0, 0, .int (256 : Int32)), (.iload_n 3, 1, 3, 0, .null), (.imul, 1, 0, 0, .null), (.aload_n 0, 1, 0, 0, .null), (.getfield 3, 3, 11, 14, .null), (.getfield 67, 3, 12, 11, .null), (.getfield 90, 3, 10, 6, .null), (.iload_n 1, 1, 1, 0, .null), (.iaload, 1, 0, 0, .null), (.imul, 1, 0, 0, .null), (.aload_n 0, 1, 0, 0, .null), (.getfield 3, 3, 11, 14, .null), (.getfield 67, 3, 12, 11, .null), (.getfield 92, 3, 10, 1, .null), (.idiv, 1, 0, 0, .null), (.istore 5, 2, 5, 0, .null), (.iload 4, 2, 4, 0, .null), (.sipush (256), 3, 0, 0, .int (256 : Int32)), (.idiv, 1, 0, 0, .null), (.istore 6, 2, 6, 0, .null), (.iload 5, 2, 5, 0, .null), (.sipush (256), 3, 0, 0, .int (256 : Int32)), (.idiv, 1, 0, 0, .null), (.istore 7, 2, 7, 0, .null), (.iload 4, 2, 4, 0, .null), (.sipush (256), 3, 0, 0, .int (256 : Int32)), (.irem, 1, 0, 0, .null), (.istore 8, 2, 8, 0, .null), (.iload 5, 2, 5, 0, .null), (.sipush (256), 3, 0, 0, .int (256 : Int32)), (.irem, 1, 0, 0, .null), (.istore 9, 2, 9, 0, .null), (.aload_n 0, 1, 0, 0, .null), (.iload_n 1, 1, 1, 0, .null), (.iload 6, 2, 6, 0, .null), (.iload 7, 2, 7, 0, .null), (.iload 8, 2, 8, 0, .null), (.iload 9, 2, 9, 0, .null)] (104, [(0, .ref 102), (1, .int x1), (2, .int x2), (3, .int x3), (4, .int ((((256 : Int32) * x2) * (I 87 x1.toNatClampNeg)) / (I 86 0))), (5, .int ((((256 : Int32) * x3) * (I 88 x1.toNatClampNeg)) / (I 86 1))), (6, .int (((((256 : Int32) * x2) * (I 87 x1.toNatClampNeg)) / (I 86 0)) / (256 : Int32))), (7, .int (((((256 : Int32) * x3) * (I 88 x1.toNatClampNeg)) / (I 86 1)) / (256 : Int32))), (8, .int (((((256 : Int32) * x2) * (I 87 x1.toNatClampNeg)) / (I 86 0)) - ((((256 : Int32) * x2) * (I 87 x1.toNatClampNeg)) / (I 86 0)) / (256 : Int32) * (256 : Int32))), (9, .int (((((256 : Int32) * x3) * (I 88 x1.toNatClampNeg)) / (I 86 1)) - ((((256 : Int32) * x3) * (I 88 x1.toNatClampNeg)) / (I 86 1)) / (256 : Int32) * (256 : Int32)))], [.int (((((256 : Int32) * x3) * (I 88 x1.toNatClampNeg)) / (I 86 1)) - ((((256 : Int32) * x3) * (I 88 x1.toNatClampNeg)) / (I 86 1)) / (256 : Int32) * (256 : Int32)), .int (((((256 : Int32) * x2) * (I 87 x1.toNatClampNeg)) / (I 86 0)) - ((((256 : Int32) * x2) * (I 87 x1.toNatClampNeg)) / (I 86 0)) / (256 : Int32) * (256 : Int32)), .int (((((256 : Int32) * x3) * (I 88 x1.toNatClampNeg)) / (I 86 1)) / (256 : Int32)), .int (((((256 : Int32) * x2) * (I 87 x1.toNatClampNeg)) / (I 86 0)) / (256 : Int32)), .int x1, .ref 102], I, G, (gP rd)) (vp_in x1 4 ∧ ¬ (I 86 0) = 0 ∧ vp_in x1 4 ∧ ¬ (I 86 1) = 0 ∧ ¬ (256 : Int32) = 0 ∧ ¬ (256 : Int32) = 0 ∧ ¬ (256 : Int32) = 0 ∧ ¬ (256 : Int32) = 0 ∧ True) hX hi (by decide +kernel) rfl ⟨g0, g1, g2, g3, g4, g5, g6, g7, trivial⟩ ?_
  obtain ⟨r1, I1, G1, hc, h⟩ := rb_some h
  refine am_callV hX hi (M := mX13_pullOf) (idx := 95) (d' := 2) (b := 102) (ci := 11) (As := [.int x1, .int (((((256 : Int32) * x2) * (I 87 x1.toNatClampNeg)) / (I 86 0)) / (256 : Int32)), .int (((((256 : Int32) * x3) * (I 88 x1.toNatClampNeg)) / (I 86 1)) / (256 : Int32)), .int (((((256 : Int32) * x2) * (I 87 x1.toNatClampNeg)) / (I 86 0)) - ((((256 : Int32) * x2) * (I 87 x1.toNatClampNeg)) / (I 86 0)) / (256 : Int32) * (256 : Int32)), .int (((((256 : Int32) * x3) * (I 88 x1.toNatClampNeg)) / (I 86 1)) - ((((256 : Int32) * x3) * (I 88 x1.toNatClampNeg)) / (I 86 1)) / (256 : Int32) * (256 : Int32))]) (rest := []) mkX13_pullOf miX13_pullOf mvX13_pullOf (by decide +kernel) (by decide +kernel) rfl (by decide +kernel) rfl ⟨by omega, by decide, Nat.le_of_ble_eq_true rfl⟩ rfl (c_X13_pullOf_102 _ I G x1 (((((256 : Int32) * x2) * (I 87 x1.toNatClampNeg)) / (I 86 0)) / (256 : Int32)) (((((256 : Int32) * x3) * (I 88 x1.toNatClampNeg)) / (I 86 1)) / (256 : Int32)) (((((256 : Int32) * x2) * (I 87 x1.toNatClampNeg)) / (I 86 0)) - ((((256 : Int32) * x2) * (I 87 x1.toNatClampNeg)) / (I 86 0)) / (256 : Int32) * (256 : Int32)) (((((256 : Int32) * x3) * (I 88 x1.toNatClampNeg)) / (I 86 1)) - ((((256 : Int32) * x3) * (I 88 x1.toNatClampNeg)) / (I 86 1)) / (256 : Int32) * (256 : Int32)) hc) ?_
  rintro r9 I9 G9 P9 ⟨e0, e1, e2, e3⟩
  rw [e0, e1, e2, e3]
  show am_V X 0 0 _ _ ad (107, [(0, .ref 102), (1, .int x1), (2, .int x2), (3, .int x3), (4, .int ((((256 : Int32) * x2) * (I 87 x1.toNatClampNeg)) / (I 86 0))), (5, .int ((((256 : Int32) * x3) * (I 88 x1.toNatClampNeg)) / (I 86 1))), (6, .int (((((256 : Int32) * x2) * (I 87 x1.toNatClampNeg)) / (I 86 0)) / (256 : Int32))), (7, .int (((((256 : Int32) * x3) * (I 88 x1.toNatClampNeg)) / (I 86 1)) / (256 : Int32))), (8, .int (((((256 : Int32) * x2) * (I 87 x1.toNatClampNeg)) / (I 86 0)) - ((((256 : Int32) * x2) * (I 87 x1.toNatClampNeg)) / (I 86 0)) / (256 : Int32) * (256 : Int32))), (9, .int (((((256 : Int32) * x3) * (I 88 x1.toNatClampNeg)) / (I 86 1)) - ((((256 : Int32) * x3) * (I 88 x1.toNatClampNeg)) / (I 86 1)) / (256 : Int32) * (256 : Int32)))], [.int r1], I1, G1, (gP rd))
  refine am_blk 107 [(.aload_n 0, 1, 0, 0, .null), (.iload_n 1, 1, 1, 0, .null), (.iload 6, 2, 6, 0, .null), (.iconst (1), 1, 0, 0, .int (1 : Int32)), (.iadd, 1, 0, 0, .null), (.iload 7, 2, 7, 0, .null), (.iload 8, 2, 8, 0, .null), (.sipush (256), 3, 0, 0, .int (256 : Int32)), (.isub, 1, 0, 0, .null), (.iload 9, 2, 9, 0, .null)] (123, [(0, .ref 102), (1, .int x1), (2, .int x2), (3, .int x3), (4, .int ((((256 : Int32) * x2) * (I 87 x1.toNatClampNeg)) / (I 86 0))), (5, .int ((((256 : Int32) * x3) * (I 88 x1.toNatClampNeg)) / (I 86 1))), (6, .int (((((256 : Int32) * x2) * (I 87 x1.toNatClampNeg)) / (I 86 0)) / (256 : Int32))), (7, .int (((((256 : Int32) * x3) * (I 88 x1.toNatClampNeg)) / (I 86 1)) / (256 : Int32))), (8, .int (((((256 : Int32) * x2) * (I 87 x1.toNatClampNeg)) / (I 86 0)) - ((((256 : Int32) * x2) * (I 87 x1.toNatClampNeg)) / (I 86 0)) / (256 : Int32) * (256 : Int32))), (9, .int (((((256 : Int32) * x3) * (I 88 x1.toNatClampNeg)) / (I 86 1)) - ((((256 : Int32) * x3) * (I 88 x1.toNatClampNeg)) / (I 86 1)) / (256 : Int32) * (256 : Int32)))], [.int (((((256 : Int32) * x3) * (I 88 x1.toNatClampNeg)) / (I 86 1)) - ((((256 : Int32) * x3) * (I 88 x1.toNatClampNeg)) / (I 86 1)) / (256 : Int32) * (256 : Int32)), .int ((((((256 : Int32) * x2) * (I 87 x1.toNatClampNeg)) / (I 86 0)) - ((((256 : Int32) * x2) * (I 87 x1.toNatClampNeg)) / (I 86 0)) / (256 : Int32) * (256 : Int32)) - (256 : Int32)), .int (((((256 : Int32) * x3) * (I 88 x1.toNatClampNeg)) / (I 86 1)) / (256 : Int32)), .int ((((((256 : Int32) * x2) * (I 87 x1.toNatClampNeg)) / (I 86 0)) / (256 : Int32)) + (1 : Int32)), .int x1, .ref 102, .int r1], I1, G1, (gP rd)) (True) hX hi (by decide +kernel) rfl trivial ?_
  obtain ⟨r2, I2, G2, hc, h⟩ := rb_some h
  refine am_callV hX hi (M := mX13_pullOf) (idx := 95) (d' := 2) (b := 102) (ci := 11) (As := [.int x1, .int ((((((256 : Int32) * x2) * (I 87 x1.toNatClampNeg)) / (I 86 0)) / (256 : Int32)) + (1 : Int32)), .int (((((256 : Int32) * x3) * (I 88 x1.toNatClampNeg)) / (I 86 1)) / (256 : Int32)), .int ((((((256 : Int32) * x2) * (I 87 x1.toNatClampNeg)) / (I 86 0)) - ((((256 : Int32) * x2) * (I 87 x1.toNatClampNeg)) / (I 86 0)) / (256 : Int32) * (256 : Int32)) - (256 : Int32)), .int (((((256 : Int32) * x3) * (I 88 x1.toNatClampNeg)) / (I 86 1)) - ((((256 : Int32) * x3) * (I 88 x1.toNatClampNeg)) / (I 86 1)) / (256 : Int32) * (256 : Int32))]) (rest := [.int r1]) mkX13_pullOf miX13_pullOf mvX13_pullOf (by decide +kernel) (by decide +kernel) rfl (by decide +kernel) rfl ⟨by omega, by decide, Nat.le_of_ble_eq_true rfl⟩ rfl (c_X13_pullOf_102 _ I1 G1 x1 ((((((256 : Int32) * x2) * (I 87 x1.toNatClampNeg)) / (I 86 0)) / (256 : Int32)) + (1 : Int32)) (((((256 : Int32) * x3) * (I 88 x1.toNatClampNeg)) / (I 86 1)) / (256 : Int32)) ((((((256 : Int32) * x2) * (I 87 x1.toNatClampNeg)) / (I 86 0)) - ((((256 : Int32) * x2) * (I 87 x1.toNatClampNeg)) / (I 86 0)) / (256 : Int32) * (256 : Int32)) - (256 : Int32)) (((((256 : Int32) * x3) * (I 88 x1.toNatClampNeg)) / (I 86 1)) - ((((256 : Int32) * x3) * (I 88 x1.toNatClampNeg)) / (I 86 1)) / (256 : Int32) * (256 : Int32)) hc) ?_
  rintro r9 I9 G9 P9 ⟨e0, e1, e2, e3⟩
  rw [e0, e1, e2, e3]
  show am_V X 0 0 _ _ ad (126, [(0, .ref 102), (1, .int x1), (2, .int x2), (3, .int x3), (4, .int ((((256 : Int32) * x2) * (I 87 x1.toNatClampNeg)) / (I 86 0))), (5, .int ((((256 : Int32) * x3) * (I 88 x1.toNatClampNeg)) / (I 86 1))), (6, .int (((((256 : Int32) * x2) * (I 87 x1.toNatClampNeg)) / (I 86 0)) / (256 : Int32))), (7, .int (((((256 : Int32) * x3) * (I 88 x1.toNatClampNeg)) / (I 86 1)) / (256 : Int32))), (8, .int (((((256 : Int32) * x2) * (I 87 x1.toNatClampNeg)) / (I 86 0)) - ((((256 : Int32) * x2) * (I 87 x1.toNatClampNeg)) / (I 86 0)) / (256 : Int32) * (256 : Int32))), (9, .int (((((256 : Int32) * x3) * (I 88 x1.toNatClampNeg)) / (I 86 1)) - ((((256 : Int32) * x3) * (I 88 x1.toNatClampNeg)) / (I 86 1)) / (256 : Int32) * (256 : Int32)))], [.int r2, .int r1], I2, G2, (gP rd))
  refine am_blk 126 [(.iload 8, 2, 8, 0, .null)] (128, [(0, .ref 102), (1, .int x1), (2, .int x2), (3, .int x3), (4, .int ((((256 : Int32) * x2) * (I 87 x1.toNatClampNeg)) / (I 86 0))), (5, .int ((((256 : Int32) * x3) * (I 88 x1.toNatClampNeg)) / (I 86 1))), (6, .int (((((256 : Int32) * x2) * (I 87 x1.toNatClampNeg)) / (I 86 0)) / (256 : Int32))), (7, .int (((((256 : Int32) * x3) * (I 88 x1.toNatClampNeg)) / (I 86 1)) / (256 : Int32))), (8, .int (((((256 : Int32) * x2) * (I 87 x1.toNatClampNeg)) / (I 86 0)) - ((((256 : Int32) * x2) * (I 87 x1.toNatClampNeg)) / (I 86 0)) / (256 : Int32) * (256 : Int32))), (9, .int (((((256 : Int32) * x3) * (I 88 x1.toNatClampNeg)) / (I 86 1)) - ((((256 : Int32) * x3) * (I 88 x1.toNatClampNeg)) / (I 86 1)) / (256 : Int32) * (256 : Int32)))], [.int (((((256 : Int32) * x2) * (I 87 x1.toNatClampNeg)) / (I 86 0)) - ((((256 : Int32) * x2) * (I 87 x1.toNatClampNeg)) / (I 86 0)) / (256 : Int32) * (256 : Int32)), .int r2, .int r1], I2, G2, (gP rd)) (True) hX hi (by decide +kernel) rfl trivial ?_
  obtain ⟨hq1, h⟩ := rg_some h
  refine am_callSN hX hi (M := mX14_fade) (idx := 99) (d' := 1) (As := [.int (((((256 : Int32) * x2) * (I 87 x1.toNatClampNeg)) / (I 86 0)) - ((((256 : Int32) * x2) * (I 87 x1.toNatClampNeg)) / (I 86 0)) / (256 : Int32) * (256 : Int32))]) (rest := [.int r2, .int r1]) mkX14_fade msX14_fade (by decide +kernel) (by decide +kernel) rfl ⟨by omega, by decide, Nat.le_of_ble_eq_true rfl⟩ rfl (c_X14_fade I2 G2 (((((256 : Int32) * x2) * (I 87 x1.toNatClampNeg)) / (I 86 0)) - ((((256 : Int32) * x2) * (I 87 x1.toNatClampNeg)) / (I 86 0)) / (256 : Int32) * (256 : Int32)) hq1) ?_
  rintro r9 I9 G9 P9 ⟨e0, e1, e2, e3⟩
  rw [e0, e1, e2, e3]
  show am_V X 0 0 _ _ ad (131, [(0, .ref 102), (1, .int x1), (2, .int x2), (3, .int x3), (4, .int ((((256 : Int32) * x2) * (I 87 x1.toNatClampNeg)) / (I 86 0))), (5, .int ((((256 : Int32) * x3) * (I 88 x1.toNatClampNeg)) / (I 86 1))), (6, .int (((((256 : Int32) * x2) * (I 87 x1.toNatClampNeg)) / (I 86 0)) / (256 : Int32))), (7, .int (((((256 : Int32) * x3) * (I 88 x1.toNatClampNeg)) / (I 86 1)) / (256 : Int32))), (8, .int (((((256 : Int32) * x2) * (I 87 x1.toNatClampNeg)) / (I 86 0)) - ((((256 : Int32) * x2) * (I 87 x1.toNatClampNeg)) / (I 86 0)) / (256 : Int32) * (256 : Int32))), (9, .int (((((256 : Int32) * x3) * (I 88 x1.toNatClampNeg)) / (I 86 1)) - ((((256 : Int32) * x3) * (I 88 x1.toNatClampNeg)) / (I 86 1)) / (256 : Int32) * (256 : Int32)))], [.int (f_X14_fade I2 G2 (((((256 : Int32) * x2) * (I 87 x1.toNatClampNeg)) / (I 86 0)) - ((((256 : Int32) * x2) * (I 87 x1.toNatClampNeg)) / (I 86 0)) / (256 : Int32) * (256 : Int32))), .int r2, .int r1], I2, G2, (gP rd))
  obtain ⟨hq1, h⟩ := rg_some h
  refine am_callSN hX hi (M := mX14_between) (idx := 103) (d' := 1) (As := [.int r1, .int r2, .int (f_X14_fade I2 G2 (((((256 : Int32) * x2) * (I 87 x1.toNatClampNeg)) / (I 86 0)) - ((((256 : Int32) * x2) * (I 87 x1.toNatClampNeg)) / (I 86 0)) / (256 : Int32) * (256 : Int32)))]) (rest := []) mkX14_between msX14_between (by decide +kernel) (by decide +kernel) rfl ⟨by omega, by decide, Nat.le_of_ble_eq_true rfl⟩ rfl (c_X14_between I2 G2 r1 r2 (f_X14_fade I2 G2 (((((256 : Int32) * x2) * (I 87 x1.toNatClampNeg)) / (I 86 0)) - ((((256 : Int32) * x2) * (I 87 x1.toNatClampNeg)) / (I 86 0)) / (256 : Int32) * (256 : Int32))) hq1) ?_
  rintro r9 I9 G9 P9 ⟨e0, e1, e2, e3⟩
  rw [e0, e1, e2, e3]
  show am_V X 0 0 _ _ ad (134, [(0, .ref 102), (1, .int x1), (2, .int x2), (3, .int x3), (4, .int ((((256 : Int32) * x2) * (I 87 x1.toNatClampNeg)) / (I 86 0))), (5, .int ((((256 : Int32) * x3) * (I 88 x1.toNatClampNeg)) / (I 86 1))), (6, .int (((((256 : Int32) * x2) * (I 87 x1.toNatClampNeg)) / (I 86 0)) / (256 : Int32))), (7, .int (((((256 : Int32) * x3) * (I 88 x1.toNatClampNeg)) / (I 86 1)) / (256 : Int32))), (8, .int (((((256 : Int32) * x2) * (I 87 x1.toNatClampNeg)) / (I 86 0)) - ((((256 : Int32) * x2) * (I 87 x1.toNatClampNeg)) / (I 86 0)) / (256 : Int32) * (256 : Int32))), (9, .int (((((256 : Int32) * x3) * (I 88 x1.toNatClampNeg)) / (I 86 1)) - ((((256 : Int32) * x3) * (I 88 x1.toNatClampNeg)) / (I 86 1)) / (256 : Int32) * (256 : Int32)))], [.int (f_X14_between I2 G2 r1 r2 (f_X14_fade I2 G2 (((((256 : Int32) * x2) * (I 87 x1.toNatClampNeg)) / (I 86 0)) - ((((256 : Int32) * x2) * (I 87 x1.toNatClampNeg)) / (I 86 0)) / (256 : Int32) * (256 : Int32))))], I2, G2, (gP rd))
  refine am_blk 134 [(.istore 10, 2, 10, 0, .null), (.aload_n 0, 1, 0, 0, .null), (.iload_n 1, 1, 1, 0, .null), (.iload 6, 2, 6, 0, .null), (.iload 7, 2, 7, 0, .null), (.iconst (1), 1, 0, 0, .int (1 : Int32)), (.iadd, 1, 0, 0, .null), (.iload 8, 2, 8, 0, .null), (.iload 9, 2, 9, 0, .null), (.sipush (256), 3, 0, 0, .int (256 : Int32)), (.isub, 1, 0, 0, .null)] (152, [(0, .ref 102), (1, .int x1), (2, .int x2), (3, .int x3), (4, .int ((((256 : Int32) * x2) * (I 87 x1.toNatClampNeg)) / (I 86 0))), (5, .int ((((256 : Int32) * x3) * (I 88 x1.toNatClampNeg)) / (I 86 1))), (6, .int (((((256 : Int32) * x2) * (I 87 x1.toNatClampNeg)) / (I 86 0)) / (256 : Int32))), (7, .int (((((256 : Int32) * x3) * (I 88 x1.toNatClampNeg)) / (I 86 1)) / (256 : Int32))), (8, .int (((((256 : Int32) * x2) * (I 87 x1.toNatClampNeg)) / (I 86 0)) - ((((256 : Int32) * x2) * (I 87 x1.toNatClampNeg)) / (I 86 0)) / (256 : Int32) * (256 : Int32))), (9, .int (((((256 : Int32) * x3) * (I 88 x1.toNatClampNeg)) / (I 86 1)) - ((((256 : Int32) * x3) * (I 88 x1.toNatClampNeg)) / (I 86 1)) / (256 : Int32) * (256 : Int32))), (10, .int (f_X14_between I2 G2 r1 r2 (f_X14_fade I2 G2 (((((256 : Int32) * x2) * (I 87 x1.toNatClampNeg)) / (I 86 0)) - ((((256 : Int32) * x2) * (I 87 x1.toNatClampNeg)) / (I 86 0)) / (256 : Int32) * (256 : Int32)))))], [.int ((((((256 : Int32) * x3) * (I 88 x1.toNatClampNeg)) / (I 86 1)) - ((((256 : Int32) * x3) * (I 88 x1.toNatClampNeg)) / (I 86 1)) / (256 : Int32) * (256 : Int32)) - (256 : Int32)), .int (((((256 : Int32) * x2) * (I 87 x1.toNatClampNeg)) / (I 86 0)) - ((((256 : Int32) * x2) * (I 87 x1.toNatClampNeg)) / (I 86 0)) / (256 : Int32) * (256 : Int32)), .int ((((((256 : Int32) * x3) * (I 88 x1.toNatClampNeg)) / (I 86 1)) / (256 : Int32)) + (1 : Int32)), .int (((((256 : Int32) * x2) * (I 87 x1.toNatClampNeg)) / (I 86 0)) / (256 : Int32)), .int x1, .ref 102], I2, G2, (gP rd)) (True) hX hi (by decide +kernel) rfl trivial ?_
  obtain ⟨r3, I3, G3, hc, h⟩ := rb_some h
  refine am_callV hX hi (M := mX13_pullOf) (idx := 95) (d' := 2) (b := 102) (ci := 11) (As := [.int x1, .int (((((256 : Int32) * x2) * (I 87 x1.toNatClampNeg)) / (I 86 0)) / (256 : Int32)), .int ((((((256 : Int32) * x3) * (I 88 x1.toNatClampNeg)) / (I 86 1)) / (256 : Int32)) + (1 : Int32)), .int (((((256 : Int32) * x2) * (I 87 x1.toNatClampNeg)) / (I 86 0)) - ((((256 : Int32) * x2) * (I 87 x1.toNatClampNeg)) / (I 86 0)) / (256 : Int32) * (256 : Int32)), .int ((((((256 : Int32) * x3) * (I 88 x1.toNatClampNeg)) / (I 86 1)) - ((((256 : Int32) * x3) * (I 88 x1.toNatClampNeg)) / (I 86 1)) / (256 : Int32) * (256 : Int32)) - (256 : Int32))]) (rest := []) mkX13_pullOf miX13_pullOf mvX13_pullOf (by decide +kernel) (by decide +kernel) rfl (by decide +kernel) rfl ⟨by omega, by decide, Nat.le_of_ble_eq_true rfl⟩ rfl (c_X13_pullOf_102 _ I2 G2 x1 (((((256 : Int32) * x2) * (I 87 x1.toNatClampNeg)) / (I 86 0)) / (256 : Int32)) ((((((256 : Int32) * x3) * (I 88 x1.toNatClampNeg)) / (I 86 1)) / (256 : Int32)) + (1 : Int32)) (((((256 : Int32) * x2) * (I 87 x1.toNatClampNeg)) / (I 86 0)) - ((((256 : Int32) * x2) * (I 87 x1.toNatClampNeg)) / (I 86 0)) / (256 : Int32) * (256 : Int32)) ((((((256 : Int32) * x3) * (I 88 x1.toNatClampNeg)) / (I 86 1)) - ((((256 : Int32) * x3) * (I 88 x1.toNatClampNeg)) / (I 86 1)) / (256 : Int32) * (256 : Int32)) - (256 : Int32)) hc) ?_
  rintro r9 I9 G9 P9 ⟨e0, e1, e2, e3⟩
  rw [e0, e1, e2, e3]
  show am_V X 0 0 _ _ ad (155, [(0, .ref 102), (1, .int x1), (2, .int x2), (3, .int x3), (4, .int ((((256 : Int32) * x2) * (I 87 x1.toNatClampNeg)) / (I 86 0))), (5, .int ((((256 : Int32) * x3) * (I 88 x1.toNatClampNeg)) / (I 86 1))), (6, .int (((((256 : Int32) * x2) * (I 87 x1.toNatClampNeg)) / (I 86 0)) / (256 : Int32))), (7, .int (((((256 : Int32) * x3) * (I 88 x1.toNatClampNeg)) / (I 86 1)) / (256 : Int32))), (8, .int (((((256 : Int32) * x2) * (I 87 x1.toNatClampNeg)) / (I 86 0)) - ((((256 : Int32) * x2) * (I 87 x1.toNatClampNeg)) / (I 86 0)) / (256 : Int32) * (256 : Int32))), (9, .int (((((256 : Int32) * x3) * (I 88 x1.toNatClampNeg)) / (I 86 1)) - ((((256 : Int32) * x3) * (I 88 x1.toNatClampNeg)) / (I 86 1)) / (256 : Int32) * (256 : Int32))), (10, .int (f_X14_between I2 G2 r1 r2 (f_X14_fade I2 G2 (((((256 : Int32) * x2) * (I 87 x1.toNatClampNeg)) / (I 86 0)) - ((((256 : Int32) * x2) * (I 87 x1.toNatClampNeg)) / (I 86 0)) / (256 : Int32) * (256 : Int32)))))], [.int r3], I3, G3, (gP rd))
  refine am_blk 155 [(.aload_n 0, 1, 0, 0, .null), (.iload_n 1, 1, 1, 0, .null), (.iload 6, 2, 6, 0, .null), (.iconst (1), 1, 0, 0, .int (1 : Int32)), (.iadd, 1, 0, 0, .null), (.iload 7, 2, 7, 0, .null), (.iconst (1), 1, 0, 0, .int (1 : Int32)), (.iadd, 1, 0, 0, .null), (.iload 8, 2, 8, 0, .null), (.sipush (256), 3, 0, 0, .int (256 : Int32)), (.isub, 1, 0, 0, .null), (.iload 9, 2, 9, 0, .null), (.sipush (256), 3, 0, 0, .int (256 : Int32)), (.isub, 1, 0, 0, .null)] (177, [(0, .ref 102), (1, .int x1), (2, .int x2), (3, .int x3), (4, .int ((((256 : Int32) * x2) * (I 87 x1.toNatClampNeg)) / (I 86 0))), (5, .int ((((256 : Int32) * x3) * (I 88 x1.toNatClampNeg)) / (I 86 1))), (6, .int (((((256 : Int32) * x2) * (I 87 x1.toNatClampNeg)) / (I 86 0)) / (256 : Int32))), (7, .int (((((256 : Int32) * x3) * (I 88 x1.toNatClampNeg)) / (I 86 1)) / (256 : Int32))), (8, .int (((((256 : Int32) * x2) * (I 87 x1.toNatClampNeg)) / (I 86 0)) - ((((256 : Int32) * x2) * (I 87 x1.toNatClampNeg)) / (I 86 0)) / (256 : Int32) * (256 : Int32))), (9, .int (((((256 : Int32) * x3) * (I 88 x1.toNatClampNeg)) / (I 86 1)) - ((((256 : Int32) * x3) * (I 88 x1.toNatClampNeg)) / (I 86 1)) / (256 : Int32) * (256 : Int32))), (10, .int (f_X14_between I2 G2 r1 r2 (f_X14_fade I2 G2 (((((256 : Int32) * x2) * (I 87 x1.toNatClampNeg)) / (I 86 0)) - ((((256 : Int32) * x2) * (I 87 x1.toNatClampNeg)) / (I 86 0)) / (256 : Int32) * (256 : Int32)))))], [.int ((((((256 : Int32) * x3) * (I 88 x1.toNatClampNeg)) / (I 86 1)) - ((((256 : Int32) * x3) * (I 88 x1.toNatClampNeg)) / (I 86 1)) / (256 : Int32) * (256 : Int32)) - (256 : Int32)), .int ((((((256 : Int32) * x2) * (I 87 x1.toNatClampNeg)) / (I 86 0)) - ((((256 : Int32) * x2) * (I 87 x1.toNatClampNeg)) / (I 86 0)) / (256 : Int32) * (256 : Int32)) - (256 : Int32)), .int ((((((256 : Int32) * x3) * (I 88 x1.toNatClampNeg)) / (I 86 1)) / (256 : Int32)) + (1 : Int32)), .int ((((((256 : Int32) * x2) * (I 87 x1.toNatClampNeg)) / (I 86 0)) / (256 : Int32)) + (1 : Int32)), .int x1, .ref 102, .int r3], I3, G3, (gP rd)) (True) hX hi (by decide +kernel) rfl trivial ?_
  obtain ⟨r4, I4, G4, hc, h⟩ := rb_some h
  refine am_callV hX hi (M := mX13_pullOf) (idx := 95) (d' := 2) (b := 102) (ci := 11) (As := [.int x1, .int ((((((256 : Int32) * x2) * (I 87 x1.toNatClampNeg)) / (I 86 0)) / (256 : Int32)) + (1 : Int32)), .int ((((((256 : Int32) * x3) * (I 88 x1.toNatClampNeg)) / (I 86 1)) / (256 : Int32)) + (1 : Int32)), .int ((((((256 : Int32) * x2) * (I 87 x1.toNatClampNeg)) / (I 86 0)) - ((((256 : Int32) * x2) * (I 87 x1.toNatClampNeg)) / (I 86 0)) / (256 : Int32) * (256 : Int32)) - (256 : Int32)), .int ((((((256 : Int32) * x3) * (I 88 x1.toNatClampNeg)) / (I 86 1)) - ((((256 : Int32) * x3) * (I 88 x1.toNatClampNeg)) / (I 86 1)) / (256 : Int32) * (256 : Int32)) - (256 : Int32))]) (rest := [.int r3]) mkX13_pullOf miX13_pullOf mvX13_pullOf (by decide +kernel) (by decide +kernel) rfl (by decide +kernel) rfl ⟨by omega, by decide, Nat.le_of_ble_eq_true rfl⟩ rfl (c_X13_pullOf_102 _ I3 G3 x1 ((((((256 : Int32) * x2) * (I 87 x1.toNatClampNeg)) / (I 86 0)) / (256 : Int32)) + (1 : Int32)) ((((((256 : Int32) * x3) * (I 88 x1.toNatClampNeg)) / (I 86 1)) / (256 : Int32)) + (1 : Int32)) ((((((256 : Int32) * x2) * (I 87 x1.toNatClampNeg)) / (I 86 0)) - ((((256 : Int32) * x2) * (I 87 x1.toNatClampNeg)) / (I 86 0)) / (256 : Int32) * (256 : Int32)) - (256 : Int32)) ((((((256 : Int32) * x3) * (I 88 x1.toNatClampNeg)) / (I 86 1)) - ((((256 : Int32) * x3) * (I 88 x1.toNatClampNeg)) / (I 86 1)) / (256 : Int32) * (256 : Int32)) - (256 : Int32)) hc) ?_
  rintro r9 I9 G9 P9 ⟨e0, e1, e2, e3⟩
  rw [e0, e1, e2, e3]
  show am_V X 0 0 _ _ ad (180, [(0, .ref 102), (1, .int x1), (2, .int x2), (3, .int x3), (4, .int ((((256 : Int32) * x2) * (I 87 x1.toNatClampNeg)) / (I 86 0))), (5, .int ((((256 : Int32) * x3) * (I 88 x1.toNatClampNeg)) / (I 86 1))), (6, .int (((((256 : Int32) * x2) * (I 87 x1.toNatClampNeg)) / (I 86 0)) / (256 : Int32))), (7, .int (((((256 : Int32) * x3) * (I 88 x1.toNatClampNeg)) / (I 86 1)) / (256 : Int32))), (8, .int (((((256 : Int32) * x2) * (I 87 x1.toNatClampNeg)) / (I 86 0)) - ((((256 : Int32) * x2) * (I 87 x1.toNatClampNeg)) / (I 86 0)) / (256 : Int32) * (256 : Int32))), (9, .int (((((256 : Int32) * x3) * (I 88 x1.toNatClampNeg)) / (I 86 1)) - ((((256 : Int32) * x3) * (I 88 x1.toNatClampNeg)) / (I 86 1)) / (256 : Int32) * (256 : Int32))), (10, .int (f_X14_between I2 G2 r1 r2 (f_X14_fade I2 G2 (((((256 : Int32) * x2) * (I 87 x1.toNatClampNeg)) / (I 86 0)) - ((((256 : Int32) * x2) * (I 87 x1.toNatClampNeg)) / (I 86 0)) / (256 : Int32) * (256 : Int32)))))], [.int r4, .int r3], I4, G4, (gP rd))
  refine am_blk 180 [(.iload 8, 2, 8, 0, .null)] (182, [(0, .ref 102), (1, .int x1), (2, .int x2), (3, .int x3), (4, .int ((((256 : Int32) * x2) * (I 87 x1.toNatClampNeg)) / (I 86 0))), (5, .int ((((256 : Int32) * x3) * (I 88 x1.toNatClampNeg)) / (I 86 1))), (6, .int (((((256 : Int32) * x2) * (I 87 x1.toNatClampNeg)) / (I 86 0)) / (256 : Int32))), (7, .int (((((256 : Int32) * x3) * (I 88 x1.toNatClampNeg)) / (I 86 1)) / (256 : Int32))), (8, .int (((((256 : Int32) * x2) * (I 87 x1.toNatClampNeg)) / (I 86 0)) - ((((256 : Int32) * x2) * (I 87 x1.toNatClampNeg)) / (I 86 0)) / (256 : Int32) * (256 : Int32))), (9, .int (((((256 : Int32) * x3) * (I 88 x1.toNatClampNeg)) / (I 86 1)) - ((((256 : Int32) * x3) * (I 88 x1.toNatClampNeg)) / (I 86 1)) / (256 : Int32) * (256 : Int32))), (10, .int (f_X14_between I2 G2 r1 r2 (f_X14_fade I2 G2 (((((256 : Int32) * x2) * (I 87 x1.toNatClampNeg)) / (I 86 0)) - ((((256 : Int32) * x2) * (I 87 x1.toNatClampNeg)) / (I 86 0)) / (256 : Int32) * (256 : Int32)))))], [.int (((((256 : Int32) * x2) * (I 87 x1.toNatClampNeg)) / (I 86 0)) - ((((256 : Int32) * x2) * (I 87 x1.toNatClampNeg)) / (I 86 0)) / (256 : Int32) * (256 : Int32)), .int r4, .int r3], I4, G4, (gP rd)) (True) hX hi (by decide +kernel) rfl trivial ?_
  obtain ⟨hq1, h⟩ := rg_some h
  refine am_callSN hX hi (M := mX14_fade) (idx := 99) (d' := 1) (As := [.int (((((256 : Int32) * x2) * (I 87 x1.toNatClampNeg)) / (I 86 0)) - ((((256 : Int32) * x2) * (I 87 x1.toNatClampNeg)) / (I 86 0)) / (256 : Int32) * (256 : Int32))]) (rest := [.int r4, .int r3]) mkX14_fade msX14_fade (by decide +kernel) (by decide +kernel) rfl ⟨by omega, by decide, Nat.le_of_ble_eq_true rfl⟩ rfl (c_X14_fade I4 G4 (((((256 : Int32) * x2) * (I 87 x1.toNatClampNeg)) / (I 86 0)) - ((((256 : Int32) * x2) * (I 87 x1.toNatClampNeg)) / (I 86 0)) / (256 : Int32) * (256 : Int32)) hq1) ?_
  rintro r9 I9 G9 P9 ⟨e0, e1, e2, e3⟩
  rw [e0, e1, e2, e3]
  show am_V X 0 0 _ _ ad (185, [(0, .ref 102), (1, .int x1), (2, .int x2), (3, .int x3), (4, .int ((((256 : Int32) * x2) * (I 87 x1.toNatClampNeg)) / (I 86 0))), (5, .int ((((256 : Int32) * x3) * (I 88 x1.toNatClampNeg)) / (I 86 1))), (6, .int (((((256 : Int32) * x2) * (I 87 x1.toNatClampNeg)) / (I 86 0)) / (256 : Int32))), (7, .int (((((256 : Int32) * x3) * (I 88 x1.toNatClampNeg)) / (I 86 1)) / (256 : Int32))), (8, .int (((((256 : Int32) * x2) * (I 87 x1.toNatClampNeg)) / (I 86 0)) - ((((256 : Int32) * x2) * (I 87 x1.toNatClampNeg)) / (I 86 0)) / (256 : Int32) * (256 : Int32))), (9, .int (((((256 : Int32) * x3) * (I 88 x1.toNatClampNeg)) / (I 86 1)) - ((((256 : Int32) * x3) * (I 88 x1.toNatClampNeg)) / (I 86 1)) / (256 : Int32) * (256 : Int32))), (10, .int (f_X14_between I2 G2 r1 r2 (f_X14_fade I2 G2 (((((256 : Int32) * x2) * (I 87 x1.toNatClampNeg)) / (I 86 0)) - ((((256 : Int32) * x2) * (I 87 x1.toNatClampNeg)) / (I 86 0)) / (256 : Int32) * (256 : Int32)))))], [.int (f_X14_fade I4 G4 (((((256 : Int32) * x2) * (I 87 x1.toNatClampNeg)) / (I 86 0)) - ((((256 : Int32) * x2) * (I 87 x1.toNatClampNeg)) / (I 86 0)) / (256 : Int32) * (256 : Int32))), .int r4, .int r3], I4, G4, (gP rd))
  obtain ⟨hq1, h⟩ := rg_some h
  refine am_callSN hX hi (M := mX14_between) (idx := 103) (d' := 1) (As := [.int r3, .int r4, .int (f_X14_fade I4 G4 (((((256 : Int32) * x2) * (I 87 x1.toNatClampNeg)) / (I 86 0)) - ((((256 : Int32) * x2) * (I 87 x1.toNatClampNeg)) / (I 86 0)) / (256 : Int32) * (256 : Int32)))]) (rest := []) mkX14_between msX14_between (by decide +kernel) (by decide +kernel) rfl ⟨by omega, by decide, Nat.le_of_ble_eq_true rfl⟩ rfl (c_X14_between I4 G4 r3 r4 (f_X14_fade I4 G4 (((((256 : Int32) * x2) * (I 87 x1.toNatClampNeg)) / (I 86 0)) - ((((256 : Int32) * x2) * (I 87 x1.toNatClampNeg)) / (I 86 0)) / (256 : Int32) * (256 : Int32))) hq1) ?_
  rintro r9 I9 G9 P9 ⟨e0, e1, e2, e3⟩
  rw [e0, e1, e2, e3]
  show am_V X 0 0 _ _ ad (188, [(0, .ref 102), (1, .int x1), (2, .int x2), (3, .int x3), (4, .int ((((256 : Int32) * x2) * (I 87 x1.toNatClampNeg)) / (I 86 0))), (5, .int ((((256 : Int32) * x3) * (I 88 x1.toNatClampNeg)) / (I 86 1))), (6, .int (((((256 : Int32) * x2) * (I 87 x1.toNatClampNeg)) / (I 86 0)) / (256 : Int32))), (7, .int (((((256 : Int32) * x3) * (I 88 x1.toNatClampNeg)) / (I 86 1)) / (256 : Int32))), (8, .int (((((256 : Int32) * x2) * (I 87 x1.toNatClampNeg)) / (I 86 0)) - ((((256 : Int32) * x2) * (I 87 x1.toNatClampNeg)) / (I 86 0)) / (256 : Int32) * (256 : Int32))), (9, .int (((((256 : Int32) * x3) * (I 88 x1.toNatClampNeg)) / (I 86 1)) - ((((256 : Int32) * x3) * (I 88 x1.toNatClampNeg)) / (I 86 1)) / (256 : Int32) * (256 : Int32))), (10, .int (f_X14_between I2 G2 r1 r2 (f_X14_fade I2 G2 (((((256 : Int32) * x2) * (I 87 x1.toNatClampNeg)) / (I 86 0)) - ((((256 : Int32) * x2) * (I 87 x1.toNatClampNeg)) / (I 86 0)) / (256 : Int32) * (256 : Int32)))))], [.int (f_X14_between I4 G4 r3 r4 (f_X14_fade I4 G4 (((((256 : Int32) * x2) * (I 87 x1.toNatClampNeg)) / (I 86 0)) - ((((256 : Int32) * x2) * (I 87 x1.toNatClampNeg)) / (I 86 0)) / (256 : Int32) * (256 : Int32))))], I4, G4, (gP rd))
  refine am_blk 188 [(.istore 11, 2, 11, 0, .null), (.iload 10, 2, 10, 0, .null), (.iload 11, 2, 11, 0, .null), (.iload 9, 2, 9, 0, .null)] (196, [(0, .ref 102), (1, .int x1), (2, .int x2), (3, .int x3), (4, .int ((((256 : Int32) * x2) * (I 87 x1.toNatClampNeg)) / (I 86 0))), (5, .int ((((256 : Int32) * x3) * (I 88 x1.toNatClampNeg)) / (I 86 1))), (6, .int (((((256 : Int32) * x2) * (I 87 x1.toNatClampNeg)) / (I 86 0)) / (256 : Int32))), (7, .int (((((256 : Int32) * x3) * (I 88 x1.toNatClampNeg)) / (I 86 1)) / (256 : Int32))), (8, .int (((((256 : Int32) * x2) * (I 87 x1.toNatClampNeg)) / (I 86 0)) - ((((256 : Int32) * x2) * (I 87 x1.toNatClampNeg)) / (I 86 0)) / (256 : Int32) * (256 : Int32))), (9, .int (((((256 : Int32) * x3) * (I 88 x1.toNatClampNeg)) / (I 86 1)) - ((((256 : Int32) * x3) * (I 88 x1.toNatClampNeg)) / (I 86 1)) / (256 : Int32) * (256 : Int32))), (10, .int (f_X14_between I2 G2 r1 r2 (f_X14_fade I2 G2 (((((256 : Int32) * x2) * (I 87 x1.toNatClampNeg)) / (I 86 0)) - ((((256 : Int32) * x2) * (I 87 x1.toNatClampNeg)) / (I 86 0)) / (256 : Int32) * (256 : Int32))))), (11, .int (f_X14_between I4 G4 r3 r4 (f_X14_fade I4 G4 (((((256 : Int32) * x2) * (I 87 x1.toNatClampNeg)) / (I 86 0)) - ((((256 : Int32) * x2) * (I 87 x1.toNatClampNeg)) / (I 86 0)) / (256 : Int32) * (256 : Int32)))))], [.int (((((256 : Int32) * x3) * (I 88 x1.toNatClampNeg)) / (I 86 1)) - ((((256 : Int32) * x3) * (I 88 x1.toNatClampNeg)) / (I 86 1)) / (256 : Int32) * (256 : Int32)), .int (f_X14_between I4 G4 r3 r4 (f_X14_fade I4 G4 (((((256 : Int32) * x2) * (I 87 x1.toNatClampNeg)) / (I 86 0)) - ((((256 : Int32) * x2) * (I 87 x1.toNatClampNeg)) / (I 86 0)) / (256 : Int32) * (256 : Int32)))), .int (f_X14_between I2 G2 r1 r2 (f_X14_fade I2 G2 (((((256 : Int32) * x2) * (I 87 x1.toNatClampNeg)) / (I 86 0)) - ((((256 : Int32) * x2) * (I 87 x1.toNatClampNeg)) / (I 86 0)) / (256 : Int32) * (256 : Int32))))], I4, G4, (gP rd)) (True) hX hi (by decide +kernel) rfl trivial ?_
  obtain ⟨hq1, h⟩ := rg_some h
  refine am_callSN hX hi (M := mX14_fade) (idx := 99) (d' := 1) (As := [.int (((((256 : Int32) * x3) * (I 88 x1.toNatClampNeg)) / (I 86 1)) - ((((256 : Int32) * x3) * (I 88 x1.toNatClampNeg)) / (I 86 1)) / (256 : Int32) * (256 : Int32))]) (rest := [.int (f_X14_between I4 G4 r3 r4 (f_X14_fade I4 G4 (((((256 : Int32) * x2) * (I 87 x1.toNatClampNeg)) / (I 86 0)) - ((((256 : Int32) * x2) * (I 87 x1.toNatClampNeg)) / (I 86 0)) / (256 : Int32) * (256 : Int32)))), .int (f_X14_between I2 G2 r1 r2 (f_X14_fade I2 G2 (((((256 : Int32) * x2) * (I 87 x1.toNatClampNeg)) / (I 86 0)) - ((((256 : Int32) * x2) * (I 87 x1.toNatClampNeg)) / (I 86 0)) / (256 : Int32) * (256 : Int32))))]) mkX14_fade msX14_fade (by decide +kernel) (by decide +kernel) rfl ⟨by omega, by decide, Nat.le_of_ble_eq_true rfl⟩ rfl (c_X14_fade I4 G4 (((((256 : Int32) * x3) * (I 88 x1.toNatClampNeg)) / (I 86 1)) - ((((256 : Int32) * x3) * (I 88 x1.toNatClampNeg)) / (I 86 1)) / (256 : Int32) * (256 : Int32)) hq1) ?_
  rintro r9 I9 G9 P9 ⟨e0, e1, e2, e3⟩
  rw [e0, e1, e2, e3]
  show am_V X 0 0 _ _ ad (199, [(0, .ref 102), (1, .int x1), (2, .int x2), (3, .int x3), (4, .int ((((256 : Int32) * x2) * (I 87 x1.toNatClampNeg)) / (I 86 0))), (5, .int ((((256 : Int32) * x3) * (I 88 x1.toNatClampNeg)) / (I 86 1))), (6, .int (((((256 : Int32) * x2) * (I 87 x1.toNatClampNeg)) / (I 86 0)) / (256 : Int32))), (7, .int (((((256 : Int32) * x3) * (I 88 x1.toNatClampNeg)) / (I 86 1)) / (256 : Int32))), (8, .int (((((256 : Int32) * x2) * (I 87 x1.toNatClampNeg)) / (I 86 0)) - ((((256 : Int32) * x2) * (I 87 x1.toNatClampNeg)) / (I 86 0)) / (256 : Int32) * (256 : Int32))), (9, .int (((((256 : Int32) * x3) * (I 88 x1.toNatClampNeg)) / (I 86 1)) - ((((256 : Int32) * x3) * (I 88 x1.toNatClampNeg)) / (I 86 1)) / (256 : Int32) * (256 : Int32))), (10, .int (f_X14_between I2 G2 r1 r2 (f_X14_fade I2 G2 (((((256 : Int32) * x2) * (I 87 x1.toNatClampNeg)) / (I 86 0)) - ((((256 : Int32) * x2) * (I 87 x1.toNatClampNeg)) / (I 86 0)) / (256 : Int32) * (256 : Int32))))), (11, .int (f_X14_between I4 G4 r3 r4 (f_X14_fade I4 G4 (((((256 : Int32) * x2) * (I 87 x1.toNatClampNeg)) / (I 86 0)) - ((((256 : Int32) * x2) * (I 87 x1.toNatClampNeg)) / (I 86 0)) / (256 : Int32) * (256 : Int32)))))], [.int (f_X14_fade I4 G4 (((((256 : Int32) * x3) * (I 88 x1.toNatClampNeg)) / (I 86 1)) - ((((256 : Int32) * x3) * (I 88 x1.toNatClampNeg)) / (I 86 1)) / (256 : Int32) * (256 : Int32))), .int (f_X14_between I4 G4 r3 r4 (f_X14_fade I4 G4 (((((256 : Int32) * x2) * (I 87 x1.toNatClampNeg)) / (I 86 0)) - ((((256 : Int32) * x2) * (I 87 x1.toNatClampNeg)) / (I 86 0)) / (256 : Int32) * (256 : Int32)))), .int (f_X14_between I2 G2 r1 r2 (f_X14_fade I2 G2 (((((256 : Int32) * x2) * (I 87 x1.toNatClampNeg)) / (I 86 0)) - ((((256 : Int32) * x2) * (I 87 x1.toNatClampNeg)) / (I 86 0)) / (256 : Int32) * (256 : Int32))))], I4, G4, (gP rd))
  obtain ⟨hq1, h⟩ := rg_some h
  refine am_callSN hX hi (M := mX14_between) (idx := 103) (d' := 1) (As := [.int (f_X14_between I2 G2 r1 r2 (f_X14_fade I2 G2 (((((256 : Int32) * x2) * (I 87 x1.toNatClampNeg)) / (I 86 0)) - ((((256 : Int32) * x2) * (I 87 x1.toNatClampNeg)) / (I 86 0)) / (256 : Int32) * (256 : Int32)))), .int (f_X14_between I4 G4 r3 r4 (f_X14_fade I4 G4 (((((256 : Int32) * x2) * (I 87 x1.toNatClampNeg)) / (I 86 0)) - ((((256 : Int32) * x2) * (I 87 x1.toNatClampNeg)) / (I 86 0)) / (256 : Int32) * (256 : Int32)))), .int (f_X14_fade I4 G4 (((((256 : Int32) * x3) * (I 88 x1.toNatClampNeg)) / (I 86 1)) - ((((256 : Int32) * x3) * (I 88 x1.toNatClampNeg)) / (I 86 1)) / (256 : Int32) * (256 : Int32)))]) (rest := []) mkX14_between msX14_between (by decide +kernel) (by decide +kernel) rfl ⟨by omega, by decide, Nat.le_of_ble_eq_true rfl⟩ rfl (c_X14_between I4 G4 (f_X14_between I2 G2 r1 r2 (f_X14_fade I2 G2 (((((256 : Int32) * x2) * (I 87 x1.toNatClampNeg)) / (I 86 0)) - ((((256 : Int32) * x2) * (I 87 x1.toNatClampNeg)) / (I 86 0)) / (256 : Int32) * (256 : Int32)))) (f_X14_between I4 G4 r3 r4 (f_X14_fade I4 G4 (((((256 : Int32) * x2) * (I 87 x1.toNatClampNeg)) / (I 86 0)) - ((((256 : Int32) * x2) * (I 87 x1.toNatClampNeg)) / (I 86 0)) / (256 : Int32) * (256 : Int32)))) (f_X14_fade I4 G4 (((((256 : Int32) * x3) * (I 88 x1.toNatClampNeg)) / (I 86 1)) - ((((256 : Int32) * x3) * (I 88 x1.toNatClampNeg)) / (I 86 1)) / (256 : Int32) * (256 : Int32))) hq1) ?_
  rintro r9 I9 G9 P9 ⟨e0, e1, e2, e3⟩
  rw [e0, e1, e2, e3]
  show am_V X 0 0 _ _ ad (202, [(0, .ref 102), (1, .int x1), (2, .int x2), (3, .int x3), (4, .int ((((256 : Int32) * x2) * (I 87 x1.toNatClampNeg)) / (I 86 0))), (5, .int ((((256 : Int32) * x3) * (I 88 x1.toNatClampNeg)) / (I 86 1))), (6, .int (((((256 : Int32) * x2) * (I 87 x1.toNatClampNeg)) / (I 86 0)) / (256 : Int32))), (7, .int (((((256 : Int32) * x3) * (I 88 x1.toNatClampNeg)) / (I 86 1)) / (256 : Int32))), (8, .int (((((256 : Int32) * x2) * (I 87 x1.toNatClampNeg)) / (I 86 0)) - ((((256 : Int32) * x2) * (I 87 x1.toNatClampNeg)) / (I 86 0)) / (256 : Int32) * (256 : Int32))), (9, .int (((((256 : Int32) * x3) * (I 88 x1.toNatClampNeg)) / (I 86 1)) - ((((256 : Int32) * x3) * (I 88 x1.toNatClampNeg)) / (I 86 1)) / (256 : Int32) * (256 : Int32))), (10, .int (f_X14_between I2 G2 r1 r2 (f_X14_fade I2 G2 (((((256 : Int32) * x2) * (I 87 x1.toNatClampNeg)) / (I 86 0)) - ((((256 : Int32) * x2) * (I 87 x1.toNatClampNeg)) / (I 86 0)) / (256 : Int32) * (256 : Int32))))), (11, .int (f_X14_between I4 G4 r3 r4 (f_X14_fade I4 G4 (((((256 : Int32) * x2) * (I 87 x1.toNatClampNeg)) / (I 86 0)) - ((((256 : Int32) * x2) * (I 87 x1.toNatClampNeg)) / (I 86 0)) / (256 : Int32) * (256 : Int32)))))], [.int (f_X14_between I4 G4 (f_X14_between I2 G2 r1 r2 (f_X14_fade I2 G2 (((((256 : Int32) * x2) * (I 87 x1.toNatClampNeg)) / (I 86 0)) - ((((256 : Int32) * x2) * (I 87 x1.toNatClampNeg)) / (I 86 0)) / (256 : Int32) * (256 : Int32)))) (f_X14_between I4 G4 r3 r4 (f_X14_fade I4 G4 (((((256 : Int32) * x2) * (I 87 x1.toNatClampNeg)) / (I 86 0)) - ((((256 : Int32) * x2) * (I 87 x1.toNatClampNeg)) / (I 86 0)) / (256 : Int32) * (256 : Int32)))) (f_X14_fade I4 G4 (((((256 : Int32) * x3) * (I 88 x1.toNatClampNeg)) / (I 86 1)) - ((((256 : Int32) * x3) * (I 88 x1.toNatClampNeg)) / (I 86 1)) / (256 : Int32) * (256 : Int32))))], I4, G4, (gP rd))
  cases h
  refine am_iret hX hi rfl rfl (by decide +kernel) ?_
  exact ⟨rfl, rfl, rfl, rfl⟩
noncomputable def R_X13_valueAt_112 (I : am_I) (G : am_G) (x1 : Int32) (x2 : Int32) (x3 : Int32) : Option (Int32 × am_I × am_G) := rg (vp_in x1 4) (rg (¬ (I 86 0) = 0) (rg (vp_in x1 4) (rg (¬ (I 86 1) = 0) (rg (¬ (256 : Int32) = 0) (rg (¬ (256 : Int32) = 0) (rg (¬ (256 : Int32) = 0) (rg (¬ (256 : Int32) = 0) (rb (R_X13_pullOf_112 I G x1 (((((256 : Int32) * x2) * (I 87 x1.toNatClampNeg)) / (I 86 0)) / (256 : Int32)) (((((256 : Int32) * x3) * (I 88 x1.toNatClampNeg)) / (I 86 1)) / (256 : Int32)) (((((256 : Int32) * x2) * (I 87 x1.toNatClampNeg)) / (I 86 0)) - ((((256 : Int32) * x2) * (I 87 x1.toNatClampNeg)) / (I 86 0)) / (256 : Int32) * (256 : Int32)) (((((256 : Int32) * x3) * (I 88 x1.toNatClampNeg)) / (I 86 1)) - ((((256 : Int32) * x3) * (I 88 x1.toNatClampNeg)) / (I 86 1)) / (256 : Int32) * (256 : Int32))) (fun r1 I1 G1 => rb (R_X13_pullOf_112 I1 G1 x1 ((((((256 : Int32) * x2) * (I 87 x1.toNatClampNeg)) / (I 86 0)) / (256 : Int32)) + (1 : Int32)) (((((256 : Int32) * x3) * (I 88 x1.toNatClampNeg)) / (I 86 1)) / (256 : Int32)) ((((((256 : Int32) * x2) * (I 87 x1.toNatClampNeg)) / (I 86 0)) - ((((256 : Int32) * x2) * (I 87 x1.toNatClampNeg)) / (I 86 0)) / (256 : Int32) * (256 : Int32)) - (256 : Int32)) (((((256 : Int32) * x3) * (I 88 x1.toNatClampNeg)) / (I 86 1)) - ((((256 : Int32) * x3) * (I 88 x1.toNatClampNeg)) / (I 86 1)) / (256 : Int32) * (256 : Int32))) (fun r2 I2 G2 => rg (q_X14_fade I2 G2 (((((256 : Int32) * x2) * (I 87 x1.toNatClampNeg)) / (I 86 0)) - ((((256 : Int32) * x2) * (I 87 x1.toNatClampNeg)) / (I 86 0)) / (256 : Int32) * (256 : Int32))) (rg (q_X14_between I2 G2 r1 r2 (f_X14_fade I2 G2 (((((256 : Int32) * x2) * (I 87 x1.toNatClampNeg)) / (I 86 0)) - ((((256 : Int32) * x2) * (I 87 x1.toNatClampNeg)) / (I 86 0)) / (256 : Int32) * (256 : Int32)))) (rb (R_X13_pullOf_112 I2 G2 x1 (((((256 : Int32) * x2) * (I 87 x1.toNatClampNeg)) / (I 86 0)) / (256 : Int32)) ((((((256 : Int32) * x3) * (I 88 x1.toNatClampNeg)) / (I 86 1)) / (256 : Int32)) + (1 : Int32)) (((((256 : Int32) * x2) * (I 87 x1.toNatClampNeg)) / (I 86 0)) - ((((256 : Int32) * x2) * (I 87 x1.toNatClampNeg)) / (I 86 0)) / (256 : Int32) * (256 : Int32)) ((((((256 : Int32) * x3) * (I 88 x1.toNatClampNeg)) / (I 86 1)) - ((((256 : Int32) * x3) * (I 88 x1.toNatClampNeg)) / (I 86 1)) / (256 : Int32) * (256 : Int32)) - (256 : Int32))) (fun r3 I3 G3 => rb (R_X13_pullOf_112 I3 G3 x1 ((((((256 : Int32) * x2) * (I 87 x1.toNatClampNeg)) / (I 86 0)) / (256 : Int32)) + (1 : Int32)) ((((((256 : Int32) * x3) * (I 88 x1.toNatClampNeg)) / (I 86 1)) / (256 : Int32)) + (1 : Int32)) ((((((256 : Int32) * x2) * (I 87 x1.toNatClampNeg)) / (I 86 0)) - ((((256 : Int32) * x2) * (I 87 x1.toNatClampNeg)) / (I 86 0)) / (256 : Int32) * (256 : Int32)) - (256 : Int32)) ((((((256 : Int32) * x3) * (I 88 x1.toNatClampNeg)) / (I 86 1)) - ((((256 : Int32) * x3) * (I 88 x1.toNatClampNeg)) / (I 86 1)) / (256 : Int32) * (256 : Int32)) - (256 : Int32))) (fun r4 I4 G4 => rg (q_X14_fade I4 G4 (((((256 : Int32) * x2) * (I 87 x1.toNatClampNeg)) / (I 86 0)) - ((((256 : Int32) * x2) * (I 87 x1.toNatClampNeg)) / (I 86 0)) / (256 : Int32) * (256 : Int32))) (rg (q_X14_between I4 G4 r3 r4 (f_X14_fade I4 G4 (((((256 : Int32) * x2) * (I 87 x1.toNatClampNeg)) / (I 86 0)) - ((((256 : Int32) * x2) * (I 87 x1.toNatClampNeg)) / (I 86 0)) / (256 : Int32) * (256 : Int32)))) (rg (q_X14_fade I4 G4 (((((256 : Int32) * x3) * (I 88 x1.toNatClampNeg)) / (I 86 1)) - ((((256 : Int32) * x3) * (I 88 x1.toNatClampNeg)) / (I 86 1)) / (256 : Int32) * (256 : Int32))) (rg (q_X14_between I4 G4 (f_X14_between I2 G2 r1 r2 (f_X14_fade I2 G2 (((((256 : Int32) * x2) * (I 87 x1.toNatClampNeg)) / (I 86 0)) - ((((256 : Int32) * x2) * (I 87 x1.toNatClampNeg)) / (I 86 0)) / (256 : Int32) * (256 : Int32)))) (f_X14_between I4 G4 r3 r4 (f_X14_fade I4 G4 (((((256 : Int32) * x2) * (I 87 x1.toNatClampNeg)) / (I 86 0)) - ((((256 : Int32) * x2) * (I 87 x1.toNatClampNeg)) / (I 86 0)) / (256 : Int32) * (256 : Int32)))) (f_X14_fade I4 G4 (((((256 : Int32) * x3) * (I 88 x1.toNatClampNeg)) / (I 86 1)) - ((((256 : Int32) * x3) * (I 88 x1.toNatClampNeg)) / (I 86 1)) / (256 : Int32) * (256 : Int32)))) (some ((f_X14_between I4 G4 (f_X14_between I2 G2 r1 r2 (f_X14_fade I2 G2 (((((256 : Int32) * x2) * (I 87 x1.toNatClampNeg)) / (I 86 0)) - ((((256 : Int32) * x2) * (I 87 x1.toNatClampNeg)) / (I 86 0)) / (256 : Int32) * (256 : Int32)))) (f_X14_between I4 G4 r3 r4 (f_X14_fade I4 G4 (((((256 : Int32) * x2) * (I 87 x1.toNatClampNeg)) / (I 86 0)) - ((((256 : Int32) * x2) * (I 87 x1.toNatClampNeg)) / (I 86 0)) / (256 : Int32) * (256 : Int32)))) (f_X14_fade I4 G4 (((((256 : Int32) * x3) * (I 88 x1.toNatClampNeg)) / (I 86 1)) - ((((256 : Int32) * x3) * (I 88 x1.toNatClampNeg)) / (I 86 1)) / (256 : Int32) * (256 : Int32)))), I4, G4)))))))))))))))))))
set_option maxRecDepth 20000 in
set_option maxHeartbeats 4000000 in
theorem c_X13_valueAt_112 (rd : Nat) (I : am_I) (G : am_G) (x1 : Int32) (x2 : Int32) (x3 : Int32) {out : Int32 × am_I × am_G} (h : R_X13_valueAt_112 I G x1 x2 x3 = some out) : am_Ct mX13_valueAt 3 gS [.ref 112, .int x1, .int x2, .int x3] I G (gP rd) (pI out.1 out.2.1 out.2.2 (gP rd)) := by
  refine am_ofF (by decide +kernel) rfl (by decide) (by omega) (Nat.le_of_ble_eq_true rfl) (fun X ad hX hi => ?_)
  have hi : am_info X 11 cX13_valueAt 12 false (Option.some Jvm.ClassFile.FieldType.int) 3 := hi
  show am_V X 0 0 _ _ ad (0, [(0, .ref 112), (1, .int x1), (2, .int x2), (3, .int x3)], [], I, G, (gP rd))
  unfold R_X13_valueAt_112 at h
  obtain ⟨g0, h⟩ := rg_some h
  obtain ⟨g1, h⟩ := rg_some h
  obtain ⟨g2, h⟩ := rg_some h
  obtain ⟨g3, h⟩ := rg_some h
  obtain ⟨g4, h⟩ := rg_some h
  obtain ⟨g5, h⟩ := rg_some h
  obtain ⟨g6, h⟩ := rg_some h
  obtain ⟨g7, h⟩ := rg_some h
  refine am_blk 0 [(.sipush (256), 3, 0, 0, .int (256 : Int32)), (.iload_n 2, 1, 2, 0, .null), (.imul, 1, 0, 0, .null), (.aload_n 0, 1, 0, 0, .null), (.getfield 3, 3, 11, 14, .null), (.getfield 67, 3, 12, 11, .null), (.getfield 85, 3, 10, 5, .null), (.iload_n 1, 1, 1, 0, .null), (.iaload, 1, 0, 0, .null), (.imul, 1, 0, 0, .null), (.aload_n 0, 1, 0, 0, .null), (.getfield 3, 3, 11, 14, .null), (.getfield 67, 3, 12, 11, .null), (.getfield 87, 3, 10, 0, .null), (.idiv, 1, 0, 0, .null), (.istore 4, 2, 4, 0, .null), (.sipush (256), 3, 0, 0, .int (256 : Int32)), (.iload_n 3, 1, 3, 0, .null), (.imul, 1, 0, 0, .null), (.aload_n 0, 1, 0, 0, .null), (.getfield 3, 3, 11, 14, .null), (.getfield 67, 3, 12, 11, .null), (.getfield 90, 3, 10, 6, .null), (.iload_n 1, 1, 1, 0, .null), (.iaload, 1, 0, 0, .null), (.imul, 1, 0, 0, .null), (.aload_n 0, 1, 0, 0, .null), (.getfield 3, 3, 11, 14, .null), (.getfield 67, 3, 12, 11, .null), (.getfield 92, 3, 10, 1, .null), (.idiv, 1, 0, 0, .null), (.istore 5, 2, 5, 0, .null), (.iload 4, 2, 4, 0, .null), (.sipush (256), 3, 0, 0, .int (256 : Int32)), (.idiv, 1, 0, 0, .null), (.istore 6, 2, 6, 0, .null), (.iload 5, 2, 5, 0, .null), (.sipush (256), 3, 0, 0, .int (256 : Int32)), (.idiv, 1, 0, 0, .null), (.istore 7, 2, 7, 0, .null), (.iload 4, 2, 4, 0, .null), (.sipush (256), 3, 0, 0, .int (256 : Int32)), (.irem, 1, 0, 0, .null), (.istore 8, 2, 8, 0, .null), (.iload 5, 2, 5, 0, .null), (.sipush (256), 3, 0, 0, .int (256 : Int32)), (.irem, 1, 0, 0, .null), (.istore 9, 2, 9, 0, .null), (.aload_n 0, 1, 0, 0, .null), (.iload_n 1, 1, 1, 0, .null), (.iload 6, 2, 6, 0, .null), (.iload 7, 2, 7, 0, .null), (.iload 8, 2, 8, 0, .null), (.iload 9, 2, 9, 0, .null)] (104, [(0, .ref 112), (1, .int x1), (2, .int x2), (3, .int x3), (4, .int ((((256 : Int32) * x2) * (I 87 x1.toNatClampNeg)) / (I 86 0))), (5, .int ((((256 : Int32) * x3) * (I 88 x1.toNatClampNeg)) / (I 86 1))), (6, .int (((((256 : Int32) * x2) * (I 87 x1.toNatClampNeg)) / (I 86 0)) / (256 : Int32))), (7, .int (((((256 : Int32) * x3) * (I 88 x1.toNatClampNeg)) / (I 86 1)) / (256 : Int32))), (8, .int (((((256 : Int32) * x2) * (I 87 x1.toNatClampNeg)) / (I 86 0)) - ((((256 : Int32) * x2) * (I 87 x1.toNatClampNeg)) / (I 86 0)) / (256 : Int32) * (256 : Int32))), (9, .int (((((256 : Int32) * x3) * (I 88 x1.toNatClampNeg)) / (I 86 1)) - ((((256 : Int32) * x3) * (I 88 x1.toNatClampNeg)) / (I 86 1)) / (256 : Int32) * (256 : Int32)))], [.int (((((256 : Int32) * x3) * (I 88 x1.toNatClampNeg)) / (I 86 1)) - ((((256 : Int32) * x3) * (I 88 x1.toNatClampNeg)) / (I 86 1)) / (256 : Int32) * (256 : Int32)), .int (((((256 : Int32) * x2) * (I 87 x1.toNatClampNeg)) / (I 86 0)) - ((((256 : Int32) * x2) * (I 87 x1.toNatClampNeg)) / (I 86 0)) / (256 : Int32) * (256 : Int32)), .int (((((256 : Int32) * x3) * (I 88 x1.toNatClampNeg)) / (I 86 1)) / (256 : Int32)), .int (((((256 : Int32) * x2) * (I 87 x1.toNatClampNeg)) / (I 86 0)) / (256 : Int32)), .int x1, .ref 112], I, G, (gP rd)) (vp_in x1 4 ∧ ¬ (I 86 0) = 0 ∧ vp_in x1 4 ∧ ¬ (I 86 1) = 0 ∧ ¬ (256 : Int32) = 0 ∧ ¬ (256 : Int32) = 0 ∧ ¬ (256 : Int32) = 0 ∧ ¬ (256 : Int32) = 0 ∧ True) hX hi (by decide +kernel) rfl ⟨g0, g1, g2, g3, g4, g5, g6, g7, trivial⟩ ?_
  obtain ⟨r1, I1, G1, hc, h⟩ := rb_some h
  refine am_callV hX hi (M := mX13_pullOf) (idx := 95) (d' := 2) (b := 112) (ci := 11) (As := [.int x1, .int (((((256 : Int32) * x2) * (I 87 x1.toNatClampNeg)) / (I 86 0)) / (256 : Int32)), .int (((((256 : Int32) * x3) * (I 88 x1.toNatClampNeg)) / (I 86 1)) / (256 : Int32)), .int (((((256 : Int32) * x2) * (I 87 x1.toNatClampNeg)) / (I 86 0)) - ((((256 : Int32) * x2) * (I 87 x1.toNatClampNeg)) / (I 86 0)) / (256 : Int32) * (256 : Int32)), .int (((((256 : Int32) * x3) * (I 88 x1.toNatClampNeg)) / (I 86 1)) - ((((256 : Int32) * x3) * (I 88 x1.toNatClampNeg)) / (I 86 1)) / (256 : Int32) * (256 : Int32))]) (rest := []) mkX13_pullOf miX13_pullOf mvX13_pullOf (by decide +kernel) (by decide +kernel) rfl (by decide +kernel) rfl ⟨by omega, by decide, Nat.le_of_ble_eq_true rfl⟩ rfl (c_X13_pullOf_112 _ I G x1 (((((256 : Int32) * x2) * (I 87 x1.toNatClampNeg)) / (I 86 0)) / (256 : Int32)) (((((256 : Int32) * x3) * (I 88 x1.toNatClampNeg)) / (I 86 1)) / (256 : Int32)) (((((256 : Int32) * x2) * (I 87 x1.toNatClampNeg)) / (I 86 0)) - ((((256 : Int32) * x2) * (I 87 x1.toNatClampNeg)) / (I 86 0)) / (256 : Int32) * (256 : Int32)) (((((256 : Int32) * x3) * (I 88 x1.toNatClampNeg)) / (I 86 1)) - ((((256 : Int32) * x3) * (I 88 x1.toNatClampNeg)) / (I 86 1)) / (256 : Int32) * (256 : Int32)) hc) ?_
  rintro r9 I9 G9 P9 ⟨e0, e1, e2, e3⟩
  rw [e0, e1, e2, e3]
  show am_V X 0 0 _ _ ad (107, [(0, .ref 112), (1, .int x1), (2, .int x2), (3, .int x3), (4, .int ((((256 : Int32) * x2) * (I 87 x1.toNatClampNeg)) / (I 86 0))), (5, .int ((((256 : Int32) * x3) * (I 88 x1.toNatClampNeg)) / (I 86 1))), (6, .int (((((256 : Int32) * x2) * (I 87 x1.toNatClampNeg)) / (I 86 0)) / (256 : Int32))), (7, .int (((((256 : Int32) * x3) * (I 88 x1.toNatClampNeg)) / (I 86 1)) / (256 : Int32))), (8, .int (((((256 : Int32) * x2) * (I 87 x1.toNatClampNeg)) / (I 86 0)) - ((((256 : Int32) * x2) * (I 87 x1.toNatClampNeg)) / (I 86 0)) / (256 : Int32) * (256 : Int32))), (9, .int (((((256 : Int32) * x3) * (I 88 x1.toNatClampNeg)) / (I 86 1)) - ((((256 : Int32) * x3) * (I 88 x1.toNatClampNeg)) / (I 86 1)) / (256 : Int32) * (256 : Int32)))], [.int r1], I1, G1, (gP rd))
  refine am_blk 107 [(.aload_n 0, 1, 0, 0, .null), (.iload_n 1, 1, 1, 0, .null), (.iload 6, 2, 6, 0, .null), (.iconst (1), 1, 0, 0, .int (1 : Int32)), (.iadd, 1, 0, 0, .null), (.iload 7, 2, 7, 0, .null), (.iload 8, 2, 8, 0, .null), (.sipush (256), 3, 0, 0, .int (256 : Int32)), (.isub, 1, 0, 0, .null), (.iload 9, 2, 9, 0, .null)] (123, [(0, .ref 112), (1, .int x1), (2, .int x2), (3, .int x3), (4, .int ((((256 : Int32) * x2) * (I 87 x1.toNatClampNeg)) / (I 86 0))), (5, .int ((((256 : Int32) * x3) * (I 88 x1.toNatClampNeg)) / (I 86 1))), (6, .int (((((256 : Int32) * x2) * (I 87 x1.toNatClampNeg)) / (I 86 0)) / (256 : Int32))), (7, .int (((((256 : Int32) * x3) * (I 88 x1.toNatClampNeg)) / (I 86 1)) / (256 : Int32))), (8, .int (((((256 : Int32) * x2) * (I 87 x1.toNatClampNeg)) / (I 86 0)) - ((((256 : Int32) * x2) * (I 87 x1.toNatClampNeg)) / (I 86 0)) / (256 : Int32) * (256 : Int32))), (9, .int (((((256 : Int32) * x3) * (I 88 x1.toNatClampNeg)) / (I 86 1)) - ((((256 : Int32) * x3) * (I 88 x1.toNatClampNeg)) / (I 86 1)) / (256 : Int32) * (256 : Int32)))], [.int (((((256 : Int32) * x3) * (I 88 x1.toNatClampNeg)) / (I 86 1)) - ((((256 : Int32) * x3) * (I 88 x1.toNatClampNeg)) / (I 86 1)) / (256 : Int32) * (256 : Int32)), .int ((((((256 : Int32) * x2) * (I 87 x1.toNatClampNeg)) / (I 86 0)) - ((((256 : Int32) * x2) * (I 87 x1.toNatClampNeg)) / (I 86 0)) / (256 : Int32) * (256 : Int32)) - (256 : Int32)), .int (((((256 : Int32) * x3) * (I 88 x1.toNatClampNeg)) / (I 86 1)) / (256 : Int32)), .int ((((((256 : Int32) * x2) * (I 87 x1.toNatClampNeg)) / (I 86 0)) / (256 : Int32)) + (1 : Int32)), .int x1, .ref 112, .int r1], I1, G1, (gP rd)) (True) hX hi (by decide +kernel) rfl trivial ?_
  obtain ⟨r2, I2, G2, hc, h⟩ := rb_some h
  refine am_callV hX hi (M := mX13_pullOf) (idx := 95) (d' := 2) (b := 112) (ci := 11) (As := [.int x1, .int ((((((256 : Int32) * x2) * (I 87 x1.toNatClampNeg)) / (I 86 0)) / (256 : Int32)) + (1 : Int32)), .int (((((256 : Int32) * x3) * (I 88 x1.toNatClampNeg)) / (I 86 1)) / (256 : Int32)), .int ((((((256 : Int32) * x2) * (I 87 x1.toNatClampNeg)) / (I 86 0)) - ((((256 : Int32) * x2) * (I 87 x1.toNatClampNeg)) / (I 86 0)) / (256 : Int32) * (256 : Int32)) - (256 : Int32)), .int (((((256 : Int32) * x3) * (I 88 x1.toNatClampNeg)) / (I 86 1)) - ((((256 : Int32) * x3) * (I 88 x1.toNatClampNeg)) / (I 86 1)) / (256 : Int32) * (256 : Int32))]) (rest := [.int r1]) mkX13_pullOf miX13_pullOf mvX13_pullOf (by decide +kernel) (by decide +kernel) rfl (by decide +kernel) rfl ⟨by omega, by decide, Nat.le_of_ble_eq_true rfl⟩ rfl (c_X13_pullOf_112 _ I1 G1 x1 ((((((256 : Int32) * x2) * (I 87 x1.toNatClampNeg)) / (I 86 0)) / (256 : Int32)) + (1 : Int32)) (((((256 : Int32) * x3) * (I 88 x1.toNatClampNeg)) / (I 86 1)) / (256 : Int32)) ((((((256 : Int32) * x2) * (I 87 x1.toNatClampNeg)) / (I 86 0)) - ((((256 : Int32) * x2) * (I 87 x1.toNatClampNeg)) / (I 86 0)) / (256 : Int32) * (256 : Int32)) - (256 : Int32)) (((((256 : Int32) * x3) * (I 88 x1.toNatClampNeg)) / (I 86 1)) - ((((256 : Int32) * x3) * (I 88 x1.toNatClampNeg)) / (I 86 1)) / (256 : Int32) * (256 : Int32)) hc) ?_
  rintro r9 I9 G9 P9 ⟨e0, e1, e2, e3⟩
  rw [e0, e1, e2, e3]
  show am_V X 0 0 _ _ ad (126, [(0, .ref 112), (1, .int x1), (2, .int x2), (3, .int x3), (4, .int ((((256 : Int32) * x2) * (I 87 x1.toNatClampNeg)) / (I 86 0))), (5, .int ((((256 : Int32) * x3) * (I 88 x1.toNatClampNeg)) / (I 86 1))), (6, .int (((((256 : Int32) * x2) * (I 87 x1.toNatClampNeg)) / (I 86 0)) / (256 : Int32))), (7, .int (((((256 : Int32) * x3) * (I 88 x1.toNatClampNeg)) / (I 86 1)) / (256 : Int32))), (8, .int (((((256 : Int32) * x2) * (I 87 x1.toNatClampNeg)) / (I 86 0)) - ((((256 : Int32) * x2) * (I 87 x1.toNatClampNeg)) / (I 86 0)) / (256 : Int32) * (256 : Int32))), (9, .int (((((256 : Int32) * x3) * (I 88 x1.toNatClampNeg)) / (I 86 1)) - ((((256 : Int32) * x3) * (I 88 x1.toNatClampNeg)) / (I 86 1)) / (256 : Int32) * (256 : Int32)))], [.int r2, .int r1], I2, G2, (gP rd))
  refine am_blk 126 [(.iload 8, 2, 8, 0, .null)] (128, [(0, .ref 112), (1, .int x1), (2, .int x2), (3, .int x3), (4, .int ((((256 : Int32) * x2) * (I 87 x1.toNatClampNeg)) / (I 86 0))), (5, .int ((((256 : Int32) * x3) * (I 88 x1.toNatClampNeg)) / (I 86 1))), (6, .int (((((256 : Int32) * x2) * (I 87 x1.toNatClampNeg)) / (I 86 0)) / (256 : Int32))), (7, .int (((((256 : Int32) * x3) * (I 88 x1.toNatClampNeg)) / (I 86 1)) / (256 : Int32))), (8, .int (((((256 : Int32) * x2) * (I 87 x1.toNatClampNeg)) / (I 86 0)) - ((((256 : Int32) * x2) * (I 87 x1.toNatClampNeg)) / (I 86 0)) / (256 : Int32) * (256 : Int32))), (9, .int (((((256 : Int32) * x3) * (I 88 x1.toNatClampNeg)) / (I 86 1)) - ((((256 : Int32) * x3) * (I 88 x1.toNatClampNeg)) / (I 86 1)) / (256 : Int32) * (256 : Int32)))], [.int (((((256 : Int32) * x2) * (I 87 x1.toNatClampNeg)) / (I 86 0)) - ((((256 : Int32) * x2) * (I 87 x1.toNatClampNeg)) / (I 86 0)) / (256 : Int32) * (256 : Int32)), .int r2, .int r1], I2, G2, (gP rd)) (True) hX hi (by decide +kernel) rfl trivial ?_
  obtain ⟨hq1, h⟩ := rg_some h
  refine am_callSN hX hi (M := mX14_fade) (idx := 99) (d' := 1) (As := [.int (((((256 : Int32) * x2) * (I 87 x1.toNatClampNeg)) / (I 86 0)) - ((((256 : Int32) * x2) * (I 87 x1.toNatClampNeg)) / (I 86 0)) / (256 : Int32) * (256 : Int32))]) (rest := [.int r2, .int r1]) mkX14_fade msX14_fade (by decide +kernel) (by decide +kernel) rfl ⟨by omega, by decide, Nat.le_of_ble_eq_true rfl⟩ rfl (c_X14_fade I2 G2 (((((256 : Int32) * x2) * (I 87 x1.toNatClampNeg)) / (I 86 0)) - ((((256 : Int32) * x2) * (I 87 x1.toNatClampNeg)) / (I 86 0)) / (256 : Int32) * (256 : Int32)) hq1) ?_
  rintro r9 I9 G9 P9 ⟨e0, e1, e2, e3⟩
  rw [e0, e1, e2, e3]
  show am_V X 0 0 _ _ ad (131, [(0, .ref 112), (1, .int x1), (2, .int x2), (3, .int x3), (4, .int ((((256 : Int32) * x2) * (I 87 x1.toNatClampNeg)) / (I 86 0))), (5, .int ((((256 : Int32) * x3) * (I 88 x1.toNatClampNeg)) / (I 86 1))), (6, .int (((((256 : Int32) * x2) * (I 87 x1.toNatClampNeg)) / (I 86 0)) / (256 : Int32))), (7, .int (((((256 : Int32) * x3) * (I 88 x1.toNatClampNeg)) / (I 86 1)) / (256 : Int32))), (8, .int (((((256 : Int32) * x2) * (I 87 x1.toNatClampNeg)) / (I 86 0)) - ((((256 : Int32) * x2) * (I 87 x1.toNatClampNeg)) / (I 86 0)) / (256 : Int32) * (256 : Int32))), (9, .int (((((256 : Int32) * x3) * (I 88 x1.toNatClampNeg)) / (I 86 1)) - ((((256 : Int32) * x3) * (I 88 x1.toNatClampNeg)) / (I 86 1)) / (256 : Int32) * (256 : Int32)))], [.int (f_X14_fade I2 G2 (((((256 : Int32) * x2) * (I 87 x1.toNatClampNeg)) / (I 86 0)) - ((((256 : Int32) * x2) * (I 87 x1.toNatClampNeg)) / (I 86 0)) / (256 : Int32) * (256 : Int32))), .int r2, .int r1], I2, G2, (gP rd))
  obtain ⟨hq1, h⟩ := rg_some h
  refine am_callSN hX hi (M := mX14_between) (idx := 103) (d' := 1) (As := [.int r1, .int r2, .int (f_X14_fade I2 G2 (((((256 : Int32) * x2) * (I 87 x1.toNatClampNeg)) / (I 86 0)) - ((((256 : Int32) * x2) * (I 87 x1.toNatClampNeg)) / (I 86 0)) / (256 : Int32) * (256 : Int32)))]) (rest := []) mkX14_between msX14_between (by decide +kernel) (by decide +kernel) rfl ⟨by omega, by decide, Nat.le_of_ble_eq_true rfl⟩ rfl (c_X14_between I2 G2 r1 r2 (f_X14_fade I2 G2 (((((256 : Int32) * x2) * (I 87 x1.toNatClampNeg)) / (I 86 0)) - ((((256 : Int32) * x2) * (I 87 x1.toNatClampNeg)) / (I 86 0)) / (256 : Int32) * (256 : Int32))) hq1) ?_
  rintro r9 I9 G9 P9 ⟨e0, e1, e2, e3⟩
  rw [e0, e1, e2, e3]
  show am_V X 0 0 _ _ ad (134, [(0, .ref 112), (1, .int x1), (2, .int x2), (3, .int x3), (4, .int ((((256 : Int32) * x2) * (I 87 x1.toNatClampNeg)) / (I 86 0))), (5, .int ((((256 : Int32) * x3) * (I 88 x1.toNatClampNeg)) / (I 86 1))), (6, .int (((((256 : Int32) * x2) * (I 87 x1.toNatClampNeg)) / (I 86 0)) / (256 : Int32))), (7, .int (((((256 : Int32) * x3) * (I 88 x1.toNatClampNeg)) / (I 86 1)) / (256 : Int32))), (8, .int (((((256 : Int32) * x2) * (I 87 x1.toNatClampNeg)) / (I 86 0)) - ((((256 : Int32) * x2) * (I 87 x1.toNatClampNeg)) / (I 86 0)) / (256 : Int32) * (256 : Int32))), (9, .int (((((256 : Int32) * x3) * (I 88 x1.toNatClampNeg)) / (I 86 1)) - ((((256 : Int32) * x3) * (I 88 x1.toNatClampNeg)) / (I 86 1)) / (256 : Int32) * (256 : Int32)))], [.int (f_X14_between I2 G2 r1 r2 (f_X14_fade I2 G2 (((((256 : Int32) * x2) * (I 87 x1.toNatClampNeg)) / (I 86 0)) - ((((256 : Int32) * x2) * (I 87 x1.toNatClampNeg)) / (I 86 0)) / (256 : Int32) * (256 : Int32))))], I2, G2, (gP rd))
  refine am_blk 134 [(.istore 10, 2, 10, 0, .null), (.aload_n 0, 1, 0, 0, .null), (.iload_n 1, 1, 1, 0, .null), (.iload 6, 2, 6, 0, .null), (.iload 7, 2, 7, 0, .null), (.iconst (1), 1, 0, 0, .int (1 : Int32)), (.iadd, 1, 0, 0, .null), (.iload 8, 2, 8, 0, .null), (.iload 9, 2, 9, 0, .null), (.sipush (256), 3, 0, 0, .int (256 : Int32)), (.isub, 1, 0, 0, .null)] (152, [(0, .ref 112), (1, .int x1), (2, .int x2), (3, .int x3), (4, .int ((((256 : Int32) * x2) * (I 87 x1.toNatClampNeg)) / (I 86 0))), (5, .int ((((256 : Int32) * x3) * (I 88 x1.toNatClampNeg)) / (I 86 1))), (6, .int (((((256 : Int32) * x2) * (I 87 x1.toNatClampNeg)) / (I 86 0)) / (256 : Int32))), (7, .int (((((256 : Int32) * x3) * (I 88 x1.toNatClampNeg)) / (I 86 1)) / (256 : Int32))), (8, .int (((((256 : Int32) * x2) * (I 87 x1.toNatClampNeg)) / (I 86 0)) - ((((256 : Int32) * x2) * (I 87 x1.toNatClampNeg)) / (I 86 0)) / (256 : Int32) * (256 : Int32))), (9, .int (((((256 : Int32) * x3) * (I 88 x1.toNatClampNeg)) / (I 86 1)) - ((((256 : Int32) * x3) * (I 88 x1.toNatClampNeg)) / (I 86 1)) / (256 : Int32) * (256 : Int32))), (10, .int (f_X14_between I2 G2 r1 r2 (f_X14_fade I2 G2 (((((256 : Int32) * x2) * (I 87 x1.toNatClampNeg)) / (I 86 0)) - ((((256 : Int32) * x2) * (I 87 x1.toNatClampNeg)) / (I 86 0)) / (256 : Int32) * (256 : Int32)))))], [.int ((((((256 : Int32) * x3) * (I 88 x1.toNatClampNeg)) / (I 86 1)) - ((((256 : Int32) * x3) * (I 88 x1.toNatClampNeg)) / (I 86 1)) / (256 : Int32) * (256 : Int32)) - (256 : Int32)), .int (((((256 : Int32) * x2) * (I 87 x1.toNatClampNeg)) / (I 86 0)) - ((((256 : Int32) * x2) * (I 87 x1.toNatClampNeg)) / (I 86 0)) / (256 : Int32) * (256 : Int32)), .int ((((((256 : Int32) * x3) * (I 88 x1.toNatClampNeg)) / (I 86 1)) / (256 : Int32)) + (1 : Int32)), .int (((((256 : Int32) * x2) * (I 87 x1.toNatClampNeg)) / (I 86 0)) / (256 : Int32)), .int x1, .ref 112], I2, G2, (gP rd)) (True) hX hi (by decide +kernel) rfl trivial ?_
  obtain ⟨r3, I3, G3, hc, h⟩ := rb_some h
  refine am_callV hX hi (M := mX13_pullOf) (idx := 95) (d' := 2) (b := 112) (ci := 11) (As := [.int x1, .int (((((256 : Int32) * x2) * (I 87 x1.toNatClampNeg)) / (I 86 0)) / (256 : Int32)), .int ((((((256 : Int32) * x3) * (I 88 x1.toNatClampNeg)) / (I 86 1)) / (256 : Int32)) + (1 : Int32)), .int (((((256 : Int32) * x2) * (I 87 x1.toNatClampNeg)) / (I 86 0)) - ((((256 : Int32) * x2) * (I 87 x1.toNatClampNeg)) / (I 86 0)) / (256 : Int32) * (256 : Int32)), .int ((((((256 : Int32) * x3) * (I 88 x1.toNatClampNeg)) / (I 86 1)) - ((((256 : Int32) * x3) * (I 88 x1.toNatClampNeg)) / (I 86 1)) / (256 : Int32) * (256 : Int32)) - (256 : Int32))]) (rest := []) mkX13_pullOf miX13_pullOf mvX13_pullOf (by decide +kernel) (by decide +kernel) rfl (by decide +kernel) rfl ⟨by omega, by decide, Nat.le_of_ble_eq_true rfl⟩ rfl (c_X13_pullOf_112 _ I2 G2 x1 (((((256 : Int32) * x2) * (I 87 x1.toNatClampNeg)) / (I 86 0)) / (256 : Int32)) ((((((256 : Int32) * x3) * (I 88 x1.toNatClampNeg)) / (I 86 1)) / (256 : Int32)) + (1 : Int32)) (((((256 : Int32) * x2) * (I 87 x1.toNatClampNeg)) / (I 86 0)) - ((((256 : Int32) * x2) * (I 87 x1.toNatClampNeg)) / (I 86 0)) / (256 : Int32) * (256 : Int32)) ((((((256 : Int32) * x3) * (I 88 x1.toNatClampNeg)) / (I 86 1)) - ((((256 : Int32) * x3) * (I 88 x1.toNatClampNeg)) / (I 86 1)) / (256 : Int32) * (256 : Int32)) - (256 : Int32)) hc) ?_
  rintro r9 I9 G9 P9 ⟨e0, e1, e2, e3⟩
  rw [e0, e1, e2, e3]
  show am_V X 0 0 _ _ ad (155, [(0, .ref 112), (1, .int x1), (2, .int x2), (3, .int x3), (4, .int ((((256 : Int32) * x2) * (I 87 x1.toNatClampNeg)) / (I 86 0))), (5, .int ((((256 : Int32) * x3) * (I 88 x1.toNatClampNeg)) / (I 86 1))), (6, .int (((((256 : Int32) * x2) * (I 87 x1.toNatClampNeg)) / (I 86 0)) / (256 : Int32))), (7, .int (((((256 : Int32) * x3) * (I 88 x1.toNatClampNeg)) / (I 86 1)) / (256 : Int32))), (8, .int (((((256 : Int32) * x2) * (I 87 x1.toNatClampNeg)) / (I 86 0)) - ((((256 : Int32) * x2) * (I 87 x1.toNatClampNeg)) / (I 86 0)) / (256 : Int32) * (256 : Int32))), (9, .int (((((256 : Int32) * x3) * (I 88 x1.toNatClampNeg)) / (I 86 1)) - ((((256 : Int32) * x3) * (I 88 x1.toNatClampNeg)) / (I 86 1)) / (256 : Int32) * (256 : Int32))), (10, .int (f_X14_between I2 G2 r1 r2 (f_X14_fade I2 G2 (((((256 : Int32) * x2) * (I 87 x1.toNatClampNeg)) / (I 86 0)) - ((((256 : Int32) * x2) * (I 87 x1.toNatClampNeg)) / (I 86 0)) / (256 : Int32) * (256 : Int32)))))], [.int r3], I3, G3, (gP rd))
  refine am_blk 155 [(.aload_n 0, 1, 0, 0, .null), (.iload_n 1, 1, 1, 0, .null), (.iload 6, 2, 6, 0, .null), (.iconst (1), 1, 0, 0, .int (1 : Int32)), (.iadd, 1, 0, 0, .null), (.iload 7, 2, 7, 0, .null), (.iconst (1), 1, 0, 0, .int (1 : Int32)), (.iadd, 1, 0, 0, .null), (.iload 8, 2, 8, 0, .null), (.sipush (256), 3, 0, 0, .int (256 : Int32)), (.isub, 1, 0, 0, .null), (.iload 9, 2, 9, 0, .null), (.sipush (256), 3, 0, 0, .int (256 : Int32)), (.isub, 1, 0, 0, .null)] (177, [(0, .ref 112), (1, .int x1), (2, .int x2), (3, .int x3), (4, .int ((((256 : Int32) * x2) * (I 87 x1.toNatClampNeg)) / (I 86 0))), (5, .int ((((256 : Int32) * x3) * (I 88 x1.toNatClampNeg)) / (I 86 1))), (6, .int (((((256 : Int32) * x2) * (I 87 x1.toNatClampNeg)) / (I 86 0)) / (256 : Int32))), (7, .int (((((256 : Int32) * x3) * (I 88 x1.toNatClampNeg)) / (I 86 1)) / (256 : Int32))), (8, .int (((((256 : Int32) * x2) * (I 87 x1.toNatClampNeg)) / (I 86 0)) - ((((256 : Int32) * x2) * (I 87 x1.toNatClampNeg)) / (I 86 0)) / (256 : Int32) * (256 : Int32))), (9, .int (((((256 : Int32) * x3) * (I 88 x1.toNatClampNeg)) / (I 86 1)) - ((((256 : Int32) * x3) * (I 88 x1.toNatClampNeg)) / (I 86 1)) / (256 : Int32) * (256 : Int32))), (10, .int (f_X14_between I2 G2 r1 r2 (f_X14_fade I2 G2 (((((256 : Int32) * x2) * (I 87 x1.toNatClampNeg)) / (I 86 0)) - ((((256 : Int32) * x2) * (I 87 x1.toNatClampNeg)) / (I 86 0)) / (256 : Int32) * (256 : Int32)))))], [.int ((((((256 : Int32) * x3) * (I 88 x1.toNatClampNeg)) / (I 86 1)) - ((((256 : Int32) * x3) * (I 88 x1.toNatClampNeg)) / (I 86 1)) / (256 : Int32) * (256 : Int32)) - (256 : Int32)), .int ((((((256 : Int32) * x2) * (I 87 x1.toNatClampNeg)) / (I 86 0)) - ((((256 : Int32) * x2) * (I 87 x1.toNatClampNeg)) / (I 86 0)) / (256 : Int32) * (256 : Int32)) - (256 : Int32)), .int ((((((256 : Int32) * x3) * (I 88 x1.toNatClampNeg)) / (I 86 1)) / (256 : Int32)) + (1 : Int32)), .int ((((((256 : Int32) * x2) * (I 87 x1.toNatClampNeg)) / (I 86 0)) / (256 : Int32)) + (1 : Int32)), .int x1, .ref 112, .int r3], I3, G3, (gP rd)) (True) hX hi (by decide +kernel) rfl trivial ?_
  obtain ⟨r4, I4, G4, hc, h⟩ := rb_some h
  refine am_callV hX hi (M := mX13_pullOf) (idx := 95) (d' := 2) (b := 112) (ci := 11) (As := [.int x1, .int ((((((256 : Int32) * x2) * (I 87 x1.toNatClampNeg)) / (I 86 0)) / (256 : Int32)) + (1 : Int32)), .int ((((((256 : Int32) * x3) * (I 88 x1.toNatClampNeg)) / (I 86 1)) / (256 : Int32)) + (1 : Int32)), .int ((((((256 : Int32) * x2) * (I 87 x1.toNatClampNeg)) / (I 86 0)) - ((((256 : Int32) * x2) * (I 87 x1.toNatClampNeg)) / (I 86 0)) / (256 : Int32) * (256 : Int32)) - (256 : Int32)), .int ((((((256 : Int32) * x3) * (I 88 x1.toNatClampNeg)) / (I 86 1)) - ((((256 : Int32) * x3) * (I 88 x1.toNatClampNeg)) / (I 86 1)) / (256 : Int32) * (256 : Int32)) - (256 : Int32))]) (rest := [.int r3]) mkX13_pullOf miX13_pullOf mvX13_pullOf (by decide +kernel) (by decide +kernel) rfl (by decide +kernel) rfl ⟨by omega, by decide, Nat.le_of_ble_eq_true rfl⟩ rfl (c_X13_pullOf_112 _ I3 G3 x1 ((((((256 : Int32) * x2) * (I 87 x1.toNatClampNeg)) / (I 86 0)) / (256 : Int32)) + (1 : Int32)) ((((((256 : Int32) * x3) * (I 88 x1.toNatClampNeg)) / (I 86 1)) / (256 : Int32)) + (1 : Int32)) ((((((256 : Int32) * x2) * (I 87 x1.toNatClampNeg)) / (I 86 0)) - ((((256 : Int32) * x2) * (I 87 x1.toNatClampNeg)) / (I 86 0)) / (256 : Int32) * (256 : Int32)) - (256 : Int32)) ((((((256 : Int32) * x3) * (I 88 x1.toNatClampNeg)) / (I 86 1)) - ((((256 : Int32) * x3) * (I 88 x1.toNatClampNeg)) / (I 86 1)) / (256 : Int32) * (256 : Int32)) - (256 : Int32)) hc) ?_
  rintro r9 I9 G9 P9 ⟨e0, e1, e2, e3⟩
  rw [e0, e1, e2, e3]
  show am_V X 0 0 _ _ ad (180, [(0, .ref 112), (1, .int x1), (2, .int x2), (3, .int x3), (4, .int ((((256 : Int32) * x2) * (I 87 x1.toNatClampNeg)) / (I 86 0))), (5, .int ((((256 : Int32) * x3) * (I 88 x1.toNatClampNeg)) / (I 86 1))), (6, .int (((((256 : Int32) * x2) * (I 87 x1.toNatClampNeg)) / (I 86 0)) / (256 : Int32))), (7, .int (((((256 : Int32) * x3) * (I 88 x1.toNatClampNeg)) / (I 86 1)) / (256 : Int32))), (8, .int (((((256 : Int32) * x2) * (I 87 x1.toNatClampNeg)) / (I 86 0)) - ((((256 : Int32) * x2) * (I 87 x1.toNatClampNeg)) / (I 86 0)) / (256 : Int32) * (256 : Int32))), (9, .int (((((256 : Int32) * x3) * (I 88 x1.toNatClampNeg)) / (I 86 1)) - ((((256 : Int32) * x3) * (I 88 x1.toNatClampNeg)) / (I 86 1)) / (256 : Int32) * (256 : Int32))), (10, .int (f_X14_between I2 G2 r1 r2 (f_X14_fade I2 G2 (((((256 : Int32) * x2) * (I 87 x1.toNatClampNeg)) / (I 86 0)) - ((((256 : Int32) * x2) * (I 87 x1.toNatClampNeg)) / (I 86 0)) / (256 : Int32) * (256 : Int32)))))], [.int r4, .int r3], I4, G4, (gP rd))
  refine am_blk 180 [(.iload 8, 2, 8, 0, .null)] (182, [(0, .ref 112), (1, .int x1), (2, .int x2), (3, .int x3), (4, .int ((((256 : Int32) * x2) * (I 87 x1.toNatClampNeg)) / (I 86 0))), (5, .int ((((256 : Int32) * x3) * (I 88 x1.toNatClampNeg)) / (I 86 1))), (6, .int (((((256 : Int32) * x2) * (I 87 x1.toNatClampNeg)) / (I 86 0)) / (256 : Int32))), (7, .int (((((256 : Int32) * x3) * (I 88 x1.toNatClampNeg)) / (I 86 1)) / (256 : Int32))), (8, .int (((((256 : Int32) * x2) * (I 87 x1.toNatClampNeg)) / (I 86 0)) - ((((256 : Int32) * x2) * (I 87 x1.toNatClampNeg)) / (I 86 0)) / (256 : Int32) * (256 : Int32))), (9, .int (((((256 : Int32) * x3) * (I 88 x1.toNatClampNeg)) / (I 86 1)) - ((((256 : Int32) * x3) * (I 88 x1.toNatClampNeg)) / (I 86 1)) / (256 : Int32) * (256 : Int32))), (10, .int (f_X14_between I2 G2 r1 r2 (f_X14_fade I2 G2 (((((256 : Int32) * x2) * (I 87 x1.toNatClampNeg)) / (I 86 0)) - ((((256 : Int32) * x2) * (I 87 x1.toNatClampNeg)) / (I 86 0)) / (256 : Int32) * (256 : Int32)))))], [.int (((((256 : Int32) * x2) * (I 87 x1.toNatClampNeg)) / (I 86 0)) - ((((256 : Int32) * x2) * (I 87 x1.toNatClampNeg)) / (I 86 0)) / (256 : Int32) * (256 : Int32)), .int r4, .int r3], I4, G4, (gP rd)) (True) hX hi (by decide +kernel) rfl trivial ?_
  obtain ⟨hq1, h⟩ := rg_some h
  refine am_callSN hX hi (M := mX14_fade) (idx := 99) (d' := 1) (As := [.int (((((256 : Int32) * x2) * (I 87 x1.toNatClampNeg)) / (I 86 0)) - ((((256 : Int32) * x2) * (I 87 x1.toNatClampNeg)) / (I 86 0)) / (256 : Int32) * (256 : Int32))]) (rest := [.int r4, .int r3]) mkX14_fade msX14_fade (by decide +kernel) (by decide +kernel) rfl ⟨by omega, by decide, Nat.le_of_ble_eq_true rfl⟩ rfl (c_X14_fade I4 G4 (((((256 : Int32) * x2) * (I 87 x1.toNatClampNeg)) / (I 86 0)) - ((((256 : Int32) * x2) * (I 87 x1.toNatClampNeg)) / (I 86 0)) / (256 : Int32) * (256 : Int32)) hq1) ?_
  rintro r9 I9 G9 P9 ⟨e0, e1, e2, e3⟩
  rw [e0, e1, e2, e3]
  show am_V X 0 0 _ _ ad (185, [(0, .ref 112), (1, .int x1), (2, .int x2), (3, .int x3), (4, .int ((((256 : Int32) * x2) * (I 87 x1.toNatClampNeg)) / (I 86 0))), (5, .int ((((256 : Int32) * x3) * (I 88 x1.toNatClampNeg)) / (I 86 1))), (6, .int (((((256 : Int32) * x2) * (I 87 x1.toNatClampNeg)) / (I 86 0)) / (256 : Int32))), (7, .int (((((256 : Int32) * x3) * (I 88 x1.toNatClampNeg)) / (I 86 1)) / (256 : Int32))), (8, .int (((((256 : Int32) * x2) * (I 87 x1.toNatClampNeg)) / (I 86 0)) - ((((256 : Int32) * x2) * (I 87 x1.toNatClampNeg)) / (I 86 0)) / (256 : Int32) * (256 : Int32))), (9, .int (((((256 : Int32) * x3) * (I 88 x1.toNatClampNeg)) / (I 86 1)) - ((((256 : Int32) * x3) * (I 88 x1.toNatClampNeg)) / (I 86 1)) / (256 : Int32) * (256 : Int32))), (10, .int (f_X14_between I2 G2 r1 r2 (f_X14_fade I2 G2 (((((256 : Int32) * x2) * (I 87 x1.toNatClampNeg)) / (I 86 0)) - ((((256 : Int32) * x2) * (I 87 x1.toNatClampNeg)) / (I 86 0)) / (256 : Int32) * (256 : Int32)))))], [.int (f_X14_fade I4 G4 (((((256 : Int32) * x2) * (I 87 x1.toNatClampNeg)) / (I 86 0)) - ((((256 : Int32) * x2) * (I 87 x1.toNatClampNeg)) / (I 86 0)) / (256 : Int32) * (256 : Int32))), .int r4, .int r3], I4, G4, (gP rd))
  obtain ⟨hq1, h⟩ := rg_some h
  refine am_callSN hX hi (M := mX14_between) (idx := 103) (d' := 1) (As := [.int r3, .int r4, .int (f_X14_fade I4 G4 (((((256 : Int32) * x2) * (I 87 x1.toNatClampNeg)) / (I 86 0)) - ((((256 : Int32) * x2) * (I 87 x1.toNatClampNeg)) / (I 86 0)) / (256 : Int32) * (256 : Int32)))]) (rest := []) mkX14_between msX14_between (by decide +kernel) (by decide +kernel) rfl ⟨by omega, by decide, Nat.le_of_ble_eq_true rfl⟩ rfl (c_X14_between I4 G4 r3 r4 (f_X14_fade I4 G4 (((((256 : Int32) * x2) * (I 87 x1.toNatClampNeg)) / (I 86 0)) - ((((256 : Int32) * x2) * (I 87 x1.toNatClampNeg)) / (I 86 0)) / (256 : Int32) * (256 : Int32))) hq1) ?_
  rintro r9 I9 G9 P9 ⟨e0, e1, e2, e3⟩
  rw [e0, e1, e2, e3]
  show am_V X 0 0 _ _ ad (188, [(0, .ref 112), (1, .int x1), (2, .int x2), (3, .int x3), (4, .int ((((256 : Int32) * x2) * (I 87 x1.toNatClampNeg)) / (I 86 0))), (5, .int ((((256 : Int32) * x3) * (I 88 x1.toNatClampNeg)) / (I 86 1))), (6, .int (((((256 : Int32) * x2) * (I 87 x1.toNatClampNeg)) / (I 86 0)) / (256 : Int32))), (7, .int (((((256 : Int32) * x3) * (I 88 x1.toNatClampNeg)) / (I 86 1)) / (256 : Int32))), (8, .int (((((256 : Int32) * x2) * (I 87 x1.toNatClampNeg)) / (I 86 0)) - ((((256 : Int32) * x2) * (I 87 x1.toNatClampNeg)) / (I 86 0)) / (256 : Int32) * (256 : Int32))), (9, .int (((((256 : Int32) * x3) * (I 88 x1.toNatClampNeg)) / (I 86 1)) - ((((256 : Int32) * x3) * (I 88 x1.toNatClampNeg)) / (I 86 1)) / (256 : Int32) * (256 : Int32))), (10, .int (f_X14_between I2 G2 r1 r2 (f_X14_fade I2 G2 (((((256 : Int32) * x2) * (I 87 x1.toNatClampNeg)) / (I 86 0)) - ((((256 : Int32) * x2) * (I 87 x1.toNatClampNeg)) / (I 86 0)) / (256 : Int32) * (256 : Int32)))))], [.int (f_X14_between I4 G4 r3 r4 (f_X14_fade I4 G4 (((((256 : Int32) * x2) * (I 87 x1.toNatClampNeg)) / (I 86 0)) - ((((256 : Int32) * x2) * (I 87 x1.toNatClampNeg)) / (I 86 0)) / (256 : Int32) * (256 : Int32))))], I4, G4, (gP rd))
  refine am_blk 188 [(.istore 11, 2, 11, 0, .null), (.iload 10, 2, 10, 0, .null), (.iload 11, 2, 11, 0, .null), (.iload 9, 2, 9, 0, .null)] (196, [(0, .ref 112), (1, .int x1), (2, .int x2), (3, .int x3), (4, .int ((((256 : Int32) * x2) * (I 87 x1.toNatClampNeg)) / (I 86 0))), (5, .int ((((256 : Int32) * x3) * (I 88 x1.toNatClampNeg)) / (I 86 1))), (6, .int (((((256 : Int32) * x2) * (I 87 x1.toNatClampNeg)) / (I 86 0)) / (256 : Int32))), (7, .int (((((256 : Int32) * x3) * (I 88 x1.toNatClampNeg)) / (I 86 1)) / (256 : Int32))), (8, .int (((((256 : Int32) * x2) * (I 87 x1.toNatClampNeg)) / (I 86 0)) - ((((256 : Int32) * x2) * (I 87 x1.toNatClampNeg)) / (I 86 0)) / (256 : Int32) * (256 : Int32))), (9, .int (((((256 : Int32) * x3) * (I 88 x1.toNatClampNeg)) / (I 86 1)) - ((((256 : Int32) * x3) * (I 88 x1.toNatClampNeg)) / (I 86 1)) / (256 : Int32) * (256 : Int32))), (10, .int (f_X14_between I2 G2 r1 r2 (f_X14_fade I2 G2 (((((256 : Int32) * x2) * (I 87 x1.toNatClampNeg)) / (I 86 0)) - ((((256 : Int32) * x2) * (I 87 x1.toNatClampNeg)) / (I 86 0)) / (256 : Int32) * (256 : Int32))))), (11, .int (f_X14_between I4 G4 r3 r4 (f_X14_fade I4 G4 (((((256 : Int32) * x2) * (I 87 x1.toNatClampNeg)) / (I 86 0)) - ((((256 : Int32) * x2) * (I 87 x1.toNatClampNeg)) / (I 86 0)) / (256 : Int32) * (256 : Int32)))))], [.int (((((256 : Int32) * x3) * (I 88 x1.toNatClampNeg)) / (I 86 1)) - ((((256 : Int32) * x3) * (I 88 x1.toNatClampNeg)) / (I 86 1)) / (256 : Int32) * (256 : Int32)), .int (f_X14_between I4 G4 r3 r4 (f_X14_fade I4 G4 (((((256 : Int32) * x2) * (I 87 x1.toNatClampNeg)) / (I 86 0)) - ((((256 : Int32) * x2) * (I 87 x1.toNatClampNeg)) / (I 86 0)) / (256 : Int32) * (256 : Int32)))), .int (f_X14_between I2 G2 r1 r2 (f_X14_fade I2 G2 (((((256 : Int32) * x2) * (I 87 x1.toNatClampNeg)) / (I 86 0)) - ((((256 : Int32) * x2) * (I 87 x1.toNatClampNeg)) / (I 86 0)) / (256 : Int32) * (256 : Int32))))], I4, G4, (gP rd)) (True) hX hi (by decide +kernel) rfl trivial ?_
  obtain ⟨hq1, h⟩ := rg_some h
  refine am_callSN hX hi (M := mX14_fade) (idx := 99) (d' := 1) (As := [.int (((((256 : Int32) * x3) * (I 88 x1.toNatClampNeg)) / (I 86 1)) - ((((256 : Int32) * x3) * (I 88 x1.toNatClampNeg)) / (I 86 1)) / (256 : Int32) * (256 : Int32))]) (rest := [.int (f_X14_between I4 G4 r3 r4 (f_X14_fade I4 G4 (((((256 : Int32) * x2) * (I 87 x1.toNatClampNeg)) / (I 86 0)) - ((((256 : Int32) * x2) * (I 87 x1.toNatClampNeg)) / (I 86 0)) / (256 : Int32) * (256 : Int32)))), .int (f_X14_between I2 G2 r1 r2 (f_X14_fade I2 G2 (((((256 : Int32) * x2) * (I 87 x1.toNatClampNeg)) / (I 86 0)) - ((((256 : Int32) * x2) * (I 87 x1.toNatClampNeg)) / (I 86 0)) / (256 : Int32) * (256 : Int32))))]) mkX14_fade msX14_fade (by decide +kernel) (by decide +kernel) rfl ⟨by omega, by decide, Nat.le_of_ble_eq_true rfl⟩ rfl (c_X14_fade I4 G4 (((((256 : Int32) * x3) * (I 88 x1.toNatClampNeg)) / (I 86 1)) - ((((256 : Int32) * x3) * (I 88 x1.toNatClampNeg)) / (I 86 1)) / (256 : Int32) * (256 : Int32)) hq1) ?_
  rintro r9 I9 G9 P9 ⟨e0, e1, e2, e3⟩
  rw [e0, e1, e2, e3]
  show am_V X 0 0 _ _ ad (199, [(0, .ref 112), (1, .int x1), (2, .int x2), (3, .int x3), (4, .int ((((256 : Int32) * x2) * (I 87 x1.toNatClampNeg)) / (I 86 0))), (5, .int ((((256 : Int32) * x3) * (I 88 x1.toNatClampNeg)) / (I 86 1))), (6, .int (((((256 : Int32) * x2) * (I 87 x1.toNatClampNeg)) / (I 86 0)) / (256 : Int32))), (7, .int (((((256 : Int32) * x3) * (I 88 x1.toNatClampNeg)) / (I 86 1)) / (256 : Int32))), (8, .int (((((256 : Int32) * x2) * (I 87 x1.toNatClampNeg)) / (I 86 0)) - ((((256 : Int32) * x2) * (I 87 x1.toNatClampNeg)) / (I 86 0)) / (256 : Int32) * (256 : Int32))), (9, .int (((((256 : Int32) * x3) * (I 88 x1.toNatClampNeg)) / (I 86 1)) - ((((256 : Int32) * x3) * (I 88 x1.toNatClampNeg)) / (I 86 1)) / (256 : Int32) * (256 : Int32))), (10, .int (f_X14_between I2 G2 r1 r2 (f_X14_fade I2 G2 (((((256 : Int32) * x2) * (I 87 x1.toNatClampNeg)) / (I 86 0)) - ((((256 : Int32) * x2) * (I 87 x1.toNatClampNeg)) / (I 86 0)) / (256 : Int32) * (256 : Int32))))), (11, .int (f_X14_between I4 G4 r3 r4 (f_X14_fade I4 G4 (((((256 : Int32) * x2) * (I 87 x1.toNatClampNeg)) / (I 86 0)) - ((((256 : Int32) * x2) * (I 87 x1.toNatClampNeg)) / (I 86 0)) / (256 : Int32) * (256 : Int32)))))], [.int (f_X14_fade I4 G4 (((((256 : Int32) * x3) * (I 88 x1.toNatClampNeg)) / (I 86 1)) - ((((256 : Int32) * x3) * (I 88 x1.toNatClampNeg)) / (I 86 1)) / (256 : Int32) * (256 : Int32))), .int (f_X14_between I4 G4 r3 r4 (f_X14_fade I4 G4 (((((256 : Int32) * x2) * (I 87 x1.toNatClampNeg)) / (I 86 0)) - ((((256 : Int32) * x2) * (I 87 x1.toNatClampNeg)) / (I 86 0)) / (256 : Int32) * (256 : Int32)))), .int (f_X14_between I2 G2 r1 r2 (f_X14_fade I2 G2 (((((256 : Int32) * x2) * (I 87 x1.toNatClampNeg)) / (I 86 0)) - ((((256 : Int32) * x2) * (I 87 x1.toNatClampNeg)) / (I 86 0)) / (256 : Int32) * (256 : Int32))))], I4, G4, (gP rd))
  obtain ⟨hq1, h⟩ := rg_some h
  refine am_callSN hX hi (M := mX14_between) (idx := 103) (d' := 1) (As := [.int (f_X14_between I2 G2 r1 r2 (f_X14_fade I2 G2 (((((256 : Int32) * x2) * (I 87 x1.toNatClampNeg)) / (I 86 0)) - ((((256 : Int32) * x2) * (I 87 x1.toNatClampNeg)) / (I 86 0)) / (256 : Int32) * (256 : Int32)))), .int (f_X14_between I4 G4 r3 r4 (f_X14_fade I4 G4 (((((256 : Int32) * x2) * (I 87 x1.toNatClampNeg)) / (I 86 0)) - ((((256 : Int32) * x2) * (I 87 x1.toNatClampNeg)) / (I 86 0)) / (256 : Int32) * (256 : Int32)))), .int (f_X14_fade I4 G4 (((((256 : Int32) * x3) * (I 88 x1.toNatClampNeg)) / (I 86 1)) - ((((256 : Int32) * x3) * (I 88 x1.toNatClampNeg)) / (I 86 1)) / (256 : Int32) * (256 : Int32)))]) (rest := []) mkX14_between msX14_between (by decide +kernel) (by decide +kernel) rfl ⟨by omega, by decide, Nat.le_of_ble_eq_true rfl⟩ rfl (c_X14_between I4 G4 (f_X14_between I2 G2 r1 r2 (f_X14_fade I2 G2 (((((256 : Int32) * x2) * (I 87 x1.toNatClampNeg)) / (I 86 0)) - ((((256 : Int32) * x2) * (I 87 x1.toNatClampNeg)) / (I 86 0)) / (256 : Int32) * (256 : Int32)))) (f_X14_between I4 G4 r3 r4 (f_X14_fade I4 G4 (((((256 : Int32) * x2) * (I 87 x1.toNatClampNeg)) / (I 86 0)) - ((((256 : Int32) * x2) * (I 87 x1.toNatClampNeg)) / (I 86 0)) / (256 : Int32) * (256 : Int32)))) (f_X14_fade I4 G4 (((((256 : Int32) * x3) * (I 88 x1.toNatClampNeg)) / (I 86 1)) - ((((256 : Int32) * x3) * (I 88 x1.toNatClampNeg)) / (I 86 1)) / (256 : Int32) * (256 : Int32))) hq1) ?_
  rintro r9 I9 G9 P9 ⟨e0, e1, e2, e3⟩
  rw [e0, e1, e2, e3]
  show am_V X 0 0 _ _ ad (202, [(0, .ref 112), (1, .int x1), (2, .int x2), (3, .int x3), (4, .int ((((256 : Int32) * x2) * (I 87 x1.toNatClampNeg)) / (I 86 0))), (5, .int ((((256 : Int32) * x3) * (I 88 x1.toNatClampNeg)) / (I 86 1))), (6, .int (((((256 : Int32) * x2) * (I 87 x1.toNatClampNeg)) / (I 86 0)) / (256 : Int32))), (7, .int (((((256 : Int32) * x3) * (I 88 x1.toNatClampNeg)) / (I 86 1)) / (256 : Int32))), (8, .int (((((256 : Int32) * x2) * (I 87 x1.toNatClampNeg)) / (I 86 0)) - ((((256 : Int32) * x2) * (I 87 x1.toNatClampNeg)) / (I 86 0)) / (256 : Int32) * (256 : Int32))), (9, .int (((((256 : Int32) * x3) * (I 88 x1.toNatClampNeg)) / (I 86 1)) - ((((256 : Int32) * x3) * (I 88 x1.toNatClampNeg)) / (I 86 1)) / (256 : Int32) * (256 : Int32))), (10, .int (f_X14_between I2 G2 r1 r2 (f_X14_fade I2 G2 (((((256 : Int32) * x2) * (I 87 x1.toNatClampNeg)) / (I 86 0)) - ((((256 : Int32) * x2) * (I 87 x1.toNatClampNeg)) / (I 86 0)) / (256 : Int32) * (256 : Int32))))), (11, .int (f_X14_between I4 G4 r3 r4 (f_X14_fade I4 G4 (((((256 : Int32) * x2) * (I 87 x1.toNatClampNeg)) / (I 86 0)) - ((((256 : Int32) * x2) * (I 87 x1.toNatClampNeg)) / (I 86 0)) / (256 : Int32) * (256 : Int32)))))], [.int (f_X14_between I4 G4 (f_X14_between I2 G2 r1 r2 (f_X14_fade I2 G2 (((((256 : Int32) * x2) * (I 87 x1.toNatClampNeg)) / (I 86 0)) - ((((256 : Int32) * x2) * (I 87 x1.toNatClampNeg)) / (I 86 0)) / (256 : Int32) * (256 : Int32)))) (f_X14_between I4 G4 r3 r4 (f_X14_fade I4 G4 (((((256 : Int32) * x2) * (I 87 x1.toNatClampNeg)) / (I 86 0)) - ((((256 : Int32) * x2) * (I 87 x1.toNatClampNeg)) / (I 86 0)) / (256 : Int32) * (256 : Int32)))) (f_X14_fade I4 G4 (((((256 : Int32) * x3) * (I 88 x1.toNatClampNeg)) / (I 86 1)) - ((((256 : Int32) * x3) * (I 88 x1.toNatClampNeg)) / (I 86 1)) / (256 : Int32) * (256 : Int32))))], I4, G4, (gP rd))
  cases h
  refine am_iret hX hi rfl rfl (by decide +kernel) ?_
  exact ⟨rfl, rfl, rfl, rfl⟩
noncomputable def L_X13_know_102 (n0 : Nat) (hd : Nat) (I : am_I) (G : am_G) (v1 : Int32) (v2 : Int32) : Option (Unit × am_I × am_G) := match n0 with
  | 0 => none
  | n + 1 => match hd with
    | _ => (if (f_X12_spots_86 I G ) ≤ v2 then some ((), I, G) else rg (¬ (I 86 0) = 0) (rg (¬ (I 86 0) = 0) (rb (R_X13_valueAt_102 I G v1 (v2 - v2 / (I 86 0) * (I 86 0)) (v2 / (I 86 0))) (fun r101 I101 G101 => rg (vp_in (((576 : Int32) * v1) + v2) 2304) (L_X13_know_102 n 0 (am_up I101 105 (((576 : Int32) * v1) + v2).toNatClampNeg r101) G101 v1 (v2 + (1 : Int32)))))))
theorem L_X13_know_102_0 (n : Nat) (I : am_I) (G : am_G) (v1 : Int32) (v2 : Int32) : L_X13_know_102 (n + 1) 0 I G v1 v2 = (if (f_X12_spots_86 I G ) ≤ v2 then some ((), I, G) else rg (¬ (I 86 0) = 0) (rg (¬ (I 86 0) = 0) (rb (R_X13_valueAt_102 I G v1 (v2 - v2 / (I 86 0) * (I 86 0)) (v2 / (I 86 0))) (fun r101 I101 G101 => rg (vp_in (((576 : Int32) * v1) + v2) 2304) (L_X13_know_102 n 0 (am_up I101 105 (((576 : Int32) * v1) + v2).toNatClampNeg r101) G101 v1 (v2 + (1 : Int32))))))) := rfl
theorem L_X13_know_102_z (h : Nat) (I : am_I) (G : am_G) (v1 : Int32) (v2 : Int32) : L_X13_know_102 0 h I G v1 v2 = none := rfl
noncomputable def R_X13_know_102 (I : am_I) (G : am_G) (x1 : Int32) : Option (Unit × am_I × am_G) := rg (vp_in x1 4) ((if (I 106 x1.toNatClampNeg) = 0 then rg ((vp_in x1 4 ∧ ((1 : Int32) = 0 ∨ (1 : Int32) = 1))) (L_X13_know_102 FU 0 (am_up I 106 x1.toNatClampNeg (1 : Int32)) G x1 (0 : Int32)) else some ((), I, G)))
set_option maxRecDepth 20000 in
set_option maxHeartbeats 4000000 in
theorem l_X13_know_102 (rd : Nat) {X : am_X} {ad : Nat → Nat} (hX : am_okz X ad) (hi : am_info X 11 cX13_know 3 false none 5) (n : Nat) : (∀ (I : am_I) (G : am_G) (v1 : Int32) (v2 : Int32) (out : Unit × am_I × am_G), L_X13_know_102 n 0 I G v1 v2 = some out → am_V X 0 0 (am_Rt X gS ad (pV out.2.1 out.2.2 (gP rd))) gS ad (19, [(0, .ref 102), (1, .int v1), (2, .int v2)], [], I, G, (gP rd))) := by
  induction n with
  | zero => exact fun I G v1 v2 out h => by rw [L_X13_know_102_z] at h; cases h
  | succ n ih =>
    · intro I G v1 v2 out h
      rw [L_X13_know_102_0] at h
      refine am_blk 19 [(.iload_n 2, 1, 2, 0, .null), (.aload_n 0, 1, 0, 0, .null), (.getfield 3, 3, 11, 14, .null), (.getfield 67, 3, 12, 11, .null)] (27, [(0, .ref 102), (1, .int v1), (2, .int v2)], [.ref 86, .int v2], I, G, (gP rd)) (True) hX hi (by decide +kernel) rfl trivial ?_
      refine am_callV hX hi (M := mX12_spots) (idx := 107) (d' := 1) (b := 86) (ci := 10) (As := []) (rest := [.int v2]) mkX12_spots miX12_spots mvX12_spots (by decide +kernel) (by decide +kernel) rfl (by decide +kernel) rfl ⟨by omega, by decide, Nat.le_of_ble_eq_true rfl⟩ rfl (c_X12_spots_86 _ I G ) ?_
      rintro r9 I9 G9 P9 ⟨e0, e1, e2, e3⟩
      rw [e0, e1, e2, e3]
      show am_V X 0 0 _ _ ad (30, [(0, .ref 102), (1, .int v1), (2, .int v2)], [.int (f_X12_spots_86 I G ), .int v2], I, G, (gP rd))
      refine am_icmp_ge (tgt := 80) hX hi (off := (50)) (by decide +kernel) (by decide) (fun c30 => ?_) (fun c30 => ?_)
      · rw [if_pos c30] at h
        cases h
        refine am_vret hX hi rfl (by decide +kernel) ?_
        exact ⟨rfl, rfl, rfl, rfl⟩
      · rw [if_neg c30] at h
        obtain ⟨g0, h⟩ := rg_some h
        obtain ⟨g1, h⟩ := rg_some h
        refine am_blk 33 [(.aload_n 0, 1, 0, 0, .null), (.getfield 22, 3, 11, 6, .null), (.sipush (576), 3, 0, 0, .int (576 : Int32)), (.iload_n 1, 1, 1, 0, .null), (.imul, 1, 0, 0, .null), (.iload_n 2, 1, 2, 0, .null), (.iadd, 1, 0, 0, .null), (.aload_n 0, 1, 0, 0, .null), (.iload_n 1, 1, 1, 0, .null), (.iload_n 2, 1, 2, 0, .null), (.aload_n 0, 1, 0, 0, .null), (.getfield 3, 3, 11, 14, .null), (.getfield 67, 3, 12, 11, .null), (.getfield 87, 3, 10, 0, .null), (.irem, 1, 0, 0, .null), (.iload_n 2, 1, 2, 0, .null), (.aload_n 0, 1, 0, 0, .null), (.getfield 3, 3, 11, 14, .null), (.getfield 67, 3, 12, 11, .null), (.getfield 87, 3, 10, 0, .null), (.idiv, 1, 0, 0, .null)] (70, [(0, .ref 102), (1, .int v1), (2, .int v2)], [.int (v2 / (I 86 0)), .int (v2 - v2 / (I 86 0) * (I 86 0)), .int v1, .ref 102, .int (((576 : Int32) * v1) + v2), .ref 105], I, G, (gP rd)) (¬ (I 86 0) = 0 ∧ ¬ (I 86 0) = 0 ∧ True) hX hi (by decide +kernel) rfl ⟨g0, g1, trivial⟩ ?_
        obtain ⟨r101, I101, G101, hc, h⟩ := rb_some h
        refine am_callV2 hX hi (M := mX13_valueAt) (idx := 111) (d' := 3) (b := 102) (ci := 11) (As := [.int v1, .int (v2 - v2 / (I 86 0) * (I 86 0)), .int (v2 / (I 86 0))]) (rest := [.int (((576 : Int32) * v1) + v2), .ref 105]) mkX13_valueAt miX13_valueAt mvX13_valueAt (by decide +kernel) (by decide +kernel) rfl (by decide +kernel) rfl ⟨by omega, by (show 19 + 12 + 30 * _ ≤ 30 * _; omega), Nat.le_of_ble_eq_true rfl⟩ rfl (c_X13_valueAt_102 _ I G v1 (v2 - v2 / (I 86 0) * (I 86 0)) (v2 / (I 86 0)) hc) ?_
        rintro r9 I9 G9 P9 ⟨e0, e1, e2, e3⟩
        rw [e0, e1, e2, e3]
        show am_V X 0 0 _ _ ad (73, [(0, .ref 102), (1, .int v1), (2, .int v2)], [.int r101, .int (((576 : Int32) * v1) + v2), .ref 105], I101, G101, (gP rd))
        obtain ⟨g0, h⟩ := rg_some h
        refine am_blk 73 [(.iastore, 1, 0, 0, .null), (.iinc 2 (1), 3, 2, 0, .int (1 : Int32)), (.goto (-58), 3, 0, 19, .null)] (19, [(0, .ref 102), (1, .int v1), (2, .int (v2 + (1 : Int32)))], [], (am_up I101 105 (((576 : Int32) * v1) + v2).toNatClampNeg r101), G101, (gP rd)) (vp_in (((576 : Int32) * v1) + v2) 2304 ∧ True) hX hi (by decide +kernel) rfl ⟨g0, trivial⟩ ?_
        exact ih _ _ _ _ _ h
set_option maxRecDepth 20000 in
set_option maxHeartbeats 4000000 in
theorem c_X13_know_102 (rd : Nat) (I : am_I) (G : am_G) (x1 : Int32) {out : Unit × am_I × am_G} (h : R_X13_know_102 I G x1 = some out) : am_Ct mX13_know 5 gS [.ref 102, .int x1] I G (gP rd) (pV out.2.1 out.2.2 (gP rd)) := by
  refine am_ofF (by decide +kernel) rfl (by decide) (by omega) (Nat.le_of_ble_eq_true rfl) (fun X ad hX hi => ?_)
  have hi : am_info X 11 cX13_know 3 false none 5 := hi
  show am_V X 0 0 _ _ ad (0, [(0, .ref 102), (1, .int x1)], [], I, G, (gP rd))
  unfold R_X13_know_102 at h
  obtain ⟨g0, h⟩ := rg_some h
  refine am_blk 0 [(.aload_n 0, 1, 0, 0, .null), (.getfield 25, 3, 11, 7, .null), (.iload_n 1, 1, 1, 0, .null), (.baload, 1, 0, 0, .null)] (6, [(0, .ref 102), (1, .int x1)], [.int (I 106 x1.toNatClampNeg)], I, G, (gP rd)) (vp_in x1 4 ∧ True) hX hi (by decide +kernel) rfl ⟨g0, trivial⟩ ?_
  refine am_if_eq (tgt := 10) hX hi (off := (4)) (by decide +kernel) (by decide) (fun c6 => ?_) (fun c6 => ?_)
  · rw [if_pos c6] at h
    obtain ⟨g0, h⟩ := rg_some h
    refine am_blk 10 [(.aload_n 0, 1, 0, 0, .null), (.getfield 25, 3, 11, 7, .null), (.iload_n 1, 1, 1, 0, .null), (.iconst (1), 1, 0, 0, .int (1 : Int32)), (.bastore, 1, 0, 0, .null), (.iconst (0), 1, 0, 0, .int (0 : Int32)), (.istore_n 2, 1, 2, 0, .null)] (19, [(0, .ref 102), (1, .int x1), (2, .int (0 : Int32))], [], (am_up I 106 x1.toNatClampNeg (1 : Int32)), G, (gP rd)) ((vp_in x1 4 ∧ ((1 : Int32) = 0 ∨ (1 : Int32) = 1)) ∧ True) hX hi (by decide +kernel) rfl ⟨g0, trivial⟩ ?_
    exact (l_X13_know_102 rd hX hi FU) _ _ _ _ _ h
  · rw [if_neg c6] at h
    cases h
    refine am_vret hX hi rfl (by decide +kernel) ?_
    exact ⟨rfl, rfl, rfl, rfl⟩
noncomputable def L_X13_know_112 (n0 : Nat) (hd : Nat) (I : am_I) (G : am_G) (v1 : Int32) (v2 : Int32) : Option (Unit × am_I × am_G) := match n0 with
  | 0 => none
  | n + 1 => match hd with
    | _ => (if (f_X12_spots_86 I G ) ≤ v2 then some ((), I, G) else rg (¬ (I 86 0) = 0) (rg (¬ (I 86 0) = 0) (rb (R_X13_valueAt_112 I G v1 (v2 - v2 / (I 86 0) * (I 86 0)) (v2 / (I 86 0))) (fun r101 I101 G101 => rg (vp_in (((576 : Int32) * v1) + v2) 2304) (L_X13_know_112 n 0 (am_up I101 115 (((576 : Int32) * v1) + v2).toNatClampNeg r101) G101 v1 (v2 + (1 : Int32)))))))
theorem L_X13_know_112_0 (n : Nat) (I : am_I) (G : am_G) (v1 : Int32) (v2 : Int32) : L_X13_know_112 (n + 1) 0 I G v1 v2 = (if (f_X12_spots_86 I G ) ≤ v2 then some ((), I, G) else rg (¬ (I 86 0) = 0) (rg (¬ (I 86 0) = 0) (rb (R_X13_valueAt_112 I G v1 (v2 - v2 / (I 86 0) * (I 86 0)) (v2 / (I 86 0))) (fun r101 I101 G101 => rg (vp_in (((576 : Int32) * v1) + v2) 2304) (L_X13_know_112 n 0 (am_up I101 115 (((576 : Int32) * v1) + v2).toNatClampNeg r101) G101 v1 (v2 + (1 : Int32))))))) := rfl
theorem L_X13_know_112_z (h : Nat) (I : am_I) (G : am_G) (v1 : Int32) (v2 : Int32) : L_X13_know_112 0 h I G v1 v2 = none := rfl
noncomputable def R_X13_know_112 (I : am_I) (G : am_G) (x1 : Int32) : Option (Unit × am_I × am_G) := rg (vp_in x1 4) ((if (I 116 x1.toNatClampNeg) = 0 then rg ((vp_in x1 4 ∧ ((1 : Int32) = 0 ∨ (1 : Int32) = 1))) (L_X13_know_112 FU 0 (am_up I 116 x1.toNatClampNeg (1 : Int32)) G x1 (0 : Int32)) else some ((), I, G)))
set_option maxRecDepth 20000 in
set_option maxHeartbeats 4000000 in
theorem l_X13_know_112 (rd : Nat) {X : am_X} {ad : Nat → Nat} (hX : am_okz X ad) (hi : am_info X 11 cX13_know 3 false none 5) (n : Nat) : (∀ (I : am_I) (G : am_G) (v1 : Int32) (v2 : Int32) (out : Unit × am_I × am_G), L_X13_know_112 n 0 I G v1 v2 = some out → am_V X 0 0 (am_Rt X gS ad (pV out.2.1 out.2.2 (gP rd))) gS ad (19, [(0, .ref 112), (1, .int v1), (2, .int v2)], [], I, G, (gP rd))) := by
  induction n with
  | zero => exact fun I G v1 v2 out h => by rw [L_X13_know_112_z] at h; cases h
  | succ n ih =>
    · intro I G v1 v2 out h
      rw [L_X13_know_112_0] at h
      refine am_blk 19 [(.iload_n 2, 1, 2, 0, .null), (.aload_n 0, 1, 0, 0, .null), (.getfield 3, 3, 11, 14, .null), (.getfield 67, 3, 12, 11, .null)] (27, [(0, .ref 112), (1, .int v1), (2, .int v2)], [.ref 86, .int v2], I, G, (gP rd)) (True) hX hi (by decide +kernel) rfl trivial ?_
      refine am_callV hX hi (M := mX12_spots) (idx := 107) (d' := 1) (b := 86) (ci := 10) (As := []) (rest := [.int v2]) mkX12_spots miX12_spots mvX12_spots (by decide +kernel) (by decide +kernel) rfl (by decide +kernel) rfl ⟨by omega, by decide, Nat.le_of_ble_eq_true rfl⟩ rfl (c_X12_spots_86 _ I G ) ?_
      rintro r9 I9 G9 P9 ⟨e0, e1, e2, e3⟩
      rw [e0, e1, e2, e3]
      show am_V X 0 0 _ _ ad (30, [(0, .ref 112), (1, .int v1), (2, .int v2)], [.int (f_X12_spots_86 I G ), .int v2], I, G, (gP rd))
      refine am_icmp_ge (tgt := 80) hX hi (off := (50)) (by decide +kernel) (by decide) (fun c30 => ?_) (fun c30 => ?_)
      · rw [if_pos c30] at h
        cases h
        refine am_vret hX hi rfl (by decide +kernel) ?_
        exact ⟨rfl, rfl, rfl, rfl⟩
      · rw [if_neg c30] at h
        obtain ⟨g0, h⟩ := rg_some h
        obtain ⟨g1, h⟩ := rg_some h
        refine am_blk 33 [(.aload_n 0, 1, 0, 0, .null), (.getfield 22, 3, 11, 6, .null), (.sipush (576), 3, 0, 0, .int (576 : Int32)), (.iload_n 1, 1, 1, 0, .null), (.imul, 1, 0, 0, .null), (.iload_n 2, 1, 2, 0, .null), (.iadd, 1, 0, 0, .null), (.aload_n 0, 1, 0, 0, .null), (.iload_n 1, 1, 1, 0, .null), (.iload_n 2, 1, 2, 0, .null), (.aload_n 0, 1, 0, 0, .null), (.getfield 3, 3, 11, 14, .null), (.getfield 67, 3, 12, 11, .null), (.getfield 87, 3, 10, 0, .null), (.irem, 1, 0, 0, .null), (.iload_n 2, 1, 2, 0, .null), (.aload_n 0, 1, 0, 0, .null), (.getfield 3, 3, 11, 14, .null), (.getfield 67, 3, 12, 11, .null), (.getfield 87, 3, 10, 0, .null), (.idiv, 1, 0, 0, .null)] (70, [(0, .ref 112), (1, .int v1), (2, .int v2)], [.int (v2 / (I 86 0)), .int (v2 - v2 / (I 86 0) * (I 86 0)), .int v1, .ref 112, .int (((576 : Int32) * v1) + v2), .ref 115], I, G, (gP rd)) (¬ (I 86 0) = 0 ∧ ¬ (I 86 0) = 0 ∧ True) hX hi (by decide +kernel) rfl ⟨g0, g1, trivial⟩ ?_
        obtain ⟨r101, I101, G101, hc, h⟩ := rb_some h
        refine am_callV2 hX hi (M := mX13_valueAt) (idx := 111) (d' := 3) (b := 112) (ci := 11) (As := [.int v1, .int (v2 - v2 / (I 86 0) * (I 86 0)), .int (v2 / (I 86 0))]) (rest := [.int (((576 : Int32) * v1) + v2), .ref 115]) mkX13_valueAt miX13_valueAt mvX13_valueAt (by decide +kernel) (by decide +kernel) rfl (by decide +kernel) rfl ⟨by omega, by (show 19 + 12 + 30 * _ ≤ 30 * _; omega), Nat.le_of_ble_eq_true rfl⟩ rfl (c_X13_valueAt_112 _ I G v1 (v2 - v2 / (I 86 0) * (I 86 0)) (v2 / (I 86 0)) hc) ?_
        rintro r9 I9 G9 P9 ⟨e0, e1, e2, e3⟩
        rw [e0, e1, e2, e3]
        show am_V X 0 0 _ _ ad (73, [(0, .ref 112), (1, .int v1), (2, .int v2)], [.int r101, .int (((576 : Int32) * v1) + v2), .ref 115], I101, G101, (gP rd))
        obtain ⟨g0, h⟩ := rg_some h
        refine am_blk 73 [(.iastore, 1, 0, 0, .null), (.iinc 2 (1), 3, 2, 0, .int (1 : Int32)), (.goto (-58), 3, 0, 19, .null)] (19, [(0, .ref 112), (1, .int v1), (2, .int (v2 + (1 : Int32)))], [], (am_up I101 115 (((576 : Int32) * v1) + v2).toNatClampNeg r101), G101, (gP rd)) (vp_in (((576 : Int32) * v1) + v2) 2304 ∧ True) hX hi (by decide +kernel) rfl ⟨g0, trivial⟩ ?_
        exact ih _ _ _ _ _ h
set_option maxRecDepth 20000 in
set_option maxHeartbeats 4000000 in
theorem c_X13_know_112 (rd : Nat) (I : am_I) (G : am_G) (x1 : Int32) {out : Unit × am_I × am_G} (h : R_X13_know_112 I G x1 = some out) : am_Ct mX13_know 5 gS [.ref 112, .int x1] I G (gP rd) (pV out.2.1 out.2.2 (gP rd)) := by
  refine am_ofF (by decide +kernel) rfl (by decide) (by omega) (Nat.le_of_ble_eq_true rfl) (fun X ad hX hi => ?_)
  have hi : am_info X 11 cX13_know 3 false none 5 := hi
  show am_V X 0 0 _ _ ad (0, [(0, .ref 112), (1, .int x1)], [], I, G, (gP rd))
  unfold R_X13_know_112 at h
  obtain ⟨g0, h⟩ := rg_some h
  refine am_blk 0 [(.aload_n 0, 1, 0, 0, .null), (.getfield 25, 3, 11, 7, .null), (.iload_n 1, 1, 1, 0, .null), (.baload, 1, 0, 0, .null)] (6, [(0, .ref 112), (1, .int x1)], [.int (I 116 x1.toNatClampNeg)], I, G, (gP rd)) (vp_in x1 4 ∧ True) hX hi (by decide +kernel) rfl ⟨g0, trivial⟩ ?_
  refine am_if_eq (tgt := 10) hX hi (off := (4)) (by decide +kernel) (by decide) (fun c6 => ?_) (fun c6 => ?_)
  · rw [if_pos c6] at h
    obtain ⟨g0, h⟩ := rg_some h
    refine am_blk 10 [(.aload_n 0, 1, 0, 0, .null), (.getfield 25, 3, 11, 7, .null), (.iload_n 1, 1, 1, 0, .null), (.iconst (1), 1, 0, 0, .int (1 : Int32)), (.bastore, 1, 0, 0, .null), (.iconst (0), 1, 0, 0, .int (0 : Int32)), (.istore_n 2, 1, 2, 0, .null)] (19, [(0, .ref 112), (1, .int x1), (2, .int (0 : Int32))], [], (am_up I 116 x1.toNatClampNeg (1 : Int32)), G, (gP rd)) ((vp_in x1 4 ∧ ((1 : Int32) = 0 ∨ (1 : Int32) = 1)) ∧ True) hX hi (by decide +kernel) rfl ⟨g0, trivial⟩ ?_
    exact (l_X13_know_112 rd hX hi FU) _ _ _ _ _ h
  · rw [if_neg c6] at h
    cases h
    refine am_vret hX hi rfl (by decide +kernel) ?_
    exact ⟨rfl, rfl, rfl, rfl⟩
noncomputable def R_X13_value_102 (I : am_I) (G : am_G) (x1 : Int32) (x2 : Int32) : Option (Int32 × am_I × am_G) := rb (R_X13_know_102 I G x1) (fun r1 I1 G1 => rg (vp_in (((576 : Int32) * x1) + x2) 2304) (some ((I1 105 (((576 : Int32) * x1) + x2).toNatClampNeg), I1, G1)))
set_option maxRecDepth 20000 in
set_option maxHeartbeats 4000000 in
theorem c_X13_value_102 (rd : Nat) (I : am_I) (G : am_G) (x1 : Int32) (x2 : Int32) {out : Int32 × am_I × am_G} (h : R_X13_value_102 I G x1 x2 = some out) : am_Ct mX13_value 6 gS [.ref 102, .int x1, .int x2] I G (gP rd) (pI out.1 out.2.1 out.2.2 (gP rd)) := by
  refine am_ofF (by decide +kernel) rfl (by decide) (by omega) (Nat.le_of_ble_eq_true rfl) (fun X ad hX hi => ?_)
  have hi : am_info X 11 cX13_value 3 false (Option.some Jvm.ClassFile.FieldType.int) 6 := hi
  show am_V X 0 0 _ _ ad (0, [(0, .ref 102), (1, .int x1), (2, .int x2)], [], I, G, (gP rd))
  unfold R_X13_value_102 at h
  refine am_blk 0 [(.aload_n 0, 1, 0, 0, .null), (.iload_n 1, 1, 1, 0, .null)] (2, [(0, .ref 102), (1, .int x1), (2, .int x2)], [.int x1, .ref 102], I, G, (gP rd)) (True) hX hi (by decide +kernel) rfl trivial ?_
  obtain ⟨r1, I1, G1, hc, h⟩ := rb_some h
  refine am_callV hX hi (M := mX13_know) (idx := 114) (d' := 5) (b := 102) (ci := 11) (As := [.int x1]) (rest := []) mkX13_know miX13_know mvX13_know (by decide +kernel) (by decide +kernel) rfl (by decide +kernel) rfl ⟨by omega, by decide, Nat.le_of_ble_eq_true rfl⟩ rfl (c_X13_know_102 _ I G x1 hc) ?_
  rintro r9 I9 G9 P9 ⟨e0, e1, e2, e3⟩
  rw [e0, e1, e2, e3]
  show am_V X 0 0 _ _ ad (5, [(0, .ref 102), (1, .int x1), (2, .int x2)], [], I1, G1, (gP rd))
  obtain ⟨g0, h⟩ := rg_some h
  refine am_blk 5 [(.aload_n 0, 1, 0, 0, .null), (.getfield 22, 3, 11, 6, .null), (.sipush (576), 3, 0, 0, .int (576 : Int32)), (.iload_n 1, 1, 1, 0, .null), (.imul, 1, 0, 0, .null), (.iload_n 2, 1, 2, 0, .null), (.iadd, 1, 0, 0, .null), (.iaload, 1, 0, 0, .null)] (17, [(0, .ref 102), (1, .int x1), (2, .int x2)], [.int (I1 105 (((576 : Int32) * x1) + x2).toNatClampNeg)], I1, G1, (gP rd)) (vp_in (((576 : Int32) * x1) + x2) 2304 ∧ True) hX hi (by decide +kernel) rfl ⟨g0, trivial⟩ ?_
  cases h
  refine am_iret hX hi rfl rfl (by decide +kernel) ?_
  exact ⟨rfl, rfl, rfl, rfl⟩
noncomputable def R_X13_value_112 (I : am_I) (G : am_G) (x1 : Int32) (x2 : Int32) : Option (Int32 × am_I × am_G) := rb (R_X13_know_112 I G x1) (fun r1 I1 G1 => rg (vp_in (((576 : Int32) * x1) + x2) 2304) (some ((I1 115 (((576 : Int32) * x1) + x2).toNatClampNeg), I1, G1)))
set_option maxRecDepth 20000 in
set_option maxHeartbeats 4000000 in
theorem c_X13_value_112 (rd : Nat) (I : am_I) (G : am_G) (x1 : Int32) (x2 : Int32) {out : Int32 × am_I × am_G} (h : R_X13_value_112 I G x1 x2 = some out) : am_Ct mX13_value 6 gS [.ref 112, .int x1, .int x2] I G (gP rd) (pI out.1 out.2.1 out.2.2 (gP rd)) := by
  refine am_ofF (by decide +kernel) rfl (by decide) (by omega) (Nat.le_of_ble_eq_true rfl) (fun X ad hX hi => ?_)
  have hi : am_info X 11 cX13_value 3 false (Option.some Jvm.ClassFile.FieldType.int) 6 := hi
  show am_V X 0 0 _ _ ad (0, [(0, .ref 112), (1, .int x1), (2, .int x2)], [], I, G, (gP rd))
  unfold R_X13_value_112 at h
  refine am_blk 0 [(.aload_n 0, 1, 0, 0, .null), (.iload_n 1, 1, 1, 0, .null)] (2, [(0, .ref 112), (1, .int x1), (2, .int x2)], [.int x1, .ref 112], I, G, (gP rd)) (True) hX hi (by decide +kernel) rfl trivial ?_
  obtain ⟨r1, I1, G1, hc, h⟩ := rb_some h
  refine am_callV hX hi (M := mX13_know) (idx := 114) (d' := 5) (b := 112) (ci := 11) (As := [.int x1]) (rest := []) mkX13_know miX13_know mvX13_know (by decide +kernel) (by decide +kernel) rfl (by decide +kernel) rfl ⟨by omega, by decide, Nat.le_of_ble_eq_true rfl⟩ rfl (c_X13_know_112 _ I G x1 hc) ?_
  rintro r9 I9 G9 P9 ⟨e0, e1, e2, e3⟩
  rw [e0, e1, e2, e3]
  show am_V X 0 0 _ _ ad (5, [(0, .ref 112), (1, .int x1), (2, .int x2)], [], I1, G1, (gP rd))
  obtain ⟨g0, h⟩ := rg_some h
  refine am_blk 5 [(.aload_n 0, 1, 0, 0, .null), (.getfield 22, 3, 11, 6, .null), (.sipush (576), 3, 0, 0, .int (576 : Int32)), (.iload_n 1, 1, 1, 0, .null), (.imul, 1, 0, 0, .null), (.iload_n 2, 1, 2, 0, .null), (.iadd, 1, 0, 0, .null), (.iaload, 1, 0, 0, .null)] (17, [(0, .ref 112), (1, .int x1), (2, .int x2)], [.int (I1 115 (((576 : Int32) * x1) + x2).toNatClampNeg)], I1, G1, (gP rd)) (vp_in (((576 : Int32) * x1) + x2) 2304 ∧ True) hX hi (by decide +kernel) rfl ⟨g0, trivial⟩ ?_
  cases h
  refine am_iret hX hi rfl rfl (by decide +kernel) ?_
  exact ⟨rfl, rfl, rfl, rfl⟩
noncomputable def L_X13_whence_102 (n0 : Nat) (hd : Nat) (I : am_I) (G : am_G) (v1 : Int32) (v2 : Int32) (v3 : Int32) (v4 : Int32) : Option (Int32 × am_I × am_G) := match n0 with
  | 0 => none
  | n + 1 => match hd with
    | _ => (if v4 < 0 then rg (q_X12_spot_86 I G (v2 - (I 102 2)) (v3 - (I 102 3))) (some ((f_X12_spot_86 I G (v2 - (I 102 2)) (v3 - (I 102 3))), I, G)) else rg (vp_in v4 4) ((if (I 91 v4.toNatClampNeg) = (1 : Int32) then rg (q_X13_moves_102 I G v4 v2) (rg (0 < (I 86 1).toInt) (L_X13_whence_102 n 0 I G v1 v2 (Int32.ofInt ((v3 - (f_X13_moves_102 I G v4 v2)).toInt % (I 86 1).toInt)) (v4 + (-1 : Int32)))) else rg (q_X13_moves_102 I G v4 v3) (rg (0 < (I 86 0).toInt) (L_X13_whence_102 n 0 I G v1 (Int32.ofInt ((v2 - (f_X13_moves_102 I G v4 v3)).toInt % (I 86 0).toInt)) v3 (v4 + (-1 : Int32)))))))
theorem L_X13_whence_102_0 (n : Nat) (I : am_I) (G : am_G) (v1 : Int32) (v2 : Int32) (v3 : Int32) (v4 : Int32) : L_X13_whence_102 (n + 1) 0 I G v1 v2 v3 v4 = (if v4 < 0 then rg (q_X12_spot_86 I G (v2 - (I 102 2)) (v3 - (I 102 3))) (some ((f_X12_spot_86 I G (v2 - (I 102 2)) (v3 - (I 102 3))), I, G)) else rg (vp_in v4 4) ((if (I 91 v4.toNatClampNeg) = (1 : Int32) then rg (q_X13_moves_102 I G v4 v2) (rg (0 < (I 86 1).toInt) (L_X13_whence_102 n 0 I G v1 v2 (Int32.ofInt ((v3 - (f_X13_moves_102 I G v4 v2)).toInt % (I 86 1).toInt)) (v4 + (-1 : Int32)))) else rg (q_X13_moves_102 I G v4 v3) (rg (0 < (I 86 0).toInt) (L_X13_whence_102 n 0 I G v1 (Int32.ofInt ((v2 - (f_X13_moves_102 I G v4 v3)).toInt % (I 86 0).toInt)) v3 (v4 + (-1 : Int32))))))) := rfl
theorem L_X13_whence_102_z (h : Nat) (I : am_I) (G : am_G) (v1 : Int32) (v2 : Int32) (v3 : Int32) (v4 : Int32) : L_X13_whence_102 0 h I G v1 v2 v3 v4 = none := rfl
noncomputable def R_X13_whence_102 (I : am_I) (G : am_G) (x1 : Int32) : Option (Int32 × am_I × am_G) := rg (¬ (I 86 0) = 0) (rg (¬ (I 86 0) = 0) (L_X13_whence_102 FU 0 I G x1 (x1 - x1 / (I 86 0) * (I 86 0)) (x1 / (I 86 0)) ((I 86 3) - (1 : Int32))))
set_option maxRecDepth 20000 in
set_option maxHeartbeats 4000000 in
theorem l_X13_whence_102 (rd : Nat) {X : am_X} {ad : Nat → Nat} (hX : am_okz X ad) (hi : am_info X 11 cX13_whence 5 false (Option.some Jvm.ClassFile.FieldType.int) 3) (n : Nat) : (∀ (I : am_I) (G : am_G) (v1 : Int32) (v2 : Int32) (v3 : Int32) (v4 : Int32) (out : Int32 × am_I × am_G), L_X13_whence_102 n 0 I G v1 v2 v3 v4 = some out → am_V X 0 0 (am_Rt X gS ad (pI out.1 out.2.1 out.2.2 (gP rd))) gS ad (40, [(0, .ref 102), (1, .int v1), (2, .int v2), (3, .int v3), (4, .int v4)], [], I, G, (gP rd))) := by
  induction n with
  | zero => exact fun I G v1 v2 v3 v4 out h => by rw [L_X13_whence_102_z] at h; cases h
  | succ n ih =>
    · intro I G v1 v2 v3 v4 out h
      rw [L_X13_whence_102_0] at h
      refine am_blk 40 [(.iload 4, 2, 4, 0, .null)] (42, [(0, .ref 102), (1, .int v1), (2, .int v2), (3, .int v3), (4, .int v4)], [.int v4], I, G, (gP rd)) (True) hX hi (by decide +kernel) rfl trivial ?_
      refine am_if_lt (tgt := 117) hX hi (off := (75)) (by decide +kernel) (by decide) (fun c42 => ?_) (fun c42 => ?_)
      · rw [if_pos c42] at h
        refine am_blk 117 [(.aload_n 0, 1, 0, 0, .null), (.getfield 3, 3, 11, 14, .null), (.getfield 67, 3, 12, 11, .null), (.iload_n 2, 1, 2, 0, .null), (.aload_n 0, 1, 0, 0, .null), (.getfield 51, 3, 11, 2, .null), (.isub, 1, 0, 0, .null), (.iload_n 3, 1, 3, 0, .null), (.aload_n 0, 1, 0, 0, .null), (.getfield 54, 3, 11, 3, .null), (.isub, 1, 0, 0, .null)] (136, [(0, .ref 102), (1, .int v1), (2, .int v2), (3, .int v3), (4, .int v4)], [.int (v3 - (I 102 3)), .int (v2 - (I 102 2)), .ref 86], I, G, (gP rd)) (True) hX hi (by decide +kernel) rfl trivial ?_
        obtain ⟨hq1, h⟩ := rg_some h
        refine am_callV hX hi (M := mX12_spot) (idx := 139) (d' := 2) (b := 86) (ci := 10) (As := [.int (v2 - (I 102 2)), .int (v3 - (I 102 3))]) (rest := []) mkX12_spot miX12_spot mvX12_spot (by decide +kernel) (by decide +kernel) rfl (by decide +kernel) rfl ⟨by omega, by decide, Nat.le_of_ble_eq_true rfl⟩ rfl (c_X12_spot_86 _ I G (v2 - (I 102 2)) (v3 - (I 102 3)) hq1) ?_
        rintro r9 I9 G9 P9 ⟨e0, e1, e2, e3⟩
        rw [e0, e1, e2, e3]
        show am_V X 0 0 _ _ ad (139, [(0, .ref 102), (1, .int v1), (2, .int v2), (3, .int v3), (4, .int v4)], [.int (f_X12_spot_86 I G (v2 - (I 102 2)) (v3 - (I 102 3)))], I, G, (gP rd))
        cases h
        refine am_iret hX hi rfl rfl (by decide +kernel) ?_
        exact ⟨rfl, rfl, rfl, rfl⟩
      · rw [if_neg c42] at h
        obtain ⟨g0, h⟩ := rg_some h
        refine am_blk 45 [(.aload_n 0, 1, 0, 0, .null), (.getfield 3, 3, 11, 14, .null), (.getfield 67, 3, 12, 11, .null), (.getfield 118, 3, 10, 9, .null), (.iload 4, 2, 4, 0, .null), (.iaload, 1, 0, 0, .null), (.iconst (1), 1, 0, 0, .int (1 : Int32))] (59, [(0, .ref 102), (1, .int v1), (2, .int v2), (3, .int v3), (4, .int v4)], [.int (1 : Int32), .int (I 91 v4.toNatClampNeg)], I, G, (gP rd)) (vp_in v4 4 ∧ True) hX hi (by decide +kernel) rfl ⟨g0, trivial⟩ ?_
        refine am_icmp_ne (tgt := 88) hX hi (off := (29)) (by decide +kernel) (by decide) (fun c59 => ?_) (fun c59 => ?_)
        · rw [if_neg c59] at h
          refine am_blk 88 [(.iload_n 2, 1, 2, 0, .null), (.aload_n 0, 1, 0, 0, .null), (.iload 4, 2, 4, 0, .null), (.iload_n 3, 1, 3, 0, .null)] (93, [(0, .ref 102), (1, .int v1), (2, .int v2), (3, .int v3), (4, .int v4)], [.int v3, .int v4, .ref 102, .int v2], I, G, (gP rd)) (True) hX hi (by decide +kernel) rfl trivial ?_
          obtain ⟨hq1, h⟩ := rg_some h
          refine am_callV hX hi (M := mX13_moves) (idx := 136) (d' := 2) (b := 102) (ci := 11) (As := [.int v4, .int v3]) (rest := [.int v2]) mkX13_moves miX13_moves mvX13_moves (by decide +kernel) (by decide +kernel) rfl (by decide +kernel) rfl ⟨by omega, by decide, Nat.le_of_ble_eq_true rfl⟩ rfl (c_X13_moves_102 _ I G v4 v3 hq1) ?_
          rintro r9 I9 G9 P9 ⟨e0, e1, e2, e3⟩
          rw [e0, e1, e2, e3]
          show am_V X 0 0 _ _ ad (96, [(0, .ref 102), (1, .int v1), (2, .int v2), (3, .int v3), (4, .int v4)], [.int (f_X13_moves_102 I G v4 v3), .int v2], I, G, (gP rd))
          refine am_blk 96 [(.isub, 1, 0, 0, .null), (.aload_n 0, 1, 0, 0, .null), (.getfield 3, 3, 11, 14, .null), (.getfield 67, 3, 12, 11, .null), (.getfield 87, 3, 10, 0, .null)] (107, [(0, .ref 102), (1, .int v1), (2, .int v2), (3, .int v3), (4, .int v4)], [.int (I 86 0), .int (v2 - (f_X13_moves_102 I G v4 v3))], I, G, (gP rd)) (True) hX hi (by decide +kernel) rfl trivial ?_
          obtain ⟨hq1, h⟩ := rg_some h
          refine am_callS hX hi (M := mJ9_floorMod_7cf53) (idx := 121) (d' := 1) (As := [.int (v2 - (f_X13_moves_102 I G v4 v3)), .int (I 86 0)]) (rest := []) mkJ9_floorMod_7cf53 msJ9_floorMod_7cf53 (by decide +kernel) (by decide +kernel) rfl ⟨by omega, by decide, Nat.le_of_ble_eq_true rfl⟩ rfl (c_fmodI (v2 - (f_X13_moves_102 I G v4 v3)) (I 86 0) hq1) ?_
          rintro r9 I9 G9 P9 ⟨e0, e1, e2, e3⟩
          rw [e0, e1, e2, e3]
          show am_V X 0 0 _ _ ad (110, [(0, .ref 102), (1, .int v1), (2, .int v2), (3, .int v3), (4, .int v4)], [.int (Int32.ofInt ((v2 - (f_X13_moves_102 I G v4 v3)).toInt % (I 86 0).toInt))], I, G, (gP rd))
          refine am_blk 110 [(.istore_n 2, 1, 2, 0, .null), (.iinc 4 (-1), 3, 4, 0, .int (-1 : Int32)), (.goto (-74), 3, 0, 40, .null)] (40, [(0, .ref 102), (1, .int v1), (2, .int (Int32.ofInt ((v2 - (f_X13_moves_102 I G v4 v3)).toInt % (I 86 0).toInt))), (3, .int v3), (4, .int (v4 + (-1 : Int32)))], [], I, G, (gP rd)) (True) hX hi (by decide +kernel) rfl trivial ?_
          exact ih _ _ _ _ _ _ _ h
        · rw [if_pos c59] at h
          refine am_blk 62 [(.iload_n 3, 1, 3, 0, .null), (.aload_n 0, 1, 0, 0, .null), (.iload 4, 2, 4, 0, .null), (.iload_n 2, 1, 2, 0, .null)] (67, [(0, .ref 102), (1, .int v1), (2, .int v2), (3, .int v3), (4, .int v4)], [.int v2, .int v4, .ref 102, .int v3], I, G, (gP rd)) (True) hX hi (by decide +kernel) rfl trivial ?_
          obtain ⟨hq1, h⟩ := rg_some h
          refine am_callV hX hi (M := mX13_moves) (idx := 136) (d' := 2) (b := 102) (ci := 11) (As := [.int v4, .int v2]) (rest := [.int v3]) mkX13_moves miX13_moves mvX13_moves (by decide +kernel) (by decide +kernel) rfl (by decide +kernel) rfl ⟨by omega, by decide, Nat.le_of_ble_eq_true rfl⟩ rfl (c_X13_moves_102 _ I G v4 v2 hq1) ?_
          rintro r9 I9 G9 P9 ⟨e0, e1, e2, e3⟩
          rw [e0, e1, e2, e3]
          show am_V X 0 0 _ _ ad (70, [(0, .ref 102), (1, .int v1), (2, .int v2), (3, .int v3), (4, .int v4)], [.int (f_X13_moves_102 I G v4 v2), .int v3], I, G, (gP rd))
          refine am_blk 70 [(.isub, 1, 0, 0, .null), (.aload_n 0, 1, 0, 0, .null), (.getfield 3, 3, 11, 14, .null), (.getfield 67, 3, 12, 11, .null), (.getfield 92, 3, 10, 1, .null)] (81, [(0, .ref 102), (1, .int v1), (2, .int v2), (3, .int v3), (4, .int v4)], [.int (I 86 1), .int (v3 - (f_X13_moves_102 I G v4 v2))], I, G, (gP rd)) (True) hX hi (by decide +kernel) rfl trivial ?_
          obtain ⟨hq1, h⟩ := rg_some h
          refine am_callS hX hi (M := mJ9_floorMod_7cf53) (idx := 121) (d' := 1) (As := [.int (v3 - (f_X13_moves_102 I G v4 v2)), .int (I 86 1)]) (rest := []) mkJ9_floorMod_7cf53 msJ9_floorMod_7cf53 (by decide +kernel) (by decide +kernel) rfl ⟨by omega, by decide, Nat.le_of_ble_eq_true rfl⟩ rfl (c_fmodI (v3 - (f_X13_moves_102 I G v4 v2)) (I 86 1) hq1) ?_
          rintro r9 I9 G9 P9 ⟨e0, e1, e2, e3⟩
          rw [e0, e1, e2, e3]
          show am_V X 0 0 _ _ ad (84, [(0, .ref 102), (1, .int v1), (2, .int v2), (3, .int v3), (4, .int v4)], [.int (Int32.ofInt ((v3 - (f_X13_moves_102 I G v4 v2)).toInt % (I 86 1).toInt))], I, G, (gP rd))
          refine am_blk 84 [(.istore_n 3, 1, 3, 0, .null), (.goto (26), 3, 0, 111, .null), (.iinc 4 (-1), 3, 4, 0, .int (-1 : Int32)), (.goto (-74), 3, 0, 40, .null)] (40, [(0, .ref 102), (1, .int v1), (2, .int v2), (3, .int (Int32.ofInt ((v3 - (f_X13_moves_102 I G v4 v2)).toInt % (I 86 1).toInt))), (4, .int (v4 + (-1 : Int32)))], [], I, G, (gP rd)) (True) hX hi (by decide +kernel) rfl trivial ?_
          exact ih _ _ _ _ _ _ _ h
set_option maxRecDepth 20000 in
set_option maxHeartbeats 4000000 in
theorem c_X13_whence_102 (rd : Nat) (I : am_I) (G : am_G) (x1 : Int32) {out : Int32 × am_I × am_G} (h : R_X13_whence_102 I G x1 = some out) : am_Ct mX13_whence 3 gS [.ref 102, .int x1] I G (gP rd) (pI out.1 out.2.1 out.2.2 (gP rd)) := by
  refine am_ofF (by decide +kernel) rfl (by decide) (by omega) (Nat.le_of_ble_eq_true rfl) (fun X ad hX hi => ?_)
  have hi : am_info X 11 cX13_whence 5 false (Option.some Jvm.ClassFile.FieldType.int) 3 := hi
  show am_V X 0 0 _ _ ad (0, [(0, .ref 102), (1, .int x1)], [], I, G, (gP rd))
  unfold R_X13_whence_102 at h
  obtain ⟨g0, h⟩ := rg_some h
  obtain ⟨g1, h⟩ := rg_some h
  refine am_blk 0 [(.iload_n 1, 1, 1, 0, .null), (.aload_n 0, 1, 0, 0, .null), (.getfield 3, 3, 11, 14, .null), (.getfield 67, 3, 12, 11, .null), (.getfield 87, 3, 10, 0, .null), (.irem, 1, 0, 0, .null), (.istore_n 2, 1, 2, 0, .null), (.iload_n 1, 1, 1, 0, .null), (.aload_n 0, 1, 0, 0, .null), (.getfield 3, 3, 11, 14, .null), (.getfield 67, 3, 12, 11, .null), (.getfield 87, 3, 10, 0, .null), (.idiv, 1, 0, 0, .null), (.istore_n 3, 1, 3, 0, .null), (.aload_n 0, 1, 0, 0, .null), (.getfield 3, 3, 11, 14, .null), (.getfield 67, 3, 12, 11, .null), (.getfield 133, 3, 10, 3, .null), (.iconst (1), 1, 0, 0, .int (1 : Int32)), (.isub, 1, 0, 0, .null), (.istore 4, 2, 4, 0, .null)] (40, [(0, .ref 102), (1, .int x1), (2, .int (x1 - x1 / (I 86 0) * (I 86 0))), (3, .int (x1 / (I 86 0))), (4, .int ((I 86 3) - (1 : Int32)))], [], I, G, (gP rd)) (¬ (I 86 0) = 0 ∧ ¬ (I 86 0) = 0 ∧ True) hX hi (by decide +kernel) rfl ⟨g0, g1, trivial⟩ ?_
  exact (l_X13_whence_102 rd hX hi FU) _ _ _ _ _ _ _ h
noncomputable def L_X13_whence_112 (n0 : Nat) (hd : Nat) (I : am_I) (G : am_G) (v1 : Int32) (v2 : Int32) (v3 : Int32) (v4 : Int32) : Option (Int32 × am_I × am_G) := match n0 with
  | 0 => none
  | n + 1 => match hd with
    | _ => (if v4 < 0 then rg (q_X12_spot_86 I G (v2 - (I 112 2)) (v3 - (I 112 3))) (some ((f_X12_spot_86 I G (v2 - (I 112 2)) (v3 - (I 112 3))), I, G)) else rg (vp_in v4 4) ((if (I 91 v4.toNatClampNeg) = (1 : Int32) then rg (q_X13_moves_112 I G v4 v2) (rg (0 < (I 86 1).toInt) (L_X13_whence_112 n 0 I G v1 v2 (Int32.ofInt ((v3 - (f_X13_moves_112 I G v4 v2)).toInt % (I 86 1).toInt)) (v4 + (-1 : Int32)))) else rg (q_X13_moves_112 I G v4 v3) (rg (0 < (I 86 0).toInt) (L_X13_whence_112 n 0 I G v1 (Int32.ofInt ((v2 - (f_X13_moves_112 I G v4 v3)).toInt % (I 86 0).toInt)) v3 (v4 + (-1 : Int32)))))))
theorem L_X13_whence_112_0 (n : Nat) (I : am_I) (G : am_G) (v1 : Int32) (v2 : Int32) (v3 : Int32) (v4 : Int32) : L_X13_whence_112 (n + 1) 0 I G v1 v2 v3 v4 = (if v4 < 0 then rg (q_X12_spot_86 I G (v2 - (I 112 2)) (v3 - (I 112 3))) (some ((f_X12_spot_86 I G (v2 - (I 112 2)) (v3 - (I 112 3))), I, G)) else rg (vp_in v4 4) ((if (I 91 v4.toNatClampNeg) = (1 : Int32) then rg (q_X13_moves_112 I G v4 v2) (rg (0 < (I 86 1).toInt) (L_X13_whence_112 n 0 I G v1 v2 (Int32.ofInt ((v3 - (f_X13_moves_112 I G v4 v2)).toInt % (I 86 1).toInt)) (v4 + (-1 : Int32)))) else rg (q_X13_moves_112 I G v4 v3) (rg (0 < (I 86 0).toInt) (L_X13_whence_112 n 0 I G v1 (Int32.ofInt ((v2 - (f_X13_moves_112 I G v4 v3)).toInt % (I 86 0).toInt)) v3 (v4 + (-1 : Int32))))))) := rfl
theorem L_X13_whence_112_z (h : Nat) (I : am_I) (G : am_G) (v1 : Int32) (v2 : Int32) (v3 : Int32) (v4 : Int32) : L_X13_whence_112 0 h I G v1 v2 v3 v4 = none := rfl
noncomputable def R_X13_whence_112 (I : am_I) (G : am_G) (x1 : Int32) : Option (Int32 × am_I × am_G) := rg (¬ (I 86 0) = 0) (rg (¬ (I 86 0) = 0) (L_X13_whence_112 FU 0 I G x1 (x1 - x1 / (I 86 0) * (I 86 0)) (x1 / (I 86 0)) ((I 86 3) - (1 : Int32))))
set_option maxRecDepth 20000 in
set_option maxHeartbeats 4000000 in
theorem l_X13_whence_112 (rd : Nat) {X : am_X} {ad : Nat → Nat} (hX : am_okz X ad) (hi : am_info X 11 cX13_whence 5 false (Option.some Jvm.ClassFile.FieldType.int) 3) (n : Nat) : (∀ (I : am_I) (G : am_G) (v1 : Int32) (v2 : Int32) (v3 : Int32) (v4 : Int32) (out : Int32 × am_I × am_G), L_X13_whence_112 n 0 I G v1 v2 v3 v4 = some out → am_V X 0 0 (am_Rt X gS ad (pI out.1 out.2.1 out.2.2 (gP rd))) gS ad (40, [(0, .ref 112), (1, .int v1), (2, .int v2), (3, .int v3), (4, .int v4)], [], I, G, (gP rd))) := by
  induction n with
  | zero => exact fun I G v1 v2 v3 v4 out h => by rw [L_X13_whence_112_z] at h; cases h
  | succ n ih =>
    · intro I G v1 v2 v3 v4 out h
      rw [L_X13_whence_112_0] at h
      refine am_blk 40 [(.iload 4, 2, 4, 0, .null)] (42, [(0, .ref 112), (1, .int v1), (2, .int v2), (3, .int v3), (4, .int v4)], [.int v4], I, G, (gP rd)) (True) hX hi (by decide +kernel) rfl trivial ?_
      refine am_if_lt (tgt := 117) hX hi (off := (75)) (by decide +kernel) (by decide) (fun c42 => ?_) (fun c42 => ?_)
      · rw [if_pos c42] at h
        refine am_blk 117 [(.aload_n 0, 1, 0, 0, .null), (.getfield 3, 3, 11, 14, .null), (.getfield 67, 3, 12, 11, .null), (.iload_n 2, 1, 2, 0, .null), (.aload_n 0, 1, 0, 0, .null), (.getfield 51, 3, 11, 2, .null), (.isub, 1, 0, 0, .null), (.iload_n 3, 1, 3, 0, .null), (.aload_n 0, 1, 0, 0, .null), (.getfield 54, 3, 11, 3, .null), (.isub, 1, 0, 0, .null)] (136, [(0, .ref 112), (1, .int v1), (2, .int v2), (3, .int v3), (4, .int v4)], [.int (v3 - (I 112 3)), .int (v2 - (I 112 2)), .ref 86], I, G, (gP rd)) (True) hX hi (by decide +kernel) rfl trivial ?_
        obtain ⟨hq1, h⟩ := rg_some h
        refine am_callV hX hi (M := mX12_spot) (idx := 139) (d' := 2) (b := 86) (ci := 10) (As := [.int (v2 - (I 112 2)), .int (v3 - (I 112 3))]) (rest := []) mkX12_spot miX12_spot mvX12_spot (by decide +kernel) (by decide +kernel) rfl (by decide +kernel) rfl ⟨by omega, by decide, Nat.le_of_ble_eq_true rfl⟩ rfl (c_X12_spot_86 _ I G (v2 - (I 112 2)) (v3 - (I 112 3)) hq1) ?_
        rintro r9 I9 G9 P9 ⟨e0, e1, e2, e3⟩
        rw [e0, e1, e2, e3]
        show am_V X 0 0 _ _ ad (139, [(0, .ref 112), (1, .int v1), (2, .int v2), (3, .int v3), (4, .int v4)], [.int (f_X12_spot_86 I G (v2 - (I 112 2)) (v3 - (I 112 3)))], I, G, (gP rd))
        cases h
        refine am_iret hX hi rfl rfl (by decide +kernel) ?_
        exact ⟨rfl, rfl, rfl, rfl⟩
      · rw [if_neg c42] at h
        obtain ⟨g0, h⟩ := rg_some h
        refine am_blk 45 [(.aload_n 0, 1, 0, 0, .null), (.getfield 3, 3, 11, 14, .null), (.getfield 67, 3, 12, 11, .null), (.getfield 118, 3, 10, 9, .null), (.iload 4, 2, 4, 0, .null), (.iaload, 1, 0, 0, .null), (.iconst (1), 1, 0, 0, .int (1 : Int32))] (59, [(0, .ref 112), (1, .int v1), (2, .int v2), (3, .int v3), (4, .int v4)], [.int (1 : Int32), .int (I 91 v4.toNatClampNeg)], I, G, (gP rd)) (vp_in v4 4 ∧ True) hX hi (by decide +kernel) rfl ⟨g0, trivial⟩ ?_
        refine am_icmp_ne (tgt := 88) hX hi (off := (29)) (by decide +kernel) (by decide) (fun c59 => ?_) (fun c59 => ?_)
        · rw [if_neg c59] at h
          refine am_blk 88 [(.iload_n 2, 1, 2, 0, .null), (.aload_n 0, 1, 0, 0, .null), (.iload 4, 2, 4, 0, .null), (.iload_n 3, 1, 3, 0, .null)] (93, [(0, .ref 112), (1, .int v1), (2, .int v2), (3, .int v3), (4, .int v4)], [.int v3, .int v4, .ref 112, .int v2], I, G, (gP rd)) (True) hX hi (by decide +kernel) rfl trivial ?_
          obtain ⟨hq1, h⟩ := rg_some h
          refine am_callV hX hi (M := mX13_moves) (idx := 136) (d' := 2) (b := 112) (ci := 11) (As := [.int v4, .int v3]) (rest := [.int v2]) mkX13_moves miX13_moves mvX13_moves (by decide +kernel) (by decide +kernel) rfl (by decide +kernel) rfl ⟨by omega, by decide, Nat.le_of_ble_eq_true rfl⟩ rfl (c_X13_moves_112 _ I G v4 v3 hq1) ?_
          rintro r9 I9 G9 P9 ⟨e0, e1, e2, e3⟩
          rw [e0, e1, e2, e3]
          show am_V X 0 0 _ _ ad (96, [(0, .ref 112), (1, .int v1), (2, .int v2), (3, .int v3), (4, .int v4)], [.int (f_X13_moves_112 I G v4 v3), .int v2], I, G, (gP rd))
          refine am_blk 96 [(.isub, 1, 0, 0, .null), (.aload_n 0, 1, 0, 0, .null), (.getfield 3, 3, 11, 14, .null), (.getfield 67, 3, 12, 11, .null), (.getfield 87, 3, 10, 0, .null)] (107, [(0, .ref 112), (1, .int v1), (2, .int v2), (3, .int v3), (4, .int v4)], [.int (I 86 0), .int (v2 - (f_X13_moves_112 I G v4 v3))], I, G, (gP rd)) (True) hX hi (by decide +kernel) rfl trivial ?_
          obtain ⟨hq1, h⟩ := rg_some h
          refine am_callS hX hi (M := mJ9_floorMod_7cf53) (idx := 121) (d' := 1) (As := [.int (v2 - (f_X13_moves_112 I G v4 v3)), .int (I 86 0)]) (rest := []) mkJ9_floorMod_7cf53 msJ9_floorMod_7cf53 (by decide +kernel) (by decide +kernel) rfl ⟨by omega, by decide, Nat.le_of_ble_eq_true rfl⟩ rfl (c_fmodI (v2 - (f_X13_moves_112 I G v4 v3)) (I 86 0) hq1) ?_
          rintro r9 I9 G9 P9 ⟨e0, e1, e2, e3⟩
          rw [e0, e1, e2, e3]
          show am_V X 0 0 _ _ ad (110, [(0, .ref 112), (1, .int v1), (2, .int v2), (3, .int v3), (4, .int v4)], [.int (Int32.ofInt ((v2 - (f_X13_moves_112 I G v4 v3)).toInt % (I 86 0).toInt))], I, G, (gP rd))
          refine am_blk 110 [(.istore_n 2, 1, 2, 0, .null), (.iinc 4 (-1), 3, 4, 0, .int (-1 : Int32)), (.goto (-74), 3, 0, 40, .null)] (40, [(0, .ref 112), (1, .int v1), (2, .int (Int32.ofInt ((v2 - (f_X13_moves_112 I G v4 v3)).toInt % (I 86 0).toInt))), (3, .int v3), (4, .int (v4 + (-1 : Int32)))], [], I, G, (gP rd)) (True) hX hi (by decide +kernel) rfl trivial ?_
          exact ih _ _ _ _ _ _ _ h
        · rw [if_pos c59] at h
          refine am_blk 62 [(.iload_n 3, 1, 3, 0, .null), (.aload_n 0, 1, 0, 0, .null), (.iload 4, 2, 4, 0, .null), (.iload_n 2, 1, 2, 0, .null)] (67, [(0, .ref 112), (1, .int v1), (2, .int v2), (3, .int v3), (4, .int v4)], [.int v2, .int v4, .ref 112, .int v3], I, G, (gP rd)) (True) hX hi (by decide +kernel) rfl trivial ?_
          obtain ⟨hq1, h⟩ := rg_some h
          refine am_callV hX hi (M := mX13_moves) (idx := 136) (d' := 2) (b := 112) (ci := 11) (As := [.int v4, .int v2]) (rest := [.int v3]) mkX13_moves miX13_moves mvX13_moves (by decide +kernel) (by decide +kernel) rfl (by decide +kernel) rfl ⟨by omega, by decide, Nat.le_of_ble_eq_true rfl⟩ rfl (c_X13_moves_112 _ I G v4 v2 hq1) ?_
          rintro r9 I9 G9 P9 ⟨e0, e1, e2, e3⟩
          rw [e0, e1, e2, e3]
          show am_V X 0 0 _ _ ad (70, [(0, .ref 112), (1, .int v1), (2, .int v2), (3, .int v3), (4, .int v4)], [.int (f_X13_moves_112 I G v4 v2), .int v3], I, G, (gP rd))
          refine am_blk 70 [(.isub, 1, 0, 0, .null), (.aload_n 0, 1, 0, 0, .null), (.getfield 3, 3, 11, 14, .null), (.getfield 67, 3, 12, 11, .null), (.getfield 92, 3, 10, 1, .null)] (81, [(0, .ref 112), (1, .int v1), (2, .int v2), (3, .int v3), (4, .int v4)], [.int (I 86 1), .int (v3 - (f_X13_moves_112 I G v4 v2))], I, G, (gP rd)) (True) hX hi (by decide +kernel) rfl trivial ?_
          obtain ⟨hq1, h⟩ := rg_some h
          refine am_callS hX hi (M := mJ9_floorMod_7cf53) (idx := 121) (d' := 1) (As := [.int (v3 - (f_X13_moves_112 I G v4 v2)), .int (I 86 1)]) (rest := []) mkJ9_floorMod_7cf53 msJ9_floorMod_7cf53 (by decide +kernel) (by decide +kernel) rfl ⟨by omega, by decide, Nat.le_of_ble_eq_true rfl⟩ rfl (c_fmodI (v3 - (f_X13_moves_112 I G v4 v2)) (I 86 1) hq1) ?_
          rintro r9 I9 G9 P9 ⟨e0, e1, e2, e3⟩
          rw [e0, e1, e2, e3]
          show am_V X 0 0 _ _ ad (84, [(0, .ref 112), (1, .int v1), (2, .int v2), (3, .int v3), (4, .int v4)], [.int (Int32.ofInt ((v3 - (f_X13_moves_112 I G v4 v2)).toInt % (I 86 1).toInt))], I, G, (gP rd))
          refine am_blk 84 [(.istore_n 3, 1, 3, 0, .null), (.goto (26), 3, 0, 111, .null), (.iinc 4 (-1), 3, 4, 0, .int (-1 : Int32)), (.goto (-74), 3, 0, 40, .null)] (40, [(0, .ref 112), (1, .int v1), (2, .int v2), (3, .int (Int32.ofInt ((v3 - (f_X13_moves_112 I G v4 v2)).toInt % (I 86 1).toInt))), (4, .int (v4 + (-1 : Int32)))], [], I, G, (gP rd)) (True) hX hi (by decide +kernel) rfl trivial ?_
          exact ih _ _ _ _ _ _ _ h
set_option maxRecDepth 20000 in
set_option maxHeartbeats 4000000 in
theorem c_X13_whence_112 (rd : Nat) (I : am_I) (G : am_G) (x1 : Int32) {out : Int32 × am_I × am_G} (h : R_X13_whence_112 I G x1 = some out) : am_Ct mX13_whence 3 gS [.ref 112, .int x1] I G (gP rd) (pI out.1 out.2.1 out.2.2 (gP rd)) := by
  refine am_ofF (by decide +kernel) rfl (by decide) (by omega) (Nat.le_of_ble_eq_true rfl) (fun X ad hX hi => ?_)
  have hi : am_info X 11 cX13_whence 5 false (Option.some Jvm.ClassFile.FieldType.int) 3 := hi
  show am_V X 0 0 _ _ ad (0, [(0, .ref 112), (1, .int x1)], [], I, G, (gP rd))
  unfold R_X13_whence_112 at h
  obtain ⟨g0, h⟩ := rg_some h
  obtain ⟨g1, h⟩ := rg_some h
  refine am_blk 0 [(.iload_n 1, 1, 1, 0, .null), (.aload_n 0, 1, 0, 0, .null), (.getfield 3, 3, 11, 14, .null), (.getfield 67, 3, 12, 11, .null), (.getfield 87, 3, 10, 0, .null), (.irem, 1, 0, 0, .null), (.istore_n 2, 1, 2, 0, .null), (.iload_n 1, 1, 1, 0, .null), (.aload_n 0, 1, 0, 0, .null), (.getfield 3, 3, 11, 14, .null), (.getfield 67, 3, 12, 11, .null), (.getfield 87, 3, 10, 0, .null), (.idiv, 1, 0, 0, .null), (.istore_n 3, 1, 3, 0, .null), (.aload_n 0, 1, 0, 0, .null), (.getfield 3, 3, 11, 14, .null), (.getfield 67, 3, 12, 11, .null), (.getfield 133, 3, 10, 3, .null), (.iconst (1), 1, 0, 0, .int (1 : Int32)), (.isub, 1, 0, 0, .null), (.istore 4, 2, 4, 0, .null)] (40, [(0, .ref 112), (1, .int x1), (2, .int (x1 - x1 / (I 86 0) * (I 86 0))), (3, .int (x1 / (I 86 0))), (4, .int ((I 86 3) - (1 : Int32)))], [], I, G, (gP rd)) (¬ (I 86 0) = 0 ∧ ¬ (I 86 0) = 0 ∧ True) hX hi (by decide +kernel) rfl ⟨g0, g1, trivial⟩ ?_
  exact (l_X13_whence_112 rd hX hi FU) _ _ _ _ _ _ _ h
noncomputable def L_X13_heightBy_102 (n0 : Nat) (hd : Nat) (I : am_I) (G : am_G) (v1 : Int32) (v2 : Int32) (v3 : Int32) (v4 : Int32) : Option (Int32 × am_I × am_G) := match n0 with
  | 0 => none
  | n + 1 => match hd with
    | _ => (if (I 86 2) ≤ v4 then rg (¬ (16 : Int32) = 0) (some ((if (0 : Int32) < (if ((500 : Int32) + (v3 / (16 : Int32))) < (999 : Int32) then ((500 : Int32) + (v3 / (16 : Int32))) else (999 : Int32)) then (if ((500 : Int32) + (v3 / (16 : Int32))) < (999 : Int32) then ((500 : Int32) + (v3 / (16 : Int32))) else (999 : Int32)) else (0 : Int32)), I, G)) else rg (vp_in v4 4) (rb (R_X13_value_102 I G v4 v2) (fun r101 I101 G101 => L_X13_heightBy_102 n 0 I101 G101 v1 v2 (v3 + ((I 89 v4.toNatClampNeg) * r101)) (v4 + (1 : Int32)))))
theorem L_X13_heightBy_102_0 (n : Nat) (I : am_I) (G : am_G) (v1 : Int32) (v2 : Int32) (v3 : Int32) (v4 : Int32) : L_X13_heightBy_102 (n + 1) 0 I G v1 v2 v3 v4 = (if (I 86 2) ≤ v4 then rg (¬ (16 : Int32) = 0) (some ((if (0 : Int32) < (if ((500 : Int32) + (v3 / (16 : Int32))) < (999 : Int32) then ((500 : Int32) + (v3 / (16 : Int32))) else (999 : Int32)) then (if ((500 : Int32) + (v3 / (16 : Int32))) < (999 : Int32) then ((500 : Int32) + (v3 / (16 : Int32))) else (999 : Int32)) else (0 : Int32)), I, G)) else rg (vp_in v4 4) (rb (R_X13_value_102 I G v4 v2) (fun r101 I101 G101 => L_X13_heightBy_102 n 0 I101 G101 v1 v2 (v3 + ((I 89 v4.toNatClampNeg) * r101)) (v4 + (1 : Int32))))) := rfl
theorem L_X13_heightBy_102_z (h : Nat) (I : am_I) (G : am_G) (v1 : Int32) (v2 : Int32) (v3 : Int32) (v4 : Int32) : L_X13_heightBy_102 0 h I G v1 v2 v3 v4 = none := rfl
noncomputable def R_X13_heightBy_102 (I : am_I) (G : am_G) (x1 : Int32) : Option (Int32 × am_I × am_G) := rb (R_X13_whence_102 I G x1) (fun r1 I1 G1 => L_X13_heightBy_102 FU 0 I1 G1 x1 r1 (0 : Int32) (0 : Int32))
set_option maxRecDepth 20000 in
set_option maxHeartbeats 4000000 in
theorem l_X13_heightBy_102 (rd : Nat) {X : am_X} {ad : Nat → Nat} (hX : am_okz X ad) (hi : am_info X 11 cX13_heightBy 5 false (Option.some Jvm.ClassFile.FieldType.int) 7) (n : Nat) : (∀ (I : am_I) (G : am_G) (v1 : Int32) (v2 : Int32) (v3 : Int32) (v4 : Int32) (out : Int32 × am_I × am_G), L_X13_heightBy_102 n 0 I G v1 v2 v3 v4 = some out → am_V X 0 0 (am_Rt X gS ad (pI out.1 out.2.1 out.2.2 (gP rd))) gS ad (11, [(0, .ref 102), (1, .int v1), (2, .int v2), (3, .int v3), (4, .int v4)], [], I, G, (gP rd))) := by
  induction n with
  | zero => exact fun I G v1 v2 v3 v4 out h => by rw [L_X13_heightBy_102_z] at h; cases h
  | succ n ih =>
    · intro I G v1 v2 v3 v4 out h
      rw [L_X13_heightBy_102_0] at h
      refine am_blk 11 [(.iload 4, 2, 4, 0, .null), (.aload_n 0, 1, 0, 0, .null), (.getfield 3, 3, 11, 14, .null), (.getfield 67, 3, 12, 11, .null), (.getfield 145, 3, 10, 2, .null)] (23, [(0, .ref 102), (1, .int v1), (2, .int v2), (3, .int v3), (4, .int v4)], [.int (I 86 2), .int v4], I, G, (gP rd)) (True) hX hi (by decide +kernel) rfl trivial ?_
      refine am_icmp_ge (tgt := 56) hX hi (off := (33)) (by decide +kernel) (by decide) (fun c23 => ?_) (fun c23 => ?_)
      · rw [if_pos c23] at h
        obtain ⟨g0, h⟩ := rg_some h
        refine am_blk 56 [(.iconst (0), 1, 0, 0, .int (0 : Int32)), (.sipush (999), 3, 0, 0, .int (999 : Int32)), (.sipush (500), 3, 0, 0, .int (500 : Int32)), (.iload_n 3, 1, 3, 0, .null), (.bipush (16), 2, 0, 0, .int (16 : Int32)), (.idiv, 1, 0, 0, .null), (.iadd, 1, 0, 0, .null), (.invokestatic 130, 3, 1, 0, .null), (.invokestatic 153, 3, 2, 0, .null)] (74, [(0, .ref 102), (1, .int v1), (2, .int v2), (3, .int v3), (4, .int v4)], [.int (if (0 : Int32) < (if ((500 : Int32) + (v3 / (16 : Int32))) < (999 : Int32) then ((500 : Int32) + (v3 / (16 : Int32))) else (999 : Int32)) then (if ((500 : Int32) + (v3 / (16 : Int32))) < (999 : Int32) then ((500 : Int32) + (v3 / (16 : Int32))) else (999 : Int32)) else (0 : Int32))], I, G, (gP rd)) (¬ (16 : Int32) = 0 ∧ True) hX hi (by decide +kernel) rfl ⟨g0, trivial⟩ ?_
        cases h
        refine am_iret hX hi rfl rfl (by decide +kernel) ?_
        exact ⟨rfl, rfl, rfl, rfl⟩
      · rw [if_neg c23] at h
        obtain ⟨g0, h⟩ := rg_some h
        refine am_blk 26 [(.iload_n 3, 1, 3, 0, .null), (.aload_n 0, 1, 0, 0, .null), (.getfield 3, 3, 11, 14, .null), (.getfield 67, 3, 12, 11, .null), (.getfield 148, 3, 10, 7, .null), (.iload 4, 2, 4, 0, .null), (.iaload, 1, 0, 0, .null), (.aload_n 0, 1, 0, 0, .null), (.iload 4, 2, 4, 0, .null), (.iload_n 2, 1, 2, 0, .null)] (44, [(0, .ref 102), (1, .int v1), (2, .int v2), (3, .int v3), (4, .int v4)], [.int v2, .int v4, .ref 102, .int (I 89 v4.toNatClampNeg), .int v3], I, G, (gP rd)) (vp_in v4 4 ∧ True) hX hi (by decide +kernel) rfl ⟨g0, trivial⟩ ?_
        obtain ⟨r101, I101, G101, hc, h⟩ := rb_some h
        refine am_callV hX hi (M := mX13_value) (idx := 151) (d' := 6) (b := 102) (ci := 11) (As := [.int v4, .int v2]) (rest := [.int (I 89 v4.toNatClampNeg), .int v3]) mkX13_value miX13_value mvX13_value (by decide +kernel) (by decide +kernel) rfl (by decide +kernel) rfl ⟨by omega, by decide, Nat.le_of_ble_eq_true rfl⟩ rfl (c_X13_value_102 _ I G v4 v2 hc) ?_
        rintro r9 I9 G9 P9 ⟨e0, e1, e2, e3⟩
        rw [e0, e1, e2, e3]
        show am_V X 0 0 _ _ ad (47, [(0, .ref 102), (1, .int v1), (2, .int v2), (3, .int v3), (4, .int v4)], [.int r101, .int (I 89 v4.toNatClampNeg), .int v3], I101, G101, (gP rd))
        refine am_blk 47 [(.imul, 1, 0, 0, .null), (.iadd, 1, 0, 0, .null), (.istore_n 3, 1, 3, 0, .null), (.iinc 4 (1), 3, 4, 0, .int (1 : Int32)), (.goto (-42), 3, 0, 11, .null)] (11, [(0, .ref 102), (1, .int v1), (2, .int v2), (3, .int (v3 + ((I 89 v4.toNatClampNeg) * r101))), (4, .int (v4 + (1 : Int32)))], [], I101, G101, (gP rd)) (True) hX hi (by decide +kernel) rfl trivial ?_
        exact ih _ _ _ _ _ _ _ h
set_option maxRecDepth 20000 in
set_option maxHeartbeats 4000000 in
theorem c_X13_heightBy_102 (rd : Nat) (I : am_I) (G : am_G) (x1 : Int32) {out : Int32 × am_I × am_G} (h : R_X13_heightBy_102 I G x1 = some out) : am_Ct mX13_heightBy 7 gS [.ref 102, .int x1] I G (gP rd) (pI out.1 out.2.1 out.2.2 (gP rd)) := by
  refine am_ofF (by decide +kernel) rfl (by decide) (by omega) (Nat.le_of_ble_eq_true rfl) (fun X ad hX hi => ?_)
  have hi : am_info X 11 cX13_heightBy 5 false (Option.some Jvm.ClassFile.FieldType.int) 7 := hi
  show am_V X 0 0 _ _ ad (0, [(0, .ref 102), (1, .int x1)], [], I, G, (gP rd))
  unfold R_X13_heightBy_102 at h
  refine am_blk 0 [(.aload_n 0, 1, 0, 0, .null), (.iload_n 1, 1, 1, 0, .null)] (2, [(0, .ref 102), (1, .int x1)], [.int x1, .ref 102], I, G, (gP rd)) (True) hX hi (by decide +kernel) rfl trivial ?_
  obtain ⟨r1, I1, G1, hc, h⟩ := rb_some h
  refine am_callV hX hi (M := mX13_whence) (idx := 142) (d' := 3) (b := 102) (ci := 11) (As := [.int x1]) (rest := []) mkX13_whence miX13_whence mvX13_whence (by decide +kernel) (by decide +kernel) rfl (by decide +kernel) rfl ⟨by omega, by decide, Nat.le_of_ble_eq_true rfl⟩ rfl (c_X13_whence_102 _ I G x1 hc) ?_
  rintro r9 I9 G9 P9 ⟨e0, e1, e2, e3⟩
  rw [e0, e1, e2, e3]
  show am_V X 0 0 _ _ ad (5, [(0, .ref 102), (1, .int x1)], [.int r1], I1, G1, (gP rd))
  refine am_blk 5 [(.istore_n 2, 1, 2, 0, .null), (.iconst (0), 1, 0, 0, .int (0 : Int32)), (.istore_n 3, 1, 3, 0, .null), (.iconst (0), 1, 0, 0, .int (0 : Int32)), (.istore 4, 2, 4, 0, .null)] (11, [(0, .ref 102), (1, .int x1), (2, .int r1), (3, .int (0 : Int32)), (4, .int (0 : Int32))], [], I1, G1, (gP rd)) (True) hX hi (by decide +kernel) rfl trivial ?_
  exact (l_X13_heightBy_102 rd hX hi FU) _ _ _ _ _ _ _ h
noncomputable def L_X13_heightBy_112 (n0 : Nat) (hd : Nat) (I : am_I) (G : am_G) (v1 : Int32) (v2 : Int32) (v3 : Int32) (v4 : Int32) : Option (Int32 × am_I × am_G) := match n0 with
  | 0 => none
  | n + 1 => match hd with
    | _ => (if (I 86 2) ≤ v4 then rg (¬ (16 : Int32) = 0) (some ((if (0 : Int32) < (if ((500 : Int32) + (v3 / (16 : Int32))) < (999 : Int32) then ((500 : Int32) + (v3 / (16 : Int32))) else (999 : Int32)) then (if ((500 : Int32) + (v3 / (16 : Int32))) < (999 : Int32) then ((500 : Int32) + (v3 / (16 : Int32))) else (999 : Int32)) else (0 : Int32)), I, G)) else rg (vp_in v4 4) (rb (R_X13_value_112 I G v4 v2) (fun r101 I101 G101 => L_X13_heightBy_112 n 0 I101 G101 v1 v2 (v3 + ((I 89 v4.toNatClampNeg) * r101)) (v4 + (1 : Int32)))))
theorem L_X13_heightBy_112_0 (n : Nat) (I : am_I) (G : am_G) (v1 : Int32) (v2 : Int32) (v3 : Int32) (v4 : Int32) : L_X13_heightBy_112 (n + 1) 0 I G v1 v2 v3 v4 = (if (I 86 2) ≤ v4 then rg (¬ (16 : Int32) = 0) (some ((if (0 : Int32) < (if ((500 : Int32) + (v3 / (16 : Int32))) < (999 : Int32) then ((500 : Int32) + (v3 / (16 : Int32))) else (999 : Int32)) then (if ((500 : Int32) + (v3 / (16 : Int32))) < (999 : Int32) then ((500 : Int32) + (v3 / (16 : Int32))) else (999 : Int32)) else (0 : Int32)), I, G)) else rg (vp_in v4 4) (rb (R_X13_value_112 I G v4 v2) (fun r101 I101 G101 => L_X13_heightBy_112 n 0 I101 G101 v1 v2 (v3 + ((I 89 v4.toNatClampNeg) * r101)) (v4 + (1 : Int32))))) := rfl
theorem L_X13_heightBy_112_z (h : Nat) (I : am_I) (G : am_G) (v1 : Int32) (v2 : Int32) (v3 : Int32) (v4 : Int32) : L_X13_heightBy_112 0 h I G v1 v2 v3 v4 = none := rfl
noncomputable def R_X13_heightBy_112 (I : am_I) (G : am_G) (x1 : Int32) : Option (Int32 × am_I × am_G) := rb (R_X13_whence_112 I G x1) (fun r1 I1 G1 => L_X13_heightBy_112 FU 0 I1 G1 x1 r1 (0 : Int32) (0 : Int32))
set_option maxRecDepth 20000 in
set_option maxHeartbeats 4000000 in
theorem l_X13_heightBy_112 (rd : Nat) {X : am_X} {ad : Nat → Nat} (hX : am_okz X ad) (hi : am_info X 11 cX13_heightBy 5 false (Option.some Jvm.ClassFile.FieldType.int) 7) (n : Nat) : (∀ (I : am_I) (G : am_G) (v1 : Int32) (v2 : Int32) (v3 : Int32) (v4 : Int32) (out : Int32 × am_I × am_G), L_X13_heightBy_112 n 0 I G v1 v2 v3 v4 = some out → am_V X 0 0 (am_Rt X gS ad (pI out.1 out.2.1 out.2.2 (gP rd))) gS ad (11, [(0, .ref 112), (1, .int v1), (2, .int v2), (3, .int v3), (4, .int v4)], [], I, G, (gP rd))) := by
  induction n with
  | zero => exact fun I G v1 v2 v3 v4 out h => by rw [L_X13_heightBy_112_z] at h; cases h
  | succ n ih =>
    · intro I G v1 v2 v3 v4 out h
      rw [L_X13_heightBy_112_0] at h
      refine am_blk 11 [(.iload 4, 2, 4, 0, .null), (.aload_n 0, 1, 0, 0, .null), (.getfield 3, 3, 11, 14, .null), (.getfield 67, 3, 12, 11, .null), (.getfield 145, 3, 10, 2, .null)] (23, [(0, .ref 112), (1, .int v1), (2, .int v2), (3, .int v3), (4, .int v4)], [.int (I 86 2), .int v4], I, G, (gP rd)) (True) hX hi (by decide +kernel) rfl trivial ?_
      refine am_icmp_ge (tgt := 56) hX hi (off := (33)) (by decide +kernel) (by decide) (fun c23 => ?_) (fun c23 => ?_)
      · rw [if_pos c23] at h
        obtain ⟨g0, h⟩ := rg_some h
        refine am_blk 56 [(.iconst (0), 1, 0, 0, .int (0 : Int32)), (.sipush (999), 3, 0, 0, .int (999 : Int32)), (.sipush (500), 3, 0, 0, .int (500 : Int32)), (.iload_n 3, 1, 3, 0, .null), (.bipush (16), 2, 0, 0, .int (16 : Int32)), (.idiv, 1, 0, 0, .null), (.iadd, 1, 0, 0, .null), (.invokestatic 130, 3, 1, 0, .null), (.invokestatic 153, 3, 2, 0, .null)] (74, [(0, .ref 112), (1, .int v1), (2, .int v2), (3, .int v3), (4, .int v4)], [.int (if (0 : Int32) < (if ((500 : Int32) + (v3 / (16 : Int32))) < (999 : Int32) then ((500 : Int32) + (v3 / (16 : Int32))) else (999 : Int32)) then (if ((500 : Int32) + (v3 / (16 : Int32))) < (999 : Int32) then ((500 : Int32) + (v3 / (16 : Int32))) else (999 : Int32)) else (0 : Int32))], I, G, (gP rd)) (¬ (16 : Int32) = 0 ∧ True) hX hi (by decide +kernel) rfl ⟨g0, trivial⟩ ?_
        cases h
        refine am_iret hX hi rfl rfl (by decide +kernel) ?_
        exact ⟨rfl, rfl, rfl, rfl⟩
      · rw [if_neg c23] at h
        obtain ⟨g0, h⟩ := rg_some h
        refine am_blk 26 [(.iload_n 3, 1, 3, 0, .null), (.aload_n 0, 1, 0, 0, .null), (.getfield 3, 3, 11, 14, .null), (.getfield 67, 3, 12, 11, .null), (.getfield 148, 3, 10, 7, .null), (.iload 4, 2, 4, 0, .null), (.iaload, 1, 0, 0, .null), (.aload_n 0, 1, 0, 0, .null), (.iload 4, 2, 4, 0, .null), (.iload_n 2, 1, 2, 0, .null)] (44, [(0, .ref 112), (1, .int v1), (2, .int v2), (3, .int v3), (4, .int v4)], [.int v2, .int v4, .ref 112, .int (I 89 v4.toNatClampNeg), .int v3], I, G, (gP rd)) (vp_in v4 4 ∧ True) hX hi (by decide +kernel) rfl ⟨g0, trivial⟩ ?_
        obtain ⟨r101, I101, G101, hc, h⟩ := rb_some h
        refine am_callV hX hi (M := mX13_value) (idx := 151) (d' := 6) (b := 112) (ci := 11) (As := [.int v4, .int v2]) (rest := [.int (I 89 v4.toNatClampNeg), .int v3]) mkX13_value miX13_value mvX13_value (by decide +kernel) (by decide +kernel) rfl (by decide +kernel) rfl ⟨by omega, by decide, Nat.le_of_ble_eq_true rfl⟩ rfl (c_X13_value_112 _ I G v4 v2 hc) ?_
        rintro r9 I9 G9 P9 ⟨e0, e1, e2, e3⟩
        rw [e0, e1, e2, e3]
        show am_V X 0 0 _ _ ad (47, [(0, .ref 112), (1, .int v1), (2, .int v2), (3, .int v3), (4, .int v4)], [.int r101, .int (I 89 v4.toNatClampNeg), .int v3], I101, G101, (gP rd))
        refine am_blk 47 [(.imul, 1, 0, 0, .null), (.iadd, 1, 0, 0, .null), (.istore_n 3, 1, 3, 0, .null), (.iinc 4 (1), 3, 4, 0, .int (1 : Int32)), (.goto (-42), 3, 0, 11, .null)] (11, [(0, .ref 112), (1, .int v1), (2, .int v2), (3, .int (v3 + ((I 89 v4.toNatClampNeg) * r101))), (4, .int (v4 + (1 : Int32)))], [], I101, G101, (gP rd)) (True) hX hi (by decide +kernel) rfl trivial ?_
        exact ih _ _ _ _ _ _ _ h
set_option maxRecDepth 20000 in
set_option maxHeartbeats 4000000 in
theorem c_X13_heightBy_112 (rd : Nat) (I : am_I) (G : am_G) (x1 : Int32) {out : Int32 × am_I × am_G} (h : R_X13_heightBy_112 I G x1 = some out) : am_Ct mX13_heightBy 7 gS [.ref 112, .int x1] I G (gP rd) (pI out.1 out.2.1 out.2.2 (gP rd)) := by
  refine am_ofF (by decide +kernel) rfl (by decide) (by omega) (Nat.le_of_ble_eq_true rfl) (fun X ad hX hi => ?_)
  have hi : am_info X 11 cX13_heightBy 5 false (Option.some Jvm.ClassFile.FieldType.int) 7 := hi
  show am_V X 0 0 _ _ ad (0, [(0, .ref 112), (1, .int x1)], [], I, G, (gP rd))
  unfold R_X13_heightBy_112 at h
  refine am_blk 0 [(.aload_n 0, 1, 0, 0, .null), (.iload_n 1, 1, 1, 0, .null)] (2, [(0, .ref 112), (1, .int x1)], [.int x1, .ref 112], I, G, (gP rd)) (True) hX hi (by decide +kernel) rfl trivial ?_
  obtain ⟨r1, I1, G1, hc, h⟩ := rb_some h
  refine am_callV hX hi (M := mX13_whence) (idx := 142) (d' := 3) (b := 112) (ci := 11) (As := [.int x1]) (rest := []) mkX13_whence miX13_whence mvX13_whence (by decide +kernel) (by decide +kernel) rfl (by decide +kernel) rfl ⟨by omega, by decide, Nat.le_of_ble_eq_true rfl⟩ rfl (c_X13_whence_112 _ I G x1 hc) ?_
  rintro r9 I9 G9 P9 ⟨e0, e1, e2, e3⟩
  rw [e0, e1, e2, e3]
  show am_V X 0 0 _ _ ad (5, [(0, .ref 112), (1, .int x1)], [.int r1], I1, G1, (gP rd))
  refine am_blk 5 [(.istore_n 2, 1, 2, 0, .null), (.iconst (0), 1, 0, 0, .int (0 : Int32)), (.istore_n 3, 1, 3, 0, .null), (.iconst (0), 1, 0, 0, .int (0 : Int32)), (.istore 4, 2, 4, 0, .null)] (11, [(0, .ref 112), (1, .int x1), (2, .int r1), (3, .int (0 : Int32)), (4, .int (0 : Int32))], [], I1, G1, (gP rd)) (True) hX hi (by decide +kernel) rfl trivial ?_
  exact (l_X13_heightBy_112 rd hX hi FU) _ _ _ _ _ _ _ h
noncomputable def L_X13_know__102 (n0 : Nat) (hd : Nat) (I : am_I) (G : am_G) (v1 : Int32) : Option (Unit × am_I × am_G) := match n0 with
  | 0 => none
  | n + 1 => match hd with
    | 0 => (if (f_X12_spots_86 I G ) ≤ v1 then some ((), I, G) else rb (R_X13_heightBy_102 I G v1) (fun r101 I101 G101 => rg (vp_in v1 576) (rg (vp_in v1 576) (L_X13_know__102 n 1 (am_up (am_up I101 107 v1.toNatClampNeg r101) 108 v1.toNatClampNeg (0 : Int32)) G101 v1))))
    | _ => rg (vp_in v1 576) ((if (I 86 4) ≤ (I 108 v1.toNatClampNeg) then L_X13_know__102 n 0 I G (v1 + (1 : Int32)) else rg (vp_in v1 576) (rg (vp_in (I 108 v1.toNatClampNeg) 5) (rg (vp_in v1 576) ((if (I 107 v1.toNatClampNeg) < (I 94 (I 108 v1.toNatClampNeg).toNatClampNeg) then L_X13_know__102 n 0 I G (v1 + (1 : Int32)) else rg (vp_in v1 576) (rg (vp_in v1 576) (L_X13_know__102 n 1 (am_up I 108 v1.toNatClampNeg ((I 108 v1.toNatClampNeg) + (1 : Int32))) G v1))))))))
theorem L_X13_know__102_0 (n : Nat) (I : am_I) (G : am_G) (v1 : Int32) : L_X13_know__102 (n + 1) 0 I G v1 = (if (f_X12_spots_86 I G ) ≤ v1 then some ((), I, G) else rb (R_X13_heightBy_102 I G v1) (fun r101 I101 G101 => rg (vp_in v1 576) (rg (vp_in v1 576) (L_X13_know__102 n 1 (am_up (am_up I101 107 v1.toNatClampNeg r101) 108 v1.toNatClampNeg (0 : Int32)) G101 v1)))) := rfl
theorem L_X13_know__102_1 (n : Nat) (I : am_I) (G : am_G) (v1 : Int32) : L_X13_know__102 (n + 1) 1 I G v1 = rg (vp_in v1 576) ((if (I 86 4) ≤ (I 108 v1.toNatClampNeg) then L_X13_know__102 n 0 I G (v1 + (1 : Int32)) else rg (vp_in v1 576) (rg (vp_in (I 108 v1.toNatClampNeg) 5) (rg (vp_in v1 576) ((if (I 107 v1.toNatClampNeg) < (I 94 (I 108 v1.toNatClampNeg).toNatClampNeg) then L_X13_know__102 n 0 I G (v1 + (1 : Int32)) else rg (vp_in v1 576) (rg (vp_in v1 576) (L_X13_know__102 n 1 (am_up I 108 v1.toNatClampNeg ((I 108 v1.toNatClampNeg) + (1 : Int32))) G v1)))))))) := rfl
theorem L_X13_know__102_z (h : Nat) (I : am_I) (G : am_G) (v1 : Int32) : L_X13_know__102 0 h I G v1 = none := rfl
noncomputable def R_X13_know__102 (I : am_I) (G : am_G)  : Option (Unit × am_I × am_G) := (if (I 102 10) = 0 then rg (((1 : Int32) = 0 ∨ (1 : Int32) = 1)) (L_X13_know__102 FU 0 (am_up I 102 10 (1 : Int32)) G (0 : Int32)) else some ((), I, G))
set_option maxRecDepth 20000 in
set_option maxHeartbeats 4000000 in
theorem l_X13_know__102 (rd : Nat) {X : am_X} {ad : Nat → Nat} (hX : am_okz X ad) (hi : am_info X 11 cX13_know_ 2 false none 8) (n : Nat) : (∀ (I : am_I) (G : am_G) (v1 : Int32) (out : Unit × am_I × am_G), L_X13_know__102 n 0 I G v1 = some out → am_V X 0 0 (am_Rt X gS ad (pV out.2.1 out.2.2 (gP rd))) gS ad (15, [(0, .ref 102), (1, .int v1)], [], I, G, (gP rd))) ∧ (∀ (I : am_I) (G : am_G) (v1 : Int32) (out : Unit × am_I × am_G), L_X13_know__102 n 1 I G v1 = some out → am_V X 0 0 (am_Rt X gS ad (pV out.2.1 out.2.2 (gP rd))) gS ad (47, [(0, .ref 102), (1, .int v1)], [], I, G, (gP rd))) := by
  induction n with
  | zero => exact ⟨(fun I G v1 out h => by rw [L_X13_know__102_z] at h; cases h), (fun I G v1 out h => by rw [L_X13_know__102_z] at h; cases h)⟩
  | succ n ih =>
    refine ⟨?_, ?_⟩
    · intro I G v1 out h
      rw [L_X13_know__102_0] at h
      refine am_blk 15 [(.iload_n 1, 1, 1, 0, .null), (.aload_n 0, 1, 0, 0, .null), (.getfield 3, 3, 11, 14, .null), (.getfield 67, 3, 12, 11, .null)] (23, [(0, .ref 102), (1, .int v1)], [.ref 86, .int v1], I, G, (gP rd)) (True) hX hi (by decide +kernel) rfl trivial ?_
      refine am_callV hX hi (M := mX12_spots) (idx := 107) (d' := 1) (b := 86) (ci := 10) (As := []) (rest := [.int v1]) mkX12_spots miX12_spots mvX12_spots (by decide +kernel) (by decide +kernel) rfl (by decide +kernel) rfl ⟨by omega, by decide, Nat.le_of_ble_eq_true rfl⟩ rfl (c_X12_spots_86 _ I G ) ?_
      rintro r9 I9 G9 P9 ⟨e0, e1, e2, e3⟩
      rw [e0, e1, e2, e3]
      show am_V X 0 0 _ _ ad (26, [(0, .ref 102), (1, .int v1)], [.int (f_X12_spots_86 I G ), .int v1], I, G, (gP rd))
      refine am_icmp_ge (tgt := 111) hX hi (off := (85)) (by decide +kernel) (by decide) (fun c26 => ?_) (fun c26 => ?_)
      · rw [if_pos c26] at h
        cases h
        refine am_vret hX hi rfl (by decide +kernel) ?_
        exact ⟨rfl, rfl, rfl, rfl⟩
      · rw [if_neg c26] at h
        refine am_blk 29 [(.aload_n 0, 1, 0, 0, .null), (.getfield 29, 3, 11, 8, .null), (.iload_n 1, 1, 1, 0, .null), (.aload_n 0, 1, 0, 0, .null), (.iload_n 1, 1, 1, 0, .null)] (36, [(0, .ref 102), (1, .int v1)], [.int v1, .ref 102, .int v1, .ref 107], I, G, (gP rd)) (True) hX hi (by decide +kernel) rfl trivial ?_
        obtain ⟨r101, I101, G101, hc, h⟩ := rb_some h
        refine am_callV hX hi (M := mX13_heightBy) (idx := 156) (d' := 7) (b := 102) (ci := 11) (As := [.int v1]) (rest := [.int v1, .ref 107]) mkX13_heightBy miX13_heightBy mvX13_heightBy (by decide +kernel) (by decide +kernel) rfl (by decide +kernel) rfl ⟨by omega, by decide, Nat.le_of_ble_eq_true rfl⟩ rfl (c_X13_heightBy_102 _ I G v1 hc) ?_
        rintro r9 I9 G9 P9 ⟨e0, e1, e2, e3⟩
        rw [e0, e1, e2, e3]
        show am_V X 0 0 _ _ ad (39, [(0, .ref 102), (1, .int v1)], [.int r101, .int v1, .ref 107], I101, G101, (gP rd))
        obtain ⟨g0, h⟩ := rg_some h
        obtain ⟨g1, h⟩ := rg_some h
        refine am_blk 39 [(.iastore, 1, 0, 0, .null), (.aload_n 0, 1, 0, 0, .null), (.getfield 32, 3, 11, 9, .null), (.iload_n 1, 1, 1, 0, .null), (.iconst (0), 1, 0, 0, .int (0 : Int32)), (.iastore, 1, 0, 0, .null)] (47, [(0, .ref 102), (1, .int v1)], [], (am_up (am_up I101 107 v1.toNatClampNeg r101) 108 v1.toNatClampNeg (0 : Int32)), G101, (gP rd)) (vp_in v1 576 ∧ vp_in v1 576 ∧ True) hX hi (by decide +kernel) rfl ⟨g0, g1, trivial⟩ ?_
        exact ih.2 _ _ _ _ h
    · intro I G v1 out h
      rw [L_X13_know__102_1] at h
      obtain ⟨g0, h⟩ := rg_some h
      refine am_blk 47 [(.aload_n 0, 1, 0, 0, .null), (.getfield 32, 3, 11, 9, .null), (.iload_n 1, 1, 1, 0, .null), (.iaload, 1, 0, 0, .null), (.aload_n 0, 1, 0, 0, .null), (.getfield 3, 3, 11, 14, .null), (.getfield 67, 3, 12, 11, .null), (.getfield 159, 3, 10, 4, .null)] (63, [(0, .ref 102), (1, .int v1)], [.int (I 86 4), .int (I 108 v1.toNatClampNeg)], I, G, (gP rd)) (vp_in v1 576 ∧ True) hX hi (by decide +kernel) rfl ⟨g0, trivial⟩ ?_
      refine am_icmp_ge (tgt := 105) hX hi (off := (42)) (by decide +kernel) (by decide) (fun c63 => ?_) (fun c63 => ?_)
      · rw [if_pos c63] at h
        refine am_blk 105 [(.iinc 1 (1), 3, 1, 0, .int (1 : Int32)), (.goto (-93), 3, 0, 15, .null)] (15, [(0, .ref 102), (1, .int (v1 + (1 : Int32)))], [], I, G, (gP rd)) (True) hX hi (by decide +kernel) rfl trivial ?_
        exact ih.1 _ _ _ _ h
      · rw [if_neg c63] at h
        obtain ⟨g0, h⟩ := rg_some h
        obtain ⟨g1, h⟩ := rg_some h
        obtain ⟨g2, h⟩ := rg_some h
        refine am_blk 66 [(.aload_n 0, 1, 0, 0, .null), (.getfield 3, 3, 11, 14, .null), (.getfield 67, 3, 12, 11, .null), (.getfield 162, 3, 10, 12, .null), (.aload_n 0, 1, 0, 0, .null), (.getfield 32, 3, 11, 9, .null), (.iload_n 1, 1, 1, 0, .null), (.iaload, 1, 0, 0, .null), (.iaload, 1, 0, 0, .null), (.aload_n 0, 1, 0, 0, .null), (.getfield 29, 3, 11, 8, .null), (.iload_n 1, 1, 1, 0, .null), (.iaload, 1, 0, 0, .null)] (89, [(0, .ref 102), (1, .int v1)], [.int (I 107 v1.toNatClampNeg), .int (I 94 (I 108 v1.toNatClampNeg).toNatClampNeg)], I, G, (gP rd)) (vp_in v1 576 ∧ vp_in (I 108 v1.toNatClampNeg) 5 ∧ vp_in v1 576 ∧ True) hX hi (by decide +kernel) rfl ⟨g0, g1, g2, trivial⟩ ?_
        refine am_icmp_gt (tgt := 105) hX hi (off := (16)) (by decide +kernel) (by decide) (fun c89 => ?_) (fun c89 => ?_)
        · rw [if_pos c89] at h
          refine am_blk 105 [(.iinc 1 (1), 3, 1, 0, .int (1 : Int32)), (.goto (-93), 3, 0, 15, .null)] (15, [(0, .ref 102), (1, .int (v1 + (1 : Int32)))], [], I, G, (gP rd)) (True) hX hi (by decide +kernel) rfl trivial ?_
          exact ih.1 _ _ _ _ h
        · rw [if_neg c89] at h
          obtain ⟨g0, h⟩ := rg_some h
          obtain ⟨g1, h⟩ := rg_some h
          refine am_blk 92 [(.aload_n 0, 1, 0, 0, .null), (.getfield 32, 3, 11, 9, .null), (.iload_n 1, 1, 1, 0, .null), (.dup2, 1, 0, 0, .null), (.iaload, 1, 0, 0, .null), (.iconst (1), 1, 0, 0, .int (1 : Int32)), (.iadd, 1, 0, 0, .null), (.iastore, 1, 0, 0, .null), (.goto (-55), 3, 0, 47, .null)] (47, [(0, .ref 102), (1, .int v1)], [], (am_up I 108 v1.toNatClampNeg ((I 108 v1.toNatClampNeg) + (1 : Int32))), G, (gP rd)) (vp_in v1 576 ∧ vp_in v1 576 ∧ True) hX hi (by decide +kernel) rfl ⟨g0, g1, trivial⟩ ?_
          exact ih.2 _ _ _ _ h
set_option maxRecDepth 20000 in
set_option maxHeartbeats 4000000 in
theorem c_X13_know__102 (rd : Nat) (I : am_I) (G : am_G)  {out : Unit × am_I × am_G} (h : R_X13_know__102 I G  = some out) : am_Ct mX13_know_ 8 gS [.ref 102] I G (gP rd) (pV out.2.1 out.2.2 (gP rd)) := by
  refine am_ofF (by decide +kernel) rfl (by decide) (by omega) (Nat.le_of_ble_eq_true rfl) (fun X ad hX hi => ?_)
  have hi : am_info X 11 cX13_know_ 2 false none 8 := hi
  show am_V X 0 0 _ _ ad (0, [(0, .ref 102)], [], I, G, (gP rd))
  unfold R_X13_know__102 at h
  refine am_blk 0 [(.aload_n 0, 1, 0, 0, .null), (.getfield 57, 3, 11, 10, .null)] (4, [(0, .ref 102)], [.int (I 102 10)], I, G, (gP rd)) (True) hX hi (by decide +kernel) rfl trivial ?_
  refine am_if_eq (tgt := 8) hX hi (off := (4)) (by decide +kernel) (by decide) (fun c4 => ?_) (fun c4 => ?_)
  · rw [if_pos c4] at h
    obtain ⟨g0, h⟩ := rg_some h
    refine am_blk 8 [(.aload_n 0, 1, 0, 0, .null), (.iconst (1), 1, 0, 0, .int (1 : Int32)), (.putfield 57, 3, 11, 10, .null), (.iconst (0), 1, 0, 0, .int (0 : Int32)), (.istore_n 1, 1, 1, 0, .null)] (15, [(0, .ref 102), (1, .int (0 : Int32))], [], (am_up I 102 10 (1 : Int32)), G, (gP rd)) (((1 : Int32) = 0 ∨ (1 : Int32) = 1) ∧ True) hX hi (by decide +kernel) rfl ⟨g0, trivial⟩ ?_
    exact (l_X13_know__102 rd hX hi FU).1 _ _ _ _ h
  · rw [if_neg c4] at h
    cases h
    refine am_vret hX hi rfl (by decide +kernel) ?_
    exact ⟨rfl, rfl, rfl, rfl⟩
noncomputable def L_X13_know__112 (n0 : Nat) (hd : Nat) (I : am_I) (G : am_G) (v1 : Int32) : Option (Unit × am_I × am_G) := match n0 with
  | 0 => none
  | n + 1 => match hd with
    | 0 => (if (f_X12_spots_86 I G ) ≤ v1 then some ((), I, G) else rb (R_X13_heightBy_112 I G v1) (fun r101 I101 G101 => rg (vp_in v1 576) (rg (vp_in v1 576) (L_X13_know__112 n 1 (am_up (am_up I101 117 v1.toNatClampNeg r101) 118 v1.toNatClampNeg (0 : Int32)) G101 v1))))
    | _ => rg (vp_in v1 576) ((if (I 86 4) ≤ (I 118 v1.toNatClampNeg) then L_X13_know__112 n 0 I G (v1 + (1 : Int32)) else rg (vp_in v1 576) (rg (vp_in (I 118 v1.toNatClampNeg) 5) (rg (vp_in v1 576) ((if (I 117 v1.toNatClampNeg) < (I 94 (I 118 v1.toNatClampNeg).toNatClampNeg) then L_X13_know__112 n 0 I G (v1 + (1 : Int32)) else rg (vp_in v1 576) (rg (vp_in v1 576) (L_X13_know__112 n 1 (am_up I 118 v1.toNatClampNeg ((I 118 v1.toNatClampNeg) + (1 : Int32))) G v1))))))))
theorem L_X13_know__112_0 (n : Nat) (I : am_I) (G : am_G) (v1 : Int32) : L_X13_know__112 (n + 1) 0 I G v1 = (if (f_X12_spots_86 I G ) ≤ v1 then some ((), I, G) else rb (R_X13_heightBy_112 I G v1) (fun r101 I101 G101 => rg (vp_in v1 576) (rg (vp_in v1 576) (L_X13_know__112 n 1 (am_up (am_up I101 117 v1.toNatClampNeg r101) 118 v1.toNatClampNeg (0 : Int32)) G101 v1)))) := rfl
theorem L_X13_know__112_1 (n : Nat) (I : am_I) (G : am_G) (v1 : Int32) : L_X13_know__112 (n + 1) 1 I G v1 = rg (vp_in v1 576) ((if (I 86 4) ≤ (I 118 v1.toNatClampNeg) then L_X13_know__112 n 0 I G (v1 + (1 : Int32)) else rg (vp_in v1 576) (rg (vp_in (I 118 v1.toNatClampNeg) 5) (rg (vp_in v1 576) ((if (I 117 v1.toNatClampNeg) < (I 94 (I 118 v1.toNatClampNeg).toNatClampNeg) then L_X13_know__112 n 0 I G (v1 + (1 : Int32)) else rg (vp_in v1 576) (rg (vp_in v1 576) (L_X13_know__112 n 1 (am_up I 118 v1.toNatClampNeg ((I 118 v1.toNatClampNeg) + (1 : Int32))) G v1)))))))) := rfl
theorem L_X13_know__112_z (h : Nat) (I : am_I) (G : am_G) (v1 : Int32) : L_X13_know__112 0 h I G v1 = none := rfl
noncomputable def R_X13_know__112 (I : am_I) (G : am_G)  : Option (Unit × am_I × am_G) := (if (I 112 10) = 0 then rg (((1 : Int32) = 0 ∨ (1 : Int32) = 1)) (L_X13_know__112 FU 0 (am_up I 112 10 (1 : Int32)) G (0 : Int32)) else some ((), I, G))
set_option maxRecDepth 20000 in
set_option maxHeartbeats 4000000 in
theorem l_X13_know__112 (rd : Nat) {X : am_X} {ad : Nat → Nat} (hX : am_okz X ad) (hi : am_info X 11 cX13_know_ 2 false none 8) (n : Nat) : (∀ (I : am_I) (G : am_G) (v1 : Int32) (out : Unit × am_I × am_G), L_X13_know__112 n 0 I G v1 = some out → am_V X 0 0 (am_Rt X gS ad (pV out.2.1 out.2.2 (gP rd))) gS ad (15, [(0, .ref 112), (1, .int v1)], [], I, G, (gP rd))) ∧ (∀ (I : am_I) (G : am_G) (v1 : Int32) (out : Unit × am_I × am_G), L_X13_know__112 n 1 I G v1 = some out → am_V X 0 0 (am_Rt X gS ad (pV out.2.1 out.2.2 (gP rd))) gS ad (47, [(0, .ref 112), (1, .int v1)], [], I, G, (gP rd))) := by
  induction n with
  | zero => exact ⟨(fun I G v1 out h => by rw [L_X13_know__112_z] at h; cases h), (fun I G v1 out h => by rw [L_X13_know__112_z] at h; cases h)⟩
  | succ n ih =>
    refine ⟨?_, ?_⟩
    · intro I G v1 out h
      rw [L_X13_know__112_0] at h
      refine am_blk 15 [(.iload_n 1, 1, 1, 0, .null), (.aload_n 0, 1, 0, 0, .null), (.getfield 3, 3, 11, 14, .null), (.getfield 67, 3, 12, 11, .null)] (23, [(0, .ref 112), (1, .int v1)], [.ref 86, .int v1], I, G, (gP rd)) (True) hX hi (by decide +kernel) rfl trivial ?_
      refine am_callV hX hi (M := mX12_spots) (idx := 107) (d' := 1) (b := 86) (ci := 10) (As := []) (rest := [.int v1]) mkX12_spots miX12_spots mvX12_spots (by decide +kernel) (by decide +kernel) rfl (by decide +kernel) rfl ⟨by omega, by decide, Nat.le_of_ble_eq_true rfl⟩ rfl (c_X12_spots_86 _ I G ) ?_
      rintro r9 I9 G9 P9 ⟨e0, e1, e2, e3⟩
      rw [e0, e1, e2, e3]
      show am_V X 0 0 _ _ ad (26, [(0, .ref 112), (1, .int v1)], [.int (f_X12_spots_86 I G ), .int v1], I, G, (gP rd))
      refine am_icmp_ge (tgt := 111) hX hi (off := (85)) (by decide +kernel) (by decide) (fun c26 => ?_) (fun c26 => ?_)
      · rw [if_pos c26] at h
        cases h
        refine am_vret hX hi rfl (by decide +kernel) ?_
        exact ⟨rfl, rfl, rfl, rfl⟩
      · rw [if_neg c26] at h
        refine am_blk 29 [(.aload_n 0, 1, 0, 0, .null), (.getfield 29, 3, 11, 8, .null), (.iload_n 1, 1, 1, 0, .null), (.aload_n 0, 1, 0, 0, .null), (.iload_n 1, 1, 1, 0, .null)] (36, [(0, .ref 112), (1, .int v1)], [.int v1, .ref 112, .int v1, .ref 117], I, G, (gP rd)) (True) hX hi (by decide +kernel) rfl trivial ?_
        obtain ⟨r101, I101, G101, hc, h⟩ := rb_some h
        refine am_callV hX hi (M := mX13_heightBy) (idx := 156) (d' := 7) (b := 112) (ci := 11) (As := [.int v1]) (rest := [.int v1, .ref 117]) mkX13_heightBy miX13_heightBy mvX13_heightBy (by decide +kernel) (by decide +kernel) rfl (by decide +kernel) rfl ⟨by omega, by decide, Nat.le_of_ble_eq_true rfl⟩ rfl (c_X13_heightBy_112 _ I G v1 hc) ?_
        rintro r9 I9 G9 P9 ⟨e0, e1, e2, e3⟩
        rw [e0, e1, e2, e3]
        show am_V X 0 0 _ _ ad (39, [(0, .ref 112), (1, .int v1)], [.int r101, .int v1, .ref 117], I101, G101, (gP rd))
        obtain ⟨g0, h⟩ := rg_some h
        obtain ⟨g1, h⟩ := rg_some h
        refine am_blk 39 [(.iastore, 1, 0, 0, .null), (.aload_n 0, 1, 0, 0, .null), (.getfield 32, 3, 11, 9, .null), (.iload_n 1, 1, 1, 0, .null), (.iconst (0), 1, 0, 0, .int (0 : Int32)), (.iastore, 1, 0, 0, .null)] (47, [(0, .ref 112), (1, .int v1)], [], (am_up (am_up I101 117 v1.toNatClampNeg r101) 118 v1.toNatClampNeg (0 : Int32)), G101, (gP rd)) (vp_in v1 576 ∧ vp_in v1 576 ∧ True) hX hi (by decide +kernel) rfl ⟨g0, g1, trivial⟩ ?_
        exact ih.2 _ _ _ _ h
    · intro I G v1 out h
      rw [L_X13_know__112_1] at h
      obtain ⟨g0, h⟩ := rg_some h
      refine am_blk 47 [(.aload_n 0, 1, 0, 0, .null), (.getfield 32, 3, 11, 9, .null), (.iload_n 1, 1, 1, 0, .null), (.iaload, 1, 0, 0, .null), (.aload_n 0, 1, 0, 0, .null), (.getfield 3, 3, 11, 14, .null), (.getfield 67, 3, 12, 11, .null), (.getfield 159, 3, 10, 4, .null)] (63, [(0, .ref 112), (1, .int v1)], [.int (I 86 4), .int (I 118 v1.toNatClampNeg)], I, G, (gP rd)) (vp_in v1 576 ∧ True) hX hi (by decide +kernel) rfl ⟨g0, trivial⟩ ?_
      refine am_icmp_ge (tgt := 105) hX hi (off := (42)) (by decide +kernel) (by decide) (fun c63 => ?_) (fun c63 => ?_)
      · rw [if_pos c63] at h
        refine am_blk 105 [(.iinc 1 (1), 3, 1, 0, .int (1 : Int32)), (.goto (-93), 3, 0, 15, .null)] (15, [(0, .ref 112), (1, .int (v1 + (1 : Int32)))], [], I, G, (gP rd)) (True) hX hi (by decide +kernel) rfl trivial ?_
        exact ih.1 _ _ _ _ h
      · rw [if_neg c63] at h
        obtain ⟨g0, h⟩ := rg_some h
        obtain ⟨g1, h⟩ := rg_some h
        obtain ⟨g2, h⟩ := rg_some h
        refine am_blk 66 [(.aload_n 0, 1, 0, 0, .null), (.getfield 3, 3, 11, 14, .null), (.getfield 67, 3, 12, 11, .null), (.getfield 162, 3, 10, 12, .null), (.aload_n 0, 1, 0, 0, .null), (.getfield 32, 3, 11, 9, .null), (.iload_n 1, 1, 1, 0, .null), (.iaload, 1, 0, 0, .null), (.iaload, 1, 0, 0, .null), (.aload_n 0, 1, 0, 0, .null), (.getfield 29, 3, 11, 8, .null), (.iload_n 1, 1, 1, 0, .null), (.iaload, 1, 0, 0, .null)] (89, [(0, .ref 112), (1, .int v1)], [.int (I 117 v1.toNatClampNeg), .int (I 94 (I 118 v1.toNatClampNeg).toNatClampNeg)], I, G, (gP rd)) (vp_in v1 576 ∧ vp_in (I 118 v1.toNatClampNeg) 5 ∧ vp_in v1 576 ∧ True) hX hi (by decide +kernel) rfl ⟨g0, g1, g2, trivial⟩ ?_
        refine am_icmp_gt (tgt := 105) hX hi (off := (16)) (by decide +kernel) (by decide) (fun c89 => ?_) (fun c89 => ?_)
        · rw [if_pos c89] at h
          refine am_blk 105 [(.iinc 1 (1), 3, 1, 0, .int (1 : Int32)), (.goto (-93), 3, 0, 15, .null)] (15, [(0, .ref 112), (1, .int (v1 + (1 : Int32)))], [], I, G, (gP rd)) (True) hX hi (by decide +kernel) rfl trivial ?_
          exact ih.1 _ _ _ _ h
        · rw [if_neg c89] at h
          obtain ⟨g0, h⟩ := rg_some h
          obtain ⟨g1, h⟩ := rg_some h
          refine am_blk 92 [(.aload_n 0, 1, 0, 0, .null), (.getfield 32, 3, 11, 9, .null), (.iload_n 1, 1, 1, 0, .null), (.dup2, 1, 0, 0, .null), (.iaload, 1, 0, 0, .null), (.iconst (1), 1, 0, 0, .int (1 : Int32)), (.iadd, 1, 0, 0, .null), (.iastore, 1, 0, 0, .null), (.goto (-55), 3, 0, 47, .null)] (47, [(0, .ref 112), (1, .int v1)], [], (am_up I 118 v1.toNatClampNeg ((I 118 v1.toNatClampNeg) + (1 : Int32))), G, (gP rd)) (vp_in v1 576 ∧ vp_in v1 576 ∧ True) hX hi (by decide +kernel) rfl ⟨g0, g1, trivial⟩ ?_
          exact ih.2 _ _ _ _ h
set_option maxRecDepth 20000 in
set_option maxHeartbeats 4000000 in
theorem c_X13_know__112 (rd : Nat) (I : am_I) (G : am_G)  {out : Unit × am_I × am_G} (h : R_X13_know__112 I G  = some out) : am_Ct mX13_know_ 8 gS [.ref 112] I G (gP rd) (pV out.2.1 out.2.2 (gP rd)) := by
  refine am_ofF (by decide +kernel) rfl (by decide) (by omega) (Nat.le_of_ble_eq_true rfl) (fun X ad hX hi => ?_)
  have hi : am_info X 11 cX13_know_ 2 false none 8 := hi
  show am_V X 0 0 _ _ ad (0, [(0, .ref 112)], [], I, G, (gP rd))
  unfold R_X13_know__112 at h
  refine am_blk 0 [(.aload_n 0, 1, 0, 0, .null), (.getfield 57, 3, 11, 10, .null)] (4, [(0, .ref 112)], [.int (I 112 10)], I, G, (gP rd)) (True) hX hi (by decide +kernel) rfl trivial ?_
  refine am_if_eq (tgt := 8) hX hi (off := (4)) (by decide +kernel) (by decide) (fun c4 => ?_) (fun c4 => ?_)
  · rw [if_pos c4] at h
    obtain ⟨g0, h⟩ := rg_some h
    refine am_blk 8 [(.aload_n 0, 1, 0, 0, .null), (.iconst (1), 1, 0, 0, .int (1 : Int32)), (.putfield 57, 3, 11, 10, .null), (.iconst (0), 1, 0, 0, .int (0 : Int32)), (.istore_n 1, 1, 1, 0, .null)] (15, [(0, .ref 112), (1, .int (0 : Int32))], [], (am_up I 112 10 (1 : Int32)), G, (gP rd)) (((1 : Int32) = 0 ∨ (1 : Int32) = 1) ∧ True) hX hi (by decide +kernel) rfl ⟨g0, trivial⟩ ?_
    exact (l_X13_know__112 rd hX hi FU).1 _ _ _ _ h
  · rw [if_neg c4] at h
    cases h
    refine am_vret hX hi rfl (by decide +kernel) ?_
    exact ⟨rfl, rfl, rfl, rfl⟩
noncomputable def R_X13_height_102 (I : am_I) (G : am_G) (x1 : Int32) : Option (Int32 × am_I × am_G) := rb (R_X13_know__102 I G ) (fun r1 I1 G1 => rg (vp_in x1 576) (some ((I1 107 x1.toNatClampNeg), I1, G1)))
set_option maxRecDepth 20000 in
set_option maxHeartbeats 4000000 in
theorem c_X13_height_102 (rd : Nat) (I : am_I) (G : am_G) (x1 : Int32) {out : Int32 × am_I × am_G} (h : R_X13_height_102 I G x1 = some out) : am_Ct mX13_height 9 gS [.ref 102, .int x1] I G (gP rd) (pI out.1 out.2.1 out.2.2 (gP rd)) := by
  refine am_ofF (by decide +kernel) rfl (by decide) (by omega) (Nat.le_of_ble_eq_true rfl) (fun X ad hX hi => ?_)
  have hi : am_info X 11 cX13_height 2 false (Option.some Jvm.ClassFile.FieldType.int) 9 := hi
  show am_V X 0 0 _ _ ad (0, [(0, .ref 102), (1, .int x1)], [], I, G, (gP rd))
  unfold R_X13_height_102 at h
  refine am_blk 0 [(.aload_n 0, 1, 0, 0, .null)] (1, [(0, .ref 102), (1, .int x1)], [.ref 102], I, G, (gP rd)) (True) hX hi (by decide +kernel) rfl trivial ?_
  obtain ⟨r1, I1, G1, hc, h⟩ := rb_some h
  refine am_callV hX hi (M := mX13_know_) (idx := 165) (d' := 8) (b := 102) (ci := 11) (As := []) (rest := []) mkX13_know_ miX13_know_ mvX13_know_ (by decide +kernel) (by decide +kernel) rfl (by decide +kernel) rfl ⟨by omega, by decide, Nat.le_of_ble_eq_true rfl⟩ rfl (c_X13_know__102 _ I G  hc) ?_
  rintro r9 I9 G9 P9 ⟨e0, e1, e2, e3⟩
  rw [e0, e1, e2, e3]
  show am_V X 0 0 _ _ ad (4, [(0, .ref 102), (1, .int x1)], [], I1, G1, (gP rd))
  obtain ⟨g0, h⟩ := rg_some h
  refine am_blk 4 [(.aload_n 0, 1, 0, 0, .null), (.getfield 29, 3, 11, 8, .null), (.iload_n 1, 1, 1, 0, .null), (.iaload, 1, 0, 0, .null)] (10, [(0, .ref 102), (1, .int x1)], [.int (I1 107 x1.toNatClampNeg)], I1, G1, (gP rd)) (vp_in x1 576 ∧ True) hX hi (by decide +kernel) rfl ⟨g0, trivial⟩ ?_
  cases h
  refine am_iret hX hi rfl rfl (by decide +kernel) ?_
  exact ⟨rfl, rfl, rfl, rfl⟩
noncomputable def R_X13_height_112 (I : am_I) (G : am_G) (x1 : Int32) : Option (Int32 × am_I × am_G) := rb (R_X13_know__112 I G ) (fun r1 I1 G1 => rg (vp_in x1 576) (some ((I1 117 x1.toNatClampNeg), I1, G1)))
set_option maxRecDepth 20000 in
set_option maxHeartbeats 4000000 in
theorem c_X13_height_112 (rd : Nat) (I : am_I) (G : am_G) (x1 : Int32) {out : Int32 × am_I × am_G} (h : R_X13_height_112 I G x1 = some out) : am_Ct mX13_height 9 gS [.ref 112, .int x1] I G (gP rd) (pI out.1 out.2.1 out.2.2 (gP rd)) := by
  refine am_ofF (by decide +kernel) rfl (by decide) (by omega) (Nat.le_of_ble_eq_true rfl) (fun X ad hX hi => ?_)
  have hi : am_info X 11 cX13_height 2 false (Option.some Jvm.ClassFile.FieldType.int) 9 := hi
  show am_V X 0 0 _ _ ad (0, [(0, .ref 112), (1, .int x1)], [], I, G, (gP rd))
  unfold R_X13_height_112 at h
  refine am_blk 0 [(.aload_n 0, 1, 0, 0, .null)] (1, [(0, .ref 112), (1, .int x1)], [.ref 112], I, G, (gP rd)) (True) hX hi (by decide +kernel) rfl trivial ?_
  obtain ⟨r1, I1, G1, hc, h⟩ := rb_some h
  refine am_callV hX hi (M := mX13_know_) (idx := 165) (d' := 8) (b := 112) (ci := 11) (As := []) (rest := []) mkX13_know_ miX13_know_ mvX13_know_ (by decide +kernel) (by decide +kernel) rfl (by decide +kernel) rfl ⟨by omega, by decide, Nat.le_of_ble_eq_true rfl⟩ rfl (c_X13_know__112 _ I G  hc) ?_
  rintro r9 I9 G9 P9 ⟨e0, e1, e2, e3⟩
  rw [e0, e1, e2, e3]
  show am_V X 0 0 _ _ ad (4, [(0, .ref 112), (1, .int x1)], [], I1, G1, (gP rd))
  obtain ⟨g0, h⟩ := rg_some h
  refine am_blk 4 [(.aload_n 0, 1, 0, 0, .null), (.getfield 29, 3, 11, 8, .null), (.iload_n 1, 1, 1, 0, .null), (.iaload, 1, 0, 0, .null)] (10, [(0, .ref 112), (1, .int x1)], [.int (I1 117 x1.toNatClampNeg)], I1, G1, (gP rd)) (vp_in x1 576 ∧ True) hX hi (by decide +kernel) rfl ⟨g0, trivial⟩ ?_
  cases h
  refine am_iret hX hi rfl rfl (by decide +kernel) ?_
  exact ⟨rfl, rfl, rfl, rfl⟩
noncomputable def R_X13_ink_102 (I : am_I) (G : am_G) (x1 : Int32) : Option (Int32 × am_I × am_G) := rb (R_X13_know__102 I G ) (fun r1 I1 G1 => rg (vp_in x1 576) (some ((I1 108 x1.toNatClampNeg), I1, G1)))
set_option maxRecDepth 20000 in
set_option maxHeartbeats 4000000 in
theorem c_X13_ink_102 (rd : Nat) (I : am_I) (G : am_G) (x1 : Int32) {out : Int32 × am_I × am_G} (h : R_X13_ink_102 I G x1 = some out) : am_Ct mX13_ink 9 gS [.ref 102, .int x1] I G (gP rd) (pI out.1 out.2.1 out.2.2 (gP rd)) := by
  refine am_ofF (by decide +kernel) rfl (by decide) (by omega) (Nat.le_of_ble_eq_true rfl) (fun X ad hX hi => ?_)
  have hi : am_info X 11 cX13_ink 2 false (Option.some Jvm.ClassFile.FieldType.int) 9 := hi
  show am_V X 0 0 _ _ ad (0, [(0, .ref 102), (1, .int x1)], [], I, G, (gP rd))
  unfold R_X13_ink_102 at h
  refine am_blk 0 [(.aload_n 0, 1, 0, 0, .null)] (1, [(0, .ref 102), (1, .int x1)], [.ref 102], I, G, (gP rd)) (True) hX hi (by decide +kernel) rfl trivial ?_
  obtain ⟨r1, I1, G1, hc, h⟩ := rb_some h
  refine am_callV hX hi (M := mX13_know_) (idx := 165) (d' := 8) (b := 102) (ci := 11) (As := []) (rest := []) mkX13_know_ miX13_know_ mvX13_know_ (by decide +kernel) (by decide +kernel) rfl (by decide +kernel) rfl ⟨by omega, by decide, Nat.le_of_ble_eq_true rfl⟩ rfl (c_X13_know__102 _ I G  hc) ?_
  rintro r9 I9 G9 P9 ⟨e0, e1, e2, e3⟩
  rw [e0, e1, e2, e3]
  show am_V X 0 0 _ _ ad (4, [(0, .ref 102), (1, .int x1)], [], I1, G1, (gP rd))
  obtain ⟨g0, h⟩ := rg_some h
  refine am_blk 4 [(.aload_n 0, 1, 0, 0, .null), (.getfield 32, 3, 11, 9, .null), (.iload_n 1, 1, 1, 0, .null), (.iaload, 1, 0, 0, .null)] (10, [(0, .ref 102), (1, .int x1)], [.int (I1 108 x1.toNatClampNeg)], I1, G1, (gP rd)) (vp_in x1 576 ∧ True) hX hi (by decide +kernel) rfl ⟨g0, trivial⟩ ?_
  cases h
  refine am_iret hX hi rfl rfl (by decide +kernel) ?_
  exact ⟨rfl, rfl, rfl, rfl⟩
noncomputable def R_X13_ink_112 (I : am_I) (G : am_G) (x1 : Int32) : Option (Int32 × am_I × am_G) := rb (R_X13_know__112 I G ) (fun r1 I1 G1 => rg (vp_in x1 576) (some ((I1 118 x1.toNatClampNeg), I1, G1)))
set_option maxRecDepth 20000 in
set_option maxHeartbeats 4000000 in
theorem c_X13_ink_112 (rd : Nat) (I : am_I) (G : am_G) (x1 : Int32) {out : Int32 × am_I × am_G} (h : R_X13_ink_112 I G x1 = some out) : am_Ct mX13_ink 9 gS [.ref 112, .int x1] I G (gP rd) (pI out.1 out.2.1 out.2.2 (gP rd)) := by
  refine am_ofF (by decide +kernel) rfl (by decide) (by omega) (Nat.le_of_ble_eq_true rfl) (fun X ad hX hi => ?_)
  have hi : am_info X 11 cX13_ink 2 false (Option.some Jvm.ClassFile.FieldType.int) 9 := hi
  show am_V X 0 0 _ _ ad (0, [(0, .ref 112), (1, .int x1)], [], I, G, (gP rd))
  unfold R_X13_ink_112 at h
  refine am_blk 0 [(.aload_n 0, 1, 0, 0, .null)] (1, [(0, .ref 112), (1, .int x1)], [.ref 112], I, G, (gP rd)) (True) hX hi (by decide +kernel) rfl trivial ?_
  obtain ⟨r1, I1, G1, hc, h⟩ := rb_some h
  refine am_callV hX hi (M := mX13_know_) (idx := 165) (d' := 8) (b := 112) (ci := 11) (As := []) (rest := []) mkX13_know_ miX13_know_ mvX13_know_ (by decide +kernel) (by decide +kernel) rfl (by decide +kernel) rfl ⟨by omega, by decide, Nat.le_of_ble_eq_true rfl⟩ rfl (c_X13_know__112 _ I G  hc) ?_
  rintro r9 I9 G9 P9 ⟨e0, e1, e2, e3⟩
  rw [e0, e1, e2, e3]
  show am_V X 0 0 _ _ ad (4, [(0, .ref 112), (1, .int x1)], [], I1, G1, (gP rd))
  obtain ⟨g0, h⟩ := rg_some h
  refine am_blk 4 [(.aload_n 0, 1, 0, 0, .null), (.getfield 32, 3, 11, 9, .null), (.iload_n 1, 1, 1, 0, .null), (.iaload, 1, 0, 0, .null)] (10, [(0, .ref 112), (1, .int x1)], [.int (I1 118 x1.toNatClampNeg)], I1, G1, (gP rd)) (vp_in x1 576 ∧ True) hX hi (by decide +kernel) rfl ⟨g0, trivial⟩ ?_
  cases h
  refine am_iret hX hi rfl rfl (by decide +kernel) ?_
  exact ⟨rfl, rfl, rfl, rfl⟩
noncomputable def L_X13_share_102 (n0 : Nat) (hd : Nat) (I : am_I) (G : am_G) (v1 : Int32) (v2 : Int32) (v3 : Int32) : Option (Int32 × am_I × am_G) := match n0 with
  | 0 => none
  | n + 1 => match hd with
    | _ => (if (f_X12_spots_86 I G ) ≤ v3 then some (v2, I, G) else rb (R_X13_ink_102 I G v3) (fun r101 I101 G101 => (if r101 = v1 then L_X13_share_102 n 0 I101 G101 v1 (v2 + (1 : Int32)) (v3 + (1 : Int32)) else L_X13_share_102 n 0 I101 G101 v1 (v2 + (0 : Int32)) (v3 + (1 : Int32)))))
theorem L_X13_share_102_0 (n : Nat) (I : am_I) (G : am_G) (v1 : Int32) (v2 : Int32) (v3 : Int32) : L_X13_share_102 (n + 1) 0 I G v1 v2 v3 = (if (f_X12_spots_86 I G ) ≤ v3 then some (v2, I, G) else rb (R_X13_ink_102 I G v3) (fun r101 I101 G101 => (if r101 = v1 then L_X13_share_102 n 0 I101 G101 v1 (v2 + (1 : Int32)) (v3 + (1 : Int32)) else L_X13_share_102 n 0 I101 G101 v1 (v2 + (0 : Int32)) (v3 + (1 : Int32))))) := rfl
theorem L_X13_share_102_z (h : Nat) (I : am_I) (G : am_G) (v1 : Int32) (v2 : Int32) (v3 : Int32) : L_X13_share_102 0 h I G v1 v2 v3 = none := rfl
noncomputable def R_X13_share_102 (I : am_I) (G : am_G) (x1 : Int32) : Option (Int32 × am_I × am_G) := L_X13_share_102 FU 0 I G x1 (0 : Int32) (0 : Int32)
set_option maxRecDepth 20000 in
set_option maxHeartbeats 4000000 in
theorem l_X13_share_102 (rd : Nat) {X : am_X} {ad : Nat → Nat} (hX : am_okz X ad) (hi : am_info X 11 cX13_share 4 false (Option.some Jvm.ClassFile.FieldType.int) 10) (n : Nat) : (∀ (I : am_I) (G : am_G) (v1 : Int32) (v2 : Int32) (v3 : Int32) (out : Int32 × am_I × am_G), L_X13_share_102 n 0 I G v1 v2 v3 = some out → am_V X 0 0 (am_Rt X gS ad (pI out.1 out.2.1 out.2.2 (gP rd))) gS ad (4, [(0, .ref 102), (1, .int v1), (2, .int v2), (3, .int v3)], [], I, G, (gP rd))) := by
  induction n with
  | zero => exact fun I G v1 v2 v3 out h => by rw [L_X13_share_102_z] at h; cases h
  | succ n ih =>
    · intro I G v1 v2 v3 out h
      rw [L_X13_share_102_0] at h
      refine am_blk 4 [(.iload_n 3, 1, 3, 0, .null), (.aload_n 0, 1, 0, 0, .null), (.getfield 3, 3, 11, 14, .null), (.getfield 67, 3, 12, 11, .null)] (12, [(0, .ref 102), (1, .int v1), (2, .int v2), (3, .int v3)], [.ref 86, .int v3], I, G, (gP rd)) (True) hX hi (by decide +kernel) rfl trivial ?_
      refine am_callV hX hi (M := mX12_spots) (idx := 107) (d' := 1) (b := 86) (ci := 10) (As := []) (rest := [.int v3]) mkX12_spots miX12_spots mvX12_spots (by decide +kernel) (by decide +kernel) rfl (by decide +kernel) rfl ⟨by omega, by decide, Nat.le_of_ble_eq_true rfl⟩ rfl (c_X12_spots_86 _ I G ) ?_
      rintro r9 I9 G9 P9 ⟨e0, e1, e2, e3⟩
      rw [e0, e1, e2, e3]
      show am_V X 0 0 _ _ ad (15, [(0, .ref 102), (1, .int v1), (2, .int v2), (3, .int v3)], [.int (f_X12_spots_86 I G ), .int v3], I, G, (gP rd))
      refine am_icmp_ge (tgt := 41) hX hi (off := (26)) (by decide +kernel) (by decide) (fun c15 => ?_) (fun c15 => ?_)
      · rw [if_pos c15] at h
        refine am_blk 41 [(.iload_n 2, 1, 2, 0, .null)] (42, [(0, .ref 102), (1, .int v1), (2, .int v2), (3, .int v3)], [.int v2], I, G, (gP rd)) (True) hX hi (by decide +kernel) rfl trivial ?_
        cases h
        refine am_iret hX hi rfl rfl (by decide +kernel) ?_
        exact ⟨rfl, rfl, rfl, rfl⟩
      · rw [if_neg c15] at h
        refine am_blk 18 [(.iload_n 2, 1, 2, 0, .null), (.aload_n 0, 1, 0, 0, .null), (.iload_n 3, 1, 3, 0, .null)] (21, [(0, .ref 102), (1, .int v1), (2, .int v2), (3, .int v3)], [.int v3, .ref 102, .int v2], I, G, (gP rd)) (True) hX hi (by decide +kernel) rfl trivial ?_
        obtain ⟨r101, I101, G101, hc, h⟩ := rb_some h
        refine am_callV hX hi (M := mX13_ink) (idx := 167) (d' := 9) (b := 102) (ci := 11) (As := [.int v3]) (rest := [.int v2]) mkX13_ink miX13_ink mvX13_ink (by decide +kernel) (by decide +kernel) rfl (by decide +kernel) rfl ⟨by omega, by decide, Nat.le_of_ble_eq_true rfl⟩ rfl (c_X13_ink_102 _ I G v3 hc) ?_
        rintro r9 I9 G9 P9 ⟨e0, e1, e2, e3⟩
        rw [e0, e1, e2, e3]
        show am_V X 0 0 _ _ ad (24, [(0, .ref 102), (1, .int v1), (2, .int v2), (3, .int v3)], [.int r101, .int v2], I101, G101, (gP rd))
        refine am_blk 24 [(.iload_n 1, 1, 1, 0, .null)] (25, [(0, .ref 102), (1, .int v1), (2, .int v2), (3, .int v3)], [.int v1, .int r101, .int v2], I101, G101, (gP rd)) (True) hX hi (by decide +kernel) rfl trivial ?_
        refine am_icmp_ne (tgt := 32) hX hi (off := (7)) (by decide +kernel) (by decide) (fun c25 => ?_) (fun c25 => ?_)
        · rw [if_neg c25] at h
          refine am_blk 32 [(.iconst (0), 1, 0, 0, .int (0 : Int32)), (.iadd, 1, 0, 0, .null), (.istore_n 2, 1, 2, 0, .null), (.iinc 3 (1), 3, 3, 0, .int (1 : Int32)), (.goto (-34), 3, 0, 4, .null)] (4, [(0, .ref 102), (1, .int v1), (2, .int (v2 + (0 : Int32))), (3, .int (v3 + (1 : Int32)))], [], I101, G101, (gP rd)) (True) hX hi (by decide +kernel) rfl trivial ?_
          exact ih _ _ _ _ _ _ h
        · rw [if_pos c25] at h
          refine am_blk 28 [(.iconst (1), 1, 0, 0, .int (1 : Int32)), (.goto (4), 3, 0, 33, .null), (.iadd, 1, 0, 0, .null), (.istore_n 2, 1, 2, 0, .null), (.iinc 3 (1), 3, 3, 0, .int (1 : Int32)), (.goto (-34), 3, 0, 4, .null)] (4, [(0, .ref 102), (1, .int v1), (2, .int (v2 + (1 : Int32))), (3, .int (v3 + (1 : Int32)))], [], I101, G101, (gP rd)) (True) hX hi (by decide +kernel) rfl trivial ?_
          exact ih _ _ _ _ _ _ h
set_option maxRecDepth 20000 in
set_option maxHeartbeats 4000000 in
theorem c_X13_share_102 (rd : Nat) (I : am_I) (G : am_G) (x1 : Int32) {out : Int32 × am_I × am_G} (h : R_X13_share_102 I G x1 = some out) : am_Ct mX13_share 10 gS [.ref 102, .int x1] I G (gP rd) (pI out.1 out.2.1 out.2.2 (gP rd)) := by
  refine am_ofF (by decide +kernel) rfl (by decide) (by omega) (Nat.le_of_ble_eq_true rfl) (fun X ad hX hi => ?_)
  have hi : am_info X 11 cX13_share 4 false (Option.some Jvm.ClassFile.FieldType.int) 10 := hi
  show am_V X 0 0 _ _ ad (0, [(0, .ref 102), (1, .int x1)], [], I, G, (gP rd))
  unfold R_X13_share_102 at h
  refine am_blk 0 [(.iconst (0), 1, 0, 0, .int (0 : Int32)), (.istore_n 2, 1, 2, 0, .null), (.iconst (0), 1, 0, 0, .int (0 : Int32)), (.istore_n 3, 1, 3, 0, .null)] (4, [(0, .ref 102), (1, .int x1), (2, .int (0 : Int32)), (3, .int (0 : Int32))], [], I, G, (gP rd)) (True) hX hi (by decide +kernel) rfl trivial ?_
  exact (l_X13_share_102 rd hX hi FU) _ _ _ _ _ _ h
noncomputable def L_X13_share_112 (n0 : Nat) (hd : Nat) (I : am_I) (G : am_G) (v1 : Int32) (v2 : Int32) (v3 : Int32) : Option (Int32 × am_I × am_G) := match n0 with
  | 0 => none
  | n + 1 => match hd with
    | _ => (if (f_X12_spots_86 I G ) ≤ v3 then some (v2, I, G) else rb (R_X13_ink_112 I G v3) (fun r101 I101 G101 => (if r101 = v1 then L_X13_share_112 n 0 I101 G101 v1 (v2 + (1 : Int32)) (v3 + (1 : Int32)) else L_X13_share_112 n 0 I101 G101 v1 (v2 + (0 : Int32)) (v3 + (1 : Int32)))))
theorem L_X13_share_112_0 (n : Nat) (I : am_I) (G : am_G) (v1 : Int32) (v2 : Int32) (v3 : Int32) : L_X13_share_112 (n + 1) 0 I G v1 v2 v3 = (if (f_X12_spots_86 I G ) ≤ v3 then some (v2, I, G) else rb (R_X13_ink_112 I G v3) (fun r101 I101 G101 => (if r101 = v1 then L_X13_share_112 n 0 I101 G101 v1 (v2 + (1 : Int32)) (v3 + (1 : Int32)) else L_X13_share_112 n 0 I101 G101 v1 (v2 + (0 : Int32)) (v3 + (1 : Int32))))) := rfl
theorem L_X13_share_112_z (h : Nat) (I : am_I) (G : am_G) (v1 : Int32) (v2 : Int32) (v3 : Int32) : L_X13_share_112 0 h I G v1 v2 v3 = none := rfl
noncomputable def R_X13_share_112 (I : am_I) (G : am_G) (x1 : Int32) : Option (Int32 × am_I × am_G) := L_X13_share_112 FU 0 I G x1 (0 : Int32) (0 : Int32)
set_option maxRecDepth 20000 in
set_option maxHeartbeats 4000000 in
theorem l_X13_share_112 (rd : Nat) {X : am_X} {ad : Nat → Nat} (hX : am_okz X ad) (hi : am_info X 11 cX13_share 4 false (Option.some Jvm.ClassFile.FieldType.int) 10) (n : Nat) : (∀ (I : am_I) (G : am_G) (v1 : Int32) (v2 : Int32) (v3 : Int32) (out : Int32 × am_I × am_G), L_X13_share_112 n 0 I G v1 v2 v3 = some out → am_V X 0 0 (am_Rt X gS ad (pI out.1 out.2.1 out.2.2 (gP rd))) gS ad (4, [(0, .ref 112), (1, .int v1), (2, .int v2), (3, .int v3)], [], I, G, (gP rd))) := by
  induction n with
  | zero => exact fun I G v1 v2 v3 out h => by rw [L_X13_share_112_z] at h; cases h
  | succ n ih =>
    · intro I G v1 v2 v3 out h
      rw [L_X13_share_112_0] at h
      refine am_blk 4 [(.iload_n 3, 1, 3, 0, .null), (.aload_n 0, 1, 0, 0, .null), (.getfield 3, 3, 11, 14, .null), (.getfield 67, 3, 12, 11, .null)] (12, [(0, .ref 112), (1, .int v1), (2, .int v2), (3, .int v3)], [.ref 86, .int v3], I, G, (gP rd)) (True) hX hi (by decide +kernel) rfl trivial ?_
      refine am_callV hX hi (M := mX12_spots) (idx := 107) (d' := 1) (b := 86) (ci := 10) (As := []) (rest := [.int v3]) mkX12_spots miX12_spots mvX12_spots (by decide +kernel) (by decide +kernel) rfl (by decide +kernel) rfl ⟨by omega, by decide, Nat.le_of_ble_eq_true rfl⟩ rfl (c_X12_spots_86 _ I G ) ?_
      rintro r9 I9 G9 P9 ⟨e0, e1, e2, e3⟩
      rw [e0, e1, e2, e3]
      show am_V X 0 0 _ _ ad (15, [(0, .ref 112), (1, .int v1), (2, .int v2), (3, .int v3)], [.int (f_X12_spots_86 I G ), .int v3], I, G, (gP rd))
      refine am_icmp_ge (tgt := 41) hX hi (off := (26)) (by decide +kernel) (by decide) (fun c15 => ?_) (fun c15 => ?_)
      · rw [if_pos c15] at h
        refine am_blk 41 [(.iload_n 2, 1, 2, 0, .null)] (42, [(0, .ref 112), (1, .int v1), (2, .int v2), (3, .int v3)], [.int v2], I, G, (gP rd)) (True) hX hi (by decide +kernel) rfl trivial ?_
        cases h
        refine am_iret hX hi rfl rfl (by decide +kernel) ?_
        exact ⟨rfl, rfl, rfl, rfl⟩
      · rw [if_neg c15] at h
        refine am_blk 18 [(.iload_n 2, 1, 2, 0, .null), (.aload_n 0, 1, 0, 0, .null), (.iload_n 3, 1, 3, 0, .null)] (21, [(0, .ref 112), (1, .int v1), (2, .int v2), (3, .int v3)], [.int v3, .ref 112, .int v2], I, G, (gP rd)) (True) hX hi (by decide +kernel) rfl trivial ?_
        obtain ⟨r101, I101, G101, hc, h⟩ := rb_some h
        refine am_callV hX hi (M := mX13_ink) (idx := 167) (d' := 9) (b := 112) (ci := 11) (As := [.int v3]) (rest := [.int v2]) mkX13_ink miX13_ink mvX13_ink (by decide +kernel) (by decide +kernel) rfl (by decide +kernel) rfl ⟨by omega, by decide, Nat.le_of_ble_eq_true rfl⟩ rfl (c_X13_ink_112 _ I G v3 hc) ?_
        rintro r9 I9 G9 P9 ⟨e0, e1, e2, e3⟩
        rw [e0, e1, e2, e3]
        show am_V X 0 0 _ _ ad (24, [(0, .ref 112), (1, .int v1), (2, .int v2), (3, .int v3)], [.int r101, .int v2], I101, G101, (gP rd))
        refine am_blk 24 [(.iload_n 1, 1, 1, 0, .null)] (25, [(0, .ref 112), (1, .int v1), (2, .int v2), (3, .int v3)], [.int v1, .int r101, .int v2], I101, G101, (gP rd)) (True) hX hi (by decide +kernel) rfl trivial ?_
        refine am_icmp_ne (tgt := 32) hX hi (off := (7)) (by decide +kernel) (by decide) (fun c25 => ?_) (fun c25 => ?_)
        · rw [if_neg c25] at h
          refine am_blk 32 [(.iconst (0), 1, 0, 0, .int (0 : Int32)), (.iadd, 1, 0, 0, .null), (.istore_n 2, 1, 2, 0, .null), (.iinc 3 (1), 3, 3, 0, .int (1 : Int32)), (.goto (-34), 3, 0, 4, .null)] (4, [(0, .ref 112), (1, .int v1), (2, .int (v2 + (0 : Int32))), (3, .int (v3 + (1 : Int32)))], [], I101, G101, (gP rd)) (True) hX hi (by decide +kernel) rfl trivial ?_
          exact ih _ _ _ _ _ _ h
        · rw [if_pos c25] at h
          refine am_blk 28 [(.iconst (1), 1, 0, 0, .int (1 : Int32)), (.goto (4), 3, 0, 33, .null), (.iadd, 1, 0, 0, .null), (.istore_n 2, 1, 2, 0, .null), (.iinc 3 (1), 3, 3, 0, .int (1 : Int32)), (.goto (-34), 3, 0, 4, .null)] (4, [(0, .ref 112), (1, .int v1), (2, .int (v2 + (1 : Int32))), (3, .int (v3 + (1 : Int32)))], [], I101, G101, (gP rd)) (True) hX hi (by decide +kernel) rfl trivial ?_
          exact ih _ _ _ _ _ _ h
set_option maxRecDepth 20000 in
set_option maxHeartbeats 4000000 in
theorem c_X13_share_112 (rd : Nat) (I : am_I) (G : am_G) (x1 : Int32) {out : Int32 × am_I × am_G} (h : R_X13_share_112 I G x1 = some out) : am_Ct mX13_share 10 gS [.ref 112, .int x1] I G (gP rd) (pI out.1 out.2.1 out.2.2 (gP rd)) := by
  refine am_ofF (by decide +kernel) rfl (by decide) (by omega) (Nat.le_of_ble_eq_true rfl) (fun X ad hX hi => ?_)
  have hi : am_info X 11 cX13_share 4 false (Option.some Jvm.ClassFile.FieldType.int) 10 := hi
  show am_V X 0 0 _ _ ad (0, [(0, .ref 112), (1, .int x1)], [], I, G, (gP rd))
  unfold R_X13_share_112 at h
  refine am_blk 0 [(.iconst (0), 1, 0, 0, .int (0 : Int32)), (.istore_n 2, 1, 2, 0, .null), (.iconst (0), 1, 0, 0, .int (0 : Int32)), (.istore_n 3, 1, 3, 0, .null)] (4, [(0, .ref 112), (1, .int x1), (2, .int (0 : Int32)), (3, .int (0 : Int32))], [], I, G, (gP rd)) (True) hX hi (by decide +kernel) rfl trivial ?_
  exact (l_X13_share_112 rd hX hi FU) _ _ _ _ _ _ h
noncomputable def L_X13_isAtEdge_102 (n0 : Nat) (hd : Nat) (I : am_I) (G : am_G) (v1 : Int32) (v2 : Int32) : Option (Int32 × am_I × am_G) := match n0 with
  | 0 => none
  | n + 1 => match hd with
    | _ => (if (I 86 1) ≤ v2 then some ((0 : Int32), I, G) else rb (R_X13_ink_102 I G ((I 86 0) * v2)) (fun r101 I101 G101 => (if r101 = v1 then some ((1 : Int32), I101, G101) else L_X13_isAtEdge_102 n 0 I101 G101 v1 (v2 + (1 : Int32)))))
theorem L_X13_isAtEdge_102_0 (n : Nat) (I : am_I) (G : am_G) (v1 : Int32) (v2 : Int32) : L_X13_isAtEdge_102 (n + 1) 0 I G v1 v2 = (if (I 86 1) ≤ v2 then some ((0 : Int32), I, G) else rb (R_X13_ink_102 I G ((I 86 0) * v2)) (fun r101 I101 G101 => (if r101 = v1 then some ((1 : Int32), I101, G101) else L_X13_isAtEdge_102 n 0 I101 G101 v1 (v2 + (1 : Int32))))) := rfl
theorem L_X13_isAtEdge_102_z (h : Nat) (I : am_I) (G : am_G) (v1 : Int32) (v2 : Int32) : L_X13_isAtEdge_102 0 h I G v1 v2 = none := rfl
noncomputable def R_X13_isAtEdge_102 (I : am_I) (G : am_G) (x1 : Int32) : Option (Int32 × am_I × am_G) := L_X13_isAtEdge_102 FU 0 I G x1 (0 : Int32)
set_option maxRecDepth 20000 in
set_option maxHeartbeats 4000000 in
theorem l_X13_isAtEdge_102 (rd : Nat) {X : am_X} {ad : Nat → Nat} (hX : am_okz X ad) (hi : am_info X 11 cX13_isAtEdge 3 false (Option.some Jvm.ClassFile.FieldType.boolean) 10) (n : Nat) : (∀ (I : am_I) (G : am_G) (v1 : Int32) (v2 : Int32) (out : Int32 × am_I × am_G), L_X13_isAtEdge_102 n 0 I G v1 v2 = some out → am_V X 0 0 (am_Rt X gS ad (pI out.1 out.2.1 out.2.2 (gP rd))) gS ad (2, [(0, .ref 102), (1, .int v1), (2, .int v2)], [], I, G, (gP rd))) := by
  induction n with
  | zero => exact fun I G v1 v2 out h => by rw [L_X13_isAtEdge_102_z] at h; cases h
  | succ n ih =>
    · intro I G v1 v2 out h
      rw [L_X13_isAtEdge_102_0] at h
      refine am_blk 2 [(.iload_n 2, 1, 2, 0, .null), (.aload_n 0, 1, 0, 0, .null), (.getfield 3, 3, 11, 14, .null), (.getfield 67, 3, 12, 11, .null), (.getfield 92, 3, 10, 1, .null)] (13, [(0, .ref 102), (1, .int v1), (2, .int v2)], [.int (I 86 1), .int v2], I, G, (gP rd)) (True) hX hi (by decide +kernel) rfl trivial ?_
      refine am_icmp_ge (tgt := 44) hX hi (off := (31)) (by decide +kernel) (by decide) (fun c13 => ?_) (fun c13 => ?_)
      · rw [if_pos c13] at h
        refine am_blk 44 [(.iconst (0), 1, 0, 0, .int (0 : Int32))] (45, [(0, .ref 102), (1, .int v1), (2, .int v2)], [.int (0 : Int32)], I, G, (gP rd)) (True) hX hi (by decide +kernel) rfl trivial ?_
        cases h
        refine am_iret hX hi rfl (by first | rfl | decide | (simp [narrow]; done)) (by decide +kernel) ?_
        exact ⟨rfl, rfl, rfl, rfl⟩
      · rw [if_neg c13] at h
        refine am_blk 16 [(.aload_n 0, 1, 0, 0, .null), (.aload_n 0, 1, 0, 0, .null), (.getfield 3, 3, 11, 14, .null), (.getfield 67, 3, 12, 11, .null), (.getfield 87, 3, 10, 0, .null), (.iload_n 2, 1, 2, 0, .null), (.imul, 1, 0, 0, .null)] (29, [(0, .ref 102), (1, .int v1), (2, .int v2)], [.int ((I 86 0) * v2), .ref 102], I, G, (gP rd)) (True) hX hi (by decide +kernel) rfl trivial ?_
        obtain ⟨r101, I101, G101, hc, h⟩ := rb_some h
        refine am_callV hX hi (M := mX13_ink) (idx := 167) (d' := 9) (b := 102) (ci := 11) (As := [.int ((I 86 0) * v2)]) (rest := []) mkX13_ink miX13_ink mvX13_ink (by decide +kernel) (by decide +kernel) rfl (by decide +kernel) rfl ⟨by omega, by decide, Nat.le_of_ble_eq_true rfl⟩ rfl (c_X13_ink_102 _ I G ((I 86 0) * v2) hc) ?_
        rintro r9 I9 G9 P9 ⟨e0, e1, e2, e3⟩
        rw [e0, e1, e2, e3]
        show am_V X 0 0 _ _ ad (32, [(0, .ref 102), (1, .int v1), (2, .int v2)], [.int r101], I101, G101, (gP rd))
        refine am_blk 32 [(.iload_n 1, 1, 1, 0, .null)] (33, [(0, .ref 102), (1, .int v1), (2, .int v2)], [.int v1, .int r101], I101, G101, (gP rd)) (True) hX hi (by decide +kernel) rfl trivial ?_
        refine am_icmp_ne (tgt := 38) hX hi (off := (5)) (by decide +kernel) (by decide) (fun c33 => ?_) (fun c33 => ?_)
        · rw [if_neg c33] at h
          refine am_blk 38 [(.iinc 2 (1), 3, 2, 0, .int (1 : Int32)), (.goto (-39), 3, 0, 2, .null)] (2, [(0, .ref 102), (1, .int v1), (2, .int (v2 + (1 : Int32)))], [], I101, G101, (gP rd)) (True) hX hi (by decide +kernel) rfl trivial ?_
          exact ih _ _ _ _ _ h
        · rw [if_pos c33] at h
          refine am_blk 36 [(.iconst (1), 1, 0, 0, .int (1 : Int32))] (37, [(0, .ref 102), (1, .int v1), (2, .int v2)], [.int (1 : Int32)], I101, G101, (gP rd)) (True) hX hi (by decide +kernel) rfl trivial ?_
          cases h
          refine am_iret hX hi rfl (by first | rfl | decide | (simp [narrow]; done)) (by decide +kernel) ?_
          exact ⟨rfl, rfl, rfl, rfl⟩
set_option maxRecDepth 20000 in
set_option maxHeartbeats 4000000 in
theorem c_X13_isAtEdge_102 (rd : Nat) (I : am_I) (G : am_G) (x1 : Int32) {out : Int32 × am_I × am_G} (h : R_X13_isAtEdge_102 I G x1 = some out) : am_Ct mX13_isAtEdge 10 gS [.ref 102, .int x1] I G (gP rd) (pI out.1 out.2.1 out.2.2 (gP rd)) := by
  refine am_ofF (by decide +kernel) rfl (by decide) (by omega) (Nat.le_of_ble_eq_true rfl) (fun X ad hX hi => ?_)
  have hi : am_info X 11 cX13_isAtEdge 3 false (Option.some Jvm.ClassFile.FieldType.boolean) 10 := hi
  show am_V X 0 0 _ _ ad (0, [(0, .ref 102), (1, .int x1)], [], I, G, (gP rd))
  unfold R_X13_isAtEdge_102 at h
  refine am_blk 0 [(.iconst (0), 1, 0, 0, .int (0 : Int32)), (.istore_n 2, 1, 2, 0, .null)] (2, [(0, .ref 102), (1, .int x1), (2, .int (0 : Int32))], [], I, G, (gP rd)) (True) hX hi (by decide +kernel) rfl trivial ?_
  exact (l_X13_isAtEdge_102 rd hX hi FU) _ _ _ _ _ h
noncomputable def L_X13_isAtEdge_112 (n0 : Nat) (hd : Nat) (I : am_I) (G : am_G) (v1 : Int32) (v2 : Int32) : Option (Int32 × am_I × am_G) := match n0 with
  | 0 => none
  | n + 1 => match hd with
    | _ => (if (I 86 1) ≤ v2 then some ((0 : Int32), I, G) else rb (R_X13_ink_112 I G ((I 86 0) * v2)) (fun r101 I101 G101 => (if r101 = v1 then some ((1 : Int32), I101, G101) else L_X13_isAtEdge_112 n 0 I101 G101 v1 (v2 + (1 : Int32)))))
theorem L_X13_isAtEdge_112_0 (n : Nat) (I : am_I) (G : am_G) (v1 : Int32) (v2 : Int32) : L_X13_isAtEdge_112 (n + 1) 0 I G v1 v2 = (if (I 86 1) ≤ v2 then some ((0 : Int32), I, G) else rb (R_X13_ink_112 I G ((I 86 0) * v2)) (fun r101 I101 G101 => (if r101 = v1 then some ((1 : Int32), I101, G101) else L_X13_isAtEdge_112 n 0 I101 G101 v1 (v2 + (1 : Int32))))) := rfl
theorem L_X13_isAtEdge_112_z (h : Nat) (I : am_I) (G : am_G) (v1 : Int32) (v2 : Int32) : L_X13_isAtEdge_112 0 h I G v1 v2 = none := rfl
noncomputable def R_X13_isAtEdge_112 (I : am_I) (G : am_G) (x1 : Int32) : Option (Int32 × am_I × am_G) := L_X13_isAtEdge_112 FU 0 I G x1 (0 : Int32)
set_option maxRecDepth 20000 in
set_option maxHeartbeats 4000000 in
theorem l_X13_isAtEdge_112 (rd : Nat) {X : am_X} {ad : Nat → Nat} (hX : am_okz X ad) (hi : am_info X 11 cX13_isAtEdge 3 false (Option.some Jvm.ClassFile.FieldType.boolean) 10) (n : Nat) : (∀ (I : am_I) (G : am_G) (v1 : Int32) (v2 : Int32) (out : Int32 × am_I × am_G), L_X13_isAtEdge_112 n 0 I G v1 v2 = some out → am_V X 0 0 (am_Rt X gS ad (pI out.1 out.2.1 out.2.2 (gP rd))) gS ad (2, [(0, .ref 112), (1, .int v1), (2, .int v2)], [], I, G, (gP rd))) := by
  induction n with
  | zero => exact fun I G v1 v2 out h => by rw [L_X13_isAtEdge_112_z] at h; cases h
  | succ n ih =>
    · intro I G v1 v2 out h
      rw [L_X13_isAtEdge_112_0] at h
      refine am_blk 2 [(.iload_n 2, 1, 2, 0, .null), (.aload_n 0, 1, 0, 0, .null), (.getfield 3, 3, 11, 14, .null), (.getfield 67, 3, 12, 11, .null), (.getfield 92, 3, 10, 1, .null)] (13, [(0, .ref 112), (1, .int v1), (2, .int v2)], [.int (I 86 1), .int v2], I, G, (gP rd)) (True) hX hi (by decide +kernel) rfl trivial ?_
      refine am_icmp_ge (tgt := 44) hX hi (off := (31)) (by decide +kernel) (by decide) (fun c13 => ?_) (fun c13 => ?_)
      · rw [if_pos c13] at h
        refine am_blk 44 [(.iconst (0), 1, 0, 0, .int (0 : Int32))] (45, [(0, .ref 112), (1, .int v1), (2, .int v2)], [.int (0 : Int32)], I, G, (gP rd)) (True) hX hi (by decide +kernel) rfl trivial ?_
        cases h
        refine am_iret hX hi rfl (by first | rfl | decide | (simp [narrow]; done)) (by decide +kernel) ?_
        exact ⟨rfl, rfl, rfl, rfl⟩
      · rw [if_neg c13] at h
        refine am_blk 16 [(.aload_n 0, 1, 0, 0, .null), (.aload_n 0, 1, 0, 0, .null), (.getfield 3, 3, 11, 14, .null), (.getfield 67, 3, 12, 11, .null), (.getfield 87, 3, 10, 0, .null), (.iload_n 2, 1, 2, 0, .null), (.imul, 1, 0, 0, .null)] (29, [(0, .ref 112), (1, .int v1), (2, .int v2)], [.int ((I 86 0) * v2), .ref 112], I, G, (gP rd)) (True) hX hi (by decide +kernel) rfl trivial ?_
        obtain ⟨r101, I101, G101, hc, h⟩ := rb_some h
        refine am_callV hX hi (M := mX13_ink) (idx := 167) (d' := 9) (b := 112) (ci := 11) (As := [.int ((I 86 0) * v2)]) (rest := []) mkX13_ink miX13_ink mvX13_ink (by decide +kernel) (by decide +kernel) rfl (by decide +kernel) rfl ⟨by omega, by decide, Nat.le_of_ble_eq_true rfl⟩ rfl (c_X13_ink_112 _ I G ((I 86 0) * v2) hc) ?_
        rintro r9 I9 G9 P9 ⟨e0, e1, e2, e3⟩
        rw [e0, e1, e2, e3]
        show am_V X 0 0 _ _ ad (32, [(0, .ref 112), (1, .int v1), (2, .int v2)], [.int r101], I101, G101, (gP rd))
        refine am_blk 32 [(.iload_n 1, 1, 1, 0, .null)] (33, [(0, .ref 112), (1, .int v1), (2, .int v2)], [.int v1, .int r101], I101, G101, (gP rd)) (True) hX hi (by decide +kernel) rfl trivial ?_
        refine am_icmp_ne (tgt := 38) hX hi (off := (5)) (by decide +kernel) (by decide) (fun c33 => ?_) (fun c33 => ?_)
        · rw [if_neg c33] at h
          refine am_blk 38 [(.iinc 2 (1), 3, 2, 0, .int (1 : Int32)), (.goto (-39), 3, 0, 2, .null)] (2, [(0, .ref 112), (1, .int v1), (2, .int (v2 + (1 : Int32)))], [], I101, G101, (gP rd)) (True) hX hi (by decide +kernel) rfl trivial ?_
          exact ih _ _ _ _ _ h
        · rw [if_pos c33] at h
          refine am_blk 36 [(.iconst (1), 1, 0, 0, .int (1 : Int32))] (37, [(0, .ref 112), (1, .int v1), (2, .int v2)], [.int (1 : Int32)], I101, G101, (gP rd)) (True) hX hi (by decide +kernel) rfl trivial ?_
          cases h
          refine am_iret hX hi rfl (by first | rfl | decide | (simp [narrow]; done)) (by decide +kernel) ?_
          exact ⟨rfl, rfl, rfl, rfl⟩
set_option maxRecDepth 20000 in
set_option maxHeartbeats 4000000 in
theorem c_X13_isAtEdge_112 (rd : Nat) (I : am_I) (G : am_G) (x1 : Int32) {out : Int32 × am_I × am_G} (h : R_X13_isAtEdge_112 I G x1 = some out) : am_Ct mX13_isAtEdge 10 gS [.ref 112, .int x1] I G (gP rd) (pI out.1 out.2.1 out.2.2 (gP rd)) := by
  refine am_ofF (by decide +kernel) rfl (by decide) (by omega) (Nat.le_of_ble_eq_true rfl) (fun X ad hX hi => ?_)
  have hi : am_info X 11 cX13_isAtEdge 3 false (Option.some Jvm.ClassFile.FieldType.boolean) 10 := hi
  show am_V X 0 0 _ _ ad (0, [(0, .ref 112), (1, .int x1)], [], I, G, (gP rd))
  unfold R_X13_isAtEdge_112 at h
  refine am_blk 0 [(.iconst (0), 1, 0, 0, .int (0 : Int32)), (.istore_n 2, 1, 2, 0, .null)] (2, [(0, .ref 112), (1, .int x1), (2, .int (0 : Int32))], [], I, G, (gP rd)) (True) hX hi (by decide +kernel) rfl trivial ?_
  exact (l_X13_isAtEdge_112 rd hX hi FU) _ _ _ _ _ h
noncomputable def L_X13_highest_102 (n0 : Nat) (hd : Nat) (I : am_I) (G : am_G) (v1 : Int32) (v2 : Int32) (v3 : Int32) : Option (Int32 × am_I × am_G) := match n0 with
  | 0 => none
  | n + 1 => match hd with
    | _ => (if (f_X12_spots_86 I G ) ≤ v3 then some (v2, I, G) else (if v1 = 0 then rb (R_X13_height_102 I G v3) (fun r101 I101 G101 => L_X13_highest_102 n 0 I101 G101 v1 (if r101 < v2 then r101 else v2) (v3 + (1 : Int32))) else rb (R_X13_height_102 I G v3) (fun r102 I102 G102 => L_X13_highest_102 n 0 I102 G102 v1 (if v2 < r102 then r102 else v2) (v3 + (1 : Int32)))))
theorem L_X13_highest_102_0 (n : Nat) (I : am_I) (G : am_G) (v1 : Int32) (v2 : Int32) (v3 : Int32) : L_X13_highest_102 (n + 1) 0 I G v1 v2 v3 = (if (f_X12_spots_86 I G ) ≤ v3 then some (v2, I, G) else (if v1 = 0 then rb (R_X13_height_102 I G v3) (fun r101 I101 G101 => L_X13_highest_102 n 0 I101 G101 v1 (if r101 < v2 then r101 else v2) (v3 + (1 : Int32))) else rb (R_X13_height_102 I G v3) (fun r102 I102 G102 => L_X13_highest_102 n 0 I102 G102 v1 (if v2 < r102 then r102 else v2) (v3 + (1 : Int32))))) := rfl
theorem L_X13_highest_102_z (h : Nat) (I : am_I) (G : am_G) (v1 : Int32) (v2 : Int32) (v3 : Int32) : L_X13_highest_102 0 h I G v1 v2 v3 = none := rfl
noncomputable def R_X13_highest_102 (I : am_I) (G : am_G) (x1 : Int32) : Option (Int32 × am_I × am_G) := rb (R_X13_height_102 I G (0 : Int32)) (fun r1 I1 G1 => L_X13_highest_102 FU 0 I1 G1 x1 r1 (1 : Int32))
set_option maxRecDepth 20000 in
set_option maxHeartbeats 4000000 in
theorem l_X13_highest_102 (rd : Nat) {X : am_X} {ad : Nat → Nat} (hX : am_okz X ad) (hi : am_info X 11 cX13_highest 4 false (Option.some Jvm.ClassFile.FieldType.int) 10) (n : Nat) : (∀ (I : am_I) (G : am_G) (v1 : Int32) (v2 : Int32) (v3 : Int32) (out : Int32 × am_I × am_G), L_X13_highest_102 n 0 I G v1 v2 v3 = some out → am_V X 0 0 (am_Rt X gS ad (pI out.1 out.2.1 out.2.2 (gP rd))) gS ad (8, [(0, .ref 102), (1, .int v1), (2, .int v2), (3, .int v3)], [], I, G, (gP rd))) := by
  induction n with
  | zero => exact fun I G v1 v2 v3 out h => by rw [L_X13_highest_102_z] at h; cases h
  | succ n ih =>
    · intro I G v1 v2 v3 out h
      rw [L_X13_highest_102_0] at h
      refine am_blk 8 [(.iload_n 3, 1, 3, 0, .null), (.aload_n 0, 1, 0, 0, .null), (.getfield 3, 3, 11, 14, .null), (.getfield 67, 3, 12, 11, .null)] (16, [(0, .ref 102), (1, .int v1), (2, .int v2), (3, .int v3)], [.ref 86, .int v3], I, G, (gP rd)) (True) hX hi (by decide +kernel) rfl trivial ?_
      refine am_callV hX hi (M := mX12_spots) (idx := 107) (d' := 1) (b := 86) (ci := 10) (As := []) (rest := [.int v3]) mkX12_spots miX12_spots mvX12_spots (by decide +kernel) (by decide +kernel) rfl (by decide +kernel) rfl ⟨by omega, by decide, Nat.le_of_ble_eq_true rfl⟩ rfl (c_X12_spots_86 _ I G ) ?_
      rintro r9 I9 G9 P9 ⟨e0, e1, e2, e3⟩
      rw [e0, e1, e2, e3]
      show am_V X 0 0 _ _ ad (19, [(0, .ref 102), (1, .int v1), (2, .int v2), (3, .int v3)], [.int (f_X12_spots_86 I G ), .int v3], I, G, (gP rd))
      refine am_icmp_ge (tgt := 54) hX hi (off := (35)) (by decide +kernel) (by decide) (fun c19 => ?_) (fun c19 => ?_)
      · rw [if_pos c19] at h
        refine am_blk 54 [(.iload_n 2, 1, 2, 0, .null)] (55, [(0, .ref 102), (1, .int v1), (2, .int v2), (3, .int v3)], [.int v2], I, G, (gP rd)) (True) hX hi (by decide +kernel) rfl trivial ?_
        cases h
        refine am_iret hX hi rfl rfl (by decide +kernel) ?_
        exact ⟨rfl, rfl, rfl, rfl⟩
      · rw [if_neg c19] at h
        refine am_blk 22 [(.iload_n 1, 1, 1, 0, .null)] (23, [(0, .ref 102), (1, .int v1), (2, .int v2), (3, .int v3)], [.int v1], I, G, (gP rd)) (True) hX hi (by decide +kernel) rfl trivial ?_
        refine am_if_eq (tgt := 38) hX hi (off := (15)) (by decide +kernel) (by decide) (fun c23 => ?_) (fun c23 => ?_)
        · rw [if_pos c23] at h
          refine am_blk 38 [(.iload_n 2, 1, 2, 0, .null), (.aload_n 0, 1, 0, 0, .null), (.iload_n 3, 1, 3, 0, .null)] (41, [(0, .ref 102), (1, .int v1), (2, .int v2), (3, .int v3)], [.int v3, .ref 102, .int v2], I, G, (gP rd)) (True) hX hi (by decide +kernel) rfl trivial ?_
          obtain ⟨r101, I101, G101, hc, h⟩ := rb_some h
          refine am_callV hX hi (M := mX13_height) (idx := 169) (d' := 9) (b := 102) (ci := 11) (As := [.int v3]) (rest := [.int v2]) mkX13_height miX13_height mvX13_height (by decide +kernel) (by decide +kernel) rfl (by decide +kernel) rfl ⟨by omega, by decide, Nat.le_of_ble_eq_true rfl⟩ rfl (c_X13_height_102 _ I G v3 hc) ?_
          rintro r9 I9 G9 P9 ⟨e0, e1, e2, e3⟩
          rw [e0, e1, e2, e3]
          show am_V X 0 0 _ _ ad (44, [(0, .ref 102), (1, .int v1), (2, .int v2), (3, .int v3)], [.int r101, .int v2], I101, G101, (gP rd))
          refine am_blk 44 [(.invokestatic 130, 3, 1, 0, .null), (.istore_n 2, 1, 2, 0, .null), (.iinc 3 (1), 3, 3, 0, .int (1 : Int32)), (.goto (-43), 3, 0, 8, .null)] (8, [(0, .ref 102), (1, .int v1), (2, .int (if r101 < v2 then r101 else v2)), (3, .int (v3 + (1 : Int32)))], [], I101, G101, (gP rd)) (True) hX hi (by decide +kernel) rfl trivial ?_
          exact ih _ _ _ _ _ _ h
        · rw [if_neg c23] at h
          refine am_blk 26 [(.iload_n 2, 1, 2, 0, .null), (.aload_n 0, 1, 0, 0, .null), (.iload_n 3, 1, 3, 0, .null)] (29, [(0, .ref 102), (1, .int v1), (2, .int v2), (3, .int v3)], [.int v3, .ref 102, .int v2], I, G, (gP rd)) (True) hX hi (by decide +kernel) rfl trivial ?_
          obtain ⟨r102, I102, G102, hc, h⟩ := rb_some h
          refine am_callV hX hi (M := mX13_height) (idx := 169) (d' := 9) (b := 102) (ci := 11) (As := [.int v3]) (rest := [.int v2]) mkX13_height miX13_height mvX13_height (by decide +kernel) (by decide +kernel) rfl (by decide +kernel) rfl ⟨by omega, by decide, Nat.le_of_ble_eq_true rfl⟩ rfl (c_X13_height_102 _ I G v3 hc) ?_
          rintro r9 I9 G9 P9 ⟨e0, e1, e2, e3⟩
          rw [e0, e1, e2, e3]
          show am_V X 0 0 _ _ ad (32, [(0, .ref 102), (1, .int v1), (2, .int v2), (3, .int v3)], [.int r102, .int v2], I102, G102, (gP rd))
          refine am_blk 32 [(.invokestatic 153, 3, 2, 0, .null), (.goto (12), 3, 0, 47, .null), (.istore_n 2, 1, 2, 0, .null), (.iinc 3 (1), 3, 3, 0, .int (1 : Int32)), (.goto (-43), 3, 0, 8, .null)] (8, [(0, .ref 102), (1, .int v1), (2, .int (if v2 < r102 then r102 else v2)), (3, .int (v3 + (1 : Int32)))], [], I102, G102, (gP rd)) (True) hX hi (by decide +kernel) rfl trivial ?_
          exact ih _ _ _ _ _ _ h
set_option maxRecDepth 20000 in
set_option maxHeartbeats 4000000 in
theorem c_X13_highest_102 (rd : Nat) (I : am_I) (G : am_G) (x1 : Int32) {out : Int32 × am_I × am_G} (h : R_X13_highest_102 I G x1 = some out) : am_Ct mX13_highest 10 gS [.ref 102, .int x1] I G (gP rd) (pI out.1 out.2.1 out.2.2 (gP rd)) := by
  refine am_ofF (by decide +kernel) rfl (by decide) (by omega) (Nat.le_of_ble_eq_true rfl) (fun X ad hX hi => ?_)
  have hi : am_info X 11 cX13_highest 4 false (Option.some Jvm.ClassFile.FieldType.int) 10 := hi
  show am_V X 0 0 _ _ ad (0, [(0, .ref 102), (1, .int x1)], [], I, G, (gP rd))
  unfold R_X13_highest_102 at h
  refine am_blk 0 [(.aload_n 0, 1, 0, 0, .null), (.iconst (0), 1, 0, 0, .int (0 : Int32))] (2, [(0, .ref 102), (1, .int x1)], [.int (0 : Int32), .ref 102], I, G, (gP rd)) (True) hX hi (by decide +kernel) rfl trivial ?_
  obtain ⟨r1, I1, G1, hc, h⟩ := rb_some h
  refine am_callV hX hi (M := mX13_height) (idx := 169) (d' := 9) (b := 102) (ci := 11) (As := [.int (0 : Int32)]) (rest := []) mkX13_height miX13_height mvX13_height (by decide +kernel) (by decide +kernel) rfl (by decide +kernel) rfl ⟨by omega, by decide, Nat.le_of_ble_eq_true rfl⟩ rfl (c_X13_height_102 _ I G (0 : Int32) hc) ?_
  rintro r9 I9 G9 P9 ⟨e0, e1, e2, e3⟩
  rw [e0, e1, e2, e3]
  show am_V X 0 0 _ _ ad (5, [(0, .ref 102), (1, .int x1)], [.int r1], I1, G1, (gP rd))
  refine am_blk 5 [(.istore_n 2, 1, 2, 0, .null), (.iconst (1), 1, 0, 0, .int (1 : Int32)), (.istore_n 3, 1, 3, 0, .null)] (8, [(0, .ref 102), (1, .int x1), (2, .int r1), (3, .int (1 : Int32))], [], I1, G1, (gP rd)) (True) hX hi (by decide +kernel) rfl trivial ?_
  exact (l_X13_highest_102 rd hX hi FU) _ _ _ _ _ _ h
noncomputable def L_X13_highest_112 (n0 : Nat) (hd : Nat) (I : am_I) (G : am_G) (v1 : Int32) (v2 : Int32) (v3 : Int32) : Option (Int32 × am_I × am_G) := match n0 with
  | 0 => none
  | n + 1 => match hd with
    | _ => (if (f_X12_spots_86 I G ) ≤ v3 then some (v2, I, G) else (if v1 = 0 then rb (R_X13_height_112 I G v3) (fun r101 I101 G101 => L_X13_highest_112 n 0 I101 G101 v1 (if r101 < v2 then r101 else v2) (v3 + (1 : Int32))) else rb (R_X13_height_112 I G v3) (fun r102 I102 G102 => L_X13_highest_112 n 0 I102 G102 v1 (if v2 < r102 then r102 else v2) (v3 + (1 : Int32)))))
theorem L_X13_highest_112_0 (n : Nat) (I : am_I) (G : am_G) (v1 : Int32) (v2 : Int32) (v3 : Int32) : L_X13_highest_112 (n + 1) 0 I G v1 v2 v3 = (if (f_X12_spots_86 I G ) ≤ v3 then some (v2, I, G) else (if v1 = 0 then rb (R_X13_height_112 I G v3) (fun r101 I101 G101 => L_X13_highest_112 n 0 I101 G101 v1 (if r101 < v2 then r101 else v2) (v3 + (1 : Int32))) else rb (R_X13_height_112 I G v3) (fun r102 I102 G102 => L_X13_highest_112 n 0 I102 G102 v1 (if v2 < r102 then r102 else v2) (v3 + (1 : Int32))))) := rfl
theorem L_X13_highest_112_z (h : Nat) (I : am_I) (G : am_G) (v1 : Int32) (v2 : Int32) (v3 : Int32) : L_X13_highest_112 0 h I G v1 v2 v3 = none := rfl
noncomputable def R_X13_highest_112 (I : am_I) (G : am_G) (x1 : Int32) : Option (Int32 × am_I × am_G) := rb (R_X13_height_112 I G (0 : Int32)) (fun r1 I1 G1 => L_X13_highest_112 FU 0 I1 G1 x1 r1 (1 : Int32))
set_option maxRecDepth 20000 in
set_option maxHeartbeats 4000000 in
theorem l_X13_highest_112 (rd : Nat) {X : am_X} {ad : Nat → Nat} (hX : am_okz X ad) (hi : am_info X 11 cX13_highest 4 false (Option.some Jvm.ClassFile.FieldType.int) 10) (n : Nat) : (∀ (I : am_I) (G : am_G) (v1 : Int32) (v2 : Int32) (v3 : Int32) (out : Int32 × am_I × am_G), L_X13_highest_112 n 0 I G v1 v2 v3 = some out → am_V X 0 0 (am_Rt X gS ad (pI out.1 out.2.1 out.2.2 (gP rd))) gS ad (8, [(0, .ref 112), (1, .int v1), (2, .int v2), (3, .int v3)], [], I, G, (gP rd))) := by
  induction n with
  | zero => exact fun I G v1 v2 v3 out h => by rw [L_X13_highest_112_z] at h; cases h
  | succ n ih =>
    · intro I G v1 v2 v3 out h
      rw [L_X13_highest_112_0] at h
      refine am_blk 8 [(.iload_n 3, 1, 3, 0, .null), (.aload_n 0, 1, 0, 0, .null), (.getfield 3, 3, 11, 14, .null), (.getfield 67, 3, 12, 11, .null)] (16, [(0, .ref 112), (1, .int v1), (2, .int v2), (3, .int v3)], [.ref 86, .int v3], I, G, (gP rd)) (True) hX hi (by decide +kernel) rfl trivial ?_
      refine am_callV hX hi (M := mX12_spots) (idx := 107) (d' := 1) (b := 86) (ci := 10) (As := []) (rest := [.int v3]) mkX12_spots miX12_spots mvX12_spots (by decide +kernel) (by decide +kernel) rfl (by decide +kernel) rfl ⟨by omega, by decide, Nat.le_of_ble_eq_true rfl⟩ rfl (c_X12_spots_86 _ I G ) ?_
      rintro r9 I9 G9 P9 ⟨e0, e1, e2, e3⟩
      rw [e0, e1, e2, e3]
      show am_V X 0 0 _ _ ad (19, [(0, .ref 112), (1, .int v1), (2, .int v2), (3, .int v3)], [.int (f_X12_spots_86 I G ), .int v3], I, G, (gP rd))
      refine am_icmp_ge (tgt := 54) hX hi (off := (35)) (by decide +kernel) (by decide) (fun c19 => ?_) (fun c19 => ?_)
      · rw [if_pos c19] at h
        refine am_blk 54 [(.iload_n 2, 1, 2, 0, .null)] (55, [(0, .ref 112), (1, .int v1), (2, .int v2), (3, .int v3)], [.int v2], I, G, (gP rd)) (True) hX hi (by decide +kernel) rfl trivial ?_
        cases h
        refine am_iret hX hi rfl rfl (by decide +kernel) ?_
        exact ⟨rfl, rfl, rfl, rfl⟩
      · rw [if_neg c19] at h
        refine am_blk 22 [(.iload_n 1, 1, 1, 0, .null)] (23, [(0, .ref 112), (1, .int v1), (2, .int v2), (3, .int v3)], [.int v1], I, G, (gP rd)) (True) hX hi (by decide +kernel) rfl trivial ?_
        refine am_if_eq (tgt := 38) hX hi (off := (15)) (by decide +kernel) (by decide) (fun c23 => ?_) (fun c23 => ?_)
        · rw [if_pos c23] at h
          refine am_blk 38 [(.iload_n 2, 1, 2, 0, .null), (.aload_n 0, 1, 0, 0, .null), (.iload_n 3, 1, 3, 0, .null)] (41, [(0, .ref 112), (1, .int v1), (2, .int v2), (3, .int v3)], [.int v3, .ref 112, .int v2], I, G, (gP rd)) (True) hX hi (by decide +kernel) rfl trivial ?_
          obtain ⟨r101, I101, G101, hc, h⟩ := rb_some h
          refine am_callV hX hi (M := mX13_height) (idx := 169) (d' := 9) (b := 112) (ci := 11) (As := [.int v3]) (rest := [.int v2]) mkX13_height miX13_height mvX13_height (by decide +kernel) (by decide +kernel) rfl (by decide +kernel) rfl ⟨by omega, by decide, Nat.le_of_ble_eq_true rfl⟩ rfl (c_X13_height_112 _ I G v3 hc) ?_
          rintro r9 I9 G9 P9 ⟨e0, e1, e2, e3⟩
          rw [e0, e1, e2, e3]
          show am_V X 0 0 _ _ ad (44, [(0, .ref 112), (1, .int v1), (2, .int v2), (3, .int v3)], [.int r101, .int v2], I101, G101, (gP rd))
          refine am_blk 44 [(.invokestatic 130, 3, 1, 0, .null), (.istore_n 2, 1, 2, 0, .null), (.iinc 3 (1), 3, 3, 0, .int (1 : Int32)), (.goto (-43), 3, 0, 8, .null)] (8, [(0, .ref 112), (1, .int v1), (2, .int (if r101 < v2 then r101 else v2)), (3, .int (v3 + (1 : Int32)))], [], I101, G101, (gP rd)) (True) hX hi (by decide +kernel) rfl trivial ?_
          exact ih _ _ _ _ _ _ h
        · rw [if_neg c23] at h
          refine am_blk 26 [(.iload_n 2, 1, 2, 0, .null), (.aload_n 0, 1, 0, 0, .null), (.iload_n 3, 1, 3, 0, .null)] (29, [(0, .ref 112), (1, .int v1), (2, .int v2), (3, .int v3)], [.int v3, .ref 112, .int v2], I, G, (gP rd)) (True) hX hi (by decide +kernel) rfl trivial ?_
          obtain ⟨r102, I102, G102, hc, h⟩ := rb_some h
          refine am_callV hX hi (M := mX13_height) (idx := 169) (d' := 9) (b := 112) (ci := 11) (As := [.int v3]) (rest := [.int v2]) mkX13_height miX13_height mvX13_height (by decide +kernel) (by decide +kernel) rfl (by decide +kernel) rfl ⟨by omega, by decide, Nat.le_of_ble_eq_true rfl⟩ rfl (c_X13_height_112 _ I G v3 hc) ?_
          rintro r9 I9 G9 P9 ⟨e0, e1, e2, e3⟩
          rw [e0, e1, e2, e3]
          show am_V X 0 0 _ _ ad (32, [(0, .ref 112), (1, .int v1), (2, .int v2), (3, .int v3)], [.int r102, .int v2], I102, G102, (gP rd))
          refine am_blk 32 [(.invokestatic 153, 3, 2, 0, .null), (.goto (12), 3, 0, 47, .null), (.istore_n 2, 1, 2, 0, .null), (.iinc 3 (1), 3, 3, 0, .int (1 : Int32)), (.goto (-43), 3, 0, 8, .null)] (8, [(0, .ref 112), (1, .int v1), (2, .int (if v2 < r102 then r102 else v2)), (3, .int (v3 + (1 : Int32)))], [], I102, G102, (gP rd)) (True) hX hi (by decide +kernel) rfl trivial ?_
          exact ih _ _ _ _ _ _ h
set_option maxRecDepth 20000 in
set_option maxHeartbeats 4000000 in
theorem c_X13_highest_112 (rd : Nat) (I : am_I) (G : am_G) (x1 : Int32) {out : Int32 × am_I × am_G} (h : R_X13_highest_112 I G x1 = some out) : am_Ct mX13_highest 10 gS [.ref 112, .int x1] I G (gP rd) (pI out.1 out.2.1 out.2.2 (gP rd)) := by
  refine am_ofF (by decide +kernel) rfl (by decide) (by omega) (Nat.le_of_ble_eq_true rfl) (fun X ad hX hi => ?_)
  have hi : am_info X 11 cX13_highest 4 false (Option.some Jvm.ClassFile.FieldType.int) 10 := hi
  show am_V X 0 0 _ _ ad (0, [(0, .ref 112), (1, .int x1)], [], I, G, (gP rd))
  unfold R_X13_highest_112 at h
  refine am_blk 0 [(.aload_n 0, 1, 0, 0, .null), (.iconst (0), 1, 0, 0, .int (0 : Int32))] (2, [(0, .ref 112), (1, .int x1)], [.int (0 : Int32), .ref 112], I, G, (gP rd)) (True) hX hi (by decide +kernel) rfl trivial ?_
  obtain ⟨r1, I1, G1, hc, h⟩ := rb_some h
  refine am_callV hX hi (M := mX13_height) (idx := 169) (d' := 9) (b := 112) (ci := 11) (As := [.int (0 : Int32)]) (rest := []) mkX13_height miX13_height mvX13_height (by decide +kernel) (by decide +kernel) rfl (by decide +kernel) rfl ⟨by omega, by decide, Nat.le_of_ble_eq_true rfl⟩ rfl (c_X13_height_112 _ I G (0 : Int32) hc) ?_
  rintro r9 I9 G9 P9 ⟨e0, e1, e2, e3⟩
  rw [e0, e1, e2, e3]
  show am_V X 0 0 _ _ ad (5, [(0, .ref 112), (1, .int x1)], [.int r1], I1, G1, (gP rd))
  refine am_blk 5 [(.istore_n 2, 1, 2, 0, .null), (.iconst (1), 1, 0, 0, .int (1 : Int32)), (.istore_n 3, 1, 3, 0, .null)] (8, [(0, .ref 112), (1, .int x1), (2, .int r1), (3, .int (1 : Int32))], [], I1, G1, (gP rd)) (True) hX hi (by decide +kernel) rfl trivial ?_
  exact (l_X13_highest_112 rd hX hi FU) _ _ _ _ _ _ h
noncomputable def L_X13_goOver_102 (n0 : Nat) (hd : Nat) (I : am_I) (G : am_G) (v1 : Int32) (v2 : Int32) (v3 : Int32) (v4 : Int32) : Option (Int32 × am_I × am_G) := match n0 with
  | 0 => none
  | n + 1 => match hd with
    | 0 => (if v2 ≤ v3 then some (v2, I, G) else L_X13_goOver_102 n 1 I G v1 v2 v3 (0 : Int32))
    | _ => (if (4 : Int32) ≤ v4 then L_X13_goOver_102 n 0 I G v1 v2 (v3 + (1 : Int32)) 0 else rg (vp_in v3 576) (rg (q_X13_beside_102 I G (I 111 v3.toNatClampNeg) v4) (rg (vp_in (f_X13_beside_102 I G (I 111 v3.toNatClampNeg) v4) 576) ((if (I 110 (f_X13_beside_102 I G (I 111 v3.toNatClampNeg) v4).toNatClampNeg) = 0 then rb (R_X13_ink_102 I G (f_X13_beside_102 I G (I 111 v3.toNatClampNeg) v4)) (fun r201 I201 G201 => rb (R_X13_ink_102 I201 G201 v1) (fun r202 I202 G202 => (if r201 = r202 then rg ((vp_in (f_X13_beside_102 I G (I 111 v3.toNatClampNeg) v4) 576 ∧ ((1 : Int32) = 0 ∨ (1 : Int32) = 1))) (rg (vp_in v2 576) (L_X13_goOver_102 n 1 (am_up (am_up I202 110 (f_X13_beside_102 I G (I 111 v3.toNatClampNeg) v4).toNatClampNeg (1 : Int32)) 111 v2.toNatClampNeg (f_X13_beside_102 I G (I 111 v3.toNatClampNeg) v4)) G202 v1 (v2 + (1 : Int32)) v3 (v4 + (1 : Int32)))) else L_X13_goOver_102 n 1 I202 G202 v1 v2 v3 (v4 + (1 : Int32))))) else L_X13_goOver_102 n 1 I G v1 v2 v3 (v4 + (1 : Int32)))))))
theorem L_X13_goOver_102_0 (n : Nat) (I : am_I) (G : am_G) (v1 : Int32) (v2 : Int32) (v3 : Int32) (v4 : Int32) : L_X13_goOver_102 (n + 1) 0 I G v1 v2 v3 v4 = (if v2 ≤ v3 then some (v2, I, G) else L_X13_goOver_102 n 1 I G v1 v2 v3 (0 : Int32)) := rfl
theorem L_X13_goOver_102_1 (n : Nat) (I : am_I) (G : am_G) (v1 : Int32) (v2 : Int32) (v3 : Int32) (v4 : Int32) : L_X13_goOver_102 (n + 1) 1 I G v1 v2 v3 v4 = (if (4 : Int32) ≤ v4 then L_X13_goOver_102 n 0 I G v1 v2 (v3 + (1 : Int32)) 0 else rg (vp_in v3 576) (rg (q_X13_beside_102 I G (I 111 v3.toNatClampNeg) v4) (rg (vp_in (f_X13_beside_102 I G (I 111 v3.toNatClampNeg) v4) 576) ((if (I 110 (f_X13_beside_102 I G (I 111 v3.toNatClampNeg) v4).toNatClampNeg) = 0 then rb (R_X13_ink_102 I G (f_X13_beside_102 I G (I 111 v3.toNatClampNeg) v4)) (fun r201 I201 G201 => rb (R_X13_ink_102 I201 G201 v1) (fun r202 I202 G202 => (if r201 = r202 then rg ((vp_in (f_X13_beside_102 I G (I 111 v3.toNatClampNeg) v4) 576 ∧ ((1 : Int32) = 0 ∨ (1 : Int32) = 1))) (rg (vp_in v2 576) (L_X13_goOver_102 n 1 (am_up (am_up I202 110 (f_X13_beside_102 I G (I 111 v3.toNatClampNeg) v4).toNatClampNeg (1 : Int32)) 111 v2.toNatClampNeg (f_X13_beside_102 I G (I 111 v3.toNatClampNeg) v4)) G202 v1 (v2 + (1 : Int32)) v3 (v4 + (1 : Int32)))) else L_X13_goOver_102 n 1 I202 G202 v1 v2 v3 (v4 + (1 : Int32))))) else L_X13_goOver_102 n 1 I G v1 v2 v3 (v4 + (1 : Int32))))))) := rfl
theorem L_X13_goOver_102_z (h : Nat) (I : am_I) (G : am_G) (v1 : Int32) (v2 : Int32) (v3 : Int32) (v4 : Int32) : L_X13_goOver_102 0 h I G v1 v2 v3 v4 = none := rfl
noncomputable def R_X13_goOver_102 (I : am_I) (G : am_G) (x1 : Int32) : Option (Int32 × am_I × am_G) := rg (vp_in (0 : Int32) 576) (rg ((vp_in x1 576 ∧ ((1 : Int32) = 0 ∨ (1 : Int32) = 1))) (L_X13_goOver_102 FU 0 (am_up (am_up I 111 (0 : Int32).toNatClampNeg x1) 110 x1.toNatClampNeg (1 : Int32)) G x1 (1 : Int32) (0 : Int32) 0))
set_option maxRecDepth 20000 in
set_option maxHeartbeats 4000000 in
theorem l_X13_goOver_102 (rd : Nat) {X : am_X} {ad : Nat → Nat} (hX : am_okz X ad) (hi : am_info X 11 cX13_goOver 6 false (Option.some Jvm.ClassFile.FieldType.int) 10) (n : Nat) : (∀ (I : am_I) (G : am_G) (v1 : Int32) (v2 : Int32) (v3 : Int32) (v4 : Int32) (out : Int32 × am_I × am_G), L_X13_goOver_102 n 0 I G v1 v2 v3 v4 = some out → am_V X 0 0 (am_Rt X gS ad (pI out.1 out.2.1 out.2.2 (gP rd))) gS ad (18, [(0, .ref 102), (1, .int v1), (2, .int v2), (3, .int v3)], [], I, G, (gP rd))) ∧ (∀ (I : am_I) (G : am_G) (v1 : Int32) (v2 : Int32) (v3 : Int32) (v4 : Int32) (out : Int32 × am_I × am_G), L_X13_goOver_102 n 1 I G v1 v2 v3 v4 = some out → am_V X 0 0 (am_Rt X gS ad (pI out.1 out.2.1 out.2.2 (gP rd))) gS ad (26, [(0, .ref 102), (1, .int v1), (2, .int v2), (3, .int v3), (4, .int v4)], [], I, G, (gP rd))) := by
  induction n with
  | zero => exact ⟨(fun I G v1 v2 v3 v4 out h => by rw [L_X13_goOver_102_z] at h; cases h), (fun I G v1 v2 v3 v4 out h => by rw [L_X13_goOver_102_z] at h; cases h)⟩
  | succ n ih =>
    refine ⟨?_, ?_⟩
    · intro I G v1 v2 v3 v4 out h
      rw [L_X13_goOver_102_0] at h
      refine am_blk 18 [(.iload_n 3, 1, 3, 0, .null), (.iload_n 2, 1, 2, 0, .null)] (20, [(0, .ref 102), (1, .int v1), (2, .int v2), (3, .int v3)], [.int v2, .int v3], I, G, (gP rd)) (True) hX hi (by decide +kernel) rfl trivial ?_
      refine am_icmp_ge (tgt := 104) hX hi (off := (84)) (by decide +kernel) (by decide) (fun c20 => ?_) (fun c20 => ?_)
      · rw [if_pos c20] at h
        refine am_blk 104 [(.iload_n 2, 1, 2, 0, .null)] (105, [(0, .ref 102), (1, .int v1), (2, .int v2), (3, .int v3)], [.int v2], I, G, (gP rd)) (True) hX hi (by decide +kernel) rfl trivial ?_
        cases h
        refine am_iret hX hi rfl rfl (by decide +kernel) ?_
        exact ⟨rfl, rfl, rfl, rfl⟩
      · rw [if_neg c20] at h
        refine am_blk 23 [(.iconst (0), 1, 0, 0, .int (0 : Int32)), (.istore 4, 2, 4, 0, .null)] (26, [(0, .ref 102), (1, .int v1), (2, .int v2), (3, .int v3), (4, .int (0 : Int32))], [], I, G, (gP rd)) (True) hX hi (by decide +kernel) rfl trivial ?_
        exact ih.2 _ _ _ _ _ _ _ h
    · intro I G v1 v2 v3 v4 out h
      rw [L_X13_goOver_102_1] at h
      refine am_blk 26 [(.iload 4, 2, 4, 0, .null), (.iconst (4), 1, 0, 0, .int (4 : Int32))] (29, [(0, .ref 102), (1, .int v1), (2, .int v2), (3, .int v3), (4, .int v4)], [.int (4 : Int32), .int v4], I, G, (gP rd)) (True) hX hi (by decide +kernel) rfl trivial ?_
      refine am_icmp_ge (tgt := 98) hX hi (off := (69)) (by decide +kernel) (by decide) (fun c29 => ?_) (fun c29 => ?_)
      · rw [if_pos c29] at h
        refine am_blk 98 [(.iinc 3 (1), 3, 3, 0, .int (1 : Int32)), (.goto (-83), 3, 0, 18, .null)] (18, [(0, .ref 102), (1, .int v1), (2, .int v2), (3, .int (v3 + (1 : Int32))), (4, .int v4)], [], I, G, (gP rd)) (True) hX hi (by decide +kernel) rfl trivial ?_
        refine am_sub (L' := [(0, .ref 102), (1, .int v1), (2, .int v2), (3, .int (v3 + (1 : Int32)))]) (by simp) ?_
        exact ih.1 _ _ _ _ _ _ _ h
      · rw [if_neg c29] at h
        obtain ⟨g0, h⟩ := rg_some h
        refine am_blk 32 [(.aload_n 0, 1, 0, 0, .null), (.aload_n 0, 1, 0, 0, .null), (.getfield 41, 3, 11, 13, .null), (.iload_n 3, 1, 3, 0, .null), (.iaload, 1, 0, 0, .null), (.iload 4, 2, 4, 0, .null)] (41, [(0, .ref 102), (1, .int v1), (2, .int v2), (3, .int v3), (4, .int v4)], [.int v4, .int (I 111 v3.toNatClampNeg), .ref 102], I, G, (gP rd)) (vp_in v3 576 ∧ True) hX hi (by decide +kernel) rfl ⟨g0, trivial⟩ ?_
        obtain ⟨hq1, h⟩ := rg_some h
        refine am_callV hX hi (M := mX13_beside) (idx := 177) (d' := 3) (b := 102) (ci := 11) (As := [.int (I 111 v3.toNatClampNeg), .int v4]) (rest := []) mkX13_beside miX13_beside mvX13_beside (by decide +kernel) (by decide +kernel) rfl (by decide +kernel) rfl ⟨by omega, by decide, Nat.le_of_ble_eq_true rfl⟩ rfl (c_X13_beside_102 _ I G (I 111 v3.toNatClampNeg) v4 hq1) ?_
        rintro r9 I9 G9 P9 ⟨e0, e1, e2, e3⟩
        rw [e0, e1, e2, e3]
        show am_V X 0 0 _ _ ad (44, [(0, .ref 102), (1, .int v1), (2, .int v2), (3, .int v3), (4, .int v4)], [.int (f_X13_beside_102 I G (I 111 v3.toNatClampNeg) v4)], I, G, (gP rd))
        obtain ⟨g0, h⟩ := rg_some h
        refine am_blk 44 [(.istore 5, 2, 5, 0, .null), (.aload_n 0, 1, 0, 0, .null), (.getfield 38, 3, 11, 12, .null), (.iload 5, 2, 5, 0, .null), (.baload, 1, 0, 0, .null)] (53, [(0, .ref 102), (1, .int v1), (2, .int v2), (3, .int v3), (4, .int v4), (5, .int (f_X13_beside_102 I G (I 111 v3.toNatClampNeg) v4))], [.int (I 110 (f_X13_beside_102 I G (I 111 v3.toNatClampNeg) v4).toNatClampNeg)], I, G, (gP rd)) (vp_in (f_X13_beside_102 I G (I 111 v3.toNatClampNeg) v4) 576 ∧ True) hX hi (by decide +kernel) rfl ⟨g0, trivial⟩ ?_
        refine am_if_ne (tgt := 92) hX hi (off := (39)) (by decide +kernel) (by decide) (fun c53 => ?_) (fun c53 => ?_)
        · rw [if_neg c53] at h
          refine am_blk 92 [(.iinc 4 (1), 3, 4, 0, .int (1 : Int32)), (.goto (-69), 3, 0, 26, .null)] (26, [(0, .ref 102), (1, .int v1), (2, .int v2), (3, .int v3), (4, .int (v4 + (1 : Int32))), (5, .int (f_X13_beside_102 I G (I 111 v3.toNatClampNeg) v4))], [], I, G, (gP rd)) (True) hX hi (by decide +kernel) rfl trivial ?_
          refine am_sub (L' := [(0, .ref 102), (1, .int v1), (2, .int v2), (3, .int v3), (4, .int (v4 + (1 : Int32)))]) (by simp) ?_
          exact ih.2 _ _ _ _ _ _ _ h
        · rw [if_pos c53] at h
          refine am_blk 56 [(.aload_n 0, 1, 0, 0, .null), (.iload 5, 2, 5, 0, .null)] (59, [(0, .ref 102), (1, .int v1), (2, .int v2), (3, .int v3), (4, .int v4), (5, .int (f_X13_beside_102 I G (I 111 v3.toNatClampNeg) v4))], [.int (f_X13_beside_102 I G (I 111 v3.toNatClampNeg) v4), .ref 102], I, G, (gP rd)) (True) hX hi (by decide +kernel) rfl trivial ?_
          obtain ⟨r201, I201, G201, hc, h⟩ := rb_some h
          refine am_callV hX hi (M := mX13_ink) (idx := 167) (d' := 9) (b := 102) (ci := 11) (As := [.int (f_X13_beside_102 I G (I 111 v3.toNatClampNeg) v4)]) (rest := []) mkX13_ink miX13_ink mvX13_ink (by decide +kernel) (by decide +kernel) rfl (by decide +kernel) rfl ⟨by omega, by decide, Nat.le_of_ble_eq_true rfl⟩ rfl (c_X13_ink_102 _ I G (f_X13_beside_102 I G (I 111 v3.toNatClampNeg) v4) hc) ?_
          rintro r9 I9 G9 P9 ⟨e0, e1, e2, e3⟩
          rw [e0, e1, e2, e3]
          show am_V X 0 0 _ _ ad (62, [(0, .ref 102), (1, .int v1), (2, .int v2), (3, .int v3), (4, .int v4), (5, .int (f_X13_beside_102 I G (I 111 v3.toNatClampNeg) v4))], [.int r201], I201, G201, (gP rd))
          refine am_blk 62 [(.aload_n 0, 1, 0, 0, .null), (.iload_n 1, 1, 1, 0, .null)] (64, [(0, .ref 102), (1, .int v1), (2, .int v2), (3, .int v3), (4, .int v4), (5, .int (f_X13_beside_102 I G (I 111 v3.toNatClampNeg) v4))], [.int v1, .ref 102, .int r201], I201, G201, (gP rd)) (True) hX hi (by decide +kernel) rfl trivial ?_
          obtain ⟨r202, I202, G202, hc, h⟩ := rb_some h
          refine am_callV hX hi (M := mX13_ink) (idx := 167) (d' := 9) (b := 102) (ci := 11) (As := [.int v1]) (rest := [.int r201]) mkX13_ink miX13_ink mvX13_ink (by decide +kernel) (by decide +kernel) rfl (by decide +kernel) rfl ⟨by omega, by decide, Nat.le_of_ble_eq_true rfl⟩ rfl (c_X13_ink_102 _ I201 G201 v1 hc) ?_
          rintro r9 I9 G9 P9 ⟨e0, e1, e2, e3⟩
          rw [e0, e1, e2, e3]
          show am_V X 0 0 _ _ ad (67, [(0, .ref 102), (1, .int v1), (2, .int v2), (3, .int v3), (4, .int v4), (5, .int (f_X13_beside_102 I G (I 111 v3.toNatClampNeg) v4))], [.int r202, .int r201], I202, G202, (gP rd))
          refine am_icmp_eq (tgt := 73) hX hi (off := (6)) (by decide +kernel) (by decide) (fun c67 => ?_) (fun c67 => ?_)
          · rw [if_pos c67] at h
            obtain ⟨g0, h⟩ := rg_some h
            obtain ⟨g1, h⟩ := rg_some h
            refine am_blk 73 [(.aload_n 0, 1, 0, 0, .null), (.getfield 38, 3, 11, 12, .null), (.iload 5, 2, 5, 0, .null), (.iconst (1), 1, 0, 0, .int (1 : Int32)), (.bastore, 1, 0, 0, .null), (.aload_n 0, 1, 0, 0, .null), (.getfield 41, 3, 11, 13, .null), (.iload_n 2, 1, 2, 0, .null), (.iload 5, 2, 5, 0, .null), (.iastore, 1, 0, 0, .null), (.iinc 2 (1), 3, 2, 0, .int (1 : Int32)), (.iinc 4 (1), 3, 4, 0, .int (1 : Int32)), (.goto (-69), 3, 0, 26, .null)] (26, [(0, .ref 102), (1, .int v1), (2, .int (v2 + (1 : Int32))), (3, .int v3), (4, .int (v4 + (1 : Int32))), (5, .int (f_X13_beside_102 I G (I 111 v3.toNatClampNeg) v4))], [], (am_up (am_up I202 110 (f_X13_beside_102 I G (I 111 v3.toNatClampNeg) v4).toNatClampNeg (1 : Int32)) 111 v2.toNatClampNeg (f_X13_beside_102 I G (I 111 v3.toNatClampNeg) v4)), G202, (gP rd)) ((vp_in (f_X13_beside_102 I G (I 111 v3.toNatClampNeg) v4) 576 ∧ ((1 : Int32) = 0 ∨ (1 : Int32) = 1)) ∧ vp_in v2 576 ∧ True) hX hi (by decide +kernel) rfl ⟨g0, g1, trivial⟩ ?_
            refine am_sub (L' := [(0, .ref 102), (1, .int v1), (2, .int (v2 + (1 : Int32))), (3, .int v3), (4, .int (v4 + (1 : Int32)))]) (by simp) ?_
            exact ih.2 _ _ _ _ _ _ _ h
          · rw [if_neg c67] at h
            refine am_blk 70 [(.goto (22), 3, 0, 92, .null), (.iinc 4 (1), 3, 4, 0, .int (1 : Int32)), (.goto (-69), 3, 0, 26, .null)] (26, [(0, .ref 102), (1, .int v1), (2, .int v2), (3, .int v3), (4, .int (v4 + (1 : Int32))), (5, .int (f_X13_beside_102 I G (I 111 v3.toNatClampNeg) v4))], [], I202, G202, (gP rd)) (True) hX hi (by decide +kernel) rfl trivial ?_
            refine am_sub (L' := [(0, .ref 102), (1, .int v1), (2, .int v2), (3, .int v3), (4, .int (v4 + (1 : Int32)))]) (by simp) ?_
            exact ih.2 _ _ _ _ _ _ _ h
set_option maxRecDepth 20000 in
set_option maxHeartbeats 4000000 in
theorem c_X13_goOver_102 (rd : Nat) (I : am_I) (G : am_G) (x1 : Int32) {out : Int32 × am_I × am_G} (h : R_X13_goOver_102 I G x1 = some out) : am_Ct mX13_goOver 10 gS [.ref 102, .int x1] I G (gP rd) (pI out.1 out.2.1 out.2.2 (gP rd)) := by
  refine am_ofF (by decide +kernel) rfl (by decide) (by omega) (Nat.le_of_ble_eq_true rfl) (fun X ad hX hi => ?_)
  have hi : am_info X 11 cX13_goOver 6 false (Option.some Jvm.ClassFile.FieldType.int) 10 := hi
  show am_V X 0 0 _ _ ad (0, [(0, .ref 102), (1, .int x1)], [], I, G, (gP rd))
  unfold R_X13_goOver_102 at h
  obtain ⟨g0, h⟩ := rg_some h
  obtain ⟨g1, h⟩ := rg_some h
  refine am_blk 0 [(.iconst (1), 1, 0, 0, .int (1 : Int32)), (.istore_n 2, 1, 2, 0, .null), (.aload_n 0, 1, 0, 0, .null), (.getfield 41, 3, 11, 13, .null), (.iconst (0), 1, 0, 0, .int (0 : Int32)), (.iload_n 1, 1, 1, 0, .null), (.iastore, 1, 0, 0, .null), (.aload_n 0, 1, 0, 0, .null), (.getfield 38, 3, 11, 12, .null), (.iload_n 1, 1, 1, 0, .null), (.iconst (1), 1, 0, 0, .int (1 : Int32)), (.bastore, 1, 0, 0, .null), (.iconst (0), 1, 0, 0, .int (0 : Int32)), (.istore_n 3, 1, 3, 0, .null)] (18, [(0, .ref 102), (1, .int x1), (2, .int (1 : Int32)), (3, .int (0 : Int32))], [], (am_up (am_up I 111 (0 : Int32).toNatClampNeg x1) 110 x1.toNatClampNeg (1 : Int32)), G, (gP rd)) (vp_in (0 : Int32) 576 ∧ (vp_in x1 576 ∧ ((1 : Int32) = 0 ∨ (1 : Int32) = 1)) ∧ True) hX hi (by decide +kernel) rfl ⟨g0, g1, trivial⟩ ?_
  exact (l_X13_goOver_102 rd hX hi FU).1 _ _ _ _ _ _ _ h
noncomputable def L_X13_goOver_112 (n0 : Nat) (hd : Nat) (I : am_I) (G : am_G) (v1 : Int32) (v2 : Int32) (v3 : Int32) (v4 : Int32) : Option (Int32 × am_I × am_G) := match n0 with
  | 0 => none
  | n + 1 => match hd with
    | 0 => (if v2 ≤ v3 then some (v2, I, G) else L_X13_goOver_112 n 1 I G v1 v2 v3 (0 : Int32))
    | _ => (if (4 : Int32) ≤ v4 then L_X13_goOver_112 n 0 I G v1 v2 (v3 + (1 : Int32)) 0 else rg (vp_in v3 576) (rg (q_X13_beside_112 I G (I 121 v3.toNatClampNeg) v4) (rg (vp_in (f_X13_beside_112 I G (I 121 v3.toNatClampNeg) v4) 576) ((if (I 120 (f_X13_beside_112 I G (I 121 v3.toNatClampNeg) v4).toNatClampNeg) = 0 then rb (R_X13_ink_112 I G (f_X13_beside_112 I G (I 121 v3.toNatClampNeg) v4)) (fun r201 I201 G201 => rb (R_X13_ink_112 I201 G201 v1) (fun r202 I202 G202 => (if r201 = r202 then rg ((vp_in (f_X13_beside_112 I G (I 121 v3.toNatClampNeg) v4) 576 ∧ ((1 : Int32) = 0 ∨ (1 : Int32) = 1))) (rg (vp_in v2 576) (L_X13_goOver_112 n 1 (am_up (am_up I202 120 (f_X13_beside_112 I G (I 121 v3.toNatClampNeg) v4).toNatClampNeg (1 : Int32)) 121 v2.toNatClampNeg (f_X13_beside_112 I G (I 121 v3.toNatClampNeg) v4)) G202 v1 (v2 + (1 : Int32)) v3 (v4 + (1 : Int32)))) else L_X13_goOver_112 n 1 I202 G202 v1 v2 v3 (v4 + (1 : Int32))))) else L_X13_goOver_112 n 1 I G v1 v2 v3 (v4 + (1 : Int32)))))))
theorem L_X13_goOver_112_0 (n : Nat) (I : am_I) (G : am_G) (v1 : Int32) (v2 : Int32) (v3 : Int32) (v4 : Int32) : L_X13_goOver_112 (n + 1) 0 I G v1 v2 v3 v4 = (if v2 ≤ v3 then some (v2, I, G) else L_X13_goOver_112 n 1 I G v1 v2 v3 (0 : Int32)) := rfl
theorem L_X13_goOver_112_1 (n : Nat) (I : am_I) (G : am_G) (v1 : Int32) (v2 : Int32) (v3 : Int32) (v4 : Int32) : L_X13_goOver_112 (n + 1) 1 I G v1 v2 v3 v4 = (if (4 : Int32) ≤ v4 then L_X13_goOver_112 n 0 I G v1 v2 (v3 + (1 : Int32)) 0 else rg (vp_in v3 576) (rg (q_X13_beside_112 I G (I 121 v3.toNatClampNeg) v4) (rg (vp_in (f_X13_beside_112 I G (I 121 v3.toNatClampNeg) v4) 576) ((if (I 120 (f_X13_beside_112 I G (I 121 v3.toNatClampNeg) v4).toNatClampNeg) = 0 then rb (R_X13_ink_112 I G (f_X13_beside_112 I G (I 121 v3.toNatClampNeg) v4)) (fun r201 I201 G201 => rb (R_X13_ink_112 I201 G201 v1) (fun r202 I202 G202 => (if r201 = r202 then rg ((vp_in (f_X13_beside_112 I G (I 121 v3.toNatClampNeg) v4) 576 ∧ ((1 : Int32) = 0 ∨ (1 : Int32) = 1))) (rg (vp_in v2 576) (L_X13_goOver_112 n 1 (am_up (am_up I202 120 (f_X13_beside_112 I G (I 121 v3.toNatClampNeg) v4).toNatClampNeg (1 : Int32)) 121 v2.toNatClampNeg (f_X13_beside_112 I G (I 121 v3.toNatClampNeg) v4)) G202 v1 (v2 + (1 : Int32)) v3 (v4 + (1 : Int32)))) else L_X13_goOver_112 n 1 I202 G202 v1 v2 v3 (v4 + (1 : Int32))))) else L_X13_goOver_112 n 1 I G v1 v2 v3 (v4 + (1 : Int32))))))) := rfl
theorem L_X13_goOver_112_z (h : Nat) (I : am_I) (G : am_G) (v1 : Int32) (v2 : Int32) (v3 : Int32) (v4 : Int32) : L_X13_goOver_112 0 h I G v1 v2 v3 v4 = none := rfl
noncomputable def R_X13_goOver_112 (I : am_I) (G : am_G) (x1 : Int32) : Option (Int32 × am_I × am_G) := rg (vp_in (0 : Int32) 576) (rg ((vp_in x1 576 ∧ ((1 : Int32) = 0 ∨ (1 : Int32) = 1))) (L_X13_goOver_112 FU 0 (am_up (am_up I 121 (0 : Int32).toNatClampNeg x1) 120 x1.toNatClampNeg (1 : Int32)) G x1 (1 : Int32) (0 : Int32) 0))
set_option maxRecDepth 20000 in
set_option maxHeartbeats 4000000 in
theorem l_X13_goOver_112 (rd : Nat) {X : am_X} {ad : Nat → Nat} (hX : am_okz X ad) (hi : am_info X 11 cX13_goOver 6 false (Option.some Jvm.ClassFile.FieldType.int) 10) (n : Nat) : (∀ (I : am_I) (G : am_G) (v1 : Int32) (v2 : Int32) (v3 : Int32) (v4 : Int32) (out : Int32 × am_I × am_G), L_X13_goOver_112 n 0 I G v1 v2 v3 v4 = some out → am_V X 0 0 (am_Rt X gS ad (pI out.1 out.2.1 out.2.2 (gP rd))) gS ad (18, [(0, .ref 112), (1, .int v1), (2, .int v2), (3, .int v3)], [], I, G, (gP rd))) ∧ (∀ (I : am_I) (G : am_G) (v1 : Int32) (v2 : Int32) (v3 : Int32) (v4 : Int32) (out : Int32 × am_I × am_G), L_X13_goOver_112 n 1 I G v1 v2 v3 v4 = some out → am_V X 0 0 (am_Rt X gS ad (pI out.1 out.2.1 out.2.2 (gP rd))) gS ad (26, [(0, .ref 112), (1, .int v1), (2, .int v2), (3, .int v3), (4, .int v4)], [], I, G, (gP rd))) := by
  induction n with
  | zero => exact ⟨(fun I G v1 v2 v3 v4 out h => by rw [L_X13_goOver_112_z] at h; cases h), (fun I G v1 v2 v3 v4 out h => by rw [L_X13_goOver_112_z] at h; cases h)⟩
  | succ n ih =>
    refine ⟨?_, ?_⟩
    · intro I G v1 v2 v3 v4 out h
      rw [L_X13_goOver_112_0] at h
      refine am_blk 18 [(.iload_n 3, 1, 3, 0, .null), (.iload_n 2, 1, 2, 0, .null)] (20, [(0, .ref 112), (1, .int v1), (2, .int v2), (3, .int v3)], [.int v2, .int v3], I, G, (gP rd)) (True) hX hi (by decide +kernel) rfl trivial ?_
      refine am_icmp_ge (tgt := 104) hX hi (off := (84)) (by decide +kernel) (by decide) (fun c20 => ?_) (fun c20 => ?_)
      · rw [if_pos c20] at h
        refine am_blk 104 [(.iload_n 2, 1, 2, 0, .null)] (105, [(0, .ref 112), (1, .int v1), (2, .int v2), (3, .int v3)], [.int v2], I, G, (gP rd)) (True) hX hi (by decide +kernel) rfl trivial ?_
        cases h
        refine am_iret hX hi rfl rfl (by decide +kernel) ?_
        exact ⟨rfl, rfl, rfl, rfl⟩
      · rw [if_neg c20] at h
        refine am_blk 23 [(.iconst (0), 1, 0, 0, .int (0 : Int32)), (.istore 4, 2, 4, 0, .null)] (26, [(0, .ref 112), (1, .int v1), (2, .int v2), (3, .int v3), (4, .int (0 : Int32))], [], I, G, (gP rd)) (True) hX hi (by decide +kernel) rfl trivial ?_
        exact ih.2 _ _ _ _ _ _ _ h
    · intro I G v1 v2 v3 v4 out h
      rw [L_X13_goOver_112_1] at h
      refine am_blk 26 [(.iload 4, 2, 4, 0, .null), (.iconst (4), 1, 0, 0, .int (4 : Int32))] (29, [(0, .ref 112), (1, .int v1), (2, .int v2), (3, .int v3), (4, .int v4)], [.int (4 : Int32), .int v4], I, G, (gP rd)) (True) hX hi (by decide +kernel) rfl trivial ?_
      refine am_icmp_ge (tgt := 98) hX hi (off := (69)) (by decide +kernel) (by decide) (fun c29 => ?_) (fun c29 => ?_)
      · rw [if_pos c29] at h
        refine am_blk 98 [(.iinc 3 (1), 3, 3, 0, .int (1 : Int32)), (.goto (-83), 3, 0, 18, .null)] (18, [(0, .ref 112), (1, .int v1), (2, .int v2), (3, .int (v3 + (1 : Int32))), (4, .int v4)], [], I, G, (gP rd)) (True) hX hi (by decide +kernel) rfl trivial ?_
        refine am_sub (L' := [(0, .ref 112), (1, .int v1), (2, .int v2), (3, .int (v3 + (1 : Int32)))]) (by simp) ?_
        exact ih.1 _ _ _ _ _ _ _ h
      · rw [if_neg c29] at h
        obtain ⟨g0, h⟩ := rg_some h
        refine am_blk 32 [(.aload_n 0, 1, 0, 0, .null), (.aload_n 0, 1, 0, 0, .null), (.getfield 41, 3, 11, 13, .null), (.iload_n 3, 1, 3, 0, .null), (.iaload, 1, 0, 0, .null), (.iload 4, 2, 4, 0, .null)] (41, [(0, .ref 112), (1, .int v1), (2, .int v2), (3, .int v3), (4, .int v4)], [.int v4, .int (I 121 v3.toNatClampNeg), .ref 112], I, G, (gP rd)) (vp_in v3 576 ∧ True) hX hi (by decide +kernel) rfl ⟨g0, trivial⟩ ?_
        obtain ⟨hq1, h⟩ := rg_some h
        refine am_callV hX hi (M := mX13_beside) (idx := 177) (d' := 3) (b := 112) (ci := 11) (As := [.int (I 121 v3.toNatClampNeg), .int v4]) (rest := []) mkX13_beside miX13_beside mvX13_beside (by decide +kernel) (by decide +kernel) rfl (by decide +kernel) rfl ⟨by omega, by decide, Nat.le_of_ble_eq_true rfl⟩ rfl (c_X13_beside_112 _ I G (I 121 v3.toNatClampNeg) v4 hq1) ?_
        rintro r9 I9 G9 P9 ⟨e0, e1, e2, e3⟩
        rw [e0, e1, e2, e3]
        show am_V X 0 0 _ _ ad (44, [(0, .ref 112), (1, .int v1), (2, .int v2), (3, .int v3), (4, .int v4)], [.int (f_X13_beside_112 I G (I 121 v3.toNatClampNeg) v4)], I, G, (gP rd))
        obtain ⟨g0, h⟩ := rg_some h
        refine am_blk 44 [(.istore 5, 2, 5, 0, .null), (.aload_n 0, 1, 0, 0, .null), (.getfield 38, 3, 11, 12, .null), (.iload 5, 2, 5, 0, .null), (.baload, 1, 0, 0, .null)] (53, [(0, .ref 112), (1, .int v1), (2, .int v2), (3, .int v3), (4, .int v4), (5, .int (f_X13_beside_112 I G (I 121 v3.toNatClampNeg) v4))], [.int (I 120 (f_X13_beside_112 I G (I 121 v3.toNatClampNeg) v4).toNatClampNeg)], I, G, (gP rd)) (vp_in (f_X13_beside_112 I G (I 121 v3.toNatClampNeg) v4) 576 ∧ True) hX hi (by decide +kernel) rfl ⟨g0, trivial⟩ ?_
        refine am_if_ne (tgt := 92) hX hi (off := (39)) (by decide +kernel) (by decide) (fun c53 => ?_) (fun c53 => ?_)
        · rw [if_neg c53] at h
          refine am_blk 92 [(.iinc 4 (1), 3, 4, 0, .int (1 : Int32)), (.goto (-69), 3, 0, 26, .null)] (26, [(0, .ref 112), (1, .int v1), (2, .int v2), (3, .int v3), (4, .int (v4 + (1 : Int32))), (5, .int (f_X13_beside_112 I G (I 121 v3.toNatClampNeg) v4))], [], I, G, (gP rd)) (True) hX hi (by decide +kernel) rfl trivial ?_
          refine am_sub (L' := [(0, .ref 112), (1, .int v1), (2, .int v2), (3, .int v3), (4, .int (v4 + (1 : Int32)))]) (by simp) ?_
          exact ih.2 _ _ _ _ _ _ _ h
        · rw [if_pos c53] at h
          refine am_blk 56 [(.aload_n 0, 1, 0, 0, .null), (.iload 5, 2, 5, 0, .null)] (59, [(0, .ref 112), (1, .int v1), (2, .int v2), (3, .int v3), (4, .int v4), (5, .int (f_X13_beside_112 I G (I 121 v3.toNatClampNeg) v4))], [.int (f_X13_beside_112 I G (I 121 v3.toNatClampNeg) v4), .ref 112], I, G, (gP rd)) (True) hX hi (by decide +kernel) rfl trivial ?_
          obtain ⟨r201, I201, G201, hc, h⟩ := rb_some h
          refine am_callV hX hi (M := mX13_ink) (idx := 167) (d' := 9) (b := 112) (ci := 11) (As := [.int (f_X13_beside_112 I G (I 121 v3.toNatClampNeg) v4)]) (rest := []) mkX13_ink miX13_ink mvX13_ink (by decide +kernel) (by decide +kernel) rfl (by decide +kernel) rfl ⟨by omega, by decide, Nat.le_of_ble_eq_true rfl⟩ rfl (c_X13_ink_112 _ I G (f_X13_beside_112 I G (I 121 v3.toNatClampNeg) v4) hc) ?_
          rintro r9 I9 G9 P9 ⟨e0, e1, e2, e3⟩
          rw [e0, e1, e2, e3]
          show am_V X 0 0 _ _ ad (62, [(0, .ref 112), (1, .int v1), (2, .int v2), (3, .int v3), (4, .int v4), (5, .int (f_X13_beside_112 I G (I 121 v3.toNatClampNeg) v4))], [.int r201], I201, G201, (gP rd))
          refine am_blk 62 [(.aload_n 0, 1, 0, 0, .null), (.iload_n 1, 1, 1, 0, .null)] (64, [(0, .ref 112), (1, .int v1), (2, .int v2), (3, .int v3), (4, .int v4), (5, .int (f_X13_beside_112 I G (I 121 v3.toNatClampNeg) v4))], [.int v1, .ref 112, .int r201], I201, G201, (gP rd)) (True) hX hi (by decide +kernel) rfl trivial ?_
          obtain ⟨r202, I202, G202, hc, h⟩ := rb_some h
          refine am_callV hX hi (M := mX13_ink) (idx := 167) (d' := 9) (b := 112) (ci := 11) (As := [.int v1]) (rest := [.int r201]) mkX13_ink miX13_ink mvX13_ink (by decide +kernel) (by decide +kernel) rfl (by decide +kernel) rfl ⟨by omega, by decide, Nat.le_of_ble_eq_true rfl⟩ rfl (c_X13_ink_112 _ I201 G201 v1 hc) ?_
          rintro r9 I9 G9 P9 ⟨e0, e1, e2, e3⟩
          rw [e0, e1, e2, e3]
          show am_V X 0 0 _ _ ad (67, [(0, .ref 112), (1, .int v1), (2, .int v2), (3, .int v3), (4, .int v4), (5, .int (f_X13_beside_112 I G (I 121 v3.toNatClampNeg) v4))], [.int r202, .int r201], I202, G202, (gP rd))
          refine am_icmp_eq (tgt := 73) hX hi (off := (6)) (by decide +kernel) (by decide) (fun c67 => ?_) (fun c67 => ?_)
          · rw [if_pos c67] at h
            obtain ⟨g0, h⟩ := rg_some h
            obtain ⟨g1, h⟩ := rg_some h
            refine am_blk 73 [(.aload_n 0, 1, 0, 0, .null), (.getfield 38, 3, 11, 12, .null), (.iload 5, 2, 5, 0, .null), (.iconst (1), 1, 0, 0, .int (1 : Int32)), (.bastore, 1, 0, 0, .null), (.aload_n 0, 1, 0, 0, .null), (.getfield 41, 3, 11, 13, .null), (.iload_n 2, 1, 2, 0, .null), (.iload 5, 2, 5, 0, .null), (.iastore, 1, 0, 0, .null), (.iinc 2 (1), 3, 2, 0, .int (1 : Int32)), (.iinc 4 (1), 3, 4, 0, .int (1 : Int32)), (.goto (-69), 3, 0, 26, .null)] (26, [(0, .ref 112), (1, .int v1), (2, .int (v2 + (1 : Int32))), (3, .int v3), (4, .int (v4 + (1 : Int32))), (5, .int (f_X13_beside_112 I G (I 121 v3.toNatClampNeg) v4))], [], (am_up (am_up I202 120 (f_X13_beside_112 I G (I 121 v3.toNatClampNeg) v4).toNatClampNeg (1 : Int32)) 121 v2.toNatClampNeg (f_X13_beside_112 I G (I 121 v3.toNatClampNeg) v4)), G202, (gP rd)) ((vp_in (f_X13_beside_112 I G (I 121 v3.toNatClampNeg) v4) 576 ∧ ((1 : Int32) = 0 ∨ (1 : Int32) = 1)) ∧ vp_in v2 576 ∧ True) hX hi (by decide +kernel) rfl ⟨g0, g1, trivial⟩ ?_
            refine am_sub (L' := [(0, .ref 112), (1, .int v1), (2, .int (v2 + (1 : Int32))), (3, .int v3), (4, .int (v4 + (1 : Int32)))]) (by simp) ?_
            exact ih.2 _ _ _ _ _ _ _ h
          · rw [if_neg c67] at h
            refine am_blk 70 [(.goto (22), 3, 0, 92, .null), (.iinc 4 (1), 3, 4, 0, .int (1 : Int32)), (.goto (-69), 3, 0, 26, .null)] (26, [(0, .ref 112), (1, .int v1), (2, .int v2), (3, .int v3), (4, .int (v4 + (1 : Int32))), (5, .int (f_X13_beside_112 I G (I 121 v3.toNatClampNeg) v4))], [], I202, G202, (gP rd)) (True) hX hi (by decide +kernel) rfl trivial ?_
            refine am_sub (L' := [(0, .ref 112), (1, .int v1), (2, .int v2), (3, .int v3), (4, .int (v4 + (1 : Int32)))]) (by simp) ?_
            exact ih.2 _ _ _ _ _ _ _ h
set_option maxRecDepth 20000 in
set_option maxHeartbeats 4000000 in
theorem c_X13_goOver_112 (rd : Nat) (I : am_I) (G : am_G) (x1 : Int32) {out : Int32 × am_I × am_G} (h : R_X13_goOver_112 I G x1 = some out) : am_Ct mX13_goOver 10 gS [.ref 112, .int x1] I G (gP rd) (pI out.1 out.2.1 out.2.2 (gP rd)) := by
  refine am_ofF (by decide +kernel) rfl (by decide) (by omega) (Nat.le_of_ble_eq_true rfl) (fun X ad hX hi => ?_)
  have hi : am_info X 11 cX13_goOver 6 false (Option.some Jvm.ClassFile.FieldType.int) 10 := hi
  show am_V X 0 0 _ _ ad (0, [(0, .ref 112), (1, .int x1)], [], I, G, (gP rd))
  unfold R_X13_goOver_112 at h
  obtain ⟨g0, h⟩ := rg_some h
  obtain ⟨g1, h⟩ := rg_some h
  refine am_blk 0 [(.iconst (1), 1, 0, 0, .int (1 : Int32)), (.istore_n 2, 1, 2, 0, .null), (.aload_n 0, 1, 0, 0, .null), (.getfield 41, 3, 11, 13, .null), (.iconst (0), 1, 0, 0, .int (0 : Int32)), (.iload_n 1, 1, 1, 0, .null), (.iastore, 1, 0, 0, .null), (.aload_n 0, 1, 0, 0, .null), (.getfield 38, 3, 11, 12, .null), (.iload_n 1, 1, 1, 0, .null), (.iconst (1), 1, 0, 0, .int (1 : Int32)), (.bastore, 1, 0, 0, .null), (.iconst (0), 1, 0, 0, .int (0 : Int32)), (.istore_n 3, 1, 3, 0, .null)] (18, [(0, .ref 112), (1, .int x1), (2, .int (1 : Int32)), (3, .int (0 : Int32))], [], (am_up (am_up I 121 (0 : Int32).toNatClampNeg x1) 120 x1.toNatClampNeg (1 : Int32)), G, (gP rd)) (vp_in (0 : Int32) 576 ∧ (vp_in x1 576 ∧ ((1 : Int32) = 0 ∨ (1 : Int32) = 1)) ∧ True) hX hi (by decide +kernel) rfl ⟨g0, g1, trivial⟩ ?_
  exact (l_X13_goOver_112 rd hX hi FU).1 _ _ _ _ _ _ _ h
noncomputable def L_X13_forget_102 (n0 : Nat) (hd : Nat) (I : am_I) (G : am_G) (v1 : Int32) : Option (Unit × am_I × am_G) := match n0 with
  | 0 => none
  | n + 1 => match hd with
    | _ => (if (576 : Int32) ≤ v1 then some ((), I, G) else rg ((vp_in v1 576 ∧ ((0 : Int32) = 0 ∨ (0 : Int32) = 1))) (L_X13_forget_102 n 0 (am_up I 110 v1.toNatClampNeg (0 : Int32)) G (v1 + (1 : Int32))))
theorem L_X13_forget_102_0 (n : Nat) (I : am_I) (G : am_G) (v1 : Int32) : L_X13_forget_102 (n + 1) 0 I G v1 = (if (576 : Int32) ≤ v1 then some ((), I, G) else rg ((vp_in v1 576 ∧ ((0 : Int32) = 0 ∨ (0 : Int32) = 1))) (L_X13_forget_102 n 0 (am_up I 110 v1.toNatClampNeg (0 : Int32)) G (v1 + (1 : Int32)))) := rfl
theorem L_X13_forget_102_z (h : Nat) (I : am_I) (G : am_G) (v1 : Int32) : L_X13_forget_102 0 h I G v1 = none := rfl
noncomputable def R_X13_forget_102 (I : am_I) (G : am_G)  : Option (Unit × am_I × am_G) := L_X13_forget_102 FU 0 I G (0 : Int32)
set_option maxRecDepth 20000 in
set_option maxHeartbeats 4000000 in
theorem l_X13_forget_102 (rd : Nat) {X : am_X} {ad : Nat → Nat} (hX : am_okz X ad) (hi : am_info X 11 cX13_forget 2 false none 1) (n : Nat) : (∀ (I : am_I) (G : am_G) (v1 : Int32) (out : Unit × am_I × am_G), L_X13_forget_102 n 0 I G v1 = some out → am_V X 0 0 (am_Rt X gS ad (pV out.2.1 out.2.2 (gP rd))) gS ad (2, [(0, .ref 102), (1, .int v1)], [], I, G, (gP rd))) := by
  induction n with
  | zero => exact fun I G v1 out h => by rw [L_X13_forget_102_z] at h; cases h
  | succ n ih =>
    · intro I G v1 out h
      rw [L_X13_forget_102_0] at h
      refine am_blk 2 [(.iload_n 1, 1, 1, 0, .null), (.sipush (576), 3, 0, 0, .int (576 : Int32))] (6, [(0, .ref 102), (1, .int v1)], [.int (576 : Int32), .int v1], I, G, (gP rd)) (True) hX hi (by decide +kernel) rfl trivial ?_
      refine am_icmp_ge (tgt := 22) hX hi (off := (16)) (by decide +kernel) (by decide) (fun c6 => ?_) (fun c6 => ?_)
      · rw [if_pos c6] at h
        cases h
        refine am_vret hX hi rfl (by decide +kernel) ?_
        exact ⟨rfl, rfl, rfl, rfl⟩
      · rw [if_neg c6] at h
        obtain ⟨g0, h⟩ := rg_some h
        refine am_blk 9 [(.aload_n 0, 1, 0, 0, .null), (.getfield 38, 3, 11, 12, .null), (.iload_n 1, 1, 1, 0, .null), (.iconst (0), 1, 0, 0, .int (0 : Int32)), (.bastore, 1, 0, 0, .null), (.iinc 1 (1), 3, 1, 0, .int (1 : Int32)), (.goto (-17), 3, 0, 2, .null)] (2, [(0, .ref 102), (1, .int (v1 + (1 : Int32)))], [], (am_up I 110 v1.toNatClampNeg (0 : Int32)), G, (gP rd)) ((vp_in v1 576 ∧ ((0 : Int32) = 0 ∨ (0 : Int32) = 1)) ∧ True) hX hi (by decide +kernel) rfl ⟨g0, trivial⟩ ?_
        exact ih _ _ _ _ h
set_option maxRecDepth 20000 in
set_option maxHeartbeats 4000000 in
theorem c_X13_forget_102 (rd : Nat) (I : am_I) (G : am_G)  {out : Unit × am_I × am_G} (h : R_X13_forget_102 I G  = some out) : am_Ct mX13_forget 1 gS [.ref 102] I G (gP rd) (pV out.2.1 out.2.2 (gP rd)) := by
  refine am_ofF (by decide +kernel) rfl (by decide) (by omega) (Nat.le_of_ble_eq_true rfl) (fun X ad hX hi => ?_)
  have hi : am_info X 11 cX13_forget 2 false none 1 := hi
  show am_V X 0 0 _ _ ad (0, [(0, .ref 102)], [], I, G, (gP rd))
  unfold R_X13_forget_102 at h
  refine am_blk 0 [(.iconst (0), 1, 0, 0, .int (0 : Int32)), (.istore_n 1, 1, 1, 0, .null)] (2, [(0, .ref 102), (1, .int (0 : Int32))], [], I, G, (gP rd)) (True) hX hi (by decide +kernel) rfl trivial ?_
  exact (l_X13_forget_102 rd hX hi FU) _ _ _ _ h
noncomputable def L_X13_forget_112 (n0 : Nat) (hd : Nat) (I : am_I) (G : am_G) (v1 : Int32) : Option (Unit × am_I × am_G) := match n0 with
  | 0 => none
  | n + 1 => match hd with
    | _ => (if (576 : Int32) ≤ v1 then some ((), I, G) else rg ((vp_in v1 576 ∧ ((0 : Int32) = 0 ∨ (0 : Int32) = 1))) (L_X13_forget_112 n 0 (am_up I 120 v1.toNatClampNeg (0 : Int32)) G (v1 + (1 : Int32))))
theorem L_X13_forget_112_0 (n : Nat) (I : am_I) (G : am_G) (v1 : Int32) : L_X13_forget_112 (n + 1) 0 I G v1 = (if (576 : Int32) ≤ v1 then some ((), I, G) else rg ((vp_in v1 576 ∧ ((0 : Int32) = 0 ∨ (0 : Int32) = 1))) (L_X13_forget_112 n 0 (am_up I 120 v1.toNatClampNeg (0 : Int32)) G (v1 + (1 : Int32)))) := rfl
theorem L_X13_forget_112_z (h : Nat) (I : am_I) (G : am_G) (v1 : Int32) : L_X13_forget_112 0 h I G v1 = none := rfl
noncomputable def R_X13_forget_112 (I : am_I) (G : am_G)  : Option (Unit × am_I × am_G) := L_X13_forget_112 FU 0 I G (0 : Int32)
set_option maxRecDepth 20000 in
set_option maxHeartbeats 4000000 in
theorem l_X13_forget_112 (rd : Nat) {X : am_X} {ad : Nat → Nat} (hX : am_okz X ad) (hi : am_info X 11 cX13_forget 2 false none 1) (n : Nat) : (∀ (I : am_I) (G : am_G) (v1 : Int32) (out : Unit × am_I × am_G), L_X13_forget_112 n 0 I G v1 = some out → am_V X 0 0 (am_Rt X gS ad (pV out.2.1 out.2.2 (gP rd))) gS ad (2, [(0, .ref 112), (1, .int v1)], [], I, G, (gP rd))) := by
  induction n with
  | zero => exact fun I G v1 out h => by rw [L_X13_forget_112_z] at h; cases h
  | succ n ih =>
    · intro I G v1 out h
      rw [L_X13_forget_112_0] at h
      refine am_blk 2 [(.iload_n 1, 1, 1, 0, .null), (.sipush (576), 3, 0, 0, .int (576 : Int32))] (6, [(0, .ref 112), (1, .int v1)], [.int (576 : Int32), .int v1], I, G, (gP rd)) (True) hX hi (by decide +kernel) rfl trivial ?_
      refine am_icmp_ge (tgt := 22) hX hi (off := (16)) (by decide +kernel) (by decide) (fun c6 => ?_) (fun c6 => ?_)
      · rw [if_pos c6] at h
        cases h
        refine am_vret hX hi rfl (by decide +kernel) ?_
        exact ⟨rfl, rfl, rfl, rfl⟩
      · rw [if_neg c6] at h
        obtain ⟨g0, h⟩ := rg_some h
        refine am_blk 9 [(.aload_n 0, 1, 0, 0, .null), (.getfield 38, 3, 11, 12, .null), (.iload_n 1, 1, 1, 0, .null), (.iconst (0), 1, 0, 0, .int (0 : Int32)), (.bastore, 1, 0, 0, .null), (.iinc 1 (1), 3, 1, 0, .int (1 : Int32)), (.goto (-17), 3, 0, 2, .null)] (2, [(0, .ref 112), (1, .int (v1 + (1 : Int32)))], [], (am_up I 120 v1.toNatClampNeg (0 : Int32)), G, (gP rd)) ((vp_in v1 576 ∧ ((0 : Int32) = 0 ∨ (0 : Int32) = 1)) ∧ True) hX hi (by decide +kernel) rfl ⟨g0, trivial⟩ ?_
        exact ih _ _ _ _ h
set_option maxRecDepth 20000 in
set_option maxHeartbeats 4000000 in
theorem c_X13_forget_112 (rd : Nat) (I : am_I) (G : am_G)  {out : Unit × am_I × am_G} (h : R_X13_forget_112 I G  = some out) : am_Ct mX13_forget 1 gS [.ref 112] I G (gP rd) (pV out.2.1 out.2.2 (gP rd)) := by
  refine am_ofF (by decide +kernel) rfl (by decide) (by omega) (Nat.le_of_ble_eq_true rfl) (fun X ad hX hi => ?_)
  have hi : am_info X 11 cX13_forget 2 false none 1 := hi
  show am_V X 0 0 _ _ ad (0, [(0, .ref 112)], [], I, G, (gP rd))
  unfold R_X13_forget_112 at h
  refine am_blk 0 [(.iconst (0), 1, 0, 0, .int (0 : Int32)), (.istore_n 1, 1, 1, 0, .null)] (2, [(0, .ref 112), (1, .int (0 : Int32))], [], I, G, (gP rd)) (True) hX hi (by decide +kernel) rfl trivial ?_
  exact (l_X13_forget_112 rd hX hi FU) _ _ _ _ h
noncomputable def R_X13_patch_102 (I : am_I) (G : am_G) (x1 : Int32) : Option (Int32 × am_I × am_G) := rb (R_X13_forget_102 I G ) (fun r1 I1 G1 => rb (R_X13_goOver_102 I1 G1 x1) (fun r2 I2 G2 => some (r2, I2, G2)))
set_option maxRecDepth 20000 in
set_option maxHeartbeats 4000000 in
theorem c_X13_patch_102 (rd : Nat) (I : am_I) (G : am_G) (x1 : Int32) {out : Int32 × am_I × am_G} (h : R_X13_patch_102 I G x1 = some out) : am_Ct mX13_patch 11 gS [.ref 102, .int x1] I G (gP rd) (pI out.1 out.2.1 out.2.2 (gP rd)) := by
  refine am_ofF (by decide +kernel) rfl (by decide) (by omega) (Nat.le_of_ble_eq_true rfl) (fun X ad hX hi => ?_)
  have hi : am_info X 11 cX13_patch 2 false (Option.some Jvm.ClassFile.FieldType.int) 11 := hi
  show am_V X 0 0 _ _ ad (0, [(0, .ref 102), (1, .int x1)], [], I, G, (gP rd))
  unfold R_X13_patch_102 at h
  refine am_blk 0 [(.aload_n 0, 1, 0, 0, .null)] (1, [(0, .ref 102), (1, .int x1)], [.ref 102], I, G, (gP rd)) (True) hX hi (by decide +kernel) rfl trivial ?_
  obtain ⟨r1, I1, G1, hc, h⟩ := rb_some h
  refine am_callV hX hi (M := mX13_forget) (idx := 180) (d' := 1) (b := 102) (ci := 11) (As := []) (rest := []) mkX13_forget miX13_forget mvX13_forget (by decide +kernel) (by decide +kernel) rfl (by decide +kernel) rfl ⟨by omega, by decide, Nat.le_of_ble_eq_true rfl⟩ rfl (c_X13_forget_102 _ I G  hc) ?_
  rintro r9 I9 G9 P9 ⟨e0, e1, e2, e3⟩
  rw [e0, e1, e2, e3]
  show am_V X 0 0 _ _ ad (4, [(0, .ref 102), (1, .int x1)], [], I1, G1, (gP rd))
  refine am_blk 4 [(.aload_n 0, 1, 0, 0, .null), (.iload_n 1, 1, 1, 0, .null)] (6, [(0, .ref 102), (1, .int x1)], [.int x1, .ref 102], I1, G1, (gP rd)) (True) hX hi (by decide +kernel) rfl trivial ?_
  obtain ⟨r2, I2, G2, hc, h⟩ := rb_some h
  refine am_callV hX hi (M := mX13_goOver) (idx := 183) (d' := 10) (b := 102) (ci := 11) (As := [.int x1]) (rest := []) mkX13_goOver miX13_goOver mvX13_goOver (by decide +kernel) (by decide +kernel) rfl (by decide +kernel) rfl ⟨by omega, by decide, Nat.le_of_ble_eq_true rfl⟩ rfl (c_X13_goOver_102 _ I1 G1 x1 hc) ?_
  rintro r9 I9 G9 P9 ⟨e0, e1, e2, e3⟩
  rw [e0, e1, e2, e3]
  show am_V X 0 0 _ _ ad (9, [(0, .ref 102), (1, .int x1)], [.int r2], I2, G2, (gP rd))
  cases h
  refine am_iret hX hi rfl rfl (by decide +kernel) ?_
  exact ⟨rfl, rfl, rfl, rfl⟩
noncomputable def R_X13_patch_112 (I : am_I) (G : am_G) (x1 : Int32) : Option (Int32 × am_I × am_G) := rb (R_X13_forget_112 I G ) (fun r1 I1 G1 => rb (R_X13_goOver_112 I1 G1 x1) (fun r2 I2 G2 => some (r2, I2, G2)))
set_option maxRecDepth 20000 in
set_option maxHeartbeats 4000000 in
theorem c_X13_patch_112 (rd : Nat) (I : am_I) (G : am_G) (x1 : Int32) {out : Int32 × am_I × am_G} (h : R_X13_patch_112 I G x1 = some out) : am_Ct mX13_patch 11 gS [.ref 112, .int x1] I G (gP rd) (pI out.1 out.2.1 out.2.2 (gP rd)) := by
  refine am_ofF (by decide +kernel) rfl (by decide) (by omega) (Nat.le_of_ble_eq_true rfl) (fun X ad hX hi => ?_)
  have hi : am_info X 11 cX13_patch 2 false (Option.some Jvm.ClassFile.FieldType.int) 11 := hi
  show am_V X 0 0 _ _ ad (0, [(0, .ref 112), (1, .int x1)], [], I, G, (gP rd))
  unfold R_X13_patch_112 at h
  refine am_blk 0 [(.aload_n 0, 1, 0, 0, .null)] (1, [(0, .ref 112), (1, .int x1)], [.ref 112], I, G, (gP rd)) (True) hX hi (by decide +kernel) rfl trivial ?_
  obtain ⟨r1, I1, G1, hc, h⟩ := rb_some h
  refine am_callV hX hi (M := mX13_forget) (idx := 180) (d' := 1) (b := 112) (ci := 11) (As := []) (rest := []) mkX13_forget miX13_forget mvX13_forget (by decide +kernel) (by decide +kernel) rfl (by decide +kernel) rfl ⟨by omega, by decide, Nat.le_of_ble_eq_true rfl⟩ rfl (c_X13_forget_112 _ I G  hc) ?_
  rintro r9 I9 G9 P9 ⟨e0, e1, e2, e3⟩
  rw [e0, e1, e2, e3]
  show am_V X 0 0 _ _ ad (4, [(0, .ref 112), (1, .int x1)], [], I1, G1, (gP rd))
  refine am_blk 4 [(.aload_n 0, 1, 0, 0, .null), (.iload_n 1, 1, 1, 0, .null)] (6, [(0, .ref 112), (1, .int x1)], [.int x1, .ref 112], I1, G1, (gP rd)) (True) hX hi (by decide +kernel) rfl trivial ?_
  obtain ⟨r2, I2, G2, hc, h⟩ := rb_some h
  refine am_callV hX hi (M := mX13_goOver) (idx := 183) (d' := 10) (b := 112) (ci := 11) (As := [.int x1]) (rest := []) mkX13_goOver miX13_goOver mvX13_goOver (by decide +kernel) (by decide +kernel) rfl (by decide +kernel) rfl ⟨by omega, by decide, Nat.le_of_ble_eq_true rfl⟩ rfl (c_X13_goOver_112 _ I1 G1 x1 hc) ?_
  rintro r9 I9 G9 P9 ⟨e0, e1, e2, e3⟩
  rw [e0, e1, e2, e3]
  show am_V X 0 0 _ _ ad (9, [(0, .ref 112), (1, .int x1)], [.int r2], I2, G2, (gP rd))
  cases h
  refine am_iret hX hi rfl rfl (by decide +kernel) ?_
  exact ⟨rfl, rfl, rfl, rfl⟩
noncomputable def L_X13_patches_102 (n0 : Nat) (hd : Nat) (I : am_I) (G : am_G) (v1 : Int32) (v2 : Int32) : Option (Int32 × am_I × am_G) := match n0 with
  | 0 => none
  | n + 1 => match hd with
    | _ => (if (f_X12_spots_86 I G ) ≤ v2 then some (v1, I, G) else rg (vp_in v2 576) ((if (I 110 v2.toNatClampNeg) = 0 then rb (R_X13_goOver_102 I G v2) (fun r101 I101 G101 => (if r101 ≤ 0 then L_X13_patches_102 n 0 I101 G101 (v1 + (0 : Int32)) (v2 + (1 : Int32)) else L_X13_patches_102 n 0 I101 G101 (v1 + (1 : Int32)) (v2 + (1 : Int32)))) else L_X13_patches_102 n 0 I G (v1 + (0 : Int32)) (v2 + (1 : Int32)))))
theorem L_X13_patches_102_0 (n : Nat) (I : am_I) (G : am_G) (v1 : Int32) (v2 : Int32) : L_X13_patches_102 (n + 1) 0 I G v1 v2 = (if (f_X12_spots_86 I G ) ≤ v2 then some (v1, I, G) else rg (vp_in v2 576) ((if (I 110 v2.toNatClampNeg) = 0 then rb (R_X13_goOver_102 I G v2) (fun r101 I101 G101 => (if r101 ≤ 0 then L_X13_patches_102 n 0 I101 G101 (v1 + (0 : Int32)) (v2 + (1 : Int32)) else L_X13_patches_102 n 0 I101 G101 (v1 + (1 : Int32)) (v2 + (1 : Int32)))) else L_X13_patches_102 n 0 I G (v1 + (0 : Int32)) (v2 + (1 : Int32))))) := rfl
theorem L_X13_patches_102_z (h : Nat) (I : am_I) (G : am_G) (v1 : Int32) (v2 : Int32) : L_X13_patches_102 0 h I G v1 v2 = none := rfl
noncomputable def R_X13_patches_102 (I : am_I) (G : am_G)  : Option (Int32 × am_I × am_G) := rb (R_X13_forget_102 I G ) (fun r1 I1 G1 => L_X13_patches_102 FU 0 I1 G1 (0 : Int32) (0 : Int32))
set_option maxRecDepth 20000 in
set_option maxHeartbeats 4000000 in
theorem l_X13_patches_102 (rd : Nat) {X : am_X} {ad : Nat → Nat} (hX : am_okz X ad) (hi : am_info X 11 cX13_patches 3 false (Option.some Jvm.ClassFile.FieldType.int) 11) (n : Nat) : (∀ (I : am_I) (G : am_G) (v1 : Int32) (v2 : Int32) (out : Int32 × am_I × am_G), L_X13_patches_102 n 0 I G v1 v2 = some out → am_V X 0 0 (am_Rt X gS ad (pI out.1 out.2.1 out.2.2 (gP rd))) gS ad (8, [(0, .ref 102), (1, .int v1), (2, .int v2)], [], I, G, (gP rd))) := by
  induction n with
  | zero => exact fun I G v1 v2 out h => by rw [L_X13_patches_102_z] at h; cases h
  | succ n ih =>
    · intro I G v1 v2 out h
      rw [L_X13_patches_102_0] at h
      refine am_blk 8 [(.iload_n 2, 1, 2, 0, .null), (.aload_n 0, 1, 0, 0, .null), (.getfield 3, 3, 11, 14, .null), (.getfield 67, 3, 12, 11, .null)] (16, [(0, .ref 102), (1, .int v1), (2, .int v2)], [.ref 86, .int v2], I, G, (gP rd)) (True) hX hi (by decide +kernel) rfl trivial ?_
      refine am_callV hX hi (M := mX12_spots) (idx := 107) (d' := 1) (b := 86) (ci := 10) (As := []) (rest := [.int v2]) mkX12_spots miX12_spots mvX12_spots (by decide +kernel) (by decide +kernel) rfl (by decide +kernel) rfl ⟨by omega, by decide, Nat.le_of_ble_eq_true rfl⟩ rfl (c_X12_spots_86 _ I G ) ?_
      rintro r9 I9 G9 P9 ⟨e0, e1, e2, e3⟩
      rw [e0, e1, e2, e3]
      show am_V X 0 0 _ _ ad (19, [(0, .ref 102), (1, .int v1), (2, .int v2)], [.int (f_X12_spots_86 I G ), .int v2], I, G, (gP rd))
      refine am_icmp_ge (tgt := 53) hX hi (off := (34)) (by decide +kernel) (by decide) (fun c19 => ?_) (fun c19 => ?_)
      · rw [if_pos c19] at h
        refine am_blk 53 [(.iload_n 1, 1, 1, 0, .null)] (54, [(0, .ref 102), (1, .int v1), (2, .int v2)], [.int v1], I, G, (gP rd)) (True) hX hi (by decide +kernel) rfl trivial ?_
        cases h
        refine am_iret hX hi rfl rfl (by decide +kernel) ?_
        exact ⟨rfl, rfl, rfl, rfl⟩
      · rw [if_neg c19] at h
        obtain ⟨g0, h⟩ := rg_some h
        refine am_blk 22 [(.iload_n 1, 1, 1, 0, .null), (.aload_n 0, 1, 0, 0, .null), (.getfield 38, 3, 11, 12, .null), (.iload_n 2, 1, 2, 0, .null), (.baload, 1, 0, 0, .null)] (29, [(0, .ref 102), (1, .int v1), (2, .int v2)], [.int (I 110 v2.toNatClampNeg), .int v1], I, G, (gP rd)) (vp_in v2 576 ∧ True) hX hi (by decide +kernel) rfl ⟨g0, trivial⟩ ?_
        refine am_if_ne (tgt := 44) hX hi (off := (15)) (by decide +kernel) (by decide) (fun c29 => ?_) (fun c29 => ?_)
        · rw [if_neg c29] at h
          refine am_blk 44 [(.iconst (0), 1, 0, 0, .int (0 : Int32)), (.iadd, 1, 0, 0, .null), (.istore_n 1, 1, 1, 0, .null), (.iinc 2 (1), 3, 2, 0, .int (1 : Int32)), (.goto (-42), 3, 0, 8, .null)] (8, [(0, .ref 102), (1, .int (v1 + (0 : Int32))), (2, .int (v2 + (1 : Int32)))], [], I, G, (gP rd)) (True) hX hi (by decide +kernel) rfl trivial ?_
          exact ih _ _ _ _ _ h
        · rw [if_pos c29] at h
          refine am_blk 32 [(.aload_n 0, 1, 0, 0, .null), (.iload_n 2, 1, 2, 0, .null)] (34, [(0, .ref 102), (1, .int v1), (2, .int v2)], [.int v2, .ref 102, .int v1], I, G, (gP rd)) (True) hX hi (by decide +kernel) rfl trivial ?_
          obtain ⟨r101, I101, G101, hc, h⟩ := rb_some h
          refine am_callV hX hi (M := mX13_goOver) (idx := 183) (d' := 10) (b := 102) (ci := 11) (As := [.int v2]) (rest := [.int v1]) mkX13_goOver miX13_goOver mvX13_goOver (by decide +kernel) (by decide +kernel) rfl (by decide +kernel) rfl ⟨by omega, by decide, Nat.le_of_ble_eq_true rfl⟩ rfl (c_X13_goOver_102 _ I G v2 hc) ?_
          rintro r9 I9 G9 P9 ⟨e0, e1, e2, e3⟩
          rw [e0, e1, e2, e3]
          show am_V X 0 0 _ _ ad (37, [(0, .ref 102), (1, .int v1), (2, .int v2)], [.int r101, .int v1], I101, G101, (gP rd))
          refine am_if_le (tgt := 44) hX hi (off := (7)) (by decide +kernel) (by decide) (fun c37 => ?_) (fun c37 => ?_)
          · rw [if_pos c37] at h
            refine am_blk 44 [(.iconst (0), 1, 0, 0, .int (0 : Int32)), (.iadd, 1, 0, 0, .null), (.istore_n 1, 1, 1, 0, .null), (.iinc 2 (1), 3, 2, 0, .int (1 : Int32)), (.goto (-42), 3, 0, 8, .null)] (8, [(0, .ref 102), (1, .int (v1 + (0 : Int32))), (2, .int (v2 + (1 : Int32)))], [], I101, G101, (gP rd)) (True) hX hi (by decide +kernel) rfl trivial ?_
            exact ih _ _ _ _ _ h
          · rw [if_neg c37] at h
            refine am_blk 40 [(.iconst (1), 1, 0, 0, .int (1 : Int32)), (.goto (4), 3, 0, 45, .null), (.iadd, 1, 0, 0, .null), (.istore_n 1, 1, 1, 0, .null), (.iinc 2 (1), 3, 2, 0, .int (1 : Int32)), (.goto (-42), 3, 0, 8, .null)] (8, [(0, .ref 102), (1, .int (v1 + (1 : Int32))), (2, .int (v2 + (1 : Int32)))], [], I101, G101, (gP rd)) (True) hX hi (by decide +kernel) rfl trivial ?_
            exact ih _ _ _ _ _ h
set_option maxRecDepth 20000 in
set_option maxHeartbeats 4000000 in
theorem c_X13_patches_102 (rd : Nat) (I : am_I) (G : am_G)  {out : Int32 × am_I × am_G} (h : R_X13_patches_102 I G  = some out) : am_Ct mX13_patches 11 gS [.ref 102] I G (gP rd) (pI out.1 out.2.1 out.2.2 (gP rd)) := by
  refine am_ofF (by decide +kernel) rfl (by decide) (by omega) (Nat.le_of_ble_eq_true rfl) (fun X ad hX hi => ?_)
  have hi : am_info X 11 cX13_patches 3 false (Option.some Jvm.ClassFile.FieldType.int) 11 := hi
  show am_V X 0 0 _ _ ad (0, [(0, .ref 102)], [], I, G, (gP rd))
  unfold R_X13_patches_102 at h
  refine am_blk 0 [(.aload_n 0, 1, 0, 0, .null)] (1, [(0, .ref 102)], [.ref 102], I, G, (gP rd)) (True) hX hi (by decide +kernel) rfl trivial ?_
  obtain ⟨r1, I1, G1, hc, h⟩ := rb_some h
  refine am_callV hX hi (M := mX13_forget) (idx := 180) (d' := 1) (b := 102) (ci := 11) (As := []) (rest := []) mkX13_forget miX13_forget mvX13_forget (by decide +kernel) (by decide +kernel) rfl (by decide +kernel) rfl ⟨by omega, by decide, Nat.le_of_ble_eq_true rfl⟩ rfl (c_X13_forget_102 _ I G  hc) ?_
  rintro r9 I9 G9 P9 ⟨e0, e1, e2, e3⟩
  rw [e0, e1, e2, e3]
  show am_V X 0 0 _ _ ad (4, [(0, .ref 102)], [], I1, G1, (gP rd))
  refine am_blk 4 [(.iconst (0), 1, 0, 0, .int (0 : Int32)), (.istore_n 1, 1, 1, 0, .null), (.iconst (0), 1, 0, 0, .int (0 : Int32)), (.istore_n 2, 1, 2, 0, .null)] (8, [(0, .ref 102), (1, .int (0 : Int32)), (2, .int (0 : Int32))], [], I1, G1, (gP rd)) (True) hX hi (by decide +kernel) rfl trivial ?_
  exact (l_X13_patches_102 rd hX hi FU) _ _ _ _ _ h
noncomputable def L_X13_patches_112 (n0 : Nat) (hd : Nat) (I : am_I) (G : am_G) (v1 : Int32) (v2 : Int32) : Option (Int32 × am_I × am_G) := match n0 with
  | 0 => none
  | n + 1 => match hd with
    | _ => (if (f_X12_spots_86 I G ) ≤ v2 then some (v1, I, G) else rg (vp_in v2 576) ((if (I 120 v2.toNatClampNeg) = 0 then rb (R_X13_goOver_112 I G v2) (fun r101 I101 G101 => (if r101 ≤ 0 then L_X13_patches_112 n 0 I101 G101 (v1 + (0 : Int32)) (v2 + (1 : Int32)) else L_X13_patches_112 n 0 I101 G101 (v1 + (1 : Int32)) (v2 + (1 : Int32)))) else L_X13_patches_112 n 0 I G (v1 + (0 : Int32)) (v2 + (1 : Int32)))))
theorem L_X13_patches_112_0 (n : Nat) (I : am_I) (G : am_G) (v1 : Int32) (v2 : Int32) : L_X13_patches_112 (n + 1) 0 I G v1 v2 = (if (f_X12_spots_86 I G ) ≤ v2 then some (v1, I, G) else rg (vp_in v2 576) ((if (I 120 v2.toNatClampNeg) = 0 then rb (R_X13_goOver_112 I G v2) (fun r101 I101 G101 => (if r101 ≤ 0 then L_X13_patches_112 n 0 I101 G101 (v1 + (0 : Int32)) (v2 + (1 : Int32)) else L_X13_patches_112 n 0 I101 G101 (v1 + (1 : Int32)) (v2 + (1 : Int32)))) else L_X13_patches_112 n 0 I G (v1 + (0 : Int32)) (v2 + (1 : Int32))))) := rfl
theorem L_X13_patches_112_z (h : Nat) (I : am_I) (G : am_G) (v1 : Int32) (v2 : Int32) : L_X13_patches_112 0 h I G v1 v2 = none := rfl
noncomputable def R_X13_patches_112 (I : am_I) (G : am_G)  : Option (Int32 × am_I × am_G) := rb (R_X13_forget_112 I G ) (fun r1 I1 G1 => L_X13_patches_112 FU 0 I1 G1 (0 : Int32) (0 : Int32))
set_option maxRecDepth 20000 in
set_option maxHeartbeats 4000000 in
theorem l_X13_patches_112 (rd : Nat) {X : am_X} {ad : Nat → Nat} (hX : am_okz X ad) (hi : am_info X 11 cX13_patches 3 false (Option.some Jvm.ClassFile.FieldType.int) 11) (n : Nat) : (∀ (I : am_I) (G : am_G) (v1 : Int32) (v2 : Int32) (out : Int32 × am_I × am_G), L_X13_patches_112 n 0 I G v1 v2 = some out → am_V X 0 0 (am_Rt X gS ad (pI out.1 out.2.1 out.2.2 (gP rd))) gS ad (8, [(0, .ref 112), (1, .int v1), (2, .int v2)], [], I, G, (gP rd))) := by
  induction n with
  | zero => exact fun I G v1 v2 out h => by rw [L_X13_patches_112_z] at h; cases h
  | succ n ih =>
    · intro I G v1 v2 out h
      rw [L_X13_patches_112_0] at h
      refine am_blk 8 [(.iload_n 2, 1, 2, 0, .null), (.aload_n 0, 1, 0, 0, .null), (.getfield 3, 3, 11, 14, .null), (.getfield 67, 3, 12, 11, .null)] (16, [(0, .ref 112), (1, .int v1), (2, .int v2)], [.ref 86, .int v2], I, G, (gP rd)) (True) hX hi (by decide +kernel) rfl trivial ?_
      refine am_callV hX hi (M := mX12_spots) (idx := 107) (d' := 1) (b := 86) (ci := 10) (As := []) (rest := [.int v2]) mkX12_spots miX12_spots mvX12_spots (by decide +kernel) (by decide +kernel) rfl (by decide +kernel) rfl ⟨by omega, by decide, Nat.le_of_ble_eq_true rfl⟩ rfl (c_X12_spots_86 _ I G ) ?_
      rintro r9 I9 G9 P9 ⟨e0, e1, e2, e3⟩
      rw [e0, e1, e2, e3]
      show am_V X 0 0 _ _ ad (19, [(0, .ref 112), (1, .int v1), (2, .int v2)], [.int (f_X12_spots_86 I G ), .int v2], I, G, (gP rd))
      refine am_icmp_ge (tgt := 53) hX hi (off := (34)) (by decide +kernel) (by decide) (fun c19 => ?_) (fun c19 => ?_)
      · rw [if_pos c19] at h
        refine am_blk 53 [(.iload_n 1, 1, 1, 0, .null)] (54, [(0, .ref 112), (1, .int v1), (2, .int v2)], [.int v1], I, G, (gP rd)) (True) hX hi (by decide +kernel) rfl trivial ?_
        cases h
        refine am_iret hX hi rfl rfl (by decide +kernel) ?_
        exact ⟨rfl, rfl, rfl, rfl⟩
      · rw [if_neg c19] at h
        obtain ⟨g0, h⟩ := rg_some h
        refine am_blk 22 [(.iload_n 1, 1, 1, 0, .null), (.aload_n 0, 1, 0, 0, .null), (.getfield 38, 3, 11, 12, .null), (.iload_n 2, 1, 2, 0, .null), (.baload, 1, 0, 0, .null)] (29, [(0, .ref 112), (1, .int v1), (2, .int v2)], [.int (I 120 v2.toNatClampNeg), .int v1], I, G, (gP rd)) (vp_in v2 576 ∧ True) hX hi (by decide +kernel) rfl ⟨g0, trivial⟩ ?_
        refine am_if_ne (tgt := 44) hX hi (off := (15)) (by decide +kernel) (by decide) (fun c29 => ?_) (fun c29 => ?_)
        · rw [if_neg c29] at h
          refine am_blk 44 [(.iconst (0), 1, 0, 0, .int (0 : Int32)), (.iadd, 1, 0, 0, .null), (.istore_n 1, 1, 1, 0, .null), (.iinc 2 (1), 3, 2, 0, .int (1 : Int32)), (.goto (-42), 3, 0, 8, .null)] (8, [(0, .ref 112), (1, .int (v1 + (0 : Int32))), (2, .int (v2 + (1 : Int32)))], [], I, G, (gP rd)) (True) hX hi (by decide +kernel) rfl trivial ?_
          exact ih _ _ _ _ _ h
        · rw [if_pos c29] at h
          refine am_blk 32 [(.aload_n 0, 1, 0, 0, .null), (.iload_n 2, 1, 2, 0, .null)] (34, [(0, .ref 112), (1, .int v1), (2, .int v2)], [.int v2, .ref 112, .int v1], I, G, (gP rd)) (True) hX hi (by decide +kernel) rfl trivial ?_
          obtain ⟨r101, I101, G101, hc, h⟩ := rb_some h
          refine am_callV hX hi (M := mX13_goOver) (idx := 183) (d' := 10) (b := 112) (ci := 11) (As := [.int v2]) (rest := [.int v1]) mkX13_goOver miX13_goOver mvX13_goOver (by decide +kernel) (by decide +kernel) rfl (by decide +kernel) rfl ⟨by omega, by decide, Nat.le_of_ble_eq_true rfl⟩ rfl (c_X13_goOver_112 _ I G v2 hc) ?_
          rintro r9 I9 G9 P9 ⟨e0, e1, e2, e3⟩
          rw [e0, e1, e2, e3]
          show am_V X 0 0 _ _ ad (37, [(0, .ref 112), (1, .int v1), (2, .int v2)], [.int r101, .int v1], I101, G101, (gP rd))
          refine am_if_le (tgt := 44) hX hi (off := (7)) (by decide +kernel) (by decide) (fun c37 => ?_) (fun c37 => ?_)
          · rw [if_pos c37] at h
            refine am_blk 44 [(.iconst (0), 1, 0, 0, .int (0 : Int32)), (.iadd, 1, 0, 0, .null), (.istore_n 1, 1, 1, 0, .null), (.iinc 2 (1), 3, 2, 0, .int (1 : Int32)), (.goto (-42), 3, 0, 8, .null)] (8, [(0, .ref 112), (1, .int (v1 + (0 : Int32))), (2, .int (v2 + (1 : Int32)))], [], I101, G101, (gP rd)) (True) hX hi (by decide +kernel) rfl trivial ?_
            exact ih _ _ _ _ _ h
          · rw [if_neg c37] at h
            refine am_blk 40 [(.iconst (1), 1, 0, 0, .int (1 : Int32)), (.goto (4), 3, 0, 45, .null), (.iadd, 1, 0, 0, .null), (.istore_n 1, 1, 1, 0, .null), (.iinc 2 (1), 3, 2, 0, .int (1 : Int32)), (.goto (-42), 3, 0, 8, .null)] (8, [(0, .ref 112), (1, .int (v1 + (1 : Int32))), (2, .int (v2 + (1 : Int32)))], [], I101, G101, (gP rd)) (True) hX hi (by decide +kernel) rfl trivial ?_
            exact ih _ _ _ _ _ h
set_option maxRecDepth 20000 in
set_option maxHeartbeats 4000000 in
theorem c_X13_patches_112 (rd : Nat) (I : am_I) (G : am_G)  {out : Int32 × am_I × am_G} (h : R_X13_patches_112 I G  = some out) : am_Ct mX13_patches 11 gS [.ref 112] I G (gP rd) (pI out.1 out.2.1 out.2.2 (gP rd)) := by
  refine am_ofF (by decide +kernel) rfl (by decide) (by omega) (Nat.le_of_ble_eq_true rfl) (fun X ad hX hi => ?_)
  have hi : am_info X 11 cX13_patches 3 false (Option.some Jvm.ClassFile.FieldType.int) 11 := hi
  show am_V X 0 0 _ _ ad (0, [(0, .ref 112)], [], I, G, (gP rd))
  unfold R_X13_patches_112 at h
  refine am_blk 0 [(.aload_n 0, 1, 0, 0, .null)] (1, [(0, .ref 112)], [.ref 112], I, G, (gP rd)) (True) hX hi (by decide +kernel) rfl trivial ?_
  obtain ⟨r1, I1, G1, hc, h⟩ := rb_some h
  refine am_callV hX hi (M := mX13_forget) (idx := 180) (d' := 1) (b := 112) (ci := 11) (As := []) (rest := []) mkX13_forget miX13_forget mvX13_forget (by decide +kernel) (by decide +kernel) rfl (by decide +kernel) rfl ⟨by omega, by decide, Nat.le_of_ble_eq_true rfl⟩ rfl (c_X13_forget_112 _ I G  hc) ?_
  rintro r9 I9 G9 P9 ⟨e0, e1, e2, e3⟩
  rw [e0, e1, e2, e3]
  show am_V X 0 0 _ _ ad (4, [(0, .ref 112)], [], I1, G1, (gP rd))
  refine am_blk 4 [(.iconst (0), 1, 0, 0, .int (0 : Int32)), (.istore_n 1, 1, 1, 0, .null), (.iconst (0), 1, 0, 0, .int (0 : Int32)), (.istore_n 2, 1, 2, 0, .null)] (8, [(0, .ref 112), (1, .int (0 : Int32)), (2, .int (0 : Int32))], [], I1, G1, (gP rd)) (True) hX hi (by decide +kernel) rfl trivial ?_
  exact (l_X13_patches_112 rd hX hi FU) _ _ _ _ _ h
noncomputable def L_X13_contours_102 (n0 : Nat) (hd : Nat) (I : am_I) (G : am_G) (v1 : Int32) (v2 : Int32) (v3 : Int32) : Option (Int32 × am_I × am_G) := match n0 with
  | 0 => none
  | n + 1 => match hd with
    | 0 => (if (f_X12_spots_86 I G ) ≤ v2 then some (v1, I, G) else L_X13_contours_102 n 1 I G v1 v2 (0 : Int32))
    | _ => (if (2 : Int32) ≤ v3 then L_X13_contours_102 n 0 I G v1 (v2 + (1 : Int32)) 0 else rb (R_X13_ink_102 I G v2) (fun r201 I201 G201 => rg (q_X13_beside_102 I201 G201 v2 v3) (rb (R_X13_ink_102 I201 G201 (f_X13_beside_102 I201 G201 v2 v3)) (fun r202 I202 G202 => (if r201 = r202 then L_X13_contours_102 n 1 I202 G202 (v1 + (0 : Int32)) v2 (v3 + (1 : Int32)) else L_X13_contours_102 n 1 I202 G202 (v1 + (1 : Int32)) v2 (v3 + (1 : Int32)))))))
theorem L_X13_contours_102_0 (n : Nat) (I : am_I) (G : am_G) (v1 : Int32) (v2 : Int32) (v3 : Int32) : L_X13_contours_102 (n + 1) 0 I G v1 v2 v3 = (if (f_X12_spots_86 I G ) ≤ v2 then some (v1, I, G) else L_X13_contours_102 n 1 I G v1 v2 (0 : Int32)) := rfl
theorem L_X13_contours_102_1 (n : Nat) (I : am_I) (G : am_G) (v1 : Int32) (v2 : Int32) (v3 : Int32) : L_X13_contours_102 (n + 1) 1 I G v1 v2 v3 = (if (2 : Int32) ≤ v3 then L_X13_contours_102 n 0 I G v1 (v2 + (1 : Int32)) 0 else rb (R_X13_ink_102 I G v2) (fun r201 I201 G201 => rg (q_X13_beside_102 I201 G201 v2 v3) (rb (R_X13_ink_102 I201 G201 (f_X13_beside_102 I201 G201 v2 v3)) (fun r202 I202 G202 => (if r201 = r202 then L_X13_contours_102 n 1 I202 G202 (v1 + (0 : Int32)) v2 (v3 + (1 : Int32)) else L_X13_contours_102 n 1 I202 G202 (v1 + (1 : Int32)) v2 (v3 + (1 : Int32))))))) := rfl
theorem L_X13_contours_102_z (h : Nat) (I : am_I) (G : am_G) (v1 : Int32) (v2 : Int32) (v3 : Int32) : L_X13_contours_102 0 h I G v1 v2 v3 = none := rfl
noncomputable def R_X13_contours_102 (I : am_I) (G : am_G)  : Option (Int32 × am_I × am_G) := L_X13_contours_102 FU 0 I G (0 : Int32) (0 : Int32) 0
set_option maxRecDepth 20000 in
set_option maxHeartbeats 4000000 in
theorem l_X13_contours_102 (rd : Nat) {X : am_X} {ad : Nat → Nat} (hX : am_okz X ad) (hi : am_info X 11 cX13_contours 4 false (Option.some Jvm.ClassFile.FieldType.int) 10) (n : Nat) : (∀ (I : am_I) (G : am_G) (v1 : Int32) (v2 : Int32) (v3 : Int32) (out : Int32 × am_I × am_G), L_X13_contours_102 n 0 I G v1 v2 v3 = some out → am_V X 0 0 (am_Rt X gS ad (pI out.1 out.2.1 out.2.2 (gP rd))) gS ad (4, [(0, .ref 102), (1, .int v1), (2, .int v2)], [], I, G, (gP rd))) ∧ (∀ (I : am_I) (G : am_G) (v1 : Int32) (v2 : Int32) (v3 : Int32) (out : Int32 × am_I × am_G), L_X13_contours_102 n 1 I G v1 v2 v3 = some out → am_V X 0 0 (am_Rt X gS ad (pI out.1 out.2.1 out.2.2 (gP rd))) gS ad (20, [(0, .ref 102), (1, .int v1), (2, .int v2), (3, .int v3)], [], I, G, (gP rd))) := by
  induction n with
  | zero => exact ⟨(fun I G v1 v2 v3 out h => by rw [L_X13_contours_102_z] at h; cases h), (fun I G v1 v2 v3 out h => by rw [L_X13_contours_102_z] at h; cases h)⟩
  | succ n ih =>
    refine ⟨?_, ?_⟩
    · intro I G v1 v2 v3 out h
      rw [L_X13_contours_102_0] at h
      refine am_blk 4 [(.iload_n 2, 1, 2, 0, .null), (.aload_n 0, 1, 0, 0, .null), (.getfield 3, 3, 11, 14, .null), (.getfield 67, 3, 12, 11, .null)] (12, [(0, .ref 102), (1, .int v1), (2, .int v2)], [.ref 86, .int v2], I, G, (gP rd)) (True) hX hi (by decide +kernel) rfl trivial ?_
      refine am_callV hX hi (M := mX12_spots) (idx := 107) (d' := 1) (b := 86) (ci := 10) (As := []) (rest := [.int v2]) mkX12_spots miX12_spots mvX12_spots (by decide +kernel) (by decide +kernel) rfl (by decide +kernel) rfl ⟨by omega, by decide, Nat.le_of_ble_eq_true rfl⟩ rfl (c_X12_spots_86 _ I G ) ?_
      rintro r9 I9 G9 P9 ⟨e0, e1, e2, e3⟩
      rw [e0, e1, e2, e3]
      show am_V X 0 0 _ _ ad (15, [(0, .ref 102), (1, .int v1), (2, .int v2)], [.int (f_X12_spots_86 I G ), .int v2], I, G, (gP rd))
      refine am_icmp_ge (tgt := 63) hX hi (off := (48)) (by decide +kernel) (by decide) (fun c15 => ?_) (fun c15 => ?_)
      · rw [if_pos c15] at h
        refine am_blk 63 [(.iload_n 1, 1, 1, 0, .null)] (64, [(0, .ref 102), (1, .int v1), (2, .int v2)], [.int v1], I, G, (gP rd)) (True) hX hi (by decide +kernel) rfl trivial ?_
        cases h
        refine am_iret hX hi rfl rfl (by decide +kernel) ?_
        exact ⟨rfl, rfl, rfl, rfl⟩
      · rw [if_neg c15] at h
        refine am_blk 18 [(.iconst (0), 1, 0, 0, .int (0 : Int32)), (.istore_n 3, 1, 3, 0, .null)] (20, [(0, .ref 102), (1, .int v1), (2, .int v2), (3, .int (0 : Int32))], [], I, G, (gP rd)) (True) hX hi (by decide +kernel) rfl trivial ?_
        exact ih.2 _ _ _ _ _ _ h
    · intro I G v1 v2 v3 out h
      rw [L_X13_contours_102_1] at h
      refine am_blk 20 [(.iload_n 3, 1, 3, 0, .null), (.iconst (2), 1, 0, 0, .int (2 : Int32))] (22, [(0, .ref 102), (1, .int v1), (2, .int v2), (3, .int v3)], [.int (2 : Int32), .int v3], I, G, (gP rd)) (True) hX hi (by decide +kernel) rfl trivial ?_
      refine am_icmp_ge (tgt := 57) hX hi (off := (35)) (by decide +kernel) (by decide) (fun c22 => ?_) (fun c22 => ?_)
      · rw [if_pos c22] at h
        refine am_blk 57 [(.iinc 2 (1), 3, 2, 0, .int (1 : Int32)), (.goto (-56), 3, 0, 4, .null)] (4, [(0, .ref 102), (1, .int v1), (2, .int (v2 + (1 : Int32))), (3, .int v3)], [], I, G, (gP rd)) (True) hX hi (by decide +kernel) rfl trivial ?_
        refine am_sub (L' := [(0, .ref 102), (1, .int v1), (2, .int (v2 + (1 : Int32)))]) (by simp) ?_
        exact ih.1 _ _ _ _ _ _ h
      · rw [if_neg c22] at h
        refine am_blk 25 [(.iload_n 1, 1, 1, 0, .null), (.aload_n 0, 1, 0, 0, .null), (.iload_n 2, 1, 2, 0, .null)] (28, [(0, .ref 102), (1, .int v1), (2, .int v2), (3, .int v3)], [.int v2, .ref 102, .int v1], I, G, (gP rd)) (True) hX hi (by decide +kernel) rfl trivial ?_
        obtain ⟨r201, I201, G201, hc, h⟩ := rb_some h
        refine am_callV hX hi (M := mX13_ink) (idx := 167) (d' := 9) (b := 102) (ci := 11) (As := [.int v2]) (rest := [.int v1]) mkX13_ink miX13_ink mvX13_ink (by decide +kernel) (by decide +kernel) rfl (by decide +kernel) rfl ⟨by omega, by decide, Nat.le_of_ble_eq_true rfl⟩ rfl (c_X13_ink_102 _ I G v2 hc) ?_
        rintro r9 I9 G9 P9 ⟨e0, e1, e2, e3⟩
        rw [e0, e1, e2, e3]
        show am_V X 0 0 _ _ ad (31, [(0, .ref 102), (1, .int v1), (2, .int v2), (3, .int v3)], [.int r201, .int v1], I201, G201, (gP rd))
        refine am_blk 31 [(.aload_n 0, 1, 0, 0, .null), (.aload_n 0, 1, 0, 0, .null), (.iload_n 2, 1, 2, 0, .null), (.iload_n 3, 1, 3, 0, .null)] (35, [(0, .ref 102), (1, .int v1), (2, .int v2), (3, .int v3)], [.int v3, .int v2, .ref 102, .ref 102, .int r201, .int v1], I201, G201, (gP rd)) (True) hX hi (by decide +kernel) rfl trivial ?_
        obtain ⟨hq1, h⟩ := rg_some h
        refine am_callV hX hi (M := mX13_beside) (idx := 177) (d' := 3) (b := 102) (ci := 11) (As := [.int v2, .int v3]) (rest := [.ref 102, .int r201, .int v1]) mkX13_beside miX13_beside mvX13_beside (by decide +kernel) (by decide +kernel) rfl (by decide +kernel) rfl ⟨by omega, by decide, Nat.le_of_ble_eq_true rfl⟩ rfl (c_X13_beside_102 _ I201 G201 v2 v3 hq1) ?_
        rintro r9 I9 G9 P9 ⟨e0, e1, e2, e3⟩
        rw [e0, e1, e2, e3]
        show am_V X 0 0 _ _ ad (38, [(0, .ref 102), (1, .int v1), (2, .int v2), (3, .int v3)], [.int (f_X13_beside_102 I201 G201 v2 v3), .ref 102, .int r201, .int v1], I201, G201, (gP rd))
        obtain ⟨r202, I202, G202, hc, h⟩ := rb_some h
        refine am_callV hX hi (M := mX13_ink) (idx := 167) (d' := 9) (b := 102) (ci := 11) (As := [.int (f_X13_beside_102 I201 G201 v2 v3)]) (rest := [.int r201, .int v1]) mkX13_ink miX13_ink mvX13_ink (by decide +kernel) (by decide +kernel) rfl (by decide +kernel) rfl ⟨by omega, by decide, Nat.le_of_ble_eq_true rfl⟩ rfl (c_X13_ink_102 _ I201 G201 (f_X13_beside_102 I201 G201 v2 v3) hc) ?_
        rintro r9 I9 G9 P9 ⟨e0, e1, e2, e3⟩
        rw [e0, e1, e2, e3]
        show am_V X 0 0 _ _ ad (41, [(0, .ref 102), (1, .int v1), (2, .int v2), (3, .int v3)], [.int r202, .int r201, .int v1], I202, G202, (gP rd))
        refine am_icmp_ne (tgt := 48) hX hi (off := (7)) (by decide +kernel) (by decide) (fun c41 => ?_) (fun c41 => ?_)
        · rw [if_neg c41] at h
          refine am_blk 48 [(.iconst (1), 1, 0, 0, .int (1 : Int32)), (.iadd, 1, 0, 0, .null), (.istore_n 1, 1, 1, 0, .null), (.iinc 3 (1), 3, 3, 0, .int (1 : Int32)), (.goto (-34), 3, 0, 20, .null)] (20, [(0, .ref 102), (1, .int (v1 + (1 : Int32))), (2, .int v2), (3, .int (v3 + (1 : Int32)))], [], I202, G202, (gP rd)) (True) hX hi (by decide +kernel) rfl trivial ?_
          exact ih.2 _ _ _ _ _ _ h
        · rw [if_pos c41] at h
          refine am_blk 44 [(.iconst (0), 1, 0, 0, .int (0 : Int32)), (.goto (4), 3, 0, 49, .null), (.iadd, 1, 0, 0, .null), (.istore_n 1, 1, 1, 0, .null), (.iinc 3 (1), 3, 3, 0, .int (1 : Int32)), (.goto (-34), 3, 0, 20, .null)] (20, [(0, .ref 102), (1, .int (v1 + (0 : Int32))), (2, .int v2), (3, .int (v3 + (1 : Int32)))], [], I202, G202, (gP rd)) (True) hX hi (by decide +kernel) rfl trivial ?_
          exact ih.2 _ _ _ _ _ _ h
set_option maxRecDepth 20000 in
set_option maxHeartbeats 4000000 in
theorem c_X13_contours_102 (rd : Nat) (I : am_I) (G : am_G)  {out : Int32 × am_I × am_G} (h : R_X13_contours_102 I G  = some out) : am_Ct mX13_contours 10 gS [.ref 102] I G (gP rd) (pI out.1 out.2.1 out.2.2 (gP rd)) := by
  refine am_ofF (by decide +kernel) rfl (by decide) (by omega) (Nat.le_of_ble_eq_true rfl) (fun X ad hX hi => ?_)
  have hi : am_info X 11 cX13_contours 4 false (Option.some Jvm.ClassFile.FieldType.int) 10 := hi
  show am_V X 0 0 _ _ ad (0, [(0, .ref 102)], [], I, G, (gP rd))
  unfold R_X13_contours_102 at h
  refine am_blk 0 [(.iconst (0), 1, 0, 0, .int (0 : Int32)), (.istore_n 1, 1, 1, 0, .null), (.iconst (0), 1, 0, 0, .int (0 : Int32)), (.istore_n 2, 1, 2, 0, .null)] (4, [(0, .ref 102), (1, .int (0 : Int32)), (2, .int (0 : Int32))], [], I, G, (gP rd)) (True) hX hi (by decide +kernel) rfl trivial ?_
  exact (l_X13_contours_102 rd hX hi FU).1 _ _ _ _ _ _ h
noncomputable def L_X13_contours_112 (n0 : Nat) (hd : Nat) (I : am_I) (G : am_G) (v1 : Int32) (v2 : Int32) (v3 : Int32) : Option (Int32 × am_I × am_G) := match n0 with
  | 0 => none
  | n + 1 => match hd with
    | 0 => (if (f_X12_spots_86 I G ) ≤ v2 then some (v1, I, G) else L_X13_contours_112 n 1 I G v1 v2 (0 : Int32))
    | _ => (if (2 : Int32) ≤ v3 then L_X13_contours_112 n 0 I G v1 (v2 + (1 : Int32)) 0 else rb (R_X13_ink_112 I G v2) (fun r201 I201 G201 => rg (q_X13_beside_112 I201 G201 v2 v3) (rb (R_X13_ink_112 I201 G201 (f_X13_beside_112 I201 G201 v2 v3)) (fun r202 I202 G202 => (if r201 = r202 then L_X13_contours_112 n 1 I202 G202 (v1 + (0 : Int32)) v2 (v3 + (1 : Int32)) else L_X13_contours_112 n 1 I202 G202 (v1 + (1 : Int32)) v2 (v3 + (1 : Int32)))))))
theorem L_X13_contours_112_0 (n : Nat) (I : am_I) (G : am_G) (v1 : Int32) (v2 : Int32) (v3 : Int32) : L_X13_contours_112 (n + 1) 0 I G v1 v2 v3 = (if (f_X12_spots_86 I G ) ≤ v2 then some (v1, I, G) else L_X13_contours_112 n 1 I G v1 v2 (0 : Int32)) := rfl
theorem L_X13_contours_112_1 (n : Nat) (I : am_I) (G : am_G) (v1 : Int32) (v2 : Int32) (v3 : Int32) : L_X13_contours_112 (n + 1) 1 I G v1 v2 v3 = (if (2 : Int32) ≤ v3 then L_X13_contours_112 n 0 I G v1 (v2 + (1 : Int32)) 0 else rb (R_X13_ink_112 I G v2) (fun r201 I201 G201 => rg (q_X13_beside_112 I201 G201 v2 v3) (rb (R_X13_ink_112 I201 G201 (f_X13_beside_112 I201 G201 v2 v3)) (fun r202 I202 G202 => (if r201 = r202 then L_X13_contours_112 n 1 I202 G202 (v1 + (0 : Int32)) v2 (v3 + (1 : Int32)) else L_X13_contours_112 n 1 I202 G202 (v1 + (1 : Int32)) v2 (v3 + (1 : Int32))))))) := rfl
theorem L_X13_contours_112_z (h : Nat) (I : am_I) (G : am_G) (v1 : Int32) (v2 : Int32) (v3 : Int32) : L_X13_contours_112 0 h I G v1 v2 v3 = none := rfl
noncomputable def R_X13_contours_112 (I : am_I) (G : am_G)  : Option (Int32 × am_I × am_G) := L_X13_contours_112 FU 0 I G (0 : Int32) (0 : Int32) 0
set_option maxRecDepth 20000 in
set_option maxHeartbeats 4000000 in
theorem l_X13_contours_112 (rd : Nat) {X : am_X} {ad : Nat → Nat} (hX : am_okz X ad) (hi : am_info X 11 cX13_contours 4 false (Option.some Jvm.ClassFile.FieldType.int) 10) (n : Nat) : (∀ (I : am_I) (G : am_G) (v1 : Int32) (v2 : Int32) (v3 : Int32) (out : Int32 × am_I × am_G), L_X13_contours_112 n 0 I G v1 v2 v3 = some out → am_V X 0 0 (am_Rt X gS ad (pI out.1 out.2.1 out.2.2 (gP rd))) gS ad (4, [(0, .ref 112), (1, .int v1), (2, .int v2)], [], I, G, (gP rd))) ∧ (∀ (I : am_I) (G : am_G) (v1 : Int32) (v2 : Int32) (v3 : Int32) (out : Int32 × am_I × am_G), L_X13_contours_112 n 1 I G v1 v2 v3 = some out → am_V X 0 0 (am_Rt X gS ad (pI out.1 out.2.1 out.2.2 (gP rd))) gS ad (20, [(0, .ref 112), (1, .int v1), (2, .int v2), (3, .int v3)], [], I, G, (gP rd))) := by
  induction n with
  | zero => exact ⟨(fun I G v1 v2 v3 out h => by rw [L_X13_contours_112_z] at h; cases h), (fun I G v1 v2 v3 out h => by rw [L_X13_contours_112_z] at h; cases h)⟩
  | succ n ih =>
    refine ⟨?_, ?_⟩
    · intro I G v1 v2 v3 out h
      rw [L_X13_contours_112_0] at h
      refine am_blk 4 [(.iload_n 2, 1, 2, 0, .null), (.aload_n 0, 1, 0, 0, .null), (.getfield 3, 3, 11, 14, .null), (.getfield 67, 3, 12, 11, .null)] (12, [(0, .ref 112), (1, .int v1), (2, .int v2)], [.ref 86, .int v2], I, G, (gP rd)) (True) hX hi (by decide +kernel) rfl trivial ?_
      refine am_callV hX hi (M := mX12_spots) (idx := 107) (d' := 1) (b := 86) (ci := 10) (As := []) (rest := [.int v2]) mkX12_spots miX12_spots mvX12_spots (by decide +kernel) (by decide +kernel) rfl (by decide +kernel) rfl ⟨by omega, by decide, Nat.le_of_ble_eq_true rfl⟩ rfl (c_X12_spots_86 _ I G ) ?_
      rintro r9 I9 G9 P9 ⟨e0, e1, e2, e3⟩
      rw [e0, e1, e2, e3]
      show am_V X 0 0 _ _ ad (15, [(0, .ref 112), (1, .int v1), (2, .int v2)], [.int (f_X12_spots_86 I G ), .int v2], I, G, (gP rd))
      refine am_icmp_ge (tgt := 63) hX hi (off := (48)) (by decide +kernel) (by decide) (fun c15 => ?_) (fun c15 => ?_)
      · rw [if_pos c15] at h
        refine am_blk 63 [(.iload_n 1, 1, 1, 0, .null)] (64, [(0, .ref 112), (1, .int v1), (2, .int v2)], [.int v1], I, G, (gP rd)) (True) hX hi (by decide +kernel) rfl trivial ?_
        cases h
        refine am_iret hX hi rfl rfl (by decide +kernel) ?_
        exact ⟨rfl, rfl, rfl, rfl⟩
      · rw [if_neg c15] at h
        refine am_blk 18 [(.iconst (0), 1, 0, 0, .int (0 : Int32)), (.istore_n 3, 1, 3, 0, .null)] (20, [(0, .ref 112), (1, .int v1), (2, .int v2), (3, .int (0 : Int32))], [], I, G, (gP rd)) (True) hX hi (by decide +kernel) rfl trivial ?_
        exact ih.2 _ _ _ _ _ _ h
    · intro I G v1 v2 v3 out h
      rw [L_X13_contours_112_1] at h
      refine am_blk 20 [(.iload_n 3, 1, 3, 0, .null), (.iconst (2), 1, 0, 0, .int (2 : Int32))] (22, [(0, .ref 112), (1, .int v1), (2, .int v2), (3, .int v3)], [.int (2 : Int32), .int v3], I, G, (gP rd)) (True) hX hi (by decide +kernel) rfl trivial ?_
      refine am_icmp_ge (tgt := 57) hX hi (off := (35)) (by decide +kernel) (by decide) (fun c22 => ?_) (fun c22 => ?_)
      · rw [if_pos c22] at h
        refine am_blk 57 [(.iinc 2 (1), 3, 2, 0, .int (1 : Int32)), (.goto (-56), 3, 0, 4, .null)] (4, [(0, .ref 112), (1, .int v1), (2, .int (v2 + (1 : Int32))), (3, .int v3)], [], I, G, (gP rd)) (True) hX hi (by decide +kernel) rfl trivial ?_
        refine am_sub (L' := [(0, .ref 112), (1, .int v1), (2, .int (v2 + (1 : Int32)))]) (by simp) ?_
        exact ih.1 _ _ _ _ _ _ h
      · rw [if_neg c22] at h
        refine am_blk 25 [(.iload_n 1, 1, 1, 0, .null), (.aload_n 0, 1, 0, 0, .null), (.iload_n 2, 1, 2, 0, .null)] (28, [(0, .ref 112), (1, .int v1), (2, .int v2), (3, .int v3)], [.int v2, .ref 112, .int v1], I, G, (gP rd)) (True) hX hi (by decide +kernel) rfl trivial ?_
        obtain ⟨r201, I201, G201, hc, h⟩ := rb_some h
        refine am_callV hX hi (M := mX13_ink) (idx := 167) (d' := 9) (b := 112) (ci := 11) (As := [.int v2]) (rest := [.int v1]) mkX13_ink miX13_ink mvX13_ink (by decide +kernel) (by decide +kernel) rfl (by decide +kernel) rfl ⟨by omega, by decide, Nat.le_of_ble_eq_true rfl⟩ rfl (c_X13_ink_112 _ I G v2 hc) ?_
        rintro r9 I9 G9 P9 ⟨e0, e1, e2, e3⟩
        rw [e0, e1, e2, e3]
        show am_V X 0 0 _ _ ad (31, [(0, .ref 112), (1, .int v1), (2, .int v2), (3, .int v3)], [.int r201, .int v1], I201, G201, (gP rd))
        refine am_blk 31 [(.aload_n 0, 1, 0, 0, .null), (.aload_n 0, 1, 0, 0, .null), (.iload_n 2, 1, 2, 0, .null), (.iload_n 3, 1, 3, 0, .null)] (35, [(0, .ref 112), (1, .int v1), (2, .int v2), (3, .int v3)], [.int v3, .int v2, .ref 112, .ref 112, .int r201, .int v1], I201, G201, (gP rd)) (True) hX hi (by decide +kernel) rfl trivial ?_
        obtain ⟨hq1, h⟩ := rg_some h
        refine am_callV hX hi (M := mX13_beside) (idx := 177) (d' := 3) (b := 112) (ci := 11) (As := [.int v2, .int v3]) (rest := [.ref 112, .int r201, .int v1]) mkX13_beside miX13_beside mvX13_beside (by decide +kernel) (by decide +kernel) rfl (by decide +kernel) rfl ⟨by omega, by decide, Nat.le_of_ble_eq_true rfl⟩ rfl (c_X13_beside_112 _ I201 G201 v2 v3 hq1) ?_
        rintro r9 I9 G9 P9 ⟨e0, e1, e2, e3⟩
        rw [e0, e1, e2, e3]
        show am_V X 0 0 _ _ ad (38, [(0, .ref 112), (1, .int v1), (2, .int v2), (3, .int v3)], [.int (f_X13_beside_112 I201 G201 v2 v3), .ref 112, .int r201, .int v1], I201, G201, (gP rd))
        obtain ⟨r202, I202, G202, hc, h⟩ := rb_some h
        refine am_callV hX hi (M := mX13_ink) (idx := 167) (d' := 9) (b := 112) (ci := 11) (As := [.int (f_X13_beside_112 I201 G201 v2 v3)]) (rest := [.int r201, .int v1]) mkX13_ink miX13_ink mvX13_ink (by decide +kernel) (by decide +kernel) rfl (by decide +kernel) rfl ⟨by omega, by decide, Nat.le_of_ble_eq_true rfl⟩ rfl (c_X13_ink_112 _ I201 G201 (f_X13_beside_112 I201 G201 v2 v3) hc) ?_
        rintro r9 I9 G9 P9 ⟨e0, e1, e2, e3⟩
        rw [e0, e1, e2, e3]
        show am_V X 0 0 _ _ ad (41, [(0, .ref 112), (1, .int v1), (2, .int v2), (3, .int v3)], [.int r202, .int r201, .int v1], I202, G202, (gP rd))
        refine am_icmp_ne (tgt := 48) hX hi (off := (7)) (by decide +kernel) (by decide) (fun c41 => ?_) (fun c41 => ?_)
        · rw [if_neg c41] at h
          refine am_blk 48 [(.iconst (1), 1, 0, 0, .int (1 : Int32)), (.iadd, 1, 0, 0, .null), (.istore_n 1, 1, 1, 0, .null), (.iinc 3 (1), 3, 3, 0, .int (1 : Int32)), (.goto (-34), 3, 0, 20, .null)] (20, [(0, .ref 112), (1, .int (v1 + (1 : Int32))), (2, .int v2), (3, .int (v3 + (1 : Int32)))], [], I202, G202, (gP rd)) (True) hX hi (by decide +kernel) rfl trivial ?_
          exact ih.2 _ _ _ _ _ _ h
        · rw [if_pos c41] at h
          refine am_blk 44 [(.iconst (0), 1, 0, 0, .int (0 : Int32)), (.goto (4), 3, 0, 49, .null), (.iadd, 1, 0, 0, .null), (.istore_n 1, 1, 1, 0, .null), (.iinc 3 (1), 3, 3, 0, .int (1 : Int32)), (.goto (-34), 3, 0, 20, .null)] (20, [(0, .ref 112), (1, .int (v1 + (0 : Int32))), (2, .int v2), (3, .int (v3 + (1 : Int32)))], [], I202, G202, (gP rd)) (True) hX hi (by decide +kernel) rfl trivial ?_
          exact ih.2 _ _ _ _ _ _ h
set_option maxRecDepth 20000 in
set_option maxHeartbeats 4000000 in
theorem c_X13_contours_112 (rd : Nat) (I : am_I) (G : am_G)  {out : Int32 × am_I × am_G} (h : R_X13_contours_112 I G  = some out) : am_Ct mX13_contours 10 gS [.ref 112] I G (gP rd) (pI out.1 out.2.1 out.2.2 (gP rd)) := by
  refine am_ofF (by decide +kernel) rfl (by decide) (by omega) (Nat.le_of_ble_eq_true rfl) (fun X ad hX hi => ?_)
  have hi : am_info X 11 cX13_contours 4 false (Option.some Jvm.ClassFile.FieldType.int) 10 := hi
  show am_V X 0 0 _ _ ad (0, [(0, .ref 112)], [], I, G, (gP rd))
  unfold R_X13_contours_112 at h
  refine am_blk 0 [(.iconst (0), 1, 0, 0, .int (0 : Int32)), (.istore_n 1, 1, 1, 0, .null), (.iconst (0), 1, 0, 0, .int (0 : Int32)), (.istore_n 2, 1, 2, 0, .null)] (4, [(0, .ref 112), (1, .int (0 : Int32)), (2, .int (0 : Int32))], [], I, G, (gP rd)) (True) hX hi (by decide +kernel) rfl trivial ?_
  exact (l_X13_contours_112 rd hX hi FU).1 _ _ _ _ _ _ h
noncomputable def R_X13_counted_102 (I : am_I) (G : am_G) (x1 : Int32) : Option (Int32 × am_I × am_G) := (if x1 = (7 : Int32) then rb (R_X13_patches_102 I G ) (fun r1 I1 G1 => some (r1, I1, G1)) else if x1 = (8 : Int32) then rb (R_X13_contours_102 I G ) (fun r2 I2 G2 => some (r2, I2, G2)) else if x1 = (9 : Int32) then rb (R_X13_highest_102 I G (0 : Int32)) (fun r3 I3 G3 => some (r3, I3, G3)) else if x1 = (10 : Int32) then rb (R_X13_highest_102 I G (1 : Int32)) (fun r4 I4 G4 => some (r4, I4, G4)) else if x1 = (11 : Int32) then some ((I 102 2), I, G) else if x1 = (12 : Int32) then some ((I 102 3), I, G) else some ((I 102 1), I, G))
set_option maxRecDepth 20000 in
set_option maxHeartbeats 4000000 in
theorem c_X13_counted_102 (rd : Nat) (I : am_I) (G : am_G) (x1 : Int32) {out : Int32 × am_I × am_G} (h : R_X13_counted_102 I G x1 = some out) : am_Ct mX13_counted 12 gS [.ref 102, .int x1] I G (gP rd) (pI out.1 out.2.1 out.2.2 (gP rd)) := by
  refine am_ofF (by decide +kernel) rfl (by decide) (by omega) (Nat.le_of_ble_eq_true rfl) (fun X ad hX hi => ?_)
  have hi : am_info X 11 cX13_counted 2 false (Option.some Jvm.ClassFile.FieldType.int) 12 := hi
  show am_V X 0 0 _ _ ad (0, [(0, .ref 102), (1, .int x1)], [], I, G, (gP rd))
  unfold R_X13_counted_102 at h
  refine am_blk 0 [(.iload_n 1, 1, 1, 0, .null)] (1, [(0, .ref 102), (1, .int x1)], [.int x1], I, G, (gP rd)) (True) hX hi (by decide +kernel) rfl trivial ?_
  by_cases s1_7 : x1 = (7 : Int32)
  · rw [if_pos s1_7] at h
    refine am_tsi hX hi (dflt := (71)) (lo := (7)) (hi' := (12)) (offs := #[(39), (44), (49), (55), (61), (66)]) (len := 39) (off := (39)) (tgt := 40) (by decide +kernel) (by rw [s1_7]; decide) (by rw [s1_7]; decide) (by rw [s1_7]; rfl) (by decide) ?_
    refine am_blk 40 [(.aload_n 0, 1, 0, 0, .null)] (41, [(0, .ref 102), (1, .int x1)], [.ref 102], I, G, (gP rd)) (True) hX hi (by decide +kernel) rfl trivial ?_
    obtain ⟨r1, I1, G1, hc, h⟩ := rb_some h
    refine am_callV hX hi (M := mX13_patches) (idx := 228) (d' := 11) (b := 102) (ci := 11) (As := []) (rest := []) mkX13_patches miX13_patches mvX13_patches (by decide +kernel) (by decide +kernel) rfl (by decide +kernel) rfl ⟨by omega, by decide, Nat.le_of_ble_eq_true rfl⟩ rfl (c_X13_patches_102 _ I G  hc) ?_
    rintro r9 I9 G9 P9 ⟨e0, e1, e2, e3⟩
    rw [e0, e1, e2, e3]
    show am_V X 0 0 _ _ ad (44, [(0, .ref 102), (1, .int x1)], [.int r1], I1, G1, (gP rd))
    cases h
    refine am_iret hX hi rfl rfl (by decide +kernel) ?_
    exact ⟨rfl, rfl, rfl, rfl⟩
  rw [if_neg s1_7] at h
  by_cases s1_8 : x1 = (8 : Int32)
  · rw [if_pos s1_8] at h
    refine am_tsi hX hi (dflt := (71)) (lo := (7)) (hi' := (12)) (offs := #[(39), (44), (49), (55), (61), (66)]) (len := 39) (off := (44)) (tgt := 45) (by decide +kernel) (by rw [s1_8]; decide) (by rw [s1_8]; decide) (by rw [s1_8]; rfl) (by decide) ?_
    refine am_blk 45 [(.aload_n 0, 1, 0, 0, .null)] (46, [(0, .ref 102), (1, .int x1)], [.ref 102], I, G, (gP rd)) (True) hX hi (by decide +kernel) rfl trivial ?_
    obtain ⟨r2, I2, G2, hc, h⟩ := rb_some h
    refine am_callV hX hi (M := mX13_contours) (idx := 231) (d' := 10) (b := 102) (ci := 11) (As := []) (rest := []) mkX13_contours miX13_contours mvX13_contours (by decide +kernel) (by decide +kernel) rfl (by decide +kernel) rfl ⟨by omega, by decide, Nat.le_of_ble_eq_true rfl⟩ rfl (c_X13_contours_102 _ I G  hc) ?_
    rintro r9 I9 G9 P9 ⟨e0, e1, e2, e3⟩
    rw [e0, e1, e2, e3]
    show am_V X 0 0 _ _ ad (49, [(0, .ref 102), (1, .int x1)], [.int r2], I2, G2, (gP rd))
    cases h
    refine am_iret hX hi rfl rfl (by decide +kernel) ?_
    exact ⟨rfl, rfl, rfl, rfl⟩
  rw [if_neg s1_8] at h
  by_cases s1_9 : x1 = (9 : Int32)
  · rw [if_pos s1_9] at h
    refine am_tsi hX hi (dflt := (71)) (lo := (7)) (hi' := (12)) (offs := #[(39), (44), (49), (55), (61), (66)]) (len := 39) (off := (49)) (tgt := 50) (by decide +kernel) (by rw [s1_9]; decide) (by rw [s1_9]; decide) (by rw [s1_9]; rfl) (by decide) ?_
    refine am_blk 50 [(.aload_n 0, 1, 0, 0, .null), (.iconst (0), 1, 0, 0, .int (0 : Int32))] (52, [(0, .ref 102), (1, .int x1)], [.int (0 : Int32), .ref 102], I, G, (gP rd)) (True) hX hi (by decide +kernel) rfl trivial ?_
    obtain ⟨r3, I3, G3, hc, h⟩ := rb_some h
    refine am_callV hX hi (M := mX13_highest) (idx := 234) (d' := 10) (b := 102) (ci := 11) (As := [.int (0 : Int32)]) (rest := []) mkX13_highest miX13_highest mvX13_highest (by decide +kernel) (by decide +kernel) rfl (by decide +kernel) rfl ⟨by omega, by decide, Nat.le_of_ble_eq_true rfl⟩ rfl (c_X13_highest_102 _ I G (0 : Int32) hc) ?_
    rintro r9 I9 G9 P9 ⟨e0, e1, e2, e3⟩
    rw [e0, e1, e2, e3]
    show am_V X 0 0 _ _ ad (55, [(0, .ref 102), (1, .int x1)], [.int r3], I3, G3, (gP rd))
    cases h
    refine am_iret hX hi rfl rfl (by decide +kernel) ?_
    exact ⟨rfl, rfl, rfl, rfl⟩
  rw [if_neg s1_9] at h
  by_cases s1_10 : x1 = (10 : Int32)
  · rw [if_pos s1_10] at h
    refine am_tsi hX hi (dflt := (71)) (lo := (7)) (hi' := (12)) (offs := #[(39), (44), (49), (55), (61), (66)]) (len := 39) (off := (55)) (tgt := 56) (by decide +kernel) (by rw [s1_10]; decide) (by rw [s1_10]; decide) (by rw [s1_10]; rfl) (by decide) ?_
    refine am_blk 56 [(.aload_n 0, 1, 0, 0, .null), (.iconst (1), 1, 0, 0, .int (1 : Int32))] (58, [(0, .ref 102), (1, .int x1)], [.int (1 : Int32), .ref 102], I, G, (gP rd)) (True) hX hi (by decide +kernel) rfl trivial ?_
    obtain ⟨r4, I4, G4, hc, h⟩ := rb_some h
    refine am_callV hX hi (M := mX13_highest) (idx := 234) (d' := 10) (b := 102) (ci := 11) (As := [.int (1 : Int32)]) (rest := []) mkX13_highest miX13_highest mvX13_highest (by decide +kernel) (by decide +kernel) rfl (by decide +kernel) rfl ⟨by omega, by decide, Nat.le_of_ble_eq_true rfl⟩ rfl (c_X13_highest_102 _ I G (1 : Int32) hc) ?_
    rintro r9 I9 G9 P9 ⟨e0, e1, e2, e3⟩
    rw [e0, e1, e2, e3]
    show am_V X 0 0 _ _ ad (61, [(0, .ref 102), (1, .int x1)], [.int r4], I4, G4, (gP rd))
    cases h
    refine am_iret hX hi rfl rfl (by decide +kernel) ?_
    exact ⟨rfl, rfl, rfl, rfl⟩
  rw [if_neg s1_10] at h
  by_cases s1_11 : x1 = (11 : Int32)
  · rw [if_pos s1_11] at h
    refine am_tsi hX hi (dflt := (71)) (lo := (7)) (hi' := (12)) (offs := #[(39), (44), (49), (55), (61), (66)]) (len := 39) (off := (61)) (tgt := 62) (by decide +kernel) (by rw [s1_11]; decide) (by rw [s1_11]; decide) (by rw [s1_11]; rfl) (by decide) ?_
    refine am_blk 62 [(.aload_n 0, 1, 0, 0, .null), (.getfield 51, 3, 11, 2, .null)] (66, [(0, .ref 102), (1, .int x1)], [.int (I 102 2)], I, G, (gP rd)) (True) hX hi (by decide +kernel) rfl trivial ?_
    cases h
    refine am_iret hX hi rfl rfl (by decide +kernel) ?_
    exact ⟨rfl, rfl, rfl, rfl⟩
  rw [if_neg s1_11] at h
  by_cases s1_12 : x1 = (12 : Int32)
  · rw [if_pos s1_12] at h
    refine am_tsi hX hi (dflt := (71)) (lo := (7)) (hi' := (12)) (offs := #[(39), (44), (49), (55), (61), (66)]) (len := 39) (off := (66)) (tgt := 67) (by decide +kernel) (by rw [s1_12]; decide) (by rw [s1_12]; decide) (by rw [s1_12]; rfl) (by decide) ?_
    refine am_blk 67 [(.aload_n 0, 1, 0, 0, .null), (.getfield 54, 3, 11, 3, .null)] (71, [(0, .ref 102), (1, .int x1)], [.int (I 102 3)], I, G, (gP rd)) (True) hX hi (by decide +kernel) rfl trivial ?_
    cases h
    refine am_iret hX hi rfl rfl (by decide +kernel) ?_
    exact ⟨rfl, rfl, rfl, rfl⟩
  rw [if_neg s1_12] at h
  refine am_tso hX hi (dflt := (71)) (lo := (7)) (hi' := (12)) (offs := #[(39), (44), (49), (55), (61), (66)]) (len := 39) (tgt := 72) (by decide +kernel) ?_ (by decide) ?_
  · have eF : ∀ v : Int32, ¬ x1 = v → ¬ (x1).toInt = v.toInt := fun v q z => q ((i_eq _ _).mpr z)
    have e7 := eF (7 : Int32) s1_7
    have e8 := eF (8 : Int32) s1_8
    have e9 := eF (9 : Int32) s1_9
    have e10 := eF (10 : Int32) s1_10
    have e11 := eF (11 : Int32) s1_11
    have e12 := eF (12 : Int32) s1_12
    simp only [show ((7 : Int32) : Int32).toInt = 7 from rfl, show ((8 : Int32) : Int32).toInt = 8 from rfl, show ((9 : Int32) : Int32).toInt = 9 from rfl, show ((10 : Int32) : Int32).toInt = 10 from rfl, show ((11 : Int32) : Int32).toInt = 11 from rfl, show ((12 : Int32) : Int32).toInt = 12 from rfl] at e7 e8 e9 e10 e11 e12
    omega
  refine am_blk 72 [(.aload_n 0, 1, 0, 0, .null), (.getfield 48, 3, 11, 1, .null)] (76, [(0, .ref 102), (1, .int x1)], [.int (I 102 1)], I, G, (gP rd)) (True) hX hi (by decide +kernel) rfl trivial ?_
  cases h
  refine am_iret hX hi rfl rfl (by decide +kernel) ?_
  exact ⟨rfl, rfl, rfl, rfl⟩
noncomputable def R_X13_counted_112 (I : am_I) (G : am_G) (x1 : Int32) : Option (Int32 × am_I × am_G) := (if x1 = (7 : Int32) then rb (R_X13_patches_112 I G ) (fun r1 I1 G1 => some (r1, I1, G1)) else if x1 = (8 : Int32) then rb (R_X13_contours_112 I G ) (fun r2 I2 G2 => some (r2, I2, G2)) else if x1 = (9 : Int32) then rb (R_X13_highest_112 I G (0 : Int32)) (fun r3 I3 G3 => some (r3, I3, G3)) else if x1 = (10 : Int32) then rb (R_X13_highest_112 I G (1 : Int32)) (fun r4 I4 G4 => some (r4, I4, G4)) else if x1 = (11 : Int32) then some ((I 112 2), I, G) else if x1 = (12 : Int32) then some ((I 112 3), I, G) else some ((I 112 1), I, G))
set_option maxRecDepth 20000 in
set_option maxHeartbeats 4000000 in
theorem c_X13_counted_112 (rd : Nat) (I : am_I) (G : am_G) (x1 : Int32) {out : Int32 × am_I × am_G} (h : R_X13_counted_112 I G x1 = some out) : am_Ct mX13_counted 12 gS [.ref 112, .int x1] I G (gP rd) (pI out.1 out.2.1 out.2.2 (gP rd)) := by
  refine am_ofF (by decide +kernel) rfl (by decide) (by omega) (Nat.le_of_ble_eq_true rfl) (fun X ad hX hi => ?_)
  have hi : am_info X 11 cX13_counted 2 false (Option.some Jvm.ClassFile.FieldType.int) 12 := hi
  show am_V X 0 0 _ _ ad (0, [(0, .ref 112), (1, .int x1)], [], I, G, (gP rd))
  unfold R_X13_counted_112 at h
  refine am_blk 0 [(.iload_n 1, 1, 1, 0, .null)] (1, [(0, .ref 112), (1, .int x1)], [.int x1], I, G, (gP rd)) (True) hX hi (by decide +kernel) rfl trivial ?_
  by_cases s1_7 : x1 = (7 : Int32)
  · rw [if_pos s1_7] at h
    refine am_tsi hX hi (dflt := (71)) (lo := (7)) (hi' := (12)) (offs := #[(39), (44), (49), (55), (61), (66)]) (len := 39) (off := (39)) (tgt := 40) (by decide +kernel) (by rw [s1_7]; decide) (by rw [s1_7]; decide) (by rw [s1_7]; rfl) (by decide) ?_
    refine am_blk 40 [(.aload_n 0, 1, 0, 0, .null)] (41, [(0, .ref 112), (1, .int x1)], [.ref 112], I, G, (gP rd)) (True) hX hi (by decide +kernel) rfl trivial ?_
    obtain ⟨r1, I1, G1, hc, h⟩ := rb_some h
    refine am_callV hX hi (M := mX13_patches) (idx := 228) (d' := 11) (b := 112) (ci := 11) (As := []) (rest := []) mkX13_patches miX13_patches mvX13_patches (by decide +kernel) (by decide +kernel) rfl (by decide +kernel) rfl ⟨by omega, by decide, Nat.le_of_ble_eq_true rfl⟩ rfl (c_X13_patches_112 _ I G  hc) ?_
    rintro r9 I9 G9 P9 ⟨e0, e1, e2, e3⟩
    rw [e0, e1, e2, e3]
    show am_V X 0 0 _ _ ad (44, [(0, .ref 112), (1, .int x1)], [.int r1], I1, G1, (gP rd))
    cases h
    refine am_iret hX hi rfl rfl (by decide +kernel) ?_
    exact ⟨rfl, rfl, rfl, rfl⟩
  rw [if_neg s1_7] at h
  by_cases s1_8 : x1 = (8 : Int32)
  · rw [if_pos s1_8] at h
    refine am_tsi hX hi (dflt := (71)) (lo := (7)) (hi' := (12)) (offs := #[(39), (44), (49), (55), (61), (66)]) (len := 39) (off := (44)) (tgt := 45) (by decide +kernel) (by rw [s1_8]; decide) (by rw [s1_8]; decide) (by rw [s1_8]; rfl) (by decide) ?_
    refine am_blk 45 [(.aload_n 0, 1, 0, 0, .null)] (46, [(0, .ref 112), (1, .int x1)], [.ref 112], I, G, (gP rd)) (True) hX hi (by decide +kernel) rfl trivial ?_
    obtain ⟨r2, I2, G2, hc, h⟩ := rb_some h
    refine am_callV hX hi (M := mX13_contours) (idx := 231) (d' := 10) (b := 112) (ci := 11) (As := []) (rest := []) mkX13_contours miX13_contours mvX13_contours (by decide +kernel) (by decide +kernel) rfl (by decide +kernel) rfl ⟨by omega, by decide, Nat.le_of_ble_eq_true rfl⟩ rfl (c_X13_contours_112 _ I G  hc) ?_
    rintro r9 I9 G9 P9 ⟨e0, e1, e2, e3⟩
    rw [e0, e1, e2, e3]
    show am_V X 0 0 _ _ ad (49, [(0, .ref 112), (1, .int x1)], [.int r2], I2, G2, (gP rd))
    cases h
    refine am_iret hX hi rfl rfl (by decide +kernel) ?_
    exact ⟨rfl, rfl, rfl, rfl⟩
  rw [if_neg s1_8] at h
  by_cases s1_9 : x1 = (9 : Int32)
  · rw [if_pos s1_9] at h
    refine am_tsi hX hi (dflt := (71)) (lo := (7)) (hi' := (12)) (offs := #[(39), (44), (49), (55), (61), (66)]) (len := 39) (off := (49)) (tgt := 50) (by decide +kernel) (by rw [s1_9]; decide) (by rw [s1_9]; decide) (by rw [s1_9]; rfl) (by decide) ?_
    refine am_blk 50 [(.aload_n 0, 1, 0, 0, .null), (.iconst (0), 1, 0, 0, .int (0 : Int32))] (52, [(0, .ref 112), (1, .int x1)], [.int (0 : Int32), .ref 112], I, G, (gP rd)) (True) hX hi (by decide +kernel) rfl trivial ?_
    obtain ⟨r3, I3, G3, hc, h⟩ := rb_some h
    refine am_callV hX hi (M := mX13_highest) (idx := 234) (d' := 10) (b := 112) (ci := 11) (As := [.int (0 : Int32)]) (rest := []) mkX13_highest miX13_highest mvX13_highest (by decide +kernel) (by decide +kernel) rfl (by decide +kernel) rfl ⟨by omega, by decide, Nat.le_of_ble_eq_true rfl⟩ rfl (c_X13_highest_112 _ I G (0 : Int32) hc) ?_
    rintro r9 I9 G9 P9 ⟨e0, e1, e2, e3⟩
    rw [e0, e1, e2, e3]
    show am_V X 0 0 _ _ ad (55, [(0, .ref 112), (1, .int x1)], [.int r3], I3, G3, (gP rd))
    cases h
    refine am_iret hX hi rfl rfl (by decide +kernel) ?_
    exact ⟨rfl, rfl, rfl, rfl⟩
  rw [if_neg s1_9] at h
  by_cases s1_10 : x1 = (10 : Int32)
  · rw [if_pos s1_10] at h
    refine am_tsi hX hi (dflt := (71)) (lo := (7)) (hi' := (12)) (offs := #[(39), (44), (49), (55), (61), (66)]) (len := 39) (off := (55)) (tgt := 56) (by decide +kernel) (by rw [s1_10]; decide) (by rw [s1_10]; decide) (by rw [s1_10]; rfl) (by decide) ?_
    refine am_blk 56 [(.aload_n 0, 1, 0, 0, .null), (.iconst (1), 1, 0, 0, .int (1 : Int32))] (58, [(0, .ref 112), (1, .int x1)], [.int (1 : Int32), .ref 112], I, G, (gP rd)) (True) hX hi (by decide +kernel) rfl trivial ?_
    obtain ⟨r4, I4, G4, hc, h⟩ := rb_some h
    refine am_callV hX hi (M := mX13_highest) (idx := 234) (d' := 10) (b := 112) (ci := 11) (As := [.int (1 : Int32)]) (rest := []) mkX13_highest miX13_highest mvX13_highest (by decide +kernel) (by decide +kernel) rfl (by decide +kernel) rfl ⟨by omega, by decide, Nat.le_of_ble_eq_true rfl⟩ rfl (c_X13_highest_112 _ I G (1 : Int32) hc) ?_
    rintro r9 I9 G9 P9 ⟨e0, e1, e2, e3⟩
    rw [e0, e1, e2, e3]
    show am_V X 0 0 _ _ ad (61, [(0, .ref 112), (1, .int x1)], [.int r4], I4, G4, (gP rd))
    cases h
    refine am_iret hX hi rfl rfl (by decide +kernel) ?_
    exact ⟨rfl, rfl, rfl, rfl⟩
  rw [if_neg s1_10] at h
  by_cases s1_11 : x1 = (11 : Int32)
  · rw [if_pos s1_11] at h
    refine am_tsi hX hi (dflt := (71)) (lo := (7)) (hi' := (12)) (offs := #[(39), (44), (49), (55), (61), (66)]) (len := 39) (off := (61)) (tgt := 62) (by decide +kernel) (by rw [s1_11]; decide) (by rw [s1_11]; decide) (by rw [s1_11]; rfl) (by decide) ?_
    refine am_blk 62 [(.aload_n 0, 1, 0, 0, .null), (.getfield 51, 3, 11, 2, .null)] (66, [(0, .ref 112), (1, .int x1)], [.int (I 112 2)], I, G, (gP rd)) (True) hX hi (by decide +kernel) rfl trivial ?_
    cases h
    refine am_iret hX hi rfl rfl (by decide +kernel) ?_
    exact ⟨rfl, rfl, rfl, rfl⟩
  rw [if_neg s1_11] at h
  by_cases s1_12 : x1 = (12 : Int32)
  · rw [if_pos s1_12] at h
    refine am_tsi hX hi (dflt := (71)) (lo := (7)) (hi' := (12)) (offs := #[(39), (44), (49), (55), (61), (66)]) (len := 39) (off := (66)) (tgt := 67) (by decide +kernel) (by rw [s1_12]; decide) (by rw [s1_12]; decide) (by rw [s1_12]; rfl) (by decide) ?_
    refine am_blk 67 [(.aload_n 0, 1, 0, 0, .null), (.getfield 54, 3, 11, 3, .null)] (71, [(0, .ref 112), (1, .int x1)], [.int (I 112 3)], I, G, (gP rd)) (True) hX hi (by decide +kernel) rfl trivial ?_
    cases h
    refine am_iret hX hi rfl rfl (by decide +kernel) ?_
    exact ⟨rfl, rfl, rfl, rfl⟩
  rw [if_neg s1_12] at h
  refine am_tso hX hi (dflt := (71)) (lo := (7)) (hi' := (12)) (offs := #[(39), (44), (49), (55), (61), (66)]) (len := 39) (tgt := 72) (by decide +kernel) ?_ (by decide) ?_
  · have eF : ∀ v : Int32, ¬ x1 = v → ¬ (x1).toInt = v.toInt := fun v q z => q ((i_eq _ _).mpr z)
    have e7 := eF (7 : Int32) s1_7
    have e8 := eF (8 : Int32) s1_8
    have e9 := eF (9 : Int32) s1_9
    have e10 := eF (10 : Int32) s1_10
    have e11 := eF (11 : Int32) s1_11
    have e12 := eF (12 : Int32) s1_12
    simp only [show ((7 : Int32) : Int32).toInt = 7 from rfl, show ((8 : Int32) : Int32).toInt = 8 from rfl, show ((9 : Int32) : Int32).toInt = 9 from rfl, show ((10 : Int32) : Int32).toInt = 10 from rfl, show ((11 : Int32) : Int32).toInt = 11 from rfl, show ((12 : Int32) : Int32).toInt = 12 from rfl] at e7 e8 e9 e10 e11 e12
    omega
  refine am_blk 72 [(.aload_n 0, 1, 0, 0, .null), (.getfield 48, 3, 11, 1, .null)] (76, [(0, .ref 112), (1, .int x1)], [.int (I 112 1)], I, G, (gP rd)) (True) hX hi (by decide +kernel) rfl trivial ?_
  cases h
  refine am_iret hX hi rfl rfl (by decide +kernel) ?_
  exact ⟨rfl, rfl, rfl, rfl⟩
noncomputable def R_X13_pushed_102 (I : am_I) (G : am_G) (x1 : Int32) (x2 : Int32) : Option (Int32 × am_I × am_G) := (if x1 = (6 : Int32) then rg (vp_in x2 4) (some ((I 103 x2.toNatClampNeg), I, G)) else if x1 = (9 : Int32) then rg (vp_in x2 4) (some ((I 104 x2.toNatClampNeg), I, G)) else if x1 = (16 : Int32) then rb (R_X13_share_102 I G (x2 + (1 : Int32))) (fun r1 I1 G1 => some (r1, I1, G1)) else if x1 = (18 : Int32) then rb (R_X13_isAtEdge_102 I G (x2 + (1 : Int32))) (fun r2 I2 G2 => (if r2 = 0 then some ((0 : Int32), I2, G2) else some ((1 : Int32), I2, G2))) else some (x2, I, G))
set_option maxRecDepth 20000 in
set_option maxHeartbeats 4000000 in
theorem c_X13_pushed_102 (rd : Nat) (I : am_I) (G : am_G) (x1 : Int32) (x2 : Int32) {out : Int32 × am_I × am_G} (h : R_X13_pushed_102 I G x1 x2 = some out) : am_Ct mX13_pushed 11 gS [.ref 102, .int x1, .int x2] I G (gP rd) (pI out.1 out.2.1 out.2.2 (gP rd)) := by
  refine am_ofF (by decide +kernel) rfl (by decide) (by omega) (Nat.le_of_ble_eq_true rfl) (fun X ad hX hi => ?_)
  have hi : am_info X 11 cX13_pushed 3 false (Option.some Jvm.ClassFile.FieldType.int) 11 := hi
  show am_V X 0 0 _ _ ad (0, [(0, .ref 102), (1, .int x1), (2, .int x2)], [], I, G, (gP rd))
  unfold R_X13_pushed_102 at h
  refine am_blk 0 [(.iload_n 1, 1, 1, 0, .null)] (1, [(0, .ref 102), (1, .int x1), (2, .int x2)], [.int x1], I, G, (gP rd)) (True) hX hi (by decide +kernel) rfl trivial ?_
  by_cases s1_6 : x1 = (6 : Int32)
  · rw [if_pos s1_6] at h
    refine am_lsw hX hi (dflt := (81)) (ps := #[((6), (58)), ((9), (43)), ((16), (50)), ((18), (65))]) (len := 43) (off := (58)) (tgt := 59) (by decide +kernel) (by decide +kernel) (by rw [s1_6]; rfl) (by decide) ?_
    obtain ⟨g0, h⟩ := rg_some h
    refine am_blk 59 [(.aload_n 0, 1, 0, 0, .null), (.getfield 15, 3, 11, 4, .null), (.iload_n 2, 1, 2, 0, .null), (.iaload, 1, 0, 0, .null)] (65, [(0, .ref 102), (1, .int x1), (2, .int x2)], [.int (I 103 x2.toNatClampNeg)], I, G, (gP rd)) (vp_in x2 4 ∧ True) hX hi (by decide +kernel) rfl ⟨g0, trivial⟩ ?_
    cases h
    refine am_iret hX hi rfl rfl (by decide +kernel) ?_
    exact ⟨rfl, rfl, rfl, rfl⟩
  rw [if_neg s1_6] at h
  by_cases s1_9 : x1 = (9 : Int32)
  · rw [if_pos s1_9] at h
    refine am_lsw hX hi (dflt := (81)) (ps := #[((6), (58)), ((9), (43)), ((16), (50)), ((18), (65))]) (len := 43) (off := (43)) (tgt := 44) (by decide +kernel) (by decide +kernel) (by rw [s1_9]; rfl) (by decide) ?_
    obtain ⟨g0, h⟩ := rg_some h
    refine am_blk 44 [(.aload_n 0, 1, 0, 0, .null), (.getfield 19, 3, 11, 5, .null), (.iload_n 2, 1, 2, 0, .null), (.iaload, 1, 0, 0, .null)] (50, [(0, .ref 102), (1, .int x1), (2, .int x2)], [.int (I 104 x2.toNatClampNeg)], I, G, (gP rd)) (vp_in x2 4 ∧ True) hX hi (by decide +kernel) rfl ⟨g0, trivial⟩ ?_
    cases h
    refine am_iret hX hi rfl rfl (by decide +kernel) ?_
    exact ⟨rfl, rfl, rfl, rfl⟩
  rw [if_neg s1_9] at h
  by_cases s1_16 : x1 = (16 : Int32)
  · rw [if_pos s1_16] at h
    refine am_lsw hX hi (dflt := (81)) (ps := #[((6), (58)), ((9), (43)), ((16), (50)), ((18), (65))]) (len := 43) (off := (50)) (tgt := 51) (by decide +kernel) (by decide +kernel) (by rw [s1_16]; rfl) (by decide) ?_
    refine am_blk 51 [(.aload_n 0, 1, 0, 0, .null), (.iload_n 2, 1, 2, 0, .null), (.iconst (1), 1, 0, 0, .int (1 : Int32)), (.iadd, 1, 0, 0, .null)] (55, [(0, .ref 102), (1, .int x1), (2, .int x2)], [.int (x2 + (1 : Int32)), .ref 102], I, G, (gP rd)) (True) hX hi (by decide +kernel) rfl trivial ?_
    obtain ⟨r1, I1, G1, hc, h⟩ := rb_some h
    refine am_callV hX hi (M := mX13_share) (idx := 250) (d' := 10) (b := 102) (ci := 11) (As := [.int (x2 + (1 : Int32))]) (rest := []) mkX13_share miX13_share mvX13_share (by decide +kernel) (by decide +kernel) rfl (by decide +kernel) rfl ⟨by omega, by decide, Nat.le_of_ble_eq_true rfl⟩ rfl (c_X13_share_102 _ I G (x2 + (1 : Int32)) hc) ?_
    rintro r9 I9 G9 P9 ⟨e0, e1, e2, e3⟩
    rw [e0, e1, e2, e3]
    show am_V X 0 0 _ _ ad (58, [(0, .ref 102), (1, .int x1), (2, .int x2)], [.int r1], I1, G1, (gP rd))
    cases h
    refine am_iret hX hi rfl rfl (by decide +kernel) ?_
    exact ⟨rfl, rfl, rfl, rfl⟩
  rw [if_neg s1_16] at h
  by_cases s1_18 : x1 = (18 : Int32)
  · rw [if_pos s1_18] at h
    refine am_lsw hX hi (dflt := (81)) (ps := #[((6), (58)), ((9), (43)), ((16), (50)), ((18), (65))]) (len := 43) (off := (65)) (tgt := 66) (by decide +kernel) (by decide +kernel) (by rw [s1_18]; rfl) (by decide) ?_
    refine am_blk 66 [(.aload_n 0, 1, 0, 0, .null), (.iload_n 2, 1, 2, 0, .null), (.iconst (1), 1, 0, 0, .int (1 : Int32)), (.iadd, 1, 0, 0, .null)] (70, [(0, .ref 102), (1, .int x1), (2, .int x2)], [.int (x2 + (1 : Int32)), .ref 102], I, G, (gP rd)) (True) hX hi (by decide +kernel) rfl trivial ?_
    obtain ⟨r2, I2, G2, hc, h⟩ := rb_some h
    refine am_callV hX hi (M := mX13_isAtEdge) (idx := 253) (d' := 10) (b := 102) (ci := 11) (As := [.int (x2 + (1 : Int32))]) (rest := []) mkX13_isAtEdge miX13_isAtEdge mvX13_isAtEdge (by decide +kernel) (by decide +kernel) rfl (by decide +kernel) rfl ⟨by omega, by decide, Nat.le_of_ble_eq_true rfl⟩ rfl (c_X13_isAtEdge_102 _ I G (x2 + (1 : Int32)) hc) ?_
    rintro r9 I9 G9 P9 ⟨e0, e1, e2, e3⟩
    rw [e0, e1, e2, e3]
    show am_V X 0 0 _ _ ad (73, [(0, .ref 102), (1, .int x1), (2, .int x2)], [.int r2], I2, G2, (gP rd))
    refine am_if_eq (tgt := 80) hX hi (off := (7)) (by decide +kernel) (by decide) (fun c73 => ?_) (fun c73 => ?_)
    · rw [if_pos c73] at h
      refine am_blk 80 [(.iconst (0), 1, 0, 0, .int (0 : Int32))] (81, [(0, .ref 102), (1, .int x1), (2, .int x2)], [.int (0 : Int32)], I2, G2, (gP rd)) (True) hX hi (by decide +kernel) rfl trivial ?_
      cases h
      refine am_iret hX hi rfl rfl (by decide +kernel) ?_
      exact ⟨rfl, rfl, rfl, rfl⟩
    · rw [if_neg c73] at h
      refine am_blk 76 [(.iconst (1), 1, 0, 0, .int (1 : Int32)), (.goto (4), 3, 0, 81, .null)] (81, [(0, .ref 102), (1, .int x1), (2, .int x2)], [.int (1 : Int32)], I2, G2, (gP rd)) (True) hX hi (by decide +kernel) rfl trivial ?_
      cases h
      refine am_iret hX hi rfl rfl (by decide +kernel) ?_
      exact ⟨rfl, rfl, rfl, rfl⟩
  rw [if_neg s1_18] at h
  refine am_lsw hX hi (dflt := (81)) (ps := #[((6), (58)), ((9), (43)), ((16), (50)), ((18), (65))]) (len := 43) (off := (81)) (tgt := 82) (by decide +kernel) (by decide +kernel) ?_ (by decide) ?_
  · have eF : ∀ v : Int32, ¬ x1 = v → ¬ (x1).toInt = v.toInt := fun v q z => q ((i_eq _ _).mpr z)
    have e6 := eF (6 : Int32) s1_6
    have e9 := eF (9 : Int32) s1_9
    have e16 := eF (16 : Int32) s1_16
    have e18 := eF (18 : Int32) s1_18
    simp only [show ((6 : Int32) : Int32).toInt = 6 from rfl, show ((9 : Int32) : Int32).toInt = 9 from rfl, show ((16 : Int32) : Int32).toInt = 16 from rfl, show ((18 : Int32) : Int32).toInt = 18 from rfl] at e6 e9 e16 e18
    simp [Op.lookupswitch.offset, e6, Ne.symm e6, e9, Ne.symm e9, e16, Ne.symm e16, e18, Ne.symm e18]
  refine am_blk 82 [(.iload_n 2, 1, 2, 0, .null)] (83, [(0, .ref 102), (1, .int x1), (2, .int x2)], [.int x2], I, G, (gP rd)) (True) hX hi (by decide +kernel) rfl trivial ?_
  cases h
  refine am_iret hX hi rfl rfl (by decide +kernel) ?_
  exact ⟨rfl, rfl, rfl, rfl⟩
