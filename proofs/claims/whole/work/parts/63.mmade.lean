def FUD : Nat := 700
def gS5 : List am_Sh := [.inl 9, .inl 7, .inr (0, 2000), .inr (2, 24), .inr (0, 401), .inr (0, 401), .inr (2, 401), .inl 3, .inr (0, 4), .inr (0, 4), .inr (0, 4), .inr (0, 4), .inr (0, 4), .inr (0, 4), .inr (0, 4), .inr (0, 5), .inl 1, .inr (0, 20), .inr (0, 20), .inr (0, 20), .inr (0, 20), .inr (0, 20), .inr (0, 20), .inr (0, 400), .inr (0, 400), .inl 8, .inr (0, 18432), .inr (0, 32), .inl 4, .inl 3, .inr (0, 4), .inr (0, 4), .inr (0, 4), .inr (0, 4), .inr (0, 4), .inr (0, 4), .inr (0, 4), .inr (0, 5), .inl 1, .inr (0, 20), .inr (0, 20), .inr (0, 20), .inr (0, 20), .inr (0, 20), .inr (0, 20), .inr (0, 400), .inr (0, 400), .inl 0, .inr (2, 4), .inl 0, .inr (2, 4), .inl 0, .inr (2, 5), .inl 5, .inr (0, 4), .inr (0, 96), .inr (0, 4), .inr (0, 576), .inr (0, 576), .inr (0, 6), .inl 2, .inr (0, 576), .inr (0, 576), .inr (0, 576), .inl 6, .inr (0, 400), .inl 5, .inr (0, 4), .inr (0, 96), .inr (0, 4), .inr (0, 576), .inr (0, 576), .inr (0, 6), .inl 2, .inr (0, 576), .inr (0, 576), .inr (0, 576), .inl 6, .inr (0, 400), .inl 12, .inr (0, 2000), .inr (0, 401), .inr (0, 401), .inr (0, 401), .inr (0, 401), .inr (0, 401), .inl 10, .inr (0, 4), .inr (0, 4), .inr (0, 4), .inr (0, 4), .inr (0, 4), .inr (0, 4), .inr (0, 4), .inr (0, 5), .inr (0, 20), .inr (0, 20), .inr (0, 21), .inr (0, 21), .inr (0, 21), .inr (0, 800), .inr (0, 400), .inl 11, .inr (0, 4), .inr (0, 4), .inr (0, 2304), .inr (1, 4), .inr (0, 576), .inr (0, 576), .inr (0, 400), .inr (1, 576), .inr (0, 576), .inl 11, .inr (0, 4), .inr (0, 4), .inr (0, 2304), .inr (1, 4), .inr (0, 576), .inr (0, 576), .inr (0, 400), .inr (1, 576), .inr (0, 576), .inr (2, 1), .inr (0, 5)]
def gS7 : List am_Sh := [.inl 9, .inl 7, .inr (0, 2000), .inr (2, 24), .inr (0, 401), .inr (0, 401), .inr (2, 401), .inl 3, .inr (0, 4), .inr (0, 4), .inr (0, 4), .inr (0, 4), .inr (0, 4), .inr (0, 4), .inr (0, 4), .inr (0, 5), .inl 1, .inr (0, 20), .inr (0, 20), .inr (0, 20), .inr (0, 20), .inr (0, 20), .inr (0, 20), .inr (0, 400), .inr (0, 400), .inl 8, .inr (0, 18432), .inr (0, 32), .inl 4, .inl 3, .inr (0, 4), .inr (0, 4), .inr (0, 4), .inr (0, 4), .inr (0, 4), .inr (0, 4), .inr (0, 4), .inr (0, 5), .inl 1, .inr (0, 20), .inr (0, 20), .inr (0, 20), .inr (0, 20), .inr (0, 20), .inr (0, 20), .inr (0, 400), .inr (0, 400), .inl 0, .inr (2, 4), .inl 0, .inr (2, 4), .inl 0, .inr (2, 5), .inl 5, .inr (0, 4), .inr (0, 96), .inr (0, 4), .inr (0, 576), .inr (0, 576), .inr (0, 6), .inl 2, .inr (0, 576), .inr (0, 576), .inr (0, 576), .inl 6, .inr (0, 400), .inl 5, .inr (0, 4), .inr (0, 96), .inr (0, 4), .inr (0, 576), .inr (0, 576), .inr (0, 6), .inl 2, .inr (0, 576), .inr (0, 576), .inr (0, 576), .inl 6, .inr (0, 400), .inl 12, .inr (0, 2000), .inr (0, 401), .inr (0, 401), .inr (0, 401), .inr (0, 401), .inr (0, 401), .inl 10, .inr (0, 4), .inr (0, 4), .inr (0, 4), .inr (0, 4), .inr (0, 4), .inr (0, 4), .inr (0, 4), .inr (0, 5), .inr (0, 20), .inr (0, 20), .inr (0, 21), .inr (0, 21), .inr (0, 21), .inr (0, 800), .inr (0, 400), .inl 11, .inr (0, 4), .inr (0, 4), .inr (0, 2304), .inr (1, 4), .inr (0, 576), .inr (0, 576), .inr (0, 400), .inr (1, 576), .inr (0, 576), .inl 11, .inr (0, 4), .inr (0, 4), .inr (0, 2304), .inr (1, 4), .inr (0, 576), .inr (0, 576), .inr (0, 400), .inr (1, 576), .inr (0, 576), .inr (2, 1), .inr (0, 7)]
noncomputable def R_X14_counted_79 (I : am_I) (G : am_G) (x1 : Int32) : Option (Int32 × am_I × am_G) := (if (f_X14_isIn I G x1 (7 : Int32) (13 : Int32)) = 0 then rg (vp_in (0 : Int32) 7) (rg (vp_in (1 : Int32) 7) (rg (vp_in (2 : Int32) 7) (rg (vp_in (3 : Int32) 7) (rg (vp_in (4 : Int32) 7) (rg (vp_in (5 : Int32) 7) (rg (vp_in (6 : Int32) 7) ((if (7 : Int32) ≤ x1 then some (((am_z I 123 0) 79 2), (am_up (am_up (am_up (am_up (am_up (am_up (am_up (am_z I 123 0) 123 (0 : Int32).toNatClampNeg ((am_z I 123 0) 102 0)) 123 (1 : Int32).toNatClampNeg ((am_z I 123 0) 86 0)) 123 (2 : Int32).toNatClampNeg ((am_z I 123 0) 86 1)) 123 (3 : Int32).toNatClampNeg ((am_z I 123 0) 86 2)) 123 (4 : Int32).toNatClampNeg ((am_z I 123 0) 86 3)) 123 (5 : Int32).toNatClampNeg ((am_z I 123 0) 86 4)) 123 (6 : Int32).toNatClampNeg ((am_z I 123 0) 86 13)), G) else rg (vp_in x1 7) (some (((am_up (am_up (am_up (am_up (am_up (am_up (am_up (am_z I 123 0) 123 (0 : Int32).toNatClampNeg ((am_z I 123 0) 102 0)) 123 (1 : Int32).toNatClampNeg ((am_z I 123 0) 86 0)) 123 (2 : Int32).toNatClampNeg ((am_z I 123 0) 86 1)) 123 (3 : Int32).toNatClampNeg ((am_z I 123 0) 86 2)) 123 (4 : Int32).toNatClampNeg ((am_z I 123 0) 86 3)) 123 (5 : Int32).toNatClampNeg ((am_z I 123 0) 86 4)) 123 (6 : Int32).toNatClampNeg ((am_z I 123 0) 86 13)) 123 x1.toNatClampNeg), (am_up (am_up (am_up (am_up (am_up (am_up (am_up (am_z I 123 0) 123 (0 : Int32).toNatClampNeg ((am_z I 123 0) 102 0)) 123 (1 : Int32).toNatClampNeg ((am_z I 123 0) 86 0)) 123 (2 : Int32).toNatClampNeg ((am_z I 123 0) 86 1)) 123 (3 : Int32).toNatClampNeg ((am_z I 123 0) 86 2)) 123 (4 : Int32).toNatClampNeg ((am_z I 123 0) 86 3)) 123 (5 : Int32).toNatClampNeg ((am_z I 123 0) 86 4)) 123 (6 : Int32).toNatClampNeg ((am_z I 123 0) 86 13)), G)))))))))) else rb (R_X13_counted_102 I G x1) (fun r1 I1 G1 => some (r1, I1, G1)))
set_option maxRecDepth 20000 in
set_option maxHeartbeats 4000000 in
theorem c_X14_counted_79 (rd : Nat) (hrd : rd ≠ 123) (I : am_I) (G : am_G) (x1 : Int32) {out : Int32 × am_I × am_G} (h : R_X14_counted_79 I G x1 = some out) : am_CtM mX14_counted 1 7 13 gS [.ref 79, .int x1] I G (gP rd) (pI out.1 out.2.1 out.2.2 (gP rd)) := by
  refine am_ofM (by decide +kernel) rfl (by decide) (by omega) (Nat.le_of_ble_eq_true rfl) (fun X ad hX hi hm => ?_)
  have hi : am_info X 12 cX14_counted 3 false (Option.some Jvm.ClassFile.FieldType.int) 13 := hi
  have hm : am_mem X 1 7 := hm
  show am_V X _ _ _ _ _ (0, [(0, .ref 79), (1, .int x1)], [], I, G, (gP rd))
  unfold R_X14_counted_79 at h
  refine am_blk 0 [(.iload_n 1, 1, 1, 0, .null), (.bipush (7), 2, 0, 0, .int (7 : Int32)), (.bipush (13), 2, 0, 0, .int (13 : Int32))] (5, [(0, .ref 79), (1, .int x1)], [.int (13 : Int32), .int (7 : Int32), .int x1], I, G, (gP rd)) (True) hX hi (by decide +kernel) rfl trivial ?_
  refine am_callS hX hi (M := mX14_isIn) (idx := 63) (d' := 1) (As := [.int x1, .int (7 : Int32), .int (13 : Int32)]) (rest := []) mkX14_isIn msX14_isIn (by decide +kernel) (by decide +kernel) rfl ⟨by omega, by decide, Nat.le_of_ble_eq_true rfl⟩ rfl (c_X14_isIn I G x1 (7 : Int32) (13 : Int32)) ?_
  rintro r9 I9 G9 P9 ⟨e0, e1, e2, e3⟩
  rw [e0, e1, e2, e3]
  show am_V X _ _ _ _ _ (8, [(0, .ref 79), (1, .int x1)], [.int (f_X14_isIn I G x1 (7 : Int32) (13 : Int32))], I, G, (gP rd))
  refine am_if_eq (tgt := 20) hX hi (off := (12)) (by decide +kernel) (by decide) (fun c8 => ?_) (fun c8 => ?_)
  · rw [if_pos c8] at h
    refine am_blk 20 [(.bipush (7), 2, 0, 0, .int (7 : Int32))] (22, [(0, .ref 79), (1, .int x1)], [.int (7 : Int32)], I, G, (gP rd)) (True) hX hi (by decide +kernel) rfl trivial ?_
    refine am_newi hX hi hm (N := 7) (n := (7 : Int32)) (by decide +kernel) (by decide +kernel) (by decide) (by decide) (by decide) ⟨by decide, by decide⟩ (gP_no rd hrd) rfl (fun ad1 e1 => ?_)
    have e1 : ∀ j, j ≠ 123 → ad1 j = ad j := e1
    have hX := hX.adr (fun j hj => e1 j (by omega))
    show am_V X 1 7 _ gS7 ad1 (24, [(0, .ref 79), (1, .int x1)], [.ref 123], (am_z I 123 0), G, (gP rd))
    obtain ⟨g0, h⟩ := rg_some h
    obtain ⟨g1, h⟩ := rg_some h
    obtain ⟨g2, h⟩ := rg_some h
    obtain ⟨g3, h⟩ := rg_some h
    obtain ⟨g4, h⟩ := rg_some h
    obtain ⟨g5, h⟩ := rg_some h
    obtain ⟨g6, h⟩ := rg_some h
    refine am_blk 24 [(.dup, 1, 0, 0, .null), (.iconst (0), 1, 0, 0, .int (0 : Int32)), (.aload_n 0, 1, 0, 0, .null), (.getfield 47, 3, 12, 13, .null), (.getfield 325, 3, 11, 0, .null), (.iastore, 1, 0, 0, .null), (.dup, 1, 0, 0, .null), (.iconst (1), 1, 0, 0, .int (1 : Int32)), (.aload_n 0, 1, 0, 0, .null), (.getfield 35, 3, 12, 11, .null), (.getfield 256, 3, 10, 0, .null), (.iastore, 1, 0, 0, .null), (.dup, 1, 0, 0, .null), (.iconst (2), 1, 0, 0, .int (2 : Int32)), (.aload_n 0, 1, 0, 0, .null), (.getfield 35, 3, 12, 11, .null), (.getfield 259, 3, 10, 1, .null), (.iastore, 1, 0, 0, .null), (.dup, 1, 0, 0, .null), (.iconst (3), 1, 0, 0, .int (3 : Int32)), (.aload_n 0, 1, 0, 0, .null), (.getfield 35, 3, 12, 11, .null), (.getfield 60, 3, 10, 2, .null), (.iastore, 1, 0, 0, .null), (.dup, 1, 0, 0, .null), (.iconst (4), 1, 0, 0, .int (4 : Int32)), (.aload_n 0, 1, 0, 0, .null), (.getfield 35, 3, 12, 11, .null), (.getfield 67, 3, 10, 3, .null), (.iastore, 1, 0, 0, .null), (.dup, 1, 0, 0, .null), (.iconst (5), 1, 0, 0, .int (5 : Int32)), (.aload_n 0, 1, 0, 0, .null), (.getfield 35, 3, 12, 11, .null), (.getfield 70, 3, 10, 4, .null), (.iastore, 1, 0, 0, .null), (.dup, 1, 0, 0, .null), (.bipush (6), 2, 0, 0, .int (6 : Int32)), (.aload_n 0, 1, 0, 0, .null), (.getfield 35, 3, 12, 11, .null), (.getfield 234, 3, 10, 13, .null), (.iastore, 1, 0, 0, .null), (.astore_n 2, 1, 2, 0, .null), (.iload_n 1, 1, 1, 0, .null), (.bipush (7), 2, 0, 0, .int (7 : Int32))] (99, [(0, .ref 79), (1, .int x1), (2, .ref 123)], [.int (7 : Int32), .int x1], (am_up (am_up (am_up (am_up (am_up (am_up (am_up (am_z I 123 0) 123 (0 : Int32).toNatClampNeg ((am_z I 123 0) 102 0)) 123 (1 : Int32).toNatClampNeg ((am_z I 123 0) 86 0)) 123 (2 : Int32).toNatClampNeg ((am_z I 123 0) 86 1)) 123 (3 : Int32).toNatClampNeg ((am_z I 123 0) 86 2)) 123 (4 : Int32).toNatClampNeg ((am_z I 123 0) 86 3)) 123 (5 : Int32).toNatClampNeg ((am_z I 123 0) 86 4)) 123 (6 : Int32).toNatClampNeg ((am_z I 123 0) 86 13)), G, (gP rd)) (vp_in (0 : Int32) 7 ∧ vp_in (1 : Int32) 7 ∧ vp_in (2 : Int32) 7 ∧ vp_in (3 : Int32) 7 ∧ vp_in (4 : Int32) 7 ∧ vp_in (5 : Int32) 7 ∧ vp_in (6 : Int32) 7 ∧ True) hX hi (by decide +kernel) rfl ⟨g0, g1, g2, g3, g4, g5, g6, trivial⟩ ?_
    refine am_icmp_ge (tgt := 108) hX hi (off := (9)) (by decide +kernel) (by decide) (fun c99 => ?_) (fun c99 => ?_)
    · rw [if_pos c99] at h
      refine am_blk 108 [(.aload_n 0, 1, 0, 0, .null), (.getfield 83, 3, 12, 2, .null)] (112, [(0, .ref 79), (1, .int x1), (2, .ref 123)], [.int ((am_z I 123 0) 79 2)], (am_up (am_up (am_up (am_up (am_up (am_up (am_up (am_z I 123 0) 123 (0 : Int32).toNatClampNeg ((am_z I 123 0) 102 0)) 123 (1 : Int32).toNatClampNeg ((am_z I 123 0) 86 0)) 123 (2 : Int32).toNatClampNeg ((am_z I 123 0) 86 1)) 123 (3 : Int32).toNatClampNeg ((am_z I 123 0) 86 2)) 123 (4 : Int32).toNatClampNeg ((am_z I 123 0) 86 3)) 123 (5 : Int32).toNatClampNeg ((am_z I 123 0) 86 4)) 123 (6 : Int32).toNatClampNeg ((am_z I 123 0) 86 13)), G, (gP rd)) (True) hX hi (by decide +kernel) rfl trivial ?_
      cases h
      exact am_iretMd (x := .inr (0, 7)) (sh := gS) hX hi (gP_no rd hrd) rfl e1 rfl rfl (by decide +kernel) ⟨rfl, rfl, rfl, rfl⟩ ⟨by decide, by decide⟩
    · rw [if_neg c99] at h
      obtain ⟨g0, h⟩ := rg_some h
      refine am_blk 102 [(.aload_n 2, 1, 2, 0, .null), (.iload_n 1, 1, 1, 0, .null), (.iaload, 1, 0, 0, .null), (.goto (7), 3, 0, 112, .null)] (112, [(0, .ref 79), (1, .int x1), (2, .ref 123)], [.int ((am_up (am_up (am_up (am_up (am_up (am_up (am_up (am_z I 123 0) 123 (0 : Int32).toNatClampNeg ((am_z I 123 0) 102 0)) 123 (1 : Int32).toNatClampNeg ((am_z I 123 0) 86 0)) 123 (2 : Int32).toNatClampNeg ((am_z I 123 0) 86 1)) 123 (3 : Int32).toNatClampNeg ((am_z I 123 0) 86 2)) 123 (4 : Int32).toNatClampNeg ((am_z I 123 0) 86 3)) 123 (5 : Int32).toNatClampNeg ((am_z I 123 0) 86 4)) 123 (6 : Int32).toNatClampNeg ((am_z I 123 0) 86 13)) 123 x1.toNatClampNeg)], (am_up (am_up (am_up (am_up (am_up (am_up (am_up (am_z I 123 0) 123 (0 : Int32).toNatClampNeg ((am_z I 123 0) 102 0)) 123 (1 : Int32).toNatClampNeg ((am_z I 123 0) 86 0)) 123 (2 : Int32).toNatClampNeg ((am_z I 123 0) 86 1)) 123 (3 : Int32).toNatClampNeg ((am_z I 123 0) 86 2)) 123 (4 : Int32).toNatClampNeg ((am_z I 123 0) 86 3)) 123 (5 : Int32).toNatClampNeg ((am_z I 123 0) 86 4)) 123 (6 : Int32).toNatClampNeg ((am_z I 123 0) 86 13)), G, (gP rd)) (vp_in x1 7 ∧ True) hX hi (by decide +kernel) rfl ⟨g0, trivial⟩ ?_
      cases h
      exact am_iretMd (x := .inr (0, 7)) (sh := gS) hX hi (gP_no rd hrd) rfl e1 rfl rfl (by decide +kernel) ⟨rfl, rfl, rfl, rfl⟩ ⟨by decide, by decide⟩
  · rw [if_neg c8] at h
    refine am_blk 11 [(.aload_n 0, 1, 0, 0, .null), (.getfield 47, 3, 12, 13, .null), (.iload_n 1, 1, 1, 0, .null)] (16, [(0, .ref 79), (1, .int x1)], [.int x1, .ref 102], I, G, (gP rd)) (True) hX hi (by decide +kernel) rfl trivial ?_
    obtain ⟨r1, I1, G1, hc, h⟩ := rb_some h
    refine am_callV hX hi (M := mX13_counted) (idx := 322) (d' := 12) (b := 102) (ci := 11) (As := [.int x1]) (rest := []) mkX13_counted miX13_counted mvX13_counted (by decide +kernel) (by decide +kernel) rfl (by decide +kernel) rfl ⟨by omega, by decide, Nat.le_of_ble_eq_true rfl⟩ rfl (c_X13_counted_102 _ I G x1 hc) ?_
    rintro r9 I9 G9 P9 ⟨e0, e1, e2, e3⟩
    rw [e0, e1, e2, e3]
    show am_V X _ _ _ _ _ (19, [(0, .ref 79), (1, .int x1)], [.int r1], I1, G1, (gP rd))
    cases h
    exact am_iretM hX hi rfl rfl (by decide +kernel) ⟨rfl, rfl, rfl, rfl⟩ ⟨by omega, by omega⟩
noncomputable def R_X14_count_79 (I : am_I) (G : am_G) (x1 : Int32) : Option (Int32 × am_I × am_G) := (if (f_X14_isIn (am_up I 79 0 (0 : Int32)) G x1 (0 : Int32) (14 : Int32)) = 0 then some ((f_X14_no_79 (am_up I 79 0 (0 : Int32)) G (1 : Int32)), (g_X14_no_79 (am_up I 79 0 (0 : Int32)) G (1 : Int32)), G) else rb (R_X14_counted_79 (am_up I 79 0 (0 : Int32)) G x1) (fun r1 I1 G1 => some (r1, I1, G1)))
set_option maxRecDepth 20000 in
set_option maxHeartbeats 4000000 in
theorem c_X14_count_79 (rd : Nat) (hrd : rd ≠ 123) (I : am_I) (G : am_G) (x1 : Int32) {out : Int32 × am_I × am_G} (h : R_X14_count_79 I G x1 = some out) : am_CtM mX14_count 1 7 14 gS [.ref 79, .int x1] I G (gP rd) (pI out.1 out.2.1 out.2.2 (gP rd)) := by
  refine am_ofM (by decide +kernel) rfl (by decide) (by omega) (Nat.le_of_ble_eq_true rfl) (fun X ad hX hi hm => ?_)
  have hi : am_info X 12 cX14_count 2 false (Option.some Jvm.ClassFile.FieldType.int) 14 := hi
  have hm : am_mem X 1 7 := hm
  show am_V X _ _ _ _ _ (0, [(0, .ref 79), (1, .int x1)], [], I, G, (gP rd))
  unfold R_X14_count_79 at h
  refine am_blk 0 [(.aload_n 0, 1, 0, 0, .null), (.iconst (0), 1, 0, 0, .int (0 : Int32)), (.putfield 57, 3, 12, 0, .null), (.iload_n 1, 1, 1, 0, .null), (.iconst (0), 1, 0, 0, .int (0 : Int32)), (.bipush (14), 2, 0, 0, .int (14 : Int32))] (9, [(0, .ref 79), (1, .int x1)], [.int (14 : Int32), .int (0 : Int32), .int x1], (am_up I 79 0 (0 : Int32)), G, (gP rd)) (True) hX hi (by decide +kernel) rfl trivial ?_
  refine am_callS hX hi (M := mX14_isIn) (idx := 63) (d' := 1) (As := [.int x1, .int (0 : Int32), .int (14 : Int32)]) (rest := []) mkX14_isIn msX14_isIn (by decide +kernel) (by decide +kernel) rfl ⟨by omega, by decide, Nat.le_of_ble_eq_true rfl⟩ rfl (c_X14_isIn (am_up I 79 0 (0 : Int32)) G x1 (0 : Int32) (14 : Int32)) ?_
  rintro r9 I9 G9 P9 ⟨e0, e1, e2, e3⟩
  rw [e0, e1, e2, e3]
  show am_V X _ _ _ _ _ (12, [(0, .ref 79), (1, .int x1)], [.int (f_X14_isIn (am_up I 79 0 (0 : Int32)) G x1 (0 : Int32) (14 : Int32))], (am_up I 79 0 (0 : Int32)), G, (gP rd))
  refine am_if_eq (tgt := 23) hX hi (off := (11)) (by decide +kernel) (by decide) (fun c12 => ?_) (fun c12 => ?_)
  · rw [if_pos c12] at h
    refine am_blk 23 [(.aload_n 0, 1, 0, 0, .null), (.iconst (1), 1, 0, 0, .int (1 : Int32))] (25, [(0, .ref 79), (1, .int x1)], [.int (1 : Int32), .ref 79], (am_up I 79 0 (0 : Int32)), G, (gP rd)) (True) hX hi (by decide +kernel) rfl trivial ?_
    refine am_callV hX hi (M := mX14_no) (idx := 316) (d' := 1) (b := 79) (ci := 12) (As := [.int (1 : Int32)]) (rest := []) mkX14_no miX14_no mvX14_no (by decide +kernel) (by decide +kernel) rfl (by decide +kernel) rfl ⟨by omega, by decide, Nat.le_of_ble_eq_true rfl⟩ rfl (c_X14_no_79 _ (am_up I 79 0 (0 : Int32)) G (1 : Int32)) ?_
    rintro r9 I9 G9 P9 ⟨e0, e1, e2, e3⟩
    rw [e0, e1, e2, e3]
    show am_V X _ _ _ _ _ (28, [(0, .ref 79), (1, .int x1)], [.int (f_X14_no_79 (am_up I 79 0 (0 : Int32)) G (1 : Int32))], (g_X14_no_79 (am_up I 79 0 (0 : Int32)) G (1 : Int32)), G, (gP rd))
    cases h
    exact am_iretM hX hi rfl rfl (by decide +kernel) ⟨rfl, rfl, rfl, rfl⟩ ⟨by omega, by omega⟩
  · rw [if_neg c12] at h
    refine am_blk 15 [(.aload_n 0, 1, 0, 0, .null), (.iload_n 1, 1, 1, 0, .null)] (17, [(0, .ref 79), (1, .int x1)], [.int x1, .ref 79], (am_up I 79 0 (0 : Int32)), G, (gP rd)) (True) hX hi (by decide +kernel) rfl trivial ?_
    obtain ⟨r1, I1, G1, hc, h⟩ := rb_some h
    refine am_callVM hX hi hm (mc := 1) (ms := 7) (M := mX14_counted) (idx := 328) (d' := 13) (b := 79) (ci := 12) (As := [.int x1]) (rest := []) mkX14_counted miX14_counted mvX14_counted (by decide +kernel) (by decide +kernel) rfl (by decide +kernel) rfl ⟨by omega, by decide, Nat.le_of_ble_eq_true rfl⟩ rfl ⟨by decide, by decide⟩ (c_X14_counted_79 _ hrd (am_up I 79 0 (0 : Int32)) G x1 hc) ?_
    rintro r9 I9 G9 P9 ⟨e0, e1, e2, e3⟩
    rw [e0, e1, e2, e3]
    show am_V X _ _ _ _ _ (20, [(0, .ref 79), (1, .int x1)], [.int r1], I1, G1, (gP rd))
    refine am_blk 20 [(.goto (8), 3, 0, 28, .null)] (28, [(0, .ref 79), (1, .int x1)], [.int r1], I1, G1, (gP rd)) (True) hX hi (by decide +kernel) rfl trivial ?_
    cases h
    exact am_iretM hX hi rfl rfl (by decide +kernel) ⟨rfl, rfl, rfl, rfl⟩ ⟨by omega, by omega⟩
noncomputable def L_X14_feed_79 (n0 : Nat) (hd : Nat) (I : am_I) (G : am_G) (v1 : Int32) (v2 : Int32) (v3 : Int32) (v4 : Int32) (v5 : Int32) (v7 : Int32) : Option (Int32 × am_I × am_G) := match n0 with
  | 0 => none
  | n + 1 => match hd with
    | _ => (if (20 : Int32) ≤ v7 then some (((I 79 2) + (20 : Int32)), (am_up I 79 2 ((I 79 2) + (20 : Int32))), G) else rg (¬ (4 : Int32) = 0) (rg (vp_in (v7 / (4 : Int32)) 5) (rg (¬ (4 : Int32) = 0) (rg (vp_in ((I 79 2) + v7) 2000) (L_X14_feed_79 n 0 (am_up I 80 ((I 79 2) + v7).toNatClampNeg (((I 123 (v7 / (4 : Int32)).toNatClampNeg) >>> (((24 : Int32) - ((8 : Int32) * (v7 - v7 / (4 : Int32) * (4 : Int32)))) &&& 31)) &&& (255 : Int32))) G v1 v2 v3 v4 v5 (v7 + (1 : Int32)))))))
theorem L_X14_feed_79_0 (n : Nat) (I : am_I) (G : am_G) (v1 : Int32) (v2 : Int32) (v3 : Int32) (v4 : Int32) (v5 : Int32) (v7 : Int32) : L_X14_feed_79 (n + 1) 0 I G v1 v2 v3 v4 v5 v7 = (if (20 : Int32) ≤ v7 then some (((I 79 2) + (20 : Int32)), (am_up I 79 2 ((I 79 2) + (20 : Int32))), G) else rg (¬ (4 : Int32) = 0) (rg (vp_in (v7 / (4 : Int32)) 5) (rg (¬ (4 : Int32) = 0) (rg (vp_in ((I 79 2) + v7) 2000) (L_X14_feed_79 n 0 (am_up I 80 ((I 79 2) + v7).toNatClampNeg (((I 123 (v7 / (4 : Int32)).toNatClampNeg) >>> (((24 : Int32) - ((8 : Int32) * (v7 - v7 / (4 : Int32) * (4 : Int32)))) &&& 31)) &&& (255 : Int32))) G v1 v2 v3 v4 v5 (v7 + (1 : Int32))))))) := rfl
theorem L_X14_feed_79_z (h : Nat) (I : am_I) (G : am_G) (v1 : Int32) (v2 : Int32) (v3 : Int32) (v4 : Int32) (v5 : Int32) (v7 : Int32) : L_X14_feed_79 0 h I G v1 v2 v3 v4 v5 v7 = none := rfl
noncomputable def R_X14_feed_79 (I : am_I) (G : am_G) (x1 : Int32) (x2 : Int32) (x3 : Int32) (x4 : Int32) (x5 : Int32) : Option (Int32 × am_I × am_G) := (if (I 79 2) ≤ (1980 : Int32) then rg (vp_in (0 : Int32) 5) (rg (vp_in (1 : Int32) 5) (rg (vp_in (2 : Int32) 5) (rg (vp_in (3 : Int32) 5) (rg (vp_in (4 : Int32) 5) (L_X14_feed_79 FU 0 (am_up (am_up (am_up (am_up (am_up (am_z (am_up I 79 0 (0 : Int32)) 123 0) 123 (0 : Int32).toNatClampNeg x1) 123 (1 : Int32).toNatClampNeg x2) 123 (2 : Int32).toNatClampNeg x3) 123 (3 : Int32).toNatClampNeg x4) 123 (4 : Int32).toNatClampNeg x5) G x1 x2 x3 x4 x5 (0 : Int32)))))) else some ((f_X14_no_79 (am_up I 79 0 (0 : Int32)) G (1 : Int32)), (g_X14_no_79 (am_up I 79 0 (0 : Int32)) G (1 : Int32)), G))
set_option maxRecDepth 20000 in
set_option maxHeartbeats 4000000 in
theorem l_X14_feed_79 (rd : Nat) (hrd : rd ≠ 123) {X : am_X} {ad ad0 : Nat → Nat} (e1 : ∀ j, j ≠ 123 → ad j = ad0 j) (hX : am_okz X ad) (hi : am_info X 12 cX14_feed 8 false (Option.some Jvm.ClassFile.FieldType.int) 2) (n : Nat) : (∀ (I : am_I) (G : am_G) (v1 : Int32) (v2 : Int32) (v3 : Int32) (v4 : Int32) (v5 : Int32) (v7 : Int32) (out : Int32 × am_I × am_G), L_X14_feed_79 n 0 I G v1 v2 v3 v4 v5 v7 = some out → am_V X 1 5 (am_RtM X gS ad0 (pI out.1 out.2.1 out.2.2 (gP rd)) 1 5) (gS ++ [.inr (0, 5)]) ad (51, [(0, .ref 79), (1, .int v1), (2, .int v2), (3, .int v3), (4, .int v4), (5, .int v5), (6, .ref 123), (7, .int v7)], [], I, G, (gP rd))) := by
  induction n with
  | zero => exact fun I G v1 v2 v3 v4 v5 v7 out h => by rw [L_X14_feed_79_z] at h; cases h
  | succ n ih =>
    · intro I G v1 v2 v3 v4 v5 v7 out h
      rw [L_X14_feed_79_0] at h
      refine am_blk 51 [(.iload 7, 2, 7, 0, .null), (.bipush (20), 2, 0, 0, .int (20 : Int32))] (55, [(0, .ref 79), (1, .int v1), (2, .int v2), (3, .int v3), (4, .int v4), (5, .int v5), (6, .ref 123), (7, .int v7)], [.int (20 : Int32), .int v7], I, G, (gP rd)) (True) hX hi (by decide +kernel) rfl trivial ?_
      refine am_icmp_ge (tgt := 98) hX hi (off := (43)) (by decide +kernel) (by decide) (fun c55 => ?_) (fun c55 => ?_)
      · rw [if_pos c55] at h
        refine am_blk 98 [(.aload_n 0, 1, 0, 0, .null), (.dup, 1, 0, 0, .null), (.getfield 83, 3, 12, 2, .null), (.bipush (20), 2, 0, 0, .int (20 : Int32)), (.iadd, 1, 0, 0, .null), (.putfield 83, 3, 12, 2, .null), (.aload_n 0, 1, 0, 0, .null), (.getfield 83, 3, 12, 2, .null)] (113, [(0, .ref 79), (1, .int v1), (2, .int v2), (3, .int v3), (4, .int v4), (5, .int v5), (6, .ref 123), (7, .int v7)], [.int ((I 79 2) + (20 : Int32))], (am_up I 79 2 ((I 79 2) + (20 : Int32))), G, (gP rd)) (True) hX hi (by decide +kernel) rfl trivial ?_
        cases h
        exact am_iretMd (x := .inr (0, 5)) (sh := gS) hX hi (gP_no rd hrd) rfl e1 rfl rfl (by decide +kernel) ⟨rfl, rfl, rfl, rfl⟩ ⟨by decide, by decide⟩
      · rw [if_neg c55] at h
        obtain ⟨g0, h⟩ := rg_some h
        obtain ⟨g1, h⟩ := rg_some h
        obtain ⟨g2, h⟩ := rg_some h
        obtain ⟨g3, h⟩ := rg_some h
        refine am_blk 58 [(.aload_n 0, 1, 0, 0, .null), (.getfield 9, 3, 12, 1, .null), (.aload_n 0, 1, 0, 0, .null), (.getfield 83, 3, 12, 2, .null), (.iload 7, 2, 7, 0, .null), (.iadd, 1, 0, 0, .null), (.aload 6, 2, 6, 0, .null), (.iload 7, 2, 7, 0, .null), (.iconst (4), 1, 0, 0, .int (4 : Int32)), (.idiv, 1, 0, 0, .null), (.iaload, 1, 0, 0, .null), (.bipush (24), 2, 0, 0, .int (24 : Int32)), (.bipush (8), 2, 0, 0, .int (8 : Int32)), (.iload 7, 2, 7, 0, .null), (.iconst (4), 1, 0, 0, .int (4 : Int32)), (.irem, 1, 0, 0, .null), (.imul, 1, 0, 0, .null), (.isub, 1, 0, 0, .null), (.ishr, 1, 0, 0, .null), (.sipush (255), 3, 0, 0, .int (255 : Int32)), (.iand, 1, 0, 0, .null), (.iastore, 1, 0, 0, .null), (.iinc 7 (1), 3, 7, 0, .int (1 : Int32)), (.goto (-44), 3, 0, 51, .null)] (51, [(0, .ref 79), (1, .int v1), (2, .int v2), (3, .int v3), (4, .int v4), (5, .int v5), (6, .ref 123), (7, .int (v7 + (1 : Int32)))], [], (am_up I 80 ((I 79 2) + v7).toNatClampNeg (((I 123 (v7 / (4 : Int32)).toNatClampNeg) >>> (((24 : Int32) - ((8 : Int32) * (v7 - v7 / (4 : Int32) * (4 : Int32)))) &&& 31)) &&& (255 : Int32))), G, (gP rd)) (¬ (4 : Int32) = 0 ∧ vp_in (v7 / (4 : Int32)) 5 ∧ ¬ (4 : Int32) = 0 ∧ vp_in ((I 79 2) + v7) 2000 ∧ True) hX hi (by decide +kernel) rfl ⟨g0, g1, g2, g3, trivial⟩ ?_
        exact ih _ _ _ _ _ _ _ _ _ h
set_option maxRecDepth 20000 in
set_option maxHeartbeats 4000000 in
theorem c_X14_feed_79 (rd : Nat) (hrd : rd ≠ 123) (I : am_I) (G : am_G) (x1 : Int32) (x2 : Int32) (x3 : Int32) (x4 : Int32) (x5 : Int32) {out : Int32 × am_I × am_G} (h : R_X14_feed_79 I G x1 x2 x3 x4 x5 = some out) : am_CtM mX14_feed 1 5 2 gS [.ref 79, .int x1, .int x2, .int x3, .int x4, .int x5] I G (gP rd) (pI out.1 out.2.1 out.2.2 (gP rd)) := by
  refine am_ofM (by decide +kernel) rfl (by decide) (by omega) (Nat.le_of_ble_eq_true rfl) (fun X ad hX hi hm => ?_)
  have hi : am_info X 12 cX14_feed 8 false (Option.some Jvm.ClassFile.FieldType.int) 2 := hi
  have hm : am_mem X 1 5 := hm
  show am_V X _ _ _ _ _ (0, [(0, .ref 79), (1, .int x1), (2, .int x2), (3, .int x3), (4, .int x4), (5, .int x5)], [], I, G, (gP rd))
  unfold R_X14_feed_79 at h
  refine am_blk 0 [(.aload_n 0, 1, 0, 0, .null), (.iconst (0), 1, 0, 0, .int (0 : Int32)), (.putfield 57, 3, 12, 0, .null), (.aload_n 0, 1, 0, 0, .null), (.getfield 83, 3, 12, 2, .null), (.sipush (1980), 3, 0, 0, .int (1980 : Int32))] (12, [(0, .ref 79), (1, .int x1), (2, .int x2), (3, .int x3), (4, .int x4), (5, .int x5)], [.int (1980 : Int32), .int (I 79 2)], (am_up I 79 0 (0 : Int32)), G, (gP rd)) (True) hX hi (by decide +kernel) rfl trivial ?_
  refine am_icmp_le (tgt := 21) hX hi (off := (9)) (by decide +kernel) (by decide) (fun c12 => ?_) (fun c12 => ?_)
  · rw [if_pos c12] at h
    refine am_blk 21 [(.iconst (5), 1, 0, 0, .int (5 : Int32))] (22, [(0, .ref 79), (1, .int x1), (2, .int x2), (3, .int x3), (4, .int x4), (5, .int x5)], [.int (5 : Int32)], (am_up I 79 0 (0 : Int32)), G, (gP rd)) (True) hX hi (by decide +kernel) rfl trivial ?_
    refine am_newi hX hi hm (N := 5) (n := (5 : Int32)) (by decide +kernel) (by decide +kernel) (by decide) (by decide) (by decide) ⟨by decide, by decide⟩ (gP_no rd hrd) rfl (fun ad1 e1 => ?_)
    have e1 : ∀ j, j ≠ 123 → ad1 j = ad j := e1
    have hX := hX.adr (fun j hj => e1 j (by omega))
    show am_V X 1 5 _ gS5 ad1 (24, [(0, .ref 79), (1, .int x1), (2, .int x2), (3, .int x3), (4, .int x4), (5, .int x5)], [.ref 123], (am_z (am_up I 79 0 (0 : Int32)) 123 0), G, (gP rd))
    obtain ⟨g0, h⟩ := rg_some h
    obtain ⟨g1, h⟩ := rg_some h
    obtain ⟨g2, h⟩ := rg_some h
    obtain ⟨g3, h⟩ := rg_some h
    obtain ⟨g4, h⟩ := rg_some h
    refine am_blk 24 [(.dup, 1, 0, 0, .null), (.iconst (0), 1, 0, 0, .int (0 : Int32)), (.iload_n 1, 1, 1, 0, .null), (.iastore, 1, 0, 0, .null), (.dup, 1, 0, 0, .null), (.iconst (1), 1, 0, 0, .int (1 : Int32)), (.iload_n 2, 1, 2, 0, .null), (.iastore, 1, 0, 0, .null), (.dup, 1, 0, 0, .null), (.iconst (2), 1, 0, 0, .int (2 : Int32)), (.iload_n 3, 1, 3, 0, .null), (.iastore, 1, 0, 0, .null), (.dup, 1, 0, 0, .null), (.iconst (3), 1, 0, 0, .int (3 : Int32)), (.iload 4, 2, 4, 0, .null), (.iastore, 1, 0, 0, .null), (.dup, 1, 0, 0, .null), (.iconst (4), 1, 0, 0, .int (4 : Int32)), (.iload 5, 2, 5, 0, .null), (.iastore, 1, 0, 0, .null), (.astore 6, 2, 6, 0, .null), (.iconst (0), 1, 0, 0, .int (0 : Int32)), (.istore 7, 2, 7, 0, .null)] (51, [(0, .ref 79), (1, .int x1), (2, .int x2), (3, .int x3), (4, .int x4), (5, .int x5), (6, .ref 123), (7, .int (0 : Int32))], [], (am_up (am_up (am_up (am_up (am_up (am_z (am_up I 79 0 (0 : Int32)) 123 0) 123 (0 : Int32).toNatClampNeg x1) 123 (1 : Int32).toNatClampNeg x2) 123 (2 : Int32).toNatClampNeg x3) 123 (3 : Int32).toNatClampNeg x4) 123 (4 : Int32).toNatClampNeg x5), G, (gP rd)) (vp_in (0 : Int32) 5 ∧ vp_in (1 : Int32) 5 ∧ vp_in (2 : Int32) 5 ∧ vp_in (3 : Int32) 5 ∧ vp_in (4 : Int32) 5 ∧ True) hX hi (by decide +kernel) rfl ⟨g0, g1, g2, g3, g4, trivial⟩ ?_
    exact (l_X14_feed_79 rd hrd e1 hX hi FU) _ _ _ _ _ _ _ _ _ h
  · rw [if_neg c12] at h
    refine am_blk 15 [(.aload_n 0, 1, 0, 0, .null), (.iconst (1), 1, 0, 0, .int (1 : Int32))] (17, [(0, .ref 79), (1, .int x1), (2, .int x2), (3, .int x3), (4, .int x4), (5, .int x5)], [.int (1 : Int32), .ref 79], (am_up I 79 0 (0 : Int32)), G, (gP rd)) (True) hX hi (by decide +kernel) rfl trivial ?_
    refine am_callV hX hi (M := mX14_no) (idx := 316) (d' := 1) (b := 79) (ci := 12) (As := [.int (1 : Int32)]) (rest := []) mkX14_no miX14_no mvX14_no (by decide +kernel) (by decide +kernel) rfl (by decide +kernel) rfl ⟨by omega, by decide, Nat.le_of_ble_eq_true rfl⟩ rfl (c_X14_no_79 _ (am_up I 79 0 (0 : Int32)) G (1 : Int32)) ?_
    rintro r9 I9 G9 P9 ⟨e0, e1, e2, e3⟩
    rw [e0, e1, e2, e3]
    show am_V X _ _ _ _ _ (20, [(0, .ref 79), (1, .int x1), (2, .int x2), (3, .int x3), (4, .int x4), (5, .int x5)], [.int (f_X14_no_79 (am_up I 79 0 (0 : Int32)) G (1 : Int32))], (g_X14_no_79 (am_up I 79 0 (0 : Int32)) G (1 : Int32)), G, (gP rd))
    cases h
    exact am_iretM hX hi rfl rfl (by decide +kernel) ⟨rfl, rfl, rfl, rfl⟩ ⟨by omega, by omega⟩
noncomputable def L_X14_digest_79 (n0 : Nat) (hd : Nat) (I : am_I) (G : am_G) (v1 : Int64) (v3 : Int32) (v4 : Int32) : Option (Int64 × am_I × am_G) := match n0 with
  | 0 => none
  | n + 1 => match hd with
    | 0 => (if (14 : Int32) < v3 then L_X14_digest_79 n 1 I G v1 (0 : Int32) 0 else rb (R_X14_counted_79 I G v3) (fun r101 I101 G101 => L_X14_digest_79 n 0 I101 G101 ((v1 * (31)) + r101.toInt64) (v3 + (1 : Int32)) 0))
    | 1 => (if (I 86 2) ≤ v3 then L_X14_digest_79 n 3 I G v1 (0 : Int32) 0 else L_X14_digest_79 n 2 I G v1 v3 (0 : Int32))
    | 2 => (if (3 : Int32) < v4 then L_X14_digest_79 n 1 I G v1 (v3 + (1 : Int32)) 0 else rg (q_X14_octaveTold_79 I G v3 v4) (L_X14_digest_79 n 2 I G ((v1 * (31)) + (f_X14_octaveTold_79 I G v3 v4).toInt64) v3 (v4 + (1 : Int32))))
    | 3 => (if (I 86 3) ≤ v3 then L_X14_digest_79 n 5 I G v1 (0 : Int32) 0 else L_X14_digest_79 n 4 I G v1 v3 (0 : Int32))
    | 4 => (if (2 : Int32) < v4 then L_X14_digest_79 n 3 I G v1 (v3 + (1 : Int32)) 0 else rg (q_X14_combTold_79 I G v3 v4) (L_X14_digest_79 n 4 I G ((v1 * (31)) + (f_X14_combTold_79 I G v3 v4).toInt64) v3 (v4 + (1 : Int32))))
    | 5 => (if (I 86 4) < v3 then L_X14_digest_79 n 6 I G v1 (0 : Int32) 0 else rb (R_X13_share_102 I G v3) (fun r601 I601 G601 => L_X14_digest_79 n 5 I601 G601 ((v1 * (31)) + r601.toInt64) (v3 + (1 : Int32)) 0))
    | _ => (if (f_X12_spots_86 I G ) ≤ v3 then some (v1, I, G) else rb (R_X13_height_102 I G v3) (fun r701 I701 G701 => L_X14_digest_79 n 6 I701 G701 ((v1 * (31)) + r701.toInt64) (v3 + (1 : Int32)) 0))
theorem L_X14_digest_79_0 (n : Nat) (I : am_I) (G : am_G) (v1 : Int64) (v3 : Int32) (v4 : Int32) : L_X14_digest_79 (n + 1) 0 I G v1 v3 v4 = (if (14 : Int32) < v3 then L_X14_digest_79 n 1 I G v1 (0 : Int32) 0 else rb (R_X14_counted_79 I G v3) (fun r101 I101 G101 => L_X14_digest_79 n 0 I101 G101 ((v1 * (31)) + r101.toInt64) (v3 + (1 : Int32)) 0)) := rfl
theorem L_X14_digest_79_1 (n : Nat) (I : am_I) (G : am_G) (v1 : Int64) (v3 : Int32) (v4 : Int32) : L_X14_digest_79 (n + 1) 1 I G v1 v3 v4 = (if (I 86 2) ≤ v3 then L_X14_digest_79 n 3 I G v1 (0 : Int32) 0 else L_X14_digest_79 n 2 I G v1 v3 (0 : Int32)) := rfl
theorem L_X14_digest_79_2 (n : Nat) (I : am_I) (G : am_G) (v1 : Int64) (v3 : Int32) (v4 : Int32) : L_X14_digest_79 (n + 1) 2 I G v1 v3 v4 = (if (3 : Int32) < v4 then L_X14_digest_79 n 1 I G v1 (v3 + (1 : Int32)) 0 else rg (q_X14_octaveTold_79 I G v3 v4) (L_X14_digest_79 n 2 I G ((v1 * (31)) + (f_X14_octaveTold_79 I G v3 v4).toInt64) v3 (v4 + (1 : Int32)))) := rfl
theorem L_X14_digest_79_3 (n : Nat) (I : am_I) (G : am_G) (v1 : Int64) (v3 : Int32) (v4 : Int32) : L_X14_digest_79 (n + 1) 3 I G v1 v3 v4 = (if (I 86 3) ≤ v3 then L_X14_digest_79 n 5 I G v1 (0 : Int32) 0 else L_X14_digest_79 n 4 I G v1 v3 (0 : Int32)) := rfl
theorem L_X14_digest_79_4 (n : Nat) (I : am_I) (G : am_G) (v1 : Int64) (v3 : Int32) (v4 : Int32) : L_X14_digest_79 (n + 1) 4 I G v1 v3 v4 = (if (2 : Int32) < v4 then L_X14_digest_79 n 3 I G v1 (v3 + (1 : Int32)) 0 else rg (q_X14_combTold_79 I G v3 v4) (L_X14_digest_79 n 4 I G ((v1 * (31)) + (f_X14_combTold_79 I G v3 v4).toInt64) v3 (v4 + (1 : Int32)))) := rfl
theorem L_X14_digest_79_5 (n : Nat) (I : am_I) (G : am_G) (v1 : Int64) (v3 : Int32) (v4 : Int32) : L_X14_digest_79 (n + 1) 5 I G v1 v3 v4 = (if (I 86 4) < v3 then L_X14_digest_79 n 6 I G v1 (0 : Int32) 0 else rb (R_X13_share_102 I G v3) (fun r601 I601 G601 => L_X14_digest_79 n 5 I601 G601 ((v1 * (31)) + r601.toInt64) (v3 + (1 : Int32)) 0)) := rfl
theorem L_X14_digest_79_6 (n : Nat) (I : am_I) (G : am_G) (v1 : Int64) (v3 : Int32) (v4 : Int32) : L_X14_digest_79 (n + 1) 6 I G v1 v3 v4 = (if (f_X12_spots_86 I G ) ≤ v3 then some (v1, I, G) else rb (R_X13_height_102 I G v3) (fun r701 I701 G701 => L_X14_digest_79 n 6 I701 G701 ((v1 * (31)) + r701.toInt64) (v3 + (1 : Int32)) 0)) := rfl
theorem L_X14_digest_79_z (h : Nat) (I : am_I) (G : am_G) (v1 : Int64) (v3 : Int32) (v4 : Int32) : L_X14_digest_79 0 h I G v1 v3 v4 = none := rfl
noncomputable def R_X14_digest_79 (I : am_I) (G : am_G)  : Option (Int64 × am_I × am_G) := L_X14_digest_79 FUD 0 (am_up I 79 0 (0 : Int32)) G (937) (0 : Int32) 0
set_option maxRecDepth 20000 in
set_option maxHeartbeats 4000000 in
theorem l_X14_digest_79 (rd : Nat) (hrd : rd ≠ 123) {X : am_X} {ad : Nat → Nat} (hX : am_okz X ad) (hm : am_mem X 700 4900) (hi : am_info X 12 cX14_digest 5 false (Option.some Jvm.ClassFile.FieldType.long) 14) (n : Nat) : (∀ (cells slots : Nat) (I : am_I) (G : am_G) (v1 : Int64) (v3 : Int32) (v4 : Int32) (out : Int64 × am_I × am_G), L_X14_digest_79 n 0 I G v1 v3 v4 = some out → (cells + n ≤ 700 ∧ slots + 7 * n ≤ 4900) → am_V X cells slots (am_RtM X gS ad (pL out.1 out.2.1 out.2.2 (gP rd)) 700 4900) gS ad (11, [(0, .ref 79), (1, .long v1), (3, .int v3)], [], I, G, (gP rd))) ∧ (∀ (cells slots : Nat) (I : am_I) (G : am_G) (v1 : Int64) (v3 : Int32) (v4 : Int32) (out : Int64 × am_I × am_G), L_X14_digest_79 n 1 I G v1 v3 v4 = some out → (cells + n ≤ 700 ∧ slots + 7 * n ≤ 4900) → am_V X cells slots (am_RtM X gS ad (pL out.1 out.2.1 out.2.2 (gP rd)) 700 4900) gS ad (38, [(0, .ref 79), (1, .long v1), (3, .int v3)], [], I, G, (gP rd))) ∧ (∀ (cells slots : Nat) (I : am_I) (G : am_G) (v1 : Int64) (v3 : Int32) (v4 : Int32) (out : Int64 × am_I × am_G), L_X14_digest_79 n 2 I G v1 v3 v4 = some out → (cells + n ≤ 700 ∧ slots + 7 * n ≤ 4900) → am_V X cells slots (am_RtM X gS ad (pL out.1 out.2.1 out.2.2 (gP rd)) 700 4900) gS ad (52, [(0, .ref 79), (1, .long v1), (3, .int v3), (4, .int v4)], [], I, G, (gP rd))) ∧ (∀ (cells slots : Nat) (I : am_I) (G : am_G) (v1 : Int64) (v3 : Int32) (v4 : Int32) (out : Int64 × am_I × am_G), L_X14_digest_79 n 3 I G v1 v3 v4 = some out → (cells + n ≤ 700 ∧ slots + 7 * n ≤ 4900) → am_V X cells slots (am_RtM X gS ad (pL out.1 out.2.1 out.2.2 (gP rd)) 700 4900) gS ad (87, [(0, .ref 79), (1, .long v1), (3, .int v3)], [], I, G, (gP rd))) ∧ (∀ (cells slots : Nat) (I : am_I) (G : am_G) (v1 : Int64) (v3 : Int32) (v4 : Int32) (out : Int64 × am_I × am_G), L_X14_digest_79 n 4 I G v1 v3 v4 = some out → (cells + n ≤ 700 ∧ slots + 7 * n ≤ 4900) → am_V X cells slots (am_RtM X gS ad (pL out.1 out.2.1 out.2.2 (gP rd)) 700 4900) gS ad (101, [(0, .ref 79), (1, .long v1), (3, .int v3), (4, .int v4)], [], I, G, (gP rd))) ∧ (∀ (cells slots : Nat) (I : am_I) (G : am_G) (v1 : Int64) (v3 : Int32) (v4 : Int32) (out : Int64 × am_I × am_G), L_X14_digest_79 n 5 I G v1 v3 v4 = some out → (cells + n ≤ 700 ∧ slots + 7 * n ≤ 4900) → am_V X cells slots (am_RtM X gS ad (pL out.1 out.2.1 out.2.2 (gP rd)) 700 4900) gS ad (136, [(0, .ref 79), (1, .long v1), (3, .int v3)], [], I, G, (gP rd))) ∧ (∀ (cells slots : Nat) (I : am_I) (G : am_G) (v1 : Int64) (v3 : Int32) (v4 : Int32) (out : Int64 × am_I × am_G), L_X14_digest_79 n 6 I G v1 v3 v4 = some out → (cells + n ≤ 700 ∧ slots + 7 * n ≤ 4900) → am_V X cells slots (am_RtM X gS ad (pL out.1 out.2.1 out.2.2 (gP rd)) 700 4900) gS ad (171, [(0, .ref 79), (1, .long v1), (3, .int v3)], [], I, G, (gP rd))) := by
  induction n with
  | zero => exact ⟨(fun _ _ I G v1 v3 v4 out h _ => by rw [L_X14_digest_79_z] at h; cases h), (fun _ _ I G v1 v3 v4 out h _ => by rw [L_X14_digest_79_z] at h; cases h), (fun _ _ I G v1 v3 v4 out h _ => by rw [L_X14_digest_79_z] at h; cases h), (fun _ _ I G v1 v3 v4 out h _ => by rw [L_X14_digest_79_z] at h; cases h), (fun _ _ I G v1 v3 v4 out h _ => by rw [L_X14_digest_79_z] at h; cases h), (fun _ _ I G v1 v3 v4 out h _ => by rw [L_X14_digest_79_z] at h; cases h), (fun _ _ I G v1 v3 v4 out h _ => by rw [L_X14_digest_79_z] at h; cases h)⟩
  | succ n ih =>
    refine ⟨?_, ?_, ?_, ?_, ?_, ?_, ?_⟩
    · intro cells slots I G v1 v3 v4 out h hc0
      rw [L_X14_digest_79_0] at h
      refine am_blk 11 [(.iload_n 3, 1, 3, 0, .null), (.bipush (14), 2, 0, 0, .int (14 : Int32))] (14, [(0, .ref 79), (1, .long v1), (3, .int v3)], [.int (14 : Int32), .int v3], I, G, (gP rd)) (True) hX hi (by decide +kernel) rfl trivial ?_
      refine am_icmp_gt (tgt := 36) hX hi (off := (22)) (by decide +kernel) (by decide) (fun c14 => ?_) (fun c14 => ?_)
      · rw [if_pos c14] at h
        refine am_blk 36 [(.iconst (0), 1, 0, 0, .int (0 : Int32)), (.istore_n 3, 1, 3, 0, .null)] (38, [(0, .ref 79), (1, .long v1), (3, .int (0 : Int32))], [], I, G, (gP rd)) (True) hX hi (by decide +kernel) rfl trivial ?_
        exact ih.2.1 _ _ _ _ _ _ _ _ h ⟨by omega, by omega⟩
      · rw [if_neg c14] at h
        refine am_blk 17 [(.lload_n 1, 1, 1, 0, .null), (.ldc2_w 409, 3, 0, 0, .long (31)), (.lmul, 1, 0, 0, .null), (.aload_n 0, 1, 0, 0, .null), (.iload_n 3, 1, 3, 0, .null)] (24, [(0, .ref 79), (1, .long v1), (3, .int v3)], [.int v3, .ref 79, .long (v1 * (31))], I, G, (gP rd)) (True) hX hi (by decide +kernel) rfl trivial ?_
        obtain ⟨r101, I101, G101, hc, h⟩ := rb_some h
        refine am_callVM hX hi hm (mc := 1) (ms := 7) (M := mX14_counted) (idx := 328) (d' := 13) (b := 79) (ci := 12) (As := [.int v3]) (rest := [.long (v1 * (31))]) mkX14_counted miX14_counted mvX14_counted (by decide +kernel) (by decide +kernel) rfl (by decide +kernel) rfl ⟨by omega, by decide, Nat.le_of_ble_eq_true rfl⟩ rfl ⟨by omega, by omega⟩ (c_X14_counted_79 _ hrd I G v3 hc) ?_
        rintro r9 I9 G9 P9 ⟨e0, e1, e2, e3⟩
        rw [e0, e1, e2, e3]
        show am_V X _ _ _ _ _ (27, [(0, .ref 79), (1, .long v1), (3, .int v3)], [.int r101, .long (v1 * (31))], I101, G101, (gP rd))
        refine am_blk 27 [(.i2l, 1, 0, 0, .null), (.ladd, 1, 0, 0, .null), (.lstore_n 1, 1, 1, 0, .null), (.iinc 3 (1), 3, 3, 0, .int (1 : Int32)), (.goto (-22), 3, 0, 11, .null)] (11, [(0, .ref 79), (1, .long ((v1 * (31)) + r101.toInt64)), (3, .int (v3 + (1 : Int32)))], [], I101, G101, (gP rd)) (True) hX hi (by decide +kernel) rfl trivial ?_
        exact ih.1 _ _ _ _ _ _ _ _ h ⟨by omega, by omega⟩
    · intro cells slots I G v1 v3 v4 out h hc0
      rw [L_X14_digest_79_1] at h
      refine am_blk 38 [(.iload_n 3, 1, 3, 0, .null), (.aload_n 0, 1, 0, 0, .null), (.getfield 35, 3, 12, 11, .null), (.getfield 60, 3, 10, 2, .null)] (46, [(0, .ref 79), (1, .long v1), (3, .int v3)], [.int (I 86 2), .int v3], I, G, (gP rd)) (True) hX hi (by decide +kernel) rfl trivial ?_
      refine am_icmp_ge (tgt := 85) hX hi (off := (39)) (by decide +kernel) (by decide) (fun c46 => ?_) (fun c46 => ?_)
      · rw [if_pos c46] at h
        refine am_blk 85 [(.iconst (0), 1, 0, 0, .int (0 : Int32)), (.istore_n 3, 1, 3, 0, .null)] (87, [(0, .ref 79), (1, .long v1), (3, .int (0 : Int32))], [], I, G, (gP rd)) (True) hX hi (by decide +kernel) rfl trivial ?_
        exact ih.2.2.2.1 _ _ _ _ _ _ _ _ h ⟨by omega, by omega⟩
      · rw [if_neg c46] at h
        refine am_blk 49 [(.iconst (0), 1, 0, 0, .int (0 : Int32)), (.istore 4, 2, 4, 0, .null)] (52, [(0, .ref 79), (1, .long v1), (3, .int v3), (4, .int (0 : Int32))], [], I, G, (gP rd)) (True) hX hi (by decide +kernel) rfl trivial ?_
        exact ih.2.2.1 _ _ _ _ _ _ _ _ h ⟨by omega, by omega⟩
    · intro cells slots I G v1 v3 v4 out h hc0
      rw [L_X14_digest_79_2] at h
      refine am_blk 52 [(.iload 4, 2, 4, 0, .null), (.iconst (3), 1, 0, 0, .int (3 : Int32))] (55, [(0, .ref 79), (1, .long v1), (3, .int v3), (4, .int v4)], [.int (3 : Int32), .int v4], I, G, (gP rd)) (True) hX hi (by decide +kernel) rfl trivial ?_
      refine am_icmp_gt (tgt := 79) hX hi (off := (24)) (by decide +kernel) (by decide) (fun c55 => ?_) (fun c55 => ?_)
      · rw [if_pos c55] at h
        refine am_blk 79 [(.iinc 3 (1), 3, 3, 0, .int (1 : Int32)), (.goto (-44), 3, 0, 38, .null)] (38, [(0, .ref 79), (1, .long v1), (3, .int (v3 + (1 : Int32))), (4, .int v4)], [], I, G, (gP rd)) (True) hX hi (by decide +kernel) rfl trivial ?_
        refine am_sub (L' := [(0, .ref 79), (1, .long v1), (3, .int (v3 + (1 : Int32)))]) (by simp) ?_
        exact ih.2.1 _ _ _ _ _ _ _ _ h ⟨by omega, by omega⟩
      · rw [if_neg c55] at h
        refine am_blk 58 [(.lload_n 1, 1, 1, 0, .null), (.ldc2_w 409, 3, 0, 0, .long (31)), (.lmul, 1, 0, 0, .null), (.aload_n 0, 1, 0, 0, .null), (.iload_n 3, 1, 3, 0, .null), (.iload 4, 2, 4, 0, .null)] (67, [(0, .ref 79), (1, .long v1), (3, .int v3), (4, .int v4)], [.int v4, .int v3, .ref 79, .long (v1 * (31))], I, G, (gP rd)) (True) hX hi (by decide +kernel) rfl trivial ?_
        obtain ⟨hq1, h⟩ := rg_some h
        refine am_callV hX hi (M := mX14_octaveTold) (idx := 354) (d' := 1) (b := 79) (ci := 12) (As := [.int v3, .int v4]) (rest := [.long (v1 * (31))]) mkX14_octaveTold miX14_octaveTold mvX14_octaveTold (by decide +kernel) (by decide +kernel) rfl (by decide +kernel) rfl ⟨by omega, by decide, Nat.le_of_ble_eq_true rfl⟩ rfl (c_X14_octaveTold_79 _ I G v3 v4 hq1) ?_
        rintro r9 I9 G9 P9 ⟨e0, e1, e2, e3⟩
        rw [e0, e1, e2, e3]
        show am_V X _ _ _ _ _ (70, [(0, .ref 79), (1, .long v1), (3, .int v3), (4, .int v4)], [.int (f_X14_octaveTold_79 I G v3 v4), .long (v1 * (31))], I, G, (gP rd))
        refine am_blk 70 [(.i2l, 1, 0, 0, .null), (.ladd, 1, 0, 0, .null), (.lstore_n 1, 1, 1, 0, .null), (.iinc 4 (1), 3, 4, 0, .int (1 : Int32)), (.goto (-24), 3, 0, 52, .null)] (52, [(0, .ref 79), (1, .long ((v1 * (31)) + (f_X14_octaveTold_79 I G v3 v4).toInt64)), (3, .int v3), (4, .int (v4 + (1 : Int32)))], [], I, G, (gP rd)) (True) hX hi (by decide +kernel) rfl trivial ?_
        exact ih.2.2.1 _ _ _ _ _ _ _ _ h ⟨by omega, by omega⟩
    · intro cells slots I G v1 v3 v4 out h hc0
      rw [L_X14_digest_79_3] at h
      refine am_blk 87 [(.iload_n 3, 1, 3, 0, .null), (.aload_n 0, 1, 0, 0, .null), (.getfield 35, 3, 12, 11, .null), (.getfield 67, 3, 10, 3, .null)] (95, [(0, .ref 79), (1, .long v1), (3, .int v3)], [.int (I 86 3), .int v3], I, G, (gP rd)) (True) hX hi (by decide +kernel) rfl trivial ?_
      refine am_icmp_ge (tgt := 134) hX hi (off := (39)) (by decide +kernel) (by decide) (fun c95 => ?_) (fun c95 => ?_)
      · rw [if_pos c95] at h
        refine am_blk 134 [(.iconst (0), 1, 0, 0, .int (0 : Int32)), (.istore_n 3, 1, 3, 0, .null)] (136, [(0, .ref 79), (1, .long v1), (3, .int (0 : Int32))], [], I, G, (gP rd)) (True) hX hi (by decide +kernel) rfl trivial ?_
        exact ih.2.2.2.2.2.1 _ _ _ _ _ _ _ _ h ⟨by omega, by omega⟩
      · rw [if_neg c95] at h
        refine am_blk 98 [(.iconst (0), 1, 0, 0, .int (0 : Int32)), (.istore 4, 2, 4, 0, .null)] (101, [(0, .ref 79), (1, .long v1), (3, .int v3), (4, .int (0 : Int32))], [], I, G, (gP rd)) (True) hX hi (by decide +kernel) rfl trivial ?_
        exact ih.2.2.2.2.1 _ _ _ _ _ _ _ _ h ⟨by omega, by omega⟩
    · intro cells slots I G v1 v3 v4 out h hc0
      rw [L_X14_digest_79_4] at h
      refine am_blk 101 [(.iload 4, 2, 4, 0, .null), (.iconst (2), 1, 0, 0, .int (2 : Int32))] (104, [(0, .ref 79), (1, .long v1), (3, .int v3), (4, .int v4)], [.int (2 : Int32), .int v4], I, G, (gP rd)) (True) hX hi (by decide +kernel) rfl trivial ?_
      refine am_icmp_gt (tgt := 128) hX hi (off := (24)) (by decide +kernel) (by decide) (fun c104 => ?_) (fun c104 => ?_)
      · rw [if_pos c104] at h
        refine am_blk 128 [(.iinc 3 (1), 3, 3, 0, .int (1 : Int32)), (.goto (-44), 3, 0, 87, .null)] (87, [(0, .ref 79), (1, .long v1), (3, .int (v3 + (1 : Int32))), (4, .int v4)], [], I, G, (gP rd)) (True) hX hi (by decide +kernel) rfl trivial ?_
        refine am_sub (L' := [(0, .ref 79), (1, .long v1), (3, .int (v3 + (1 : Int32)))]) (by simp) ?_
        exact ih.2.2.2.1 _ _ _ _ _ _ _ _ h ⟨by omega, by omega⟩
      · rw [if_neg c104] at h
        refine am_blk 107 [(.lload_n 1, 1, 1, 0, .null), (.ldc2_w 409, 3, 0, 0, .long (31)), (.lmul, 1, 0, 0, .null), (.aload_n 0, 1, 0, 0, .null), (.iload_n 3, 1, 3, 0, .null), (.iload 4, 2, 4, 0, .null)] (116, [(0, .ref 79), (1, .long v1), (3, .int v3), (4, .int v4)], [.int v4, .int v3, .ref 79, .long (v1 * (31))], I, G, (gP rd)) (True) hX hi (by decide +kernel) rfl trivial ?_
        obtain ⟨hq1, h⟩ := rg_some h
        refine am_callV hX hi (M := mX14_combTold) (idx := 368) (d' := 1) (b := 79) (ci := 12) (As := [.int v3, .int v4]) (rest := [.long (v1 * (31))]) mkX14_combTold miX14_combTold mvX14_combTold (by decide +kernel) (by decide +kernel) rfl (by decide +kernel) rfl ⟨by omega, by decide, Nat.le_of_ble_eq_true rfl⟩ rfl (c_X14_combTold_79 _ I G v3 v4 hq1) ?_
        rintro r9 I9 G9 P9 ⟨e0, e1, e2, e3⟩
        rw [e0, e1, e2, e3]
        show am_V X _ _ _ _ _ (119, [(0, .ref 79), (1, .long v1), (3, .int v3), (4, .int v4)], [.int (f_X14_combTold_79 I G v3 v4), .long (v1 * (31))], I, G, (gP rd))
        refine am_blk 119 [(.i2l, 1, 0, 0, .null), (.ladd, 1, 0, 0, .null), (.lstore_n 1, 1, 1, 0, .null), (.iinc 4 (1), 3, 4, 0, .int (1 : Int32)), (.goto (-24), 3, 0, 101, .null)] (101, [(0, .ref 79), (1, .long ((v1 * (31)) + (f_X14_combTold_79 I G v3 v4).toInt64)), (3, .int v3), (4, .int (v4 + (1 : Int32)))], [], I, G, (gP rd)) (True) hX hi (by decide +kernel) rfl trivial ?_
        exact ih.2.2.2.2.1 _ _ _ _ _ _ _ _ h ⟨by omega, by omega⟩
    · intro cells slots I G v1 v3 v4 out h hc0
      rw [L_X14_digest_79_5] at h
      refine am_blk 136 [(.iload_n 3, 1, 3, 0, .null), (.aload_n 0, 1, 0, 0, .null), (.getfield 35, 3, 12, 11, .null), (.getfield 70, 3, 10, 4, .null)] (144, [(0, .ref 79), (1, .long v1), (3, .int v3)], [.int (I 86 4), .int v3], I, G, (gP rd)) (True) hX hi (by decide +kernel) rfl trivial ?_
      refine am_icmp_gt (tgt := 169) hX hi (off := (25)) (by decide +kernel) (by decide) (fun c144 => ?_) (fun c144 => ?_)
      · rw [if_pos c144] at h
        refine am_blk 169 [(.iconst (0), 1, 0, 0, .int (0 : Int32)), (.istore_n 3, 1, 3, 0, .null)] (171, [(0, .ref 79), (1, .long v1), (3, .int (0 : Int32))], [], I, G, (gP rd)) (True) hX hi (by decide +kernel) rfl trivial ?_
        exact ih.2.2.2.2.2.2 _ _ _ _ _ _ _ _ h ⟨by omega, by omega⟩
      · rw [if_neg c144] at h
        refine am_blk 147 [(.lload_n 1, 1, 1, 0, .null), (.ldc2_w 409, 3, 0, 0, .long (31)), (.lmul, 1, 0, 0, .null), (.aload_n 0, 1, 0, 0, .null), (.getfield 47, 3, 12, 13, .null), (.iload_n 3, 1, 3, 0, .null)] (157, [(0, .ref 79), (1, .long v1), (3, .int v3)], [.int v3, .ref 102, .long (v1 * (31))], I, G, (gP rd)) (True) hX hi (by decide +kernel) rfl trivial ?_
        obtain ⟨r601, I601, G601, hc, h⟩ := rb_some h
        refine am_callV hX hi (M := mX13_share) (idx := 347) (d' := 10) (b := 102) (ci := 11) (As := [.int v3]) (rest := [.long (v1 * (31))]) mkX13_share miX13_share mvX13_share (by decide +kernel) (by decide +kernel) rfl (by decide +kernel) rfl ⟨by omega, by decide, Nat.le_of_ble_eq_true rfl⟩ rfl (c_X13_share_102 _ I G v3 hc) ?_
        rintro r9 I9 G9 P9 ⟨e0, e1, e2, e3⟩
        rw [e0, e1, e2, e3]
        show am_V X _ _ _ _ _ (160, [(0, .ref 79), (1, .long v1), (3, .int v3)], [.int r601, .long (v1 * (31))], I601, G601, (gP rd))
        refine am_blk 160 [(.i2l, 1, 0, 0, .null), (.ladd, 1, 0, 0, .null), (.lstore_n 1, 1, 1, 0, .null), (.iinc 3 (1), 3, 3, 0, .int (1 : Int32)), (.goto (-30), 3, 0, 136, .null)] (136, [(0, .ref 79), (1, .long ((v1 * (31)) + r601.toInt64)), (3, .int (v3 + (1 : Int32)))], [], I601, G601, (gP rd)) (True) hX hi (by decide +kernel) rfl trivial ?_
        exact ih.2.2.2.2.2.1 _ _ _ _ _ _ _ _ h ⟨by omega, by omega⟩
    · intro cells slots I G v1 v3 v4 out h hc0
      rw [L_X14_digest_79_6] at h
      refine am_blk 171 [(.iload_n 3, 1, 3, 0, .null), (.aload_n 0, 1, 0, 0, .null), (.getfield 35, 3, 12, 11, .null)] (176, [(0, .ref 79), (1, .long v1), (3, .int v3)], [.ref 86, .int v3], I, G, (gP rd)) (True) hX hi (by decide +kernel) rfl trivial ?_
      refine am_callV hX hi (M := mX12_spots) (idx := 404) (d' := 1) (b := 86) (ci := 10) (As := []) (rest := [.int v3]) mkX12_spots miX12_spots mvX12_spots (by decide +kernel) (by decide +kernel) rfl (by decide +kernel) rfl ⟨by omega, by decide, Nat.le_of_ble_eq_true rfl⟩ rfl (c_X12_spots_86 _ I G ) ?_
      rintro r9 I9 G9 P9 ⟨e0, e1, e2, e3⟩
      rw [e0, e1, e2, e3]
      show am_V X _ _ _ _ _ (179, [(0, .ref 79), (1, .long v1), (3, .int v3)], [.int (f_X12_spots_86 I G ), .int v3], I, G, (gP rd))
      refine am_icmp_ge (tgt := 204) hX hi (off := (25)) (by decide +kernel) (by decide) (fun c179 => ?_) (fun c179 => ?_)
      · rw [if_pos c179] at h
        refine am_blk 204 [(.lload_n 1, 1, 1, 0, .null)] (205, [(0, .ref 79), (1, .long v1), (3, .int v3)], [.long v1], I, G, (gP rd)) (True) hX hi (by decide +kernel) rfl trivial ?_
        cases h
        exact am_lretM hX hi rfl (by decide +kernel) ⟨rfl, rfl, rfl, rfl⟩ ⟨by omega, by omega⟩
      · rw [if_neg c179] at h
        refine am_blk 182 [(.lload_n 1, 1, 1, 0, .null), (.ldc2_w 409, 3, 0, 0, .long (31)), (.lmul, 1, 0, 0, .null), (.aload_n 0, 1, 0, 0, .null), (.getfield 47, 3, 12, 13, .null), (.iload_n 3, 1, 3, 0, .null)] (192, [(0, .ref 79), (1, .long v1), (3, .int v3)], [.int v3, .ref 102, .long (v1 * (31))], I, G, (gP rd)) (True) hX hi (by decide +kernel) rfl trivial ?_
        obtain ⟨r701, I701, G701, hc, h⟩ := rb_some h
        refine am_callV hX hi (M := mX13_height) (idx := 332) (d' := 9) (b := 102) (ci := 11) (As := [.int v3]) (rest := [.long (v1 * (31))]) mkX13_height miX13_height mvX13_height (by decide +kernel) (by decide +kernel) rfl (by decide +kernel) rfl ⟨by omega, by decide, Nat.le_of_ble_eq_true rfl⟩ rfl (c_X13_height_102 _ I G v3 hc) ?_
        rintro r9 I9 G9 P9 ⟨e0, e1, e2, e3⟩
        rw [e0, e1, e2, e3]
        show am_V X _ _ _ _ _ (195, [(0, .ref 79), (1, .long v1), (3, .int v3)], [.int r701, .long (v1 * (31))], I701, G701, (gP rd))
        refine am_blk 195 [(.i2l, 1, 0, 0, .null), (.ladd, 1, 0, 0, .null), (.lstore_n 1, 1, 1, 0, .null), (.iinc 3 (1), 3, 3, 0, .int (1 : Int32)), (.goto (-30), 3, 0, 171, .null)] (171, [(0, .ref 79), (1, .long ((v1 * (31)) + r701.toInt64)), (3, .int (v3 + (1 : Int32)))], [], I701, G701, (gP rd)) (True) hX hi (by decide +kernel) rfl trivial ?_
        exact ih.2.2.2.2.2.2 _ _ _ _ _ _ _ _ h ⟨by omega, by omega⟩
set_option maxRecDepth 20000 in
set_option maxHeartbeats 4000000 in
theorem c_X14_digest_79 (rd : Nat) (hrd : rd ≠ 123) (I : am_I) (G : am_G)  {out : Int64 × am_I × am_G} (h : R_X14_digest_79 I G  = some out) : am_CtM mX14_digest 700 4900 14 gS [.ref 79] I G (gP rd) (pL out.1 out.2.1 out.2.2 (gP rd)) := by
  refine am_ofM (by decide +kernel) rfl (by decide) (by omega) (Nat.le_of_ble_eq_true rfl) (fun X ad hX hi hm => ?_)
  have hi : am_info X 12 cX14_digest 5 false (Option.some Jvm.ClassFile.FieldType.long) 14 := hi
  have hm : am_mem X 700 4900 := hm
  show am_V X _ _ _ _ _ (0, [(0, .ref 79)], [], I, G, (gP rd))
  unfold R_X14_digest_79 at h
  refine am_blk 0 [(.aload_n 0, 1, 0, 0, .null), (.iconst (0), 1, 0, 0, .int (0 : Int32)), (.putfield 57, 3, 12, 0, .null), (.ldc2_w 407, 3, 0, 0, .long (937)), (.lstore_n 1, 1, 1, 0, .null), (.iconst (0), 1, 0, 0, .int (0 : Int32)), (.istore_n 3, 1, 3, 0, .null)] (11, [(0, .ref 79), (1, .long (937)), (3, .int (0 : Int32))], [], (am_up I 79 0 (0 : Int32)), G, (gP rd)) (True) hX hi (by decide +kernel) rfl trivial ?_
  exact (l_X14_digest_79 rd hrd hX hm hi FUD).1 _ _ _ _ _ _ _ _ h ⟨by decide, by decide⟩
