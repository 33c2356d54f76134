theorem am_hd134 : (1 : Nat) = 1 := rfl  -- methods with loops, and those that call them, further on
noncomputable def R_X14_isValue_79 (cal : Nat → am_I → am_G → Int32 → Int32 → Option (Int32 × am_I × am_G)) (I : am_I) (G : am_G)  : Option (Int32 × am_I × am_G) := rg (vp_in (I 79 9) 401) (rg (q_X14_is_79 I G (41 : Int32)) ((if (f_X14_is_79 I G (41 : Int32)) = 0 then rg (q_X14_is_79 I G (15 : Int32)) ((if (f_X14_is_79 I G (15 : Int32)) = 0 then rg (q_X14_is_79 I G (9 : Int32)) ((if (f_X14_is_79 I G (9 : Int32)) = 0 then rg (q_X14_is_79 I G (16 : Int32)) ((if (f_X14_is_79 I G (16 : Int32)) = 0 then rg (q_X14_is_79 I G (6 : Int32)) ((if (f_X14_is_79 I G (6 : Int32)) = 0 then rg (q_X14_isSign_79 I G (45 : Int32)) ((if (f_X14_isSign_79 I G (45 : Int32)) = 0 then rg (q_X14_eat_79 I G (22 : Int32)) ((if (f_X14_eat_79 I G (22 : Int32)) = 0 then rg (q_X14_eat_79 (g_X14_eat_79 I G (22 : Int32)) G (23 : Int32)) ((if (f_X14_eat_79 (g_X14_eat_79 I G (22 : Int32)) G (23 : Int32)) = 0 then rg (q_X14_eat_79 (g_X14_eat_79 (g_X14_eat_79 I G (22 : Int32)) G (23 : Int32)) G (17 : Int32)) ((if (f_X14_eat_79 (g_X14_eat_79 (g_X14_eat_79 I G (22 : Int32)) G (23 : Int32)) G (17 : Int32)) = 0 then rb (cal 5 (g_X14_eat_79 (g_X14_eat_79 (g_X14_eat_79 I G (22 : Int32)) G (23 : Int32)) G (17 : Int32)) G (I 81 (I 79 9).toNatClampNeg) (0 : Int32)) (fun r9 I9 G9 => rg (r9 = 0 ∨ r9 = 1) (some (r9, I9, G9))) else rb (cal 5 (g_X14_eat_79 (g_X14_eat_79 (g_X14_eat_79 I G (22 : Int32)) G (23 : Int32)) G (17 : Int32)) G (I 81 (I 79 9).toNatClampNeg) (1 : Int32)) (fun r10 I10 G10 => rg (r10 = 0 ∨ r10 = 1) (some (r10, I10, G10))))) else rb (cal 5 (g_X14_eat_79 (g_X14_eat_79 I G (22 : Int32)) G (23 : Int32)) G (I 81 (I 79 9).toNatClampNeg) (1 : Int32)) (fun r8 I8 G8 => rg (r8 = 0 ∨ r8 = 1) (some (r8, I8, G8))))) else rb (cal 5 (g_X14_eat_79 I G (22 : Int32)) G (I 81 (I 79 9).toNatClampNeg) (1 : Int32)) (fun r7 I7 G7 => rg (r7 = 0 ∨ r7 = 1) (some (r7, I7, G7))))) else (if (f_X14_isDeeper_79 I G ) = 0 then some ((0 : Int32), (g_X14_isDeeper_79 I G ), G) else rb (cal 6 (g_X14_isDeeper_79 I G ) G (0 : Int32) (0 : Int32)) (fun r11 I11 G11 => (if r11 = 0 then some ((0 : Int32), I11, G11) else rg (q_X14_put_79 (am_up I11 79 10 ((I11 79 10) - (1 : Int32))) G11 (33 : Int32)) (some ((1 : Int32), (g_X14_put_79 (am_up I11 79 10 ((I11 79 10) - (1 : Int32))) G11 (33 : Int32)), G11))))))) else rg (q_X14_is_79 I G (9 : Int32)) ((if (f_X14_is_79 I G (9 : Int32)) = 0 then rg (q_X14_is_79 I G (16 : Int32)) ((if (f_X14_is_79 I G (16 : Int32)) = 0 then rb (R_X14_isNamed_79 I G (20 : Int32)) (fun r12 I12 G12 => rg (r12 = 0 ∨ r12 = 1) (some (r12, I12, G12))) else rb (R_X14_isNamed_79 I G (19 : Int32)) (fun r13 I13 G13 => rg (r13 = 0 ∨ r13 = 1) (some (r13, I13, G13))))) else rb (R_X14_isNamed_79 I G (18 : Int32)) (fun r14 I14 G14 => rg (r14 = 0 ∨ r14 = 1) (some (r14, I14, G14))))))) else rg (q_X14_is_79 I G (9 : Int32)) ((if (f_X14_is_79 I G (9 : Int32)) = 0 then rg (q_X14_is_79 I G (16 : Int32)) ((if (f_X14_is_79 I G (16 : Int32)) = 0 then rb (R_X14_isNamed_79 I G (20 : Int32)) (fun r4 I4 G4 => rg (r4 = 0 ∨ r4 = 1) (some (r4, I4, G4))) else rb (R_X14_isNamed_79 I G (19 : Int32)) (fun r5 I5 G5 => rg (r5 = 0 ∨ r5 = 1) (some (r5, I5, G5))))) else rb (R_X14_isNamed_79 I G (18 : Int32)) (fun r6 I6 G6 => rg (r6 = 0 ∨ r6 = 1) (some (r6, I6, G6))))))) else rg (q_X14_is_79 I G (9 : Int32)) ((if (f_X14_is_79 I G (9 : Int32)) = 0 then rg (q_X14_is_79 I G (16 : Int32)) ((if (f_X14_is_79 I G (16 : Int32)) = 0 then rb (R_X14_isNamed_79 I G (20 : Int32)) (fun r1 I1 G1 => rg (r1 = 0 ∨ r1 = 1) (some (r1, I1, G1))) else rb (R_X14_isNamed_79 I G (19 : Int32)) (fun r2 I2 G2 => rg (r2 = 0 ∨ r2 = 1) (some (r2, I2, G2))))) else rb (R_X14_isNamed_79 I G (18 : Int32)) (fun r3 I3 G3 => rg (r3 = 0 ∨ r3 = 1) (some (r3, I3, G3))))))) else rg (q_X14_put_79 I G (I 81 (I 79 9).toNatClampNeg)) (some ((1 : Int32), (am_up (g_X14_put_79 I G (I 81 (I 79 9).toNatClampNeg)) 79 9 (((g_X14_put_79 I G (I 81 (I 79 9).toNatClampNeg)) 79 9) + (1 : Int32))), G)))) else rg (q_X14_put_79 I G (32 : Int32)) (rb (R_X14_numberAt_79 (g_X14_put_79 I G (32 : Int32)) G ((g_X14_put_79 I G (32 : Int32)) 79 9)) (fun r15 I15 G15 => rg (q_X14_put_79 I15 G15 r15) (some ((1 : Int32), (am_up (g_X14_put_79 I15 G15 r15) 79 9 (((g_X14_put_79 I15 G15 r15) 79 9) + (1 : Int32))), G15)))))))
set_option maxRecDepth 20000 in
set_option maxHeartbeats 4000000 in
theorem c_X14_isValue_79 {cal : Nat → am_I → am_G → Int32 → Int32 → Option (Int32 × am_I × am_G)} {n9 : Nat} (h0 : ∀ (I : am_I) (G : am_G) (out : Int32 × am_I × am_G), cal 0 I G (0 : Int32) (0 : Int32) = some out → am_Ct mX14_isTest (8 + n9) gS2 [.ref 79] I G (gP 123) (pI out.1 out.2.1 out.2.2 (gP 123))) (h1 : ∀ (I : am_I) (G : am_G) (out : Int32 × am_I × am_G), cal 1 I G (0 : Int32) (0 : Int32) = some out → am_Ct mX14_isBoth (8 + n9) gS2 [.ref 79] I G (gP 123) (pI out.1 out.2.1 out.2.2 (gP 123))) (h2 : ∀ (I : am_I) (G : am_G) (out : Int32 × am_I × am_G), cal 2 I G (0 : Int32) (0 : Int32) = some out → am_Ct mX14_isSingle (8 + n9) gS2 [.ref 79] I G (gP 123) (pI out.1 out.2.1 out.2.2 (gP 123))) (h3 : ∀ (I : am_I) (G : am_G) (out : Int32 × am_I × am_G), cal 3 I G (0 : Int32) (0 : Int32) = some out → am_Ct mX14_isSum (8 + n9) gS2 [.ref 79] I G (gP 123) (pI out.1 out.2.1 out.2.2 (gP 123))) (h4 : ∀ (I : am_I) (G : am_G) (out : Int32 × am_I × am_G), cal 4 I G (0 : Int32) (0 : Int32) = some out → am_Ct mX14_isProduct (8 + n9) gS2 [.ref 79] I G (gP 123) (pI out.1 out.2.1 out.2.2 (gP 123))) (h5 : ∀ (I : am_I) (G : am_G) (a : Int32) (b : Int32) (out : Int32 × am_I × am_G), cal 5 I G a b = some out → am_Ct mX14_isInside (8 + n9) gS2 [.ref 79, .int a, .int b] I G (gP 123) (pI out.1 out.2.1 out.2.2 (gP 123))) (h6 : ∀ (I : am_I) (G : am_G) (out : Int32 × am_I × am_G), cal 6 I G (0 : Int32) (0 : Int32) = some out → am_Ct mX14_isValue (8 + n9) gS2 [.ref 79] I G (gP 123) (pI out.1 out.2.1 out.2.2 (gP 123))) (I : am_I) (G : am_G)  {out : Int32 × am_I × am_G} (h : R_X14_isValue_79 cal I G  = some out) : am_Ct mX14_isValue (8 + n9 + 1) gS2 [.ref 79] I G (gP 123) (pI out.1 out.2.1 out.2.2 (gP 123)) := by
  refine am_ofF (by decide +kernel) rfl (by decide) (by omega) (Nat.le_of_ble_eq_true rfl) (fun X ad hX hi => ?_)
  have hi : am_info X 12 cX14_isValue 2 false (Option.some Jvm.ClassFile.FieldType.boolean) (8 + n9 + 1) := hi
  show am_V X 0 0 _ _ ad (0, [(0, .ref 79)], [], I, G, (gP 123))
  unfold R_X14_isValue_79 at h
  obtain ⟨g0, h⟩ := rg_some h
  refine am_blk 0 [(.aload_n 0, 1, 0, 0, .null), (.getfield 17, 3, 12, 4, .null), (.aload_n 0, 1, 0, 0, .null), (.getfield 122, 3, 12, 9, .null), (.iaload, 1, 0, 0, .null), (.istore_n 1, 1, 1, 0, .null), (.aload_n 0, 1, 0, 0, .null), (.bipush (41), 2, 0, 0, .int (41 : Int32))] (13, [(0, .ref 79), (1, .int (I 81 (I 79 9).toNatClampNeg))], [.int (41 : Int32), .ref 79], I, G, (gP 123)) (vp_in (I 79 9) 401 ∧ True) hX hi (by decide +kernel) rfl ⟨g0, trivial⟩ ?_
  obtain ⟨hq1, h⟩ := rg_some h
  refine am_callV hX hi (M := mX14_is) (idx := 125) (d' := 1) (b := 79) (ci := 12) (As := [.int (41 : Int32)]) (rest := []) mkX14_is miX14_is mvX14_is (by decide +kernel) (by decide +kernel) rfl (by decide +kernel) rfl ⟨by omega, by decide, Nat.le_of_ble_eq_true rfl⟩ rfl (c_X14_is_79 I G (41 : Int32) hq1) ?_
  rintro rz Iz Gz Pz ⟨e0, e1, e2, e3⟩
  rw [e0, e1, e2, e3]
  show am_V X 0 0 _ _ ad (16, [(0, .ref 79), (1, .int (I 81 (I 79 9).toNatClampNeg))], [.int (f_X14_is_79 I G (41 : Int32))], I, G, (gP 123))
  refine am_if_eq (tgt := 49) hX hi (off := (33)) (by decide +kernel) (by decide) (fun c16 => ?_) (fun c16 => ?_)
  · rw [if_pos c16] at h
    refine am_blk 49 [(.aload_n 0, 1, 0, 0, .null), (.bipush (15), 2, 0, 0, .int (15 : Int32))] (52, [(0, .ref 79), (1, .int (I 81 (I 79 9).toNatClampNeg))], [.int (15 : Int32), .ref 79], I, G, (gP 123)) (True) hX hi (by decide +kernel) rfl trivial ?_
    obtain ⟨hq1, h⟩ := rg_some h
    refine am_callV hX hi (M := mX14_is) (idx := 125) (d' := 1) (b := 79) (ci := 12) (As := [.int (15 : Int32)]) (rest := []) mkX14_is miX14_is mvX14_is (by decide +kernel) (by decide +kernel) rfl (by decide +kernel) rfl ⟨by omega, by decide, Nat.le_of_ble_eq_true rfl⟩ rfl (c_X14_is_79 I G (15 : Int32) hq1) ?_
    rintro rz Iz Gz Pz ⟨e0, e1, e2, e3⟩
    rw [e0, e1, e2, e3]
    show am_V X 0 0 _ _ ad (55, [(0, .ref 79), (1, .int (I 81 (I 79 9).toNatClampNeg))], [.int (f_X14_is_79 I G (15 : Int32))], I, G, (gP 123))
    refine am_if_eq (tgt := 75) hX hi (off := (20)) (by decide +kernel) (by decide) (fun c55 => ?_) (fun c55 => ?_)
    · rw [if_pos c55] at h
      refine am_blk 75 [(.aload_n 0, 1, 0, 0, .null), (.bipush (9), 2, 0, 0, .int (9 : Int32))] (78, [(0, .ref 79), (1, .int (I 81 (I 79 9).toNatClampNeg))], [.int (9 : Int32), .ref 79], I, G, (gP 123)) (True) hX hi (by decide +kernel) rfl trivial ?_
      obtain ⟨hq1, h⟩ := rg_some h
      refine am_callV hX hi (M := mX14_is) (idx := 125) (d' := 1) (b := 79) (ci := 12) (As := [.int (9 : Int32)]) (rest := []) mkX14_is miX14_is mvX14_is (by decide +kernel) (by decide +kernel) rfl (by decide +kernel) rfl ⟨by omega, by decide, Nat.le_of_ble_eq_true rfl⟩ rfl (c_X14_is_79 I G (9 : Int32) hq1) ?_
      rintro rz Iz Gz Pz ⟨e0, e1, e2, e3⟩
      rw [e0, e1, e2, e3]
      show am_V X 0 0 _ _ ad (81, [(0, .ref 79), (1, .int (I 81 (I 79 9).toNatClampNeg))], [.int (f_X14_is_79 I G (9 : Int32))], I, G, (gP 123))
      refine am_if_ne (tgt := 102) hX hi (off := (21)) (by decide +kernel) (by decide) (fun c81 => ?_) (fun c81 => ?_)
      · rw [if_neg c81] at h
        refine am_blk 102 [(.aload_n 0, 1, 0, 0, .null), (.aload_n 0, 1, 0, 0, .null), (.bipush (9), 2, 0, 0, .int (9 : Int32))] (106, [(0, .ref 79), (1, .int (I 81 (I 79 9).toNatClampNeg))], [.int (9 : Int32), .ref 79, .ref 79], I, G, (gP 123)) (True) hX hi (by decide +kernel) rfl trivial ?_
        obtain ⟨hq1, h⟩ := rg_some h
        refine am_callV hX hi (M := mX14_is) (idx := 125) (d' := 1) (b := 79) (ci := 12) (As := [.int (9 : Int32)]) (rest := [.ref 79]) mkX14_is miX14_is mvX14_is (by decide +kernel) (by decide +kernel) rfl (by decide +kernel) rfl ⟨by omega, by decide, Nat.le_of_ble_eq_true rfl⟩ rfl (c_X14_is_79 I G (9 : Int32) hq1) ?_
        rintro rz Iz Gz Pz ⟨e0, e1, e2, e3⟩
        rw [e0, e1, e2, e3]
        show am_V X 0 0 _ _ ad (109, [(0, .ref 79), (1, .int (I 81 (I 79 9).toNatClampNeg))], [.int (f_X14_is_79 I G (9 : Int32)), .ref 79], I, G, (gP 123))
        refine am_if_eq (tgt := 117) hX hi (off := (8)) (by decide +kernel) (by decide) (fun c109 => ?_) (fun c109 => ?_)
        · rw [if_pos c109] at h
          refine am_blk 117 [(.aload_n 0, 1, 0, 0, .null), (.bipush (16), 2, 0, 0, .int (16 : Int32))] (120, [(0, .ref 79), (1, .int (I 81 (I 79 9).toNatClampNeg))], [.int (16 : Int32), .ref 79, .ref 79], I, G, (gP 123)) (True) hX hi (by decide +kernel) rfl trivial ?_
          obtain ⟨hq1, h⟩ := rg_some h
          refine am_callV hX hi (M := mX14_is) (idx := 125) (d' := 1) (b := 79) (ci := 12) (As := [.int (16 : Int32)]) (rest := [.ref 79]) mkX14_is miX14_is mvX14_is (by decide +kernel) (by decide +kernel) rfl (by decide +kernel) rfl ⟨by omega, by decide, Nat.le_of_ble_eq_true rfl⟩ rfl (c_X14_is_79 I G (16 : Int32) hq1) ?_
          rintro rz Iz Gz Pz ⟨e0, e1, e2, e3⟩
          rw [e0, e1, e2, e3]
          show am_V X 0 0 _ _ ad (123, [(0, .ref 79), (1, .int (I 81 (I 79 9).toNatClampNeg))], [.int (f_X14_is_79 I G (16 : Int32)), .ref 79], I, G, (gP 123))
          refine am_if_eq (tgt := 131) hX hi (off := (8)) (by decide +kernel) (by decide) (fun c123 => ?_) (fun c123 => ?_)
          · rw [if_pos c123] at h
            refine am_blk 131 [(.bipush (20), 2, 0, 0, .int (20 : Int32))] (133, [(0, .ref 79), (1, .int (I 81 (I 79 9).toNatClampNeg))], [.int (20 : Int32), .ref 79], I, G, (gP 123)) (True) hX hi (by decide +kernel) rfl trivial ?_
            obtain ⟨r1, I1, G1, hc, h⟩ := rb_some h
            refine am_callV hX hi (M := mX14_isNamed) (idx := 208) (d' := 5) (b := 79) (ci := 12) (As := [.int (20 : Int32)]) (rest := []) mkX14_isNamed miX14_isNamed mvX14_isNamed (by decide +kernel) (by decide +kernel) rfl (by decide +kernel) rfl ⟨by omega, by decide, Nat.le_of_ble_eq_true rfl⟩ rfl (c_X14_isNamed_79 I G (20 : Int32) hc) ?_
            rintro rz Iz Gz Pz ⟨e0, e1, e2, e3⟩
            rw [e0, e1, e2, e3]
            show am_V X 0 0 _ _ ad (136, [(0, .ref 79), (1, .int (I 81 (I 79 9).toNatClampNeg))], [.int r1], I1, G1, (gP 123))
            obtain ⟨gb, h⟩ := rg_some h
            cases h
            refine am_iret hX hi rfl (by rcases gb with gb | gb <;> rw [gb] <;> rfl) (by decide +kernel) ?_
            exact ⟨rfl, rfl, rfl, rfl⟩
          · rw [if_neg c123] at h
            refine am_blk 126 [(.bipush (19), 2, 0, 0, .int (19 : Int32)), (.goto (5), 3, 0, 133, .null)] (133, [(0, .ref 79), (1, .int (I 81 (I 79 9).toNatClampNeg))], [.int (19 : Int32), .ref 79], I, G, (gP 123)) (True) hX hi (by decide +kernel) rfl trivial ?_
            obtain ⟨r2, I2, G2, hc, h⟩ := rb_some h
            refine am_callV hX hi (M := mX14_isNamed) (idx := 208) (d' := 5) (b := 79) (ci := 12) (As := [.int (19 : Int32)]) (rest := []) mkX14_isNamed miX14_isNamed mvX14_isNamed (by decide +kernel) (by decide +kernel) rfl (by decide +kernel) rfl ⟨by omega, by decide, Nat.le_of_ble_eq_true rfl⟩ rfl (c_X14_isNamed_79 I G (19 : Int32) hc) ?_
            rintro rz Iz Gz Pz ⟨e0, e1, e2, e3⟩
            rw [e0, e1, e2, e3]
            show am_V X 0 0 _ _ ad (136, [(0, .ref 79), (1, .int (I 81 (I 79 9).toNatClampNeg))], [.int r2], I2, G2, (gP 123))
            obtain ⟨gb, h⟩ := rg_some h
            cases h
            refine am_iret hX hi rfl (by rcases gb with gb | gb <;> rw [gb] <;> rfl) (by decide +kernel) ?_
            exact ⟨rfl, rfl, rfl, rfl⟩
        · rw [if_neg c109] at h
          refine am_blk 112 [(.bipush (18), 2, 0, 0, .int (18 : Int32)), (.goto (19), 3, 0, 133, .null)] (133, [(0, .ref 79), (1, .int (I 81 (I 79 9).toNatClampNeg))], [.int (18 : Int32), .ref 79], I, G, (gP 123)) (True) hX hi (by decide +kernel) rfl trivial ?_
          obtain ⟨r3, I3, G3, hc, h⟩ := rb_some h
          refine am_callV hX hi (M := mX14_isNamed) (idx := 208) (d' := 5) (b := 79) (ci := 12) (As := [.int (18 : Int32)]) (rest := []) mkX14_isNamed miX14_isNamed mvX14_isNamed (by decide +kernel) (by decide +kernel) rfl (by decide +kernel) rfl ⟨by omega, by decide, Nat.le_of_ble_eq_true rfl⟩ rfl (c_X14_isNamed_79 I G (18 : Int32) hc) ?_
          rintro rz Iz Gz Pz ⟨e0, e1, e2, e3⟩
          rw [e0, e1, e2, e3]
          show am_V X 0 0 _ _ ad (136, [(0, .ref 79), (1, .int (I 81 (I 79 9).toNatClampNeg))], [.int r3], I3, G3, (gP 123))
          obtain ⟨gb, h⟩ := rg_some h
          cases h
          refine am_iret hX hi rfl (by rcases gb with gb | gb <;> rw [gb] <;> rfl) (by decide +kernel) ?_
          exact ⟨rfl, rfl, rfl, rfl⟩
      · rw [if_pos c81] at h
        refine am_blk 84 [(.aload_n 0, 1, 0, 0, .null), (.bipush (16), 2, 0, 0, .int (16 : Int32))] (87, [(0, .ref 79), (1, .int (I 81 (I 79 9).toNatClampNeg))], [.int (16 : Int32), .ref 79], I, G, (gP 123)) (True) hX hi (by decide +kernel) rfl trivial ?_
        obtain ⟨hq1, h⟩ := rg_some h
        refine am_callV hX hi (M := mX14_is) (idx := 125) (d' := 1) (b := 79) (ci := 12) (As := [.int (16 : Int32)]) (rest := []) mkX14_is miX14_is mvX14_is (by decide +kernel) (by decide +kernel) rfl (by decide +kernel) rfl ⟨by omega, by decide, Nat.le_of_ble_eq_true rfl⟩ rfl (c_X14_is_79 I G (16 : Int32) hq1) ?_
        rintro rz Iz Gz Pz ⟨e0, e1, e2, e3⟩
        rw [e0, e1, e2, e3]
        show am_V X 0 0 _ _ ad (90, [(0, .ref 79), (1, .int (I 81 (I 79 9).toNatClampNeg))], [.int (f_X14_is_79 I G (16 : Int32))], I, G, (gP 123))
        refine am_if_ne (tgt := 102) hX hi (off := (12)) (by decide +kernel) (by decide) (fun c90 => ?_) (fun c90 => ?_)
        · rw [if_neg c90] at h
          refine am_blk 102 [(.aload_n 0, 1, 0, 0, .null), (.aload_n 0, 1, 0, 0, .null), (.bipush (9), 2, 0, 0, .int (9 : Int32))] (106, [(0, .ref 79), (1, .int (I 81 (I 79 9).toNatClampNeg))], [.int (9 : Int32), .ref 79, .ref 79], I, G, (gP 123)) (True) hX hi (by decide +kernel) rfl trivial ?_
          obtain ⟨hq1, h⟩ := rg_some h
          refine am_callV hX hi (M := mX14_is) (idx := 125) (d' := 1) (b := 79) (ci := 12) (As := [.int (9 : Int32)]) (rest := [.ref 79]) mkX14_is miX14_is mvX14_is (by decide +kernel) (by decide +kernel) rfl (by decide +kernel) rfl ⟨by omega, by decide, Nat.le_of_ble_eq_true rfl⟩ rfl (c_X14_is_79 I G (9 : Int32) hq1) ?_
          rintro rz Iz Gz Pz ⟨e0, e1, e2, e3⟩
          rw [e0, e1, e2, e3]
          show am_V X 0 0 _ _ ad (109, [(0, .ref 79), (1, .int (I 81 (I 79 9).toNatClampNeg))], [.int (f_X14_is_79 I G (9 : Int32)), .ref 79], I, G, (gP 123))
          refine am_if_eq (tgt := 117) hX hi (off := (8)) (by decide +kernel) (by decide) (fun c109 => ?_) (fun c109 => ?_)
          · rw [if_pos c109] at h
            refine am_blk 117 [(.aload_n 0, 1, 0, 0, .null), (.bipush (16), 2, 0, 0, .int (16 : Int32))] (120, [(0, .ref 79), (1, .int (I 81 (I 79 9).toNatClampNeg))], [.int (16 : Int32), .ref 79, .ref 79], I, G, (gP 123)) (True) hX hi (by decide +kernel) rfl trivial ?_
            obtain ⟨hq1, h⟩ := rg_some h
            refine am_callV hX hi (M := mX14_is) (idx := 125) (d' := 1) (b := 79) (ci := 12) (As := [.int (16 : Int32)]) (rest := [.ref 79]) mkX14_is miX14_is mvX14_is (by decide +kernel) (by decide +kernel) rfl (by decide +kernel) rfl ⟨by omega, by decide, Nat.le_of_ble_eq_true rfl⟩ rfl (c_X14_is_79 I G (16 : Int32) hq1) ?_
            rintro rz Iz Gz Pz ⟨e0, e1, e2, e3⟩
            rw [e0, e1, e2, e3]
            show am_V X 0 0 _ _ ad (123, [(0, .ref 79), (1, .int (I 81 (I 79 9).toNatClampNeg))], [.int (f_X14_is_79 I G (16 : Int32)), .ref 79], I, G, (gP 123))
            refine am_if_eq (tgt := 131) hX hi (off := (8)) (by decide +kernel) (by decide) (fun c123 => ?_) (fun c123 => ?_)
            · rw [if_pos c123] at h
              refine am_blk 131 [(.bipush (20), 2, 0, 0, .int (20 : Int32))] (133, [(0, .ref 79), (1, .int (I 81 (I 79 9).toNatClampNeg))], [.int (20 : Int32), .ref 79], I, G, (gP 123)) (True) hX hi (by decide +kernel) rfl trivial ?_
              obtain ⟨r4, I4, G4, hc, h⟩ := rb_some h
              refine am_callV hX hi (M := mX14_isNamed) (idx := 208) (d' := 5) (b := 79) (ci := 12) (As := [.int (20 : Int32)]) (rest := []) mkX14_isNamed miX14_isNamed mvX14_isNamed (by decide +kernel) (by decide +kernel) rfl (by decide +kernel) rfl ⟨by omega, by decide, Nat.le_of_ble_eq_true rfl⟩ rfl (c_X14_isNamed_79 I G (20 : Int32) hc) ?_
              rintro rz Iz Gz Pz ⟨e0, e1, e2, e3⟩
              rw [e0, e1, e2, e3]
              show am_V X 0 0 _ _ ad (136, [(0, .ref 79), (1, .int (I 81 (I 79 9).toNatClampNeg))], [.int r4], I4, G4, (gP 123))
              obtain ⟨gb, h⟩ := rg_some h
              cases h
              refine am_iret hX hi rfl (by rcases gb with gb | gb <;> rw [gb] <;> rfl) (by decide +kernel) ?_
              exact ⟨rfl, rfl, rfl, rfl⟩
            · rw [if_neg c123] at h
              refine am_blk 126 [(.bipush (19), 2, 0, 0, .int (19 : Int32)), (.goto (5), 3, 0, 133, .null)] (133, [(0, .ref 79), (1, .int (I 81 (I 79 9).toNatClampNeg))], [.int (19 : Int32), .ref 79], I, G, (gP 123)) (True) hX hi (by decide +kernel) rfl trivial ?_
              obtain ⟨r5, I5, G5, hc, h⟩ := rb_some h
              refine am_callV hX hi (M := mX14_isNamed) (idx := 208) (d' := 5) (b := 79) (ci := 12) (As := [.int (19 : Int32)]) (rest := []) mkX14_isNamed miX14_isNamed mvX14_isNamed (by decide +kernel) (by decide +kernel) rfl (by decide +kernel) rfl ⟨by omega, by decide, Nat.le_of_ble_eq_true rfl⟩ rfl (c_X14_isNamed_79 I G (19 : Int32) hc) ?_
              rintro rz Iz Gz Pz ⟨e0, e1, e2, e3⟩
              rw [e0, e1, e2, e3]
              show am_V X 0 0 _ _ ad (136, [(0, .ref 79), (1, .int (I 81 (I 79 9).toNatClampNeg))], [.int r5], I5, G5, (gP 123))
              obtain ⟨gb, h⟩ := rg_some h
              cases h
              refine am_iret hX hi rfl (by rcases gb with gb | gb <;> rw [gb] <;> rfl) (by decide +kernel) ?_
              exact ⟨rfl, rfl, rfl, rfl⟩
          · rw [if_neg c109] at h
            refine am_blk 112 [(.bipush (18), 2, 0, 0, .int (18 : Int32)), (.goto (19), 3, 0, 133, .null)] (133, [(0, .ref 79), (1, .int (I 81 (I 79 9).toNatClampNeg))], [.int (18 : Int32), .ref 79], I, G, (gP 123)) (True) hX hi (by decide +kernel) rfl trivial ?_
            obtain ⟨r6, I6, G6, hc, h⟩ := rb_some h
            refine am_callV hX hi (M := mX14_isNamed) (idx := 208) (d' := 5) (b := 79) (ci := 12) (As := [.int (18 : Int32)]) (rest := []) mkX14_isNamed miX14_isNamed mvX14_isNamed (by decide +kernel) (by decide +kernel) rfl (by decide +kernel) rfl ⟨by omega, by decide, Nat.le_of_ble_eq_true rfl⟩ rfl (c_X14_isNamed_79 I G (18 : Int32) hc) ?_
            rintro rz Iz Gz Pz ⟨e0, e1, e2, e3⟩
            rw [e0, e1, e2, e3]
            show am_V X 0 0 _ _ ad (136, [(0, .ref 79), (1, .int (I 81 (I 79 9).toNatClampNeg))], [.int r6], I6, G6, (gP 123))
            obtain ⟨gb, h⟩ := rg_some h
            cases h
            refine am_iret hX hi rfl (by rcases gb with gb | gb <;> rw [gb] <;> rfl) (by decide +kernel) ?_
            exact ⟨rfl, rfl, rfl, rfl⟩
        · rw [if_pos c90] at h
          refine am_blk 93 [(.aload_n 0, 1, 0, 0, .null), (.bipush (6), 2, 0, 0, .int (6 : Int32))] (96, [(0, .ref 79), (1, .int (I 81 (I 79 9).toNatClampNeg))], [.int (6 : Int32), .ref 79], I, G, (gP 123)) (True) hX hi (by decide +kernel) rfl trivial ?_
          obtain ⟨hq1, h⟩ := rg_some h
          refine am_callV hX hi (M := mX14_is) (idx := 125) (d' := 1) (b := 79) (ci := 12) (As := [.int (6 : Int32)]) (rest := []) mkX14_is miX14_is mvX14_is (by decide +kernel) (by decide +kernel) rfl (by decide +kernel) rfl ⟨by omega, by decide, Nat.le_of_ble_eq_true rfl⟩ rfl (c_X14_is_79 I G (6 : Int32) hq1) ?_
          rintro rz Iz Gz Pz ⟨e0, e1, e2, e3⟩
          rw [e0, e1, e2, e3]
          show am_V X 0 0 _ _ ad (99, [(0, .ref 79), (1, .int (I 81 (I 79 9).toNatClampNeg))], [.int (f_X14_is_79 I G (6 : Int32))], I, G, (gP 123))
          refine am_if_eq (tgt := 137) hX hi (off := (38)) (by decide +kernel) (by decide) (fun c99 => ?_) (fun c99 => ?_)
          · rw [if_pos c99] at h
            refine am_blk 137 [(.aload_n 0, 1, 0, 0, .null), (.bipush (45), 2, 0, 0, .int (45 : Int32))] (140, [(0, .ref 79), (1, .int (I 81 (I 79 9).toNatClampNeg))], [.int (45 : Int32), .ref 79], I, G, (gP 123)) (True) hX hi (by decide +kernel) rfl trivial ?_
            obtain ⟨hq1, h⟩ := rg_some h
            refine am_callV hX hi (M := mX14_isSign) (idx := 205) (d' := 1) (b := 79) (ci := 12) (As := [.int (45 : Int32)]) (rest := []) mkX14_isSign miX14_isSign mvX14_isSign (by decide +kernel) (by decide +kernel) rfl (by decide +kernel) rfl ⟨by omega, by decide, Nat.le_of_ble_eq_true rfl⟩ rfl (c_X14_isSign_79 I G (45 : Int32) hq1) ?_
            rintro rz Iz Gz Pz ⟨e0, e1, e2, e3⟩
            rw [e0, e1, e2, e3]
            show am_V X 0 0 _ _ ad (143, [(0, .ref 79), (1, .int (I 81 (I 79 9).toNatClampNeg))], [.int (f_X14_isSign_79 I G (45 : Int32))], I, G, (gP 123))
            refine am_if_eq (tgt := 180) hX hi (off := (37)) (by decide +kernel) (by decide) (fun c143 => ?_) (fun c143 => ?_)
            · rw [if_pos c143] at h
              refine am_blk 180 [(.aload_n 0, 1, 0, 0, .null), (.iload_n 1, 1, 1, 0, .null), (.aload_n 0, 1, 0, 0, .null), (.bipush (22), 2, 0, 0, .int (22 : Int32))] (185, [(0, .ref 79), (1, .int (I 81 (I 79 9).toNatClampNeg))], [.int (22 : Int32), .ref 79, .int (I 81 (I 79 9).toNatClampNeg), .ref 79], I, G, (gP 123)) (True) hX hi (by decide +kernel) rfl trivial ?_
              obtain ⟨hq1, h⟩ := rg_some h
              refine am_callV hX hi (M := mX14_eat) (idx := 128) (d' := 2) (b := 79) (ci := 12) (As := [.int (22 : Int32)]) (rest := [.int (I 81 (I 79 9).toNatClampNeg), .ref 79]) mkX14_eat miX14_eat mvX14_eat (by decide +kernel) (by decide +kernel) rfl (by decide +kernel) rfl ⟨by omega, by decide, Nat.le_of_ble_eq_true rfl⟩ rfl (c_X14_eat_79 I G (22 : Int32) hq1) ?_
              rintro rz Iz Gz Pz ⟨e0, e1, e2, e3⟩
              rw [e0, e1, e2, e3]
              show am_V X 0 0 _ _ ad (188, [(0, .ref 79), (1, .int (I 81 (I 79 9).toNatClampNeg))], [.int (f_X14_eat_79 I G (22 : Int32)), .int (I 81 (I 79 9).toNatClampNeg), .ref 79], (g_X14_eat_79 I G (22 : Int32)), G, (gP 123))
              refine am_if_ne (tgt := 209) hX hi (off := (21)) (by decide +kernel) (by decide) (fun c188 => ?_) (fun c188 => ?_)
              · rw [if_neg c188] at h
                refine am_blk 209 [(.iconst (1), 1, 0, 0, .int (1 : Int32)), (.goto (4), 3, 0, 214, .null)] (214, [(0, .ref 79), (1, .int (I 81 (I 79 9).toNatClampNeg))], [.int (1 : Int32), .int (I 81 (I 79 9).toNatClampNeg), .ref 79], (g_X14_eat_79 I G (22 : Int32)), G, (gP 123)) (True) hX hi (by decide +kernel) rfl trivial ?_
                obtain ⟨r7, I7, G7, hc, h⟩ := rb_some h
                refine am_callV hX hi (M := mX14_isInside) (idx := 220) (d' := (8 + n9)) (b := 79) (ci := 12) (As := [.int (I 81 (I 79 9).toNatClampNeg), .int (1 : Int32)]) (rest := []) mkX14_isInside miX14_isInside mvX14_isInside (by decide +kernel) (by decide +kernel) rfl (by decide +kernel) rfl ⟨by omega, by decide, Nat.le_of_ble_eq_true rfl⟩ rfl (h5 (g_X14_eat_79 I G (22 : Int32)) G (I 81 (I 79 9).toNatClampNeg) (1 : Int32) _ hc) ?_
                rintro rz Iz Gz Pz ⟨e0, e1, e2, e3⟩
                rw [e0, e1, e2, e3]
                show am_V X 0 0 _ _ ad (217, [(0, .ref 79), (1, .int (I 81 (I 79 9).toNatClampNeg))], [.int r7], I7, G7, (gP 123))
                obtain ⟨gb, h⟩ := rg_some h
                cases h
                refine am_iret hX hi rfl (by rcases gb with gb | gb <;> rw [gb] <;> rfl) (by decide +kernel) ?_
                exact ⟨rfl, rfl, rfl, rfl⟩
              · rw [if_pos c188] at h
                refine am_blk 191 [(.aload_n 0, 1, 0, 0, .null), (.bipush (23), 2, 0, 0, .int (23 : Int32))] (194, [(0, .ref 79), (1, .int (I 81 (I 79 9).toNatClampNeg))], [.int (23 : Int32), .ref 79, .int (I 81 (I 79 9).toNatClampNeg), .ref 79], (g_X14_eat_79 I G (22 : Int32)), G, (gP 123)) (True) hX hi (by decide +kernel) rfl trivial ?_
                obtain ⟨hq1, h⟩ := rg_some h
                refine am_callV hX hi (M := mX14_eat) (idx := 128) (d' := 2) (b := 79) (ci := 12) (As := [.int (23 : Int32)]) (rest := [.int (I 81 (I 79 9).toNatClampNeg), .ref 79]) mkX14_eat miX14_eat mvX14_eat (by decide +kernel) (by decide +kernel) rfl (by decide +kernel) rfl ⟨by omega, by decide, Nat.le_of_ble_eq_true rfl⟩ rfl (c_X14_eat_79 (g_X14_eat_79 I G (22 : Int32)) G (23 : Int32) hq1) ?_
                rintro rz Iz Gz Pz ⟨e0, e1, e2, e3⟩
                rw [e0, e1, e2, e3]
                show am_V X 0 0 _ _ ad (197, [(0, .ref 79), (1, .int (I 81 (I 79 9).toNatClampNeg))], [.int (f_X14_eat_79 (g_X14_eat_79 I G (22 : Int32)) G (23 : Int32)), .int (I 81 (I 79 9).toNatClampNeg), .ref 79], (g_X14_eat_79 (g_X14_eat_79 I G (22 : Int32)) G (23 : Int32)), G, (gP 123))
                refine am_if_ne (tgt := 209) hX hi (off := (12)) (by decide +kernel) (by decide) (fun c197 => ?_) (fun c197 => ?_)
                · rw [if_neg c197] at h
                  refine am_blk 209 [(.iconst (1), 1, 0, 0, .int (1 : Int32)), (.goto (4), 3, 0, 214, .null)] (214, [(0, .ref 79), (1, .int (I 81 (I 79 9).toNatClampNeg))], [.int (1 : Int32), .int (I 81 (I 79 9).toNatClampNeg), .ref 79], (g_X14_eat_79 (g_X14_eat_79 I G (22 : Int32)) G (23 : Int32)), G, (gP 123)) (True) hX hi (by decide +kernel) rfl trivial ?_
                  obtain ⟨r8, I8, G8, hc, h⟩ := rb_some h
                  refine am_callV hX hi (M := mX14_isInside) (idx := 220) (d' := (8 + n9)) (b := 79) (ci := 12) (As := [.int (I 81 (I 79 9).toNatClampNeg), .int (1 : Int32)]) (rest := []) mkX14_isInside miX14_isInside mvX14_isInside (by decide +kernel) (by decide +kernel) rfl (by decide +kernel) rfl ⟨by omega, by decide, Nat.le_of_ble_eq_true rfl⟩ rfl (h5 (g_X14_eat_79 (g_X14_eat_79 I G (22 : Int32)) G (23 : Int32)) G (I 81 (I 79 9).toNatClampNeg) (1 : Int32) _ hc) ?_
                  rintro rz Iz Gz Pz ⟨e0, e1, e2, e3⟩
                  rw [e0, e1, e2, e3]
                  show am_V X 0 0 _ _ ad (217, [(0, .ref 79), (1, .int (I 81 (I 79 9).toNatClampNeg))], [.int r8], I8, G8, (gP 123))
                  obtain ⟨gb, h⟩ := rg_some h
                  cases h
                  refine am_iret hX hi rfl (by rcases gb with gb | gb <;> rw [gb] <;> rfl) (by decide +kernel) ?_
                  exact ⟨rfl, rfl, rfl, rfl⟩
                · rw [if_pos c197] at h
                  refine am_blk 200 [(.aload_n 0, 1, 0, 0, .null), (.bipush (17), 2, 0, 0, .int (17 : Int32))] (203, [(0, .ref 79), (1, .int (I 81 (I 79 9).toNatClampNeg))], [.int (17 : Int32), .ref 79, .int (I 81 (I 79 9).toNatClampNeg), .ref 79], (g_X14_eat_79 (g_X14_eat_79 I G (22 : Int32)) G (23 : Int32)), G, (gP 123)) (True) hX hi (by decide +kernel) rfl trivial ?_
                  obtain ⟨hq1, h⟩ := rg_some h
                  refine am_callV hX hi (M := mX14_eat) (idx := 128) (d' := 2) (b := 79) (ci := 12) (As := [.int (17 : Int32)]) (rest := [.int (I 81 (I 79 9).toNatClampNeg), .ref 79]) mkX14_eat miX14_eat mvX14_eat (by decide +kernel) (by decide +kernel) rfl (by decide +kernel) rfl ⟨by omega, by decide, Nat.le_of_ble_eq_true rfl⟩ rfl (c_X14_eat_79 (g_X14_eat_79 (g_X14_eat_79 I G (22 : Int32)) G (23 : Int32)) G (17 : Int32) hq1) ?_
                  rintro rz Iz Gz Pz ⟨e0, e1, e2, e3⟩
                  rw [e0, e1, e2, e3]
                  show am_V X 0 0 _ _ ad (206, [(0, .ref 79), (1, .int (I 81 (I 79 9).toNatClampNeg))], [.int (f_X14_eat_79 (g_X14_eat_79 (g_X14_eat_79 I G (22 : Int32)) G (23 : Int32)) G (17 : Int32)), .int (I 81 (I 79 9).toNatClampNeg), .ref 79], (g_X14_eat_79 (g_X14_eat_79 (g_X14_eat_79 I G (22 : Int32)) G (23 : Int32)) G (17 : Int32)), G, (gP 123))
                  refine am_if_eq (tgt := 213) hX hi (off := (7)) (by decide +kernel) (by decide) (fun c206 => ?_) (fun c206 => ?_)
                  · rw [if_pos c206] at h
                    refine am_blk 213 [(.iconst (0), 1, 0, 0, .int (0 : Int32))] (214, [(0, .ref 79), (1, .int (I 81 (I 79 9).toNatClampNeg))], [.int (0 : Int32), .int (I 81 (I 79 9).toNatClampNeg), .ref 79], (g_X14_eat_79 (g_X14_eat_79 (g_X14_eat_79 I G (22 : Int32)) G (23 : Int32)) G (17 : Int32)), G, (gP 123)) (True) hX hi (by decide +kernel) rfl trivial ?_
                    obtain ⟨r9, I9, G9, hc, h⟩ := rb_some h
                    refine am_callV hX hi (M := mX14_isInside) (idx := 220) (d' := (8 + n9)) (b := 79) (ci := 12) (As := [.int (I 81 (I 79 9).toNatClampNeg), .int (0 : Int32)]) (rest := []) mkX14_isInside miX14_isInside mvX14_isInside (by decide +kernel) (by decide +kernel) rfl (by decide +kernel) rfl ⟨by omega, by decide, Nat.le_of_ble_eq_true rfl⟩ rfl (h5 (g_X14_eat_79 (g_X14_eat_79 (g_X14_eat_79 I G (22 : Int32)) G (23 : Int32)) G (17 : Int32)) G (I 81 (I 79 9).toNatClampNeg) (0 : Int32) _ hc) ?_
                    rintro rz Iz Gz Pz ⟨e0, e1, e2, e3⟩
                    rw [e0, e1, e2, e3]
                    show am_V X 0 0 _ _ ad (217, [(0, .ref 79), (1, .int (I 81 (I 79 9).toNatClampNeg))], [.int r9], I9, G9, (gP 123))
                    obtain ⟨gb, h⟩ := rg_some h
                    cases h
                    refine am_iret hX hi rfl (by rcases gb with gb | gb <;> rw [gb] <;> rfl) (by decide +kernel) ?_
                    exact ⟨rfl, rfl, rfl, rfl⟩
                  · rw [if_neg c206] at h
                    refine am_blk 209 [(.iconst (1), 1, 0, 0, .int (1 : Int32)), (.goto (4), 3, 0, 214, .null)] (214, [(0, .ref 79), (1, .int (I 81 (I 79 9).toNatClampNeg))], [.int (1 : Int32), .int (I 81 (I 79 9).toNatClampNeg), .ref 79], (g_X14_eat_79 (g_X14_eat_79 (g_X14_eat_79 I G (22 : Int32)) G (23 : Int32)) G (17 : Int32)), G, (gP 123)) (True) hX hi (by decide +kernel) rfl trivial ?_
                    obtain ⟨r10, I10, G10, hc, h⟩ := rb_some h
                    refine am_callV hX hi (M := mX14_isInside) (idx := 220) (d' := (8 + n9)) (b := 79) (ci := 12) (As := [.int (I 81 (I 79 9).toNatClampNeg), .int (1 : Int32)]) (rest := []) mkX14_isInside miX14_isInside mvX14_isInside (by decide +kernel) (by decide +kernel) rfl (by decide +kernel) rfl ⟨by omega, by decide, Nat.le_of_ble_eq_true rfl⟩ rfl (h5 (g_X14_eat_79 (g_X14_eat_79 (g_X14_eat_79 I G (22 : Int32)) G (23 : Int32)) G (17 : Int32)) G (I 81 (I 79 9).toNatClampNeg) (1 : Int32) _ hc) ?_
                    rintro rz Iz Gz Pz ⟨e0, e1, e2, e3⟩
                    rw [e0, e1, e2, e3]
                    show am_V X 0 0 _ _ ad (217, [(0, .ref 79), (1, .int (I 81 (I 79 9).toNatClampNeg))], [.int r10], I10, G10, (gP 123))
                    obtain ⟨gb, h⟩ := rg_some h
                    cases h
                    refine am_iret hX hi rfl (by rcases gb with gb | gb <;> rw [gb] <;> rfl) (by decide +kernel) ?_
                    exact ⟨rfl, rfl, rfl, rfl⟩
            · rw [if_neg c143] at h
              refine am_blk 146 [(.aload_n 0, 1, 0, 0, .null)] (147, [(0, .ref 79), (1, .int (I 81 (I 79 9).toNatClampNeg))], [.ref 79], I, G, (gP 123)) (True) hX hi (by decide +kernel) rfl trivial ?_
              refine am_callV hX hi (M := mX14_isDeeper) (idx := 202) (d' := 1) (b := 79) (ci := 12) (As := []) (rest := []) mkX14_isDeeper miX14_isDeeper mvX14_isDeeper (by decide +kernel) (by decide +kernel) rfl (by decide +kernel) rfl ⟨by omega, by decide, Nat.le_of_ble_eq_true rfl⟩ rfl (c_X14_isDeeper_79 I G ) ?_
              rintro rz Iz Gz Pz ⟨e0, e1, e2, e3⟩
              rw [e0, e1, e2, e3]
              show am_V X 0 0 _ _ ad (150, [(0, .ref 79), (1, .int (I 81 (I 79 9).toNatClampNeg))], [.int (f_X14_isDeeper_79 I G )], (g_X14_isDeeper_79 I G ), G, (gP 123))
              refine am_if_eq (tgt := 160) hX hi (off := (10)) (by decide +kernel) (by decide) (fun c150 => ?_) (fun c150 => ?_)
              · rw [if_pos c150] at h
                refine am_blk 160 [(.iconst (0), 1, 0, 0, .int (0 : Int32))] (161, [(0, .ref 79), (1, .int (I 81 (I 79 9).toNatClampNeg))], [.int (0 : Int32)], (g_X14_isDeeper_79 I G ), G, (gP 123)) (True) hX hi (by decide +kernel) rfl trivial ?_
                cases h
                refine am_iret hX hi rfl (by first | rfl | decide | (simp [narrow]; done)) (by decide +kernel) ?_
                exact ⟨rfl, rfl, rfl, rfl⟩
              · rw [if_neg c150] at h
                refine am_blk 153 [(.aload_n 0, 1, 0, 0, .null)] (154, [(0, .ref 79), (1, .int (I 81 (I 79 9).toNatClampNeg))], [.ref 79], (g_X14_isDeeper_79 I G ), G, (gP 123)) (True) hX hi (by decide +kernel) rfl trivial ?_
                obtain ⟨r11, I11, G11, hc, h⟩ := rb_some h
                refine am_callV hX hi (M := mX14_isValue) (idx := 214) (d' := (8 + n9)) (b := 79) (ci := 12) (As := []) (rest := []) mkX14_isValue miX14_isValue mvX14_isValue (by decide +kernel) (by decide +kernel) rfl (by decide +kernel) rfl ⟨by omega, by decide, Nat.le_of_ble_eq_true rfl⟩ rfl (h6 (g_X14_isDeeper_79 I G ) G  _ hc) ?_
                rintro rz Iz Gz Pz ⟨e0, e1, e2, e3⟩
                rw [e0, e1, e2, e3]
                show am_V X 0 0 _ _ ad (157, [(0, .ref 79), (1, .int (I 81 (I 79 9).toNatClampNeg))], [.int r11], I11, G11, (gP 123))
                refine am_if_ne (tgt := 162) hX hi (off := (5)) (by decide +kernel) (by decide) (fun c157 => ?_) (fun c157 => ?_)
                · rw [if_neg c157] at h
                  refine am_blk 162 [(.aload_n 0, 1, 0, 0, .null), (.dup, 1, 0, 0, .null), (.getfield 190, 3, 12, 10, .null), (.iconst (1), 1, 0, 0, .int (1 : Int32)), (.isub, 1, 0, 0, .null), (.putfield 190, 3, 12, 10, .null), (.aload_n 0, 1, 0, 0, .null), (.bipush (33), 2, 0, 0, .int (33 : Int32))] (175, [(0, .ref 79), (1, .int (I 81 (I 79 9).toNatClampNeg))], [.int (33 : Int32), .ref 79], (am_up I11 79 10 ((I11 79 10) - (1 : Int32))), G11, (gP 123)) (True) hX hi (by decide +kernel) rfl trivial ?_
                  obtain ⟨hq1, h⟩ := rg_some h
                  refine am_callV hX hi (M := mX14_put) (idx := 183) (d' := 1) (b := 79) (ci := 12) (As := [.int (33 : Int32)]) (rest := []) mkX14_put miX14_put mvX14_put (by decide +kernel) (by decide +kernel) rfl (by decide +kernel) rfl ⟨by omega, by decide, Nat.le_of_ble_eq_true rfl⟩ rfl (c_X14_put_79 (am_up I11 79 10 ((I11 79 10) - (1 : Int32))) G11 (33 : Int32) hq1) ?_
                  rintro rz Iz Gz Pz ⟨e0, e1, e2, e3⟩
                  rw [e0, e1, e2, e3]
                  show am_V X 0 0 _ _ ad (178, [(0, .ref 79), (1, .int (I 81 (I 79 9).toNatClampNeg))], [], (g_X14_put_79 (am_up I11 79 10 ((I11 79 10) - (1 : Int32))) G11 (33 : Int32)), G11, (gP 123))
                  refine am_blk 178 [(.iconst (1), 1, 0, 0, .int (1 : Int32))] (179, [(0, .ref 79), (1, .int (I 81 (I 79 9).toNatClampNeg))], [.int (1 : Int32)], (g_X14_put_79 (am_up I11 79 10 ((I11 79 10) - (1 : Int32))) G11 (33 : Int32)), G11, (gP 123)) (True) hX hi (by decide +kernel) rfl trivial ?_
                  cases h
                  refine am_iret hX hi rfl (by first | rfl | decide | (simp [narrow]; done)) (by decide +kernel) ?_
                  exact ⟨rfl, rfl, rfl, rfl⟩
                · rw [if_pos c157] at h
                  refine am_blk 160 [(.iconst (0), 1, 0, 0, .int (0 : Int32))] (161, [(0, .ref 79), (1, .int (I 81 (I 79 9).toNatClampNeg))], [.int (0 : Int32)], I11, G11, (gP 123)) (True) hX hi (by decide +kernel) rfl trivial ?_
                  cases h
                  refine am_iret hX hi rfl (by first | rfl | decide | (simp [narrow]; done)) (by decide +kernel) ?_
                  exact ⟨rfl, rfl, rfl, rfl⟩
          · rw [if_neg c99] at h
            refine am_blk 102 [(.aload_n 0, 1, 0, 0, .null), (.aload_n 0, 1, 0, 0, .null), (.bipush (9), 2, 0, 0, .int (9 : Int32))] (106, [(0, .ref 79), (1, .int (I 81 (I 79 9).toNatClampNeg))], [.int (9 : Int32), .ref 79, .ref 79], I, G, (gP 123)) (True) hX hi (by decide +kernel) rfl trivial ?_
            obtain ⟨hq1, h⟩ := rg_some h
            refine am_callV hX hi (M := mX14_is) (idx := 125) (d' := 1) (b := 79) (ci := 12) (As := [.int (9 : Int32)]) (rest := [.ref 79]) mkX14_is miX14_is mvX14_is (by decide +kernel) (by decide +kernel) rfl (by decide +kernel) rfl ⟨by omega, by decide, Nat.le_of_ble_eq_true rfl⟩ rfl (c_X14_is_79 I G (9 : Int32) hq1) ?_
            rintro rz Iz Gz Pz ⟨e0, e1, e2, e3⟩
            rw [e0, e1, e2, e3]
            show am_V X 0 0 _ _ ad (109, [(0, .ref 79), (1, .int (I 81 (I 79 9).toNatClampNeg))], [.int (f_X14_is_79 I G (9 : Int32)), .ref 79], I, G, (gP 123))
            refine am_if_eq (tgt := 117) hX hi (off := (8)) (by decide +kernel) (by decide) (fun c109 => ?_) (fun c109 => ?_)
            · rw [if_pos c109] at h
              refine am_blk 117 [(.aload_n 0, 1, 0, 0, .null), (.bipush (16), 2, 0, 0, .int (16 : Int32))] (120, [(0, .ref 79), (1, .int (I 81 (I 79 9).toNatClampNeg))], [.int (16 : Int32), .ref 79, .ref 79], I, G, (gP 123)) (True) hX hi (by decide +kernel) rfl trivial ?_
              obtain ⟨hq1, h⟩ := rg_some h
              refine am_callV hX hi (M := mX14_is) (idx := 125) (d' := 1) (b := 79) (ci := 12) (As := [.int (16 : Int32)]) (rest := [.ref 79]) mkX14_is miX14_is mvX14_is (by decide +kernel) (by decide +kernel) rfl (by decide +kernel) rfl ⟨by omega, by decide, Nat.le_of_ble_eq_true rfl⟩ rfl (c_X14_is_79 I G (16 : Int32) hq1) ?_
              rintro rz Iz Gz Pz ⟨e0, e1, e2, e3⟩
              rw [e0, e1, e2, e3]
              show am_V X 0 0 _ _ ad (123, [(0, .ref 79), (1, .int (I 81 (I 79 9).toNatClampNeg))], [.int (f_X14_is_79 I G (16 : Int32)), .ref 79], I, G, (gP 123))
              refine am_if_eq (tgt := 131) hX hi (off := (8)) (by decide +kernel) (by decide) (fun c123 => ?_) (fun c123 => ?_)
              · rw [if_pos c123] at h
                refine am_blk 131 [(.bipush (20), 2, 0, 0, .int (20 : Int32))] (133, [(0, .ref 79), (1, .int (I 81 (I 79 9).toNatClampNeg))], [.int (20 : Int32), .ref 79], I, G, (gP 123)) (True) hX hi (by decide +kernel) rfl trivial ?_
                obtain ⟨r12, I12, G12, hc, h⟩ := rb_some h
                refine am_callV hX hi (M := mX14_isNamed) (idx := 208) (d' := 5) (b := 79) (ci := 12) (As := [.int (20 : Int32)]) (rest := []) mkX14_isNamed miX14_isNamed mvX14_isNamed (by decide +kernel) (by decide +kernel) rfl (by decide +kernel) rfl ⟨by omega, by decide, Nat.le_of_ble_eq_true rfl⟩ rfl (c_X14_isNamed_79 I G (20 : Int32) hc) ?_
                rintro rz Iz Gz Pz ⟨e0, e1, e2, e3⟩
                rw [e0, e1, e2, e3]
                show am_V X 0 0 _ _ ad (136, [(0, .ref 79), (1, .int (I 81 (I 79 9).toNatClampNeg))], [.int r12], I12, G12, (gP 123))
                obtain ⟨gb, h⟩ := rg_some h
                cases h
                refine am_iret hX hi rfl (by rcases gb with gb | gb <;> rw [gb] <;> rfl) (by decide +kernel) ?_
                exact ⟨rfl, rfl, rfl, rfl⟩
              · rw [if_neg c123] at h
                refine am_blk 126 [(.bipush (19), 2, 0, 0, .int (19 : Int32)), (.goto (5), 3, 0, 133, .null)] (133, [(0, .ref 79), (1, .int (I 81 (I 79 9).toNatClampNeg))], [.int (19 : Int32), .ref 79], I, G, (gP 123)) (True) hX hi (by decide +kernel) rfl trivial ?_
                obtain ⟨r13, I13, G13, hc, h⟩ := rb_some h
                refine am_callV hX hi (M := mX14_isNamed) (idx := 208) (d' := 5) (b := 79) (ci := 12) (As := [.int (19 : Int32)]) (rest := []) mkX14_isNamed miX14_isNamed mvX14_isNamed (by decide +kernel) (by decide +kernel) rfl (by decide +kernel) rfl ⟨by omega, by decide, Nat.le_of_ble_eq_true rfl⟩ rfl (c_X14_isNamed_79 I G (19 : Int32) hc) ?_
                rintro rz Iz Gz Pz ⟨e0, e1, e2, e3⟩
                rw [e0, e1, e2, e3]
                show am_V X 0 0 _ _ ad (136, [(0, .ref 79), (1, .int (I 81 (I 79 9).toNatClampNeg))], [.int r13], I13, G13, (gP 123))
                obtain ⟨gb, h⟩ := rg_some h
                cases h
                refine am_iret hX hi rfl (by rcases gb with gb | gb <;> rw [gb] <;> rfl) (by decide +kernel) ?_
                exact ⟨rfl, rfl, rfl, rfl⟩
            · rw [if_neg c109] at h
              refine am_blk 112 [(.bipush (18), 2, 0, 0, .int (18 : Int32)), (.goto (19), 3, 0, 133, .null)] (133, [(0, .ref 79), (1, .int (I 81 (I 79 9).toNatClampNeg))], [.int (18 : Int32), .ref 79], I, G, (gP 123)) (True) hX hi (by decide +kernel) rfl trivial ?_
              obtain ⟨r14, I14, G14, hc, h⟩ := rb_some h
              refine am_callV hX hi (M := mX14_isNamed) (idx := 208) (d' := 5) (b := 79) (ci := 12) (As := [.int (18 : Int32)]) (rest := []) mkX14_isNamed miX14_isNamed mvX14_isNamed (by decide +kernel) (by decide +kernel) rfl (by decide +kernel) rfl ⟨by omega, by decide, Nat.le_of_ble_eq_true rfl⟩ rfl (c_X14_isNamed_79 I G (18 : Int32) hc) ?_
              rintro rz Iz Gz Pz ⟨e0, e1, e2, e3⟩
              rw [e0, e1, e2, e3]
              show am_V X 0 0 _ _ ad (136, [(0, .ref 79), (1, .int (I 81 (I 79 9).toNatClampNeg))], [.int r14], I14, G14, (gP 123))
              obtain ⟨gb, h⟩ := rg_some h
              cases h
              refine am_iret hX hi rfl (by rcases gb with gb | gb <;> rw [gb] <;> rfl) (by decide +kernel) ?_
              exact ⟨rfl, rfl, rfl, rfl⟩
    · rw [if_neg c55] at h
      refine am_blk 58 [(.aload_n 0, 1, 0, 0, .null), (.iload_n 1, 1, 1, 0, .null)] (60, [(0, .ref 79), (1, .int (I 81 (I 79 9).toNatClampNeg))], [.int (I 81 (I 79 9).toNatClampNeg), .ref 79], I, G, (gP 123)) (True) hX hi (by decide +kernel) rfl trivial ?_
      obtain ⟨hq1, h⟩ := rg_some h
      refine am_callV hX hi (M := mX14_put) (idx := 183) (d' := 1) (b := 79) (ci := 12) (As := [.int (I 81 (I 79 9).toNatClampNeg)]) (rest := []) mkX14_put miX14_put mvX14_put (by decide +kernel) (by decide +kernel) rfl (by decide +kernel) rfl ⟨by omega, by decide, Nat.le_of_ble_eq_true rfl⟩ rfl (c_X14_put_79 I G (I 81 (I 79 9).toNatClampNeg) hq1) ?_
      rintro rz Iz Gz Pz ⟨e0, e1, e2, e3⟩
      rw [e0, e1, e2, e3]
      show am_V X 0 0 _ _ ad (63, [(0, .ref 79), (1, .int (I 81 (I 79 9).toNatClampNeg))], [], (g_X14_put_79 I G (I 81 (I 79 9).toNatClampNeg)), G, (gP 123))
      refine am_blk 63 [(.aload_n 0, 1, 0, 0, .null), (.dup, 1, 0, 0, .null), (.getfield 122, 3, 12, 9, .null), (.iconst (1), 1, 0, 0, .int (1 : Int32)), (.iadd, 1, 0, 0, .null), (.putfield 122, 3, 12, 9, .null), (.iconst (1), 1, 0, 0, .int (1 : Int32))] (74, [(0, .ref 79), (1, .int (I 81 (I 79 9).toNatClampNeg))], [.int (1 : Int32)], (am_up (g_X14_put_79 I G (I 81 (I 79 9).toNatClampNeg)) 79 9 (((g_X14_put_79 I G (I 81 (I 79 9).toNatClampNeg)) 79 9) + (1 : Int32))), G, (gP 123)) (True) hX hi (by decide +kernel) rfl trivial ?_
      cases h
      refine am_iret hX hi rfl (by first | rfl | decide | (simp [narrow]; done)) (by decide +kernel) ?_
      exact ⟨rfl, rfl, rfl, rfl⟩
  · rw [if_neg c16] at h
    refine am_blk 19 [(.aload_n 0, 1, 0, 0, .null), (.bipush (32), 2, 0, 0, .int (32 : Int32))] (22, [(0, .ref 79), (1, .int (I 81 (I 79 9).toNatClampNeg))], [.int (32 : Int32), .ref 79], I, G, (gP 123)) (True) hX hi (by decide +kernel) rfl trivial ?_
    obtain ⟨hq1, h⟩ := rg_some h
    refine am_callV hX hi (M := mX14_put) (idx := 183) (d' := 1) (b := 79) (ci := 12) (As := [.int (32 : Int32)]) (rest := []) mkX14_put miX14_put mvX14_put (by decide +kernel) (by decide +kernel) rfl (by decide +kernel) rfl ⟨by omega, by decide, Nat.le_of_ble_eq_true rfl⟩ rfl (c_X14_put_79 I G (32 : Int32) hq1) ?_
    rintro rz Iz Gz Pz ⟨e0, e1, e2, e3⟩
    rw [e0, e1, e2, e3]
    show am_V X 0 0 _ _ ad (25, [(0, .ref 79), (1, .int (I 81 (I 79 9).toNatClampNeg))], [], (g_X14_put_79 I G (32 : Int32)), G, (gP 123))
    refine am_blk 25 [(.aload_n 0, 1, 0, 0, .null), (.aload_n 0, 1, 0, 0, .null), (.aload_n 0, 1, 0, 0, .null), (.getfield 122, 3, 12, 9, .null)] (31, [(0, .ref 79), (1, .int (I 81 (I 79 9).toNatClampNeg))], [.int ((g_X14_put_79 I G (32 : Int32)) 79 9), .ref 79, .ref 79], (g_X14_put_79 I G (32 : Int32)), G, (gP 123)) (True) hX hi (by decide +kernel) rfl trivial ?_
    obtain ⟨r15, I15, G15, hc, h⟩ := rb_some h
    refine am_callV hX hi (M := mX14_numberAt) (idx := 217) (d' := 1) (b := 79) (ci := 12) (As := [.int ((g_X14_put_79 I G (32 : Int32)) 79 9)]) (rest := [.ref 79]) mkX14_numberAt miX14_numberAt mvX14_numberAt (by decide +kernel) (by decide +kernel) rfl (by decide +kernel) rfl ⟨by omega, by decide, Nat.le_of_ble_eq_true rfl⟩ rfl (c_X14_numberAt_79 (g_X14_put_79 I G (32 : Int32)) G ((g_X14_put_79 I G (32 : Int32)) 79 9) hc) ?_
    rintro rz Iz Gz Pz ⟨e0, e1, e2, e3⟩
    rw [e0, e1, e2, e3]
    show am_V X 0 0 _ _ ad (34, [(0, .ref 79), (1, .int (I 81 (I 79 9).toNatClampNeg))], [.int r15, .ref 79], I15, G15, (gP 123))
    obtain ⟨hq1, h⟩ := rg_some h
    refine am_callV hX hi (M := mX14_put) (idx := 183) (d' := 1) (b := 79) (ci := 12) (As := [.int r15]) (rest := []) mkX14_put miX14_put mvX14_put (by decide +kernel) (by decide +kernel) rfl (by decide +kernel) rfl ⟨by omega, by decide, Nat.le_of_ble_eq_true rfl⟩ rfl (c_X14_put_79 I15 G15 r15 hq1) ?_
    rintro rz Iz Gz Pz ⟨e0, e1, e2, e3⟩
    rw [e0, e1, e2, e3]
    show am_V X 0 0 _ _ ad (37, [(0, .ref 79), (1, .int (I 81 (I 79 9).toNatClampNeg))], [], (g_X14_put_79 I15 G15 r15), G15, (gP 123))
    refine am_blk 37 [(.aload_n 0, 1, 0, 0, .null), (.dup, 1, 0, 0, .null), (.getfield 122, 3, 12, 9, .null), (.iconst (1), 1, 0, 0, .int (1 : Int32)), (.iadd, 1, 0, 0, .null), (.putfield 122, 3, 12, 9, .null), (.iconst (1), 1, 0, 0, .int (1 : Int32))] (48, [(0, .ref 79), (1, .int (I 81 (I 79 9).toNatClampNeg))], [.int (1 : Int32)], (am_up (g_X14_put_79 I15 G15 r15) 79 9 (((g_X14_put_79 I15 G15 r15) 79 9) + (1 : Int32))), G15, (gP 123)) (True) hX hi (by decide +kernel) rfl trivial ?_
    cases h
    refine am_iret hX hi rfl (by first | rfl | decide | (simp [narrow]; done)) (by decide +kernel) ?_
    exact ⟨rfl, rfl, rfl, rfl⟩
noncomputable def PG_X14_isTest : Nat → Nat → am_I → am_G → Int32 → Int32 → Option (Int32 × am_I × am_G)
  | 0 => fun _ _ _ _ _ => none
  | n + 1 => fun k I G a b => if k = 0 then R_X14_isTest_79 (PG_X14_isTest n) I G  else if k = 1 then R_X14_isBoth_79 (PG_X14_isTest n) I G  else if k = 2 then R_X14_isSingle_79 (PG_X14_isTest n) I G  else if k = 3 then R_X14_isSum_79 (PG_X14_isTest n) I G  else if k = 4 then R_X14_isProduct_79 (PG_X14_isTest n) I G  else if k = 5 then R_X14_isInside_79 (PG_X14_isTest n) I G a b else if k = 6 then R_X14_isValue_79 (PG_X14_isTest n) I G  else none
theorem PG_X14_isTest_0 (n : Nat) (I : am_I) (G : am_G) (a b : Int32) : PG_X14_isTest (n + 1) 0 I G a b = R_X14_isTest_79 (PG_X14_isTest n) I G  := rfl
theorem PG_X14_isTest_1 (n : Nat) (I : am_I) (G : am_G) (a b : Int32) : PG_X14_isTest (n + 1) 1 I G a b = R_X14_isBoth_79 (PG_X14_isTest n) I G  := rfl
theorem PG_X14_isTest_2 (n : Nat) (I : am_I) (G : am_G) (a b : Int32) : PG_X14_isTest (n + 1) 2 I G a b = R_X14_isSingle_79 (PG_X14_isTest n) I G  := rfl
theorem PG_X14_isTest_3 (n : Nat) (I : am_I) (G : am_G) (a b : Int32) : PG_X14_isTest (n + 1) 3 I G a b = R_X14_isSum_79 (PG_X14_isTest n) I G  := rfl
theorem PG_X14_isTest_4 (n : Nat) (I : am_I) (G : am_G) (a b : Int32) : PG_X14_isTest (n + 1) 4 I G a b = R_X14_isProduct_79 (PG_X14_isTest n) I G  := rfl
theorem PG_X14_isTest_5 (n : Nat) (I : am_I) (G : am_G) (a b : Int32) : PG_X14_isTest (n + 1) 5 I G a b = R_X14_isInside_79 (PG_X14_isTest n) I G a b := rfl
theorem PG_X14_isTest_6 (n : Nat) (I : am_I) (G : am_G) (a b : Int32) : PG_X14_isTest (n + 1) 6 I G a b = R_X14_isValue_79 (PG_X14_isTest n) I G  := rfl
set_option maxHeartbeats 4000000 in
theorem cg_X14_isTest (n : Nat) : (∀ (I : am_I) (G : am_G) (out : Int32 × am_I × am_G), PG_X14_isTest n 0 I G (0 : Int32) (0 : Int32) = some out → am_Ct mX14_isTest (8 + n) gS2 [.ref 79] I G (gP 123) (pI out.1 out.2.1 out.2.2 (gP 123))) ∧ (∀ (I : am_I) (G : am_G) (out : Int32 × am_I × am_G), PG_X14_isTest n 1 I G (0 : Int32) (0 : Int32) = some out → am_Ct mX14_isBoth (8 + n) gS2 [.ref 79] I G (gP 123) (pI out.1 out.2.1 out.2.2 (gP 123))) ∧ (∀ (I : am_I) (G : am_G) (out : Int32 × am_I × am_G), PG_X14_isTest n 2 I G (0 : Int32) (0 : Int32) = some out → am_Ct mX14_isSingle (8 + n) gS2 [.ref 79] I G (gP 123) (pI out.1 out.2.1 out.2.2 (gP 123))) ∧ (∀ (I : am_I) (G : am_G) (out : Int32 × am_I × am_G), PG_X14_isTest n 3 I G (0 : Int32) (0 : Int32) = some out → am_Ct mX14_isSum (8 + n) gS2 [.ref 79] I G (gP 123) (pI out.1 out.2.1 out.2.2 (gP 123))) ∧ (∀ (I : am_I) (G : am_G) (out : Int32 × am_I × am_G), PG_X14_isTest n 4 I G (0 : Int32) (0 : Int32) = some out → am_Ct mX14_isProduct (8 + n) gS2 [.ref 79] I G (gP 123) (pI out.1 out.2.1 out.2.2 (gP 123))) ∧ (∀ (I : am_I) (G : am_G) (a : Int32) (b : Int32) (out : Int32 × am_I × am_G), PG_X14_isTest n 5 I G a b = some out → am_Ct mX14_isInside (8 + n) gS2 [.ref 79, .int a, .int b] I G (gP 123) (pI out.1 out.2.1 out.2.2 (gP 123))) ∧ (∀ (I : am_I) (G : am_G) (out : Int32 × am_I × am_G), PG_X14_isTest n 6 I G (0 : Int32) (0 : Int32) = some out → am_Ct mX14_isValue (8 + n) gS2 [.ref 79] I G (gP 123) (pI out.1 out.2.1 out.2.2 (gP 123))) := by
  induction n with
  | zero => refine ⟨?_, ?_, ?_, ?_, ?_, ?_, ?_⟩ <;> (intros; rename_i h; cases h)
  | succ n ih =>
    obtain ⟨h0, h1, h2, h3, h4, h5, h6⟩ := ih
    refine ⟨?_, ?_, ?_, ?_, ?_, ?_, ?_⟩
    · intro I G  out h; rw [PG_X14_isTest_0] at h; exact c_X14_isTest_79 h0 h1 h2 h3 h4 h5 h6  I G  h
    · intro I G  out h; rw [PG_X14_isTest_1] at h; exact c_X14_isBoth_79 h0 h1 h2 h3 h4 h5 h6  I G  h
    · intro I G  out h; rw [PG_X14_isTest_2] at h; exact c_X14_isSingle_79 h0 h1 h2 h3 h4 h5 h6  I G  h
    · intro I G  out h; rw [PG_X14_isTest_3] at h; exact c_X14_isSum_79 h0 h1 h2 h3 h4 h5 h6  I G  h
    · intro I G  out h; rw [PG_X14_isTest_4] at h; exact c_X14_isProduct_79 h0 h1 h2 h3 h4 h5 h6  I G  h
    · intro I G a b out h; rw [PG_X14_isTest_5] at h; exact c_X14_isInside_79 h0 h1 h2 h3 h4 h5 h6  I G a b h
    · intro I G  out h; rw [PG_X14_isTest_6] at h; exact c_X14_isValue_79 h0 h1 h2 h3 h4 h5 h6  I G  h

noncomputable def L_X4_find_60_58 (n0 : Nat) (hd : Nat) (I : am_I) (G : am_G) (v2 : Int32) (v3 : Int32) (v4 : Int32) (v5 : Int32) : Option (Unit × am_I × am_G) := match n0 with
  | 0 => none
  | n + 1 => match hd with
    | 0 => (if v4 ≤ v5 then L_X4_find_60_58 n 1 I G v2 v3 v4 (0 : Int32) else L_X4_find_60_58 n 0 (gPut I 61 576 v5 (-1 : Int32)) G v2 v3 v4 (v5 + (1 : Int32)))
    | _ => (if v4 ≤ v5 then some ((), I, G) else (if (gAt (I 58) 576 (f_X4_rightOf I G v5 v2)) = (gAt (I 58) 576 v5) then (if (gAt (I 58) 576 (f_X4_below I G v5 v2 v4)) = (gAt (I 58) 576 v5) then (if 0 ≤ (gAt (I 61) 576 v5) then L_X4_find_60_58 n 1 I G v2 v3 v4 (v5 + (1 : Int32)) else rb (R_X4_spread_60_58 I G v5 v2 v4) (fun r201 I201 G201 => L_X4_find_60_58 n 1 I201 G201 v2 v3 v4 (v5 + (1 : Int32)))) else (if 0 ≤ (gAt ((am_up I 60 5 ((I 60 5) + (1 : Int32))) 61) 576 v5) then L_X4_find_60_58 n 1 (am_up I 60 5 ((I 60 5) + (1 : Int32))) G v2 v3 v4 (v5 + (1 : Int32)) else rb (R_X4_spread_60_58 (am_up I 60 5 ((I 60 5) + (1 : Int32))) G v5 v2 v4) (fun r202 I202 G202 => L_X4_find_60_58 n 1 I202 G202 v2 v3 v4 (v5 + (1 : Int32))))) else (if (gAt ((am_up I 60 5 ((I 60 5) + (1 : Int32))) 58) 576 (f_X4_below (am_up I 60 5 ((I 60 5) + (1 : Int32))) G v5 v2 v4)) = (gAt (I 58) 576 v5) then (if 0 ≤ (gAt ((am_up I 60 5 ((I 60 5) + (1 : Int32))) 61) 576 v5) then L_X4_find_60_58 n 1 (am_up I 60 5 ((I 60 5) + (1 : Int32))) G v2 v3 v4 (v5 + (1 : Int32)) else rb (R_X4_spread_60_58 (am_up I 60 5 ((I 60 5) + (1 : Int32))) G v5 v2 v4) (fun r203 I203 G203 => L_X4_find_60_58 n 1 I203 G203 v2 v3 v4 (v5 + (1 : Int32)))) else (if 0 ≤ (gAt ((am_up (am_up I 60 5 ((I 60 5) + (1 : Int32))) 60 5 (((I 60 5) + (1 : Int32)) + (1 : Int32))) 61) 576 v5) then L_X4_find_60_58 n 1 (am_up (am_up I 60 5 ((I 60 5) + (1 : Int32))) 60 5 (((I 60 5) + (1 : Int32)) + (1 : Int32))) G v2 v3 v4 (v5 + (1 : Int32)) else rb (R_X4_spread_60_58 (am_up (am_up I 60 5 ((I 60 5) + (1 : Int32))) 60 5 (((I 60 5) + (1 : Int32)) + (1 : Int32))) G v5 v2 v4) (fun r204 I204 G204 => L_X4_find_60_58 n 1 I204 G204 v2 v3 v4 (v5 + (1 : Int32)))))))
theorem L_X4_find_60_58_0 (n : Nat) (I : am_I) (G : am_G) (v2 : Int32) (v3 : Int32) (v4 : Int32) (v5 : Int32) : L_X4_find_60_58 (n + 1) 0 I G v2 v3 v4 v5 = (if v4 ≤ v5 then L_X4_find_60_58 n 1 I G v2 v3 v4 (0 : Int32) else L_X4_find_60_58 n 0 (gPut I 61 576 v5 (-1 : Int32)) G v2 v3 v4 (v5 + (1 : Int32))) := rfl
theorem L_X4_find_60_58_1 (n : Nat) (I : am_I) (G : am_G) (v2 : Int32) (v3 : Int32) (v4 : Int32) (v5 : Int32) : L_X4_find_60_58 (n + 1) 1 I G v2 v3 v4 v5 = (if v4 ≤ v5 then some ((), I, G) else (if (gAt (I 58) 576 (f_X4_rightOf I G v5 v2)) = (gAt (I 58) 576 v5) then (if (gAt (I 58) 576 (f_X4_below I G v5 v2 v4)) = (gAt (I 58) 576 v5) then (if 0 ≤ (gAt (I 61) 576 v5) then L_X4_find_60_58 n 1 I G v2 v3 v4 (v5 + (1 : Int32)) else rb (R_X4_spread_60_58 I G v5 v2 v4) (fun r201 I201 G201 => L_X4_find_60_58 n 1 I201 G201 v2 v3 v4 (v5 + (1 : Int32)))) else (if 0 ≤ (gAt ((am_up I 60 5 ((I 60 5) + (1 : Int32))) 61) 576 v5) then L_X4_find_60_58 n 1 (am_up I 60 5 ((I 60 5) + (1 : Int32))) G v2 v3 v4 (v5 + (1 : Int32)) else rb (R_X4_spread_60_58 (am_up I 60 5 ((I 60 5) + (1 : Int32))) G v5 v2 v4) (fun r202 I202 G202 => L_X4_find_60_58 n 1 I202 G202 v2 v3 v4 (v5 + (1 : Int32))))) else (if (gAt ((am_up I 60 5 ((I 60 5) + (1 : Int32))) 58) 576 (f_X4_below (am_up I 60 5 ((I 60 5) + (1 : Int32))) G v5 v2 v4)) = (gAt (I 58) 576 v5) then (if 0 ≤ (gAt ((am_up I 60 5 ((I 60 5) + (1 : Int32))) 61) 576 v5) then L_X4_find_60_58 n 1 (am_up I 60 5 ((I 60 5) + (1 : Int32))) G v2 v3 v4 (v5 + (1 : Int32)) else rb (R_X4_spread_60_58 (am_up I 60 5 ((I 60 5) + (1 : Int32))) G v5 v2 v4) (fun r203 I203 G203 => L_X4_find_60_58 n 1 I203 G203 v2 v3 v4 (v5 + (1 : Int32)))) else (if 0 ≤ (gAt ((am_up (am_up I 60 5 ((I 60 5) + (1 : Int32))) 60 5 (((I 60 5) + (1 : Int32)) + (1 : Int32))) 61) 576 v5) then L_X4_find_60_58 n 1 (am_up (am_up I 60 5 ((I 60 5) + (1 : Int32))) 60 5 (((I 60 5) + (1 : Int32)) + (1 : Int32))) G v2 v3 v4 (v5 + (1 : Int32)) else rb (R_X4_spread_60_58 (am_up (am_up I 60 5 ((I 60 5) + (1 : Int32))) 60 5 (((I 60 5) + (1 : Int32)) + (1 : Int32))) G v5 v2 v4) (fun r204 I204 G204 => L_X4_find_60_58 n 1 I204 G204 v2 v3 v4 (v5 + (1 : Int32))))))) := rfl
theorem L_X4_find_60_58_z (h : Nat) (I : am_I) (G : am_G) (v2 : Int32) (v3 : Int32) (v4 : Int32) (v5 : Int32) : L_X4_find_60_58 0 h I G v2 v3 v4 v5 = none := rfl
noncomputable def R_X4_find_60_58 (I : am_I) (G : am_G) (x1 : Int32) (x2 : Int32) : Option (Unit × am_I × am_G) := L_X4_find_60_58 FU 0 (am_up (am_up I 60 4 (0 : Int32)) 60 5 (0 : Int32)) G x1 x2 (x1 * x2) (0 : Int32)
set_option maxRecDepth 20000 in
set_option maxHeartbeats 4000000 in
theorem l_X4_find_60_58 (rd : Nat) {X : am_X} {ad : Nat → Nat} (hX : am_okz X ad) (hi : am_info X 2 cX4_find 7 false none 5) (n : Nat) : (∀ (I : am_I) (G : am_G) (v2 : Int32) (v3 : Int32) (v4 : Int32) (v5 : Int32) (out : Unit × am_I × am_G), L_X4_find_60_58 n 0 I G v2 v3 v4 v5 = some out → am_V X 0 0 (am_Rt X gS ad (pV out.2.1 out.2.2 (gP rd))) gS ad (18, [(0, .ref 60), (1, .ref 58), (2, .int v2), (3, .int v3), (4, .int v4), (5, .int v5)], [], I, G, (gP rd))) ∧ (∀ (I : am_I) (G : am_G) (v2 : Int32) (v3 : Int32) (v4 : Int32) (v5 : Int32) (out : Unit × am_I × am_G), L_X4_find_60_58 n 1 I G v2 v3 v4 v5 = some out → am_V X 0 0 (am_Rt X gS ad (pV out.2.1 out.2.2 (gP rd))) gS ad (44, [(0, .ref 60), (1, .ref 58), (2, .int v2), (3, .int v3), (4, .int v4), (5, .int v5)], [], I, G, (gP rd))) := by
  induction n with
  | zero => exact ⟨(fun I G v2 v3 v4 v5 out h => by rw [L_X4_find_60_58_z] at h; cases h), (fun I G v2 v3 v4 v5 out h => by rw [L_X4_find_60_58_z] at h; cases h)⟩
  | succ n ih =>
    refine ⟨?_, ?_⟩
    · intro I G v2 v3 v4 v5 out h
      rw [L_X4_find_60_58_0] at h
      refine am_blk 18 [(.iload 5, 2, 5, 0, .null), (.iload 4, 2, 4, 0, .null)] (22, [(0, .ref 60), (1, .ref 58), (2, .int v2), (3, .int v3), (4, .int v4), (5, .int v5)], [.int v4, .int v5], I, G, (gP rd)) (True) hX hi (by decide +kernel) rfl trivial ?_
      refine am_icmp_ge (tgt := 41) hX hi (off := (19)) (by decide +kernel) (by decide) (fun c22 => ?_) (fun c22 => ?_)
      · rw [if_pos c22] at h
        refine am_blk 41 [(.iconst (0), 1, 0, 0, .int (0 : Int32)), (.istore 5, 2, 5, 0, .null)] (44, [(0, .ref 60), (1, .ref 58), (2, .int v2), (3, .int v3), (4, .int v4), (5, .int (0 : Int32))], [], I, G, (gP rd)) (True) hX hi (by decide +kernel) rfl trivial ?_
        exact ih.2 _ _ _ _ _ _ _ h
      · rw [if_neg c22] at h
        refine am_blk 25 [(.aload_n 0, 1, 0, 0, .null), (.getfield 9, 3, 2, 0, .null), (.iload 5, 2, 5, 0, .null), (.iconst (-1), 1, 0, 0, .int (-1 : Int32))] (32, [(0, .ref 60), (1, .ref 58), (2, .int v2), (3, .int v3), (4, .int v4), (5, .int v5)], [.int (-1 : Int32), .int v5, .ref 61], I, G, (gP rd)) (True) hX hi (by decide +kernel) rfl trivial ?_
        refine am_callS hX hi (M := mX0_put) (idx := 28) (d' := 1) (As := [.ref 61, .int v5, .int (-1 : Int32)]) (rest := []) mkX0_put msX0_put (by decide +kernel) (by decide +kernel) rfl ⟨by omega, by decide, Nat.le_of_ble_eq_true rfl⟩ rfl (c_put rfl (by decide) v5 (-1 : Int32)) ?_
        rintro r9 I9 G9 P9 ⟨e0, e1, e2, e3⟩
        rw [e0, e1, e2, e3]
        show am_V X 0 0 _ _ ad (35, [(0, .ref 60), (1, .ref 58), (2, .int v2), (3, .int v3), (4, .int v4), (5, .int v5)], [], (gPut I 61 576 v5 (-1 : Int32)), G, (gP rd))
        refine am_blk 35 [(.iinc 5 (1), 3, 5, 0, .int (1 : Int32)), (.goto (-20), 3, 0, 18, .null)] (18, [(0, .ref 60), (1, .ref 58), (2, .int v2), (3, .int v3), (4, .int v4), (5, .int (v5 + (1 : Int32)))], [], (gPut I 61 576 v5 (-1 : Int32)), G, (gP rd)) (True) hX hi (by decide +kernel) rfl trivial ?_
        exact ih.1 _ _ _ _ _ _ _ h
    · intro I G v2 v3 v4 v5 out h
      rw [L_X4_find_60_58_1] at h
      refine am_blk 44 [(.iload 5, 2, 5, 0, .null), (.iload 4, 2, 4, 0, .null)] (48, [(0, .ref 60), (1, .ref 58), (2, .int v2), (3, .int v3), (4, .int v4), (5, .int v5)], [.int v4, .int v5], I, G, (gP rd)) (True) hX hi (by decide +kernel) rfl trivial ?_
      refine am_icmp_ge (tgt := 139) hX hi (off := (91)) (by decide +kernel) (by decide) (fun c48 => ?_) (fun c48 => ?_)
      · rw [if_pos c48] at h
        cases h
        refine am_vret hX hi rfl (by decide +kernel) ?_
        exact ⟨rfl, rfl, rfl, rfl⟩
      · rw [if_neg c48] at h
        refine am_blk 51 [(.aload_n 1, 1, 1, 0, .null), (.iload 5, 2, 5, 0, .null)] (54, [(0, .ref 60), (1, .ref 58), (2, .int v2), (3, .int v3), (4, .int v4), (5, .int v5)], [.int v5, .ref 58], I, G, (gP rd)) (True) hX hi (by decide +kernel) rfl trivial ?_
        refine am_callS hX hi (M := mX0_at) (idx := 34) (d' := 1) (As := [.ref 58, .int v5]) (rest := []) mkX0_at msX0_at (by decide +kernel) (by decide +kernel) rfl ⟨by omega, by decide, Nat.le_of_ble_eq_true rfl⟩ rfl (c_at rfl (by decide) v5) ?_
        rintro r9 I9 G9 P9 ⟨e0, e1, e2, e3⟩
        rw [e0, e1, e2, e3]
        show am_V X 0 0 _ _ ad (57, [(0, .ref 60), (1, .ref 58), (2, .int v2), (3, .int v3), (4, .int v4), (5, .int v5)], [.int (gAt (I 58) 576 v5)], I, G, (gP rd))
        refine am_blk 57 [(.istore 6, 2, 6, 0, .null), (.aload_n 1, 1, 1, 0, .null), (.iload 5, 2, 5, 0, .null), (.iload_n 2, 1, 2, 0, .null)] (63, [(0, .ref 60), (1, .ref 58), (2, .int v2), (3, .int v3), (4, .int v4), (5, .int v5), (6, .int (gAt (I 58) 576 v5))], [.int v2, .int v5, .ref 58], I, G, (gP rd)) (True) hX hi (by decide +kernel) rfl trivial ?_
        refine am_callS hX hi (M := mX4_rightOf) (idx := 38) (d' := 1) (As := [.int v5, .int v2]) (rest := [.ref 58]) mkX4_rightOf msX4_rightOf (by decide +kernel) (by decide +kernel) rfl ⟨by omega, by decide, Nat.le_of_ble_eq_true rfl⟩ rfl (c_X4_rightOf I G v5 v2) ?_
        rintro r9 I9 G9 P9 ⟨e0, e1, e2, e3⟩
        rw [e0, e1, e2, e3]
        show am_V X 0 0 _ _ ad (66, [(0, .ref 60), (1, .ref 58), (2, .int v2), (3, .int v3), (4, .int v4), (5, .int v5), (6, .int (gAt (I 58) 576 v5))], [.int (f_X4_rightOf I G v5 v2), .ref 58], I, G, (gP rd))
        refine am_callS hX hi (M := mX0_at) (idx := 34) (d' := 1) (As := [.ref 58, .int (f_X4_rightOf I G v5 v2)]) (rest := []) mkX0_at msX0_at (by decide +kernel) (by decide +kernel) rfl ⟨by omega, by decide, Nat.le_of_ble_eq_true rfl⟩ rfl (c_at rfl (by decide) (f_X4_rightOf I G v5 v2)) ?_
        rintro r9 I9 G9 P9 ⟨e0, e1, e2, e3⟩
        rw [e0, e1, e2, e3]
        show am_V X 0 0 _ _ ad (69, [(0, .ref 60), (1, .ref 58), (2, .int v2), (3, .int v3), (4, .int v4), (5, .int v5), (6, .int (gAt (I 58) 576 v5))], [.int (gAt (I 58) 576 (f_X4_rightOf I G v5 v2))], I, G, (gP rd))
        refine am_blk 69 [(.iload 6, 2, 6, 0, .null)] (71, [(0, .ref 60), (1, .ref 58), (2, .int v2), (3, .int v3), (4, .int v4), (5, .int v5), (6, .int (gAt (I 58) 576 v5))], [.int (gAt (I 58) 576 v5), .int (gAt (I 58) 576 (f_X4_rightOf I G v5 v2))], I, G, (gP rd)) (True) hX hi (by decide +kernel) rfl trivial ?_
        refine am_icmp_eq (tgt := 84) hX hi (off := (13)) (by decide +kernel) (by decide) (fun c71 => ?_) (fun c71 => ?_)
        · rw [if_pos c71] at h
          refine am_blk 84 [(.aload_n 1, 1, 1, 0, .null), (.iload 5, 2, 5, 0, .null), (.iload_n 2, 1, 2, 0, .null), (.iload 4, 2, 4, 0, .null)] (90, [(0, .ref 60), (1, .ref 58), (2, .int v2), (3, .int v3), (4, .int v4), (5, .int v5), (6, .int (gAt (I 58) 576 v5))], [.int v4, .int v2, .int v5, .ref 58], I, G, (gP rd)) (True) hX hi (by decide +kernel) rfl trivial ?_
          refine am_callS hX hi (M := mX4_below) (idx := 42) (d' := 1) (As := [.int v5, .int v2, .int v4]) (rest := [.ref 58]) mkX4_below msX4_below (by decide +kernel) (by decide +kernel) rfl ⟨by omega, by decide, Nat.le_of_ble_eq_true rfl⟩ rfl (c_X4_below I G v5 v2 v4) ?_
          rintro r9 I9 G9 P9 ⟨e0, e1, e2, e3⟩
          rw [e0, e1, e2, e3]
          show am_V X 0 0 _ _ ad (93, [(0, .ref 60), (1, .ref 58), (2, .int v2), (3, .int v3), (4, .int v4), (5, .int v5), (6, .int (gAt (I 58) 576 v5))], [.int (f_X4_below I G v5 v2 v4), .ref 58], I, G, (gP rd))
          refine am_callS hX hi (M := mX0_at) (idx := 34) (d' := 1) (As := [.ref 58, .int (f_X4_below I G v5 v2 v4)]) (rest := []) mkX0_at msX0_at (by decide +kernel) (by decide +kernel) rfl ⟨by omega, by decide, Nat.le_of_ble_eq_true rfl⟩ rfl (c_at rfl (by decide) (f_X4_below I G v5 v2 v4)) ?_
          rintro r9 I9 G9 P9 ⟨e0, e1, e2, e3⟩
          rw [e0, e1, e2, e3]
          show am_V X 0 0 _ _ ad (96, [(0, .ref 60), (1, .ref 58), (2, .int v2), (3, .int v3), (4, .int v4), (5, .int v5), (6, .int (gAt (I 58) 576 v5))], [.int (gAt (I 58) 576 (f_X4_below I G v5 v2 v4))], I, G, (gP rd))
          refine am_blk 96 [(.iload 6, 2, 6, 0, .null)] (98, [(0, .ref 60), (1, .ref 58), (2, .int v2), (3, .int v3), (4, .int v4), (5, .int v5), (6, .int (gAt (I 58) 576 v5))], [.int (gAt (I 58) 576 v5), .int (gAt (I 58) 576 (f_X4_below I G v5 v2 v4))], I, G, (gP rd)) (True) hX hi (by decide +kernel) rfl trivial ?_
          refine am_icmp_eq (tgt := 111) hX hi (off := (13)) (by decide +kernel) (by decide) (fun c98 => ?_) (fun c98 => ?_)
          · rw [if_pos c98] at h
            refine am_blk 111 [(.aload_n 0, 1, 0, 0, .null), (.getfield 9, 3, 2, 0, .null), (.iload 5, 2, 5, 0, .null)] (117, [(0, .ref 60), (1, .ref 58), (2, .int v2), (3, .int v3), (4, .int v4), (5, .int v5), (6, .int (gAt (I 58) 576 v5))], [.int v5, .ref 61], I, G, (gP rd)) (True) hX hi (by decide +kernel) rfl trivial ?_
            refine am_callS hX hi (M := mX0_at) (idx := 34) (d' := 1) (As := [.ref 61, .int v5]) (rest := []) mkX0_at msX0_at (by decide +kernel) (by decide +kernel) rfl ⟨by omega, by decide, Nat.le_of_ble_eq_true rfl⟩ rfl (c_at rfl (by decide) v5) ?_
            rintro r9 I9 G9 P9 ⟨e0, e1, e2, e3⟩
            rw [e0, e1, e2, e3]
            show am_V X 0 0 _ _ ad (120, [(0, .ref 60), (1, .ref 58), (2, .int v2), (3, .int v3), (4, .int v4), (5, .int v5), (6, .int (gAt (I 58) 576 v5))], [.int (gAt (I 61) 576 v5)], I, G, (gP rd))
            refine am_if_ge (tgt := 133) hX hi (off := (13)) (by decide +kernel) (by decide) (fun c120 => ?_) (fun c120 => ?_)
            · rw [if_pos c120] at h
              refine am_blk 133 [(.iinc 5 (1), 3, 5, 0, .int (1 : Int32)), (.goto (-92), 3, 0, 44, .null)] (44, [(0, .ref 60), (1, .ref 58), (2, .int v2), (3, .int v3), (4, .int v4), (5, .int (v5 + (1 : Int32))), (6, .int (gAt (I 58) 576 v5))], [], I, G, (gP rd)) (True) hX hi (by decide +kernel) rfl trivial ?_
              refine am_sub (L' := [(0, .ref 60), (1, .ref 58), (2, .int v2), (3, .int v3), (4, .int v4), (5, .int (v5 + (1 : Int32)))]) (by simp) ?_
              exact ih.2 _ _ _ _ _ _ _ h
            · rw [if_neg c120] at h
              refine am_blk 123 [(.aload_n 0, 1, 0, 0, .null), (.aload_n 1, 1, 1, 0, .null), (.iload 5, 2, 5, 0, .null), (.iload_n 2, 1, 2, 0, .null), (.iload 4, 2, 4, 0, .null)] (130, [(0, .ref 60), (1, .ref 58), (2, .int v2), (3, .int v3), (4, .int v4), (5, .int v5), (6, .int (gAt (I 58) 576 v5))], [.int v4, .int v2, .int v5, .ref 58, .ref 60], I, G, (gP rd)) (True) hX hi (by decide +kernel) rfl trivial ?_
              obtain ⟨r201, I201, G201, hc, h⟩ := rb_some h
              refine am_callV2 hX hi (M := mX4_spread) (idx := 46) (d' := 3) (b := 60) (ci := 2) (As := [.ref 58, .int v5, .int v2, .int v4]) (rest := []) mkX4_spread miX4_spread mvX4_spread (by decide +kernel) (by decide +kernel) rfl (by decide +kernel) rfl ⟨by omega, by (show 19 + 12 + 30 * _ ≤ 30 * _; omega), Nat.le_of_ble_eq_true rfl⟩ rfl (c_X4_spread_60_58 _ I G v5 v2 v4 hc) ?_
              rintro r9 I9 G9 P9 ⟨e0, e1, e2, e3⟩
              rw [e0, e1, e2, e3]
              show am_V X 0 0 _ _ ad (133, [(0, .ref 60), (1, .ref 58), (2, .int v2), (3, .int v3), (4, .int v4), (5, .int v5), (6, .int (gAt (I 58) 576 v5))], [], I201, G201, (gP rd))
              refine am_blk 133 [(.iinc 5 (1), 3, 5, 0, .int (1 : Int32)), (.goto (-92), 3, 0, 44, .null)] (44, [(0, .ref 60), (1, .ref 58), (2, .int v2), (3, .int v3), (4, .int v4), (5, .int (v5 + (1 : Int32))), (6, .int (gAt (I 58) 576 v5))], [], I201, G201, (gP rd)) (True) hX hi (by decide +kernel) rfl trivial ?_
              refine am_sub (L' := [(0, .ref 60), (1, .ref 58), (2, .int v2), (3, .int v3), (4, .int v4), (5, .int (v5 + (1 : Int32)))]) (by simp) ?_
              exact ih.2 _ _ _ _ _ _ _ h
          · rw [if_neg c98] at h
            refine am_blk 101 [(.aload_n 0, 1, 0, 0, .null), (.dup, 1, 0, 0, .null), (.getfield 25, 3, 2, 5, .null), (.iconst (1), 1, 0, 0, .int (1 : Int32)), (.iadd, 1, 0, 0, .null), (.putfield 25, 3, 2, 5, .null), (.aload_n 0, 1, 0, 0, .null), (.getfield 9, 3, 2, 0, .null), (.iload 5, 2, 5, 0, .null)] (117, [(0, .ref 60), (1, .ref 58), (2, .int v2), (3, .int v3), (4, .int v4), (5, .int v5), (6, .int (gAt (I 58) 576 v5))], [.int v5, .ref 61], (am_up I 60 5 ((I 60 5) + (1 : Int32))), G, (gP rd)) (True) hX hi (by decide +kernel) rfl trivial ?_
            refine am_callS hX hi (M := mX0_at) (idx := 34) (d' := 1) (As := [.ref 61, .int v5]) (rest := []) mkX0_at msX0_at (by decide +kernel) (by decide +kernel) rfl ⟨by omega, by decide, Nat.le_of_ble_eq_true rfl⟩ rfl (c_at rfl (by decide) v5) ?_
            rintro r9 I9 G9 P9 ⟨e0, e1, e2, e3⟩
            rw [e0, e1, e2, e3]
            show am_V X 0 0 _ _ ad (120, [(0, .ref 60), (1, .ref 58), (2, .int v2), (3, .int v3), (4, .int v4), (5, .int v5), (6, .int (gAt (I 58) 576 v5))], [.int (gAt ((am_up I 60 5 ((I 60 5) + (1 : Int32))) 61) 576 v5)], (am_up I 60 5 ((I 60 5) + (1 : Int32))), G, (gP rd))
            refine am_if_ge (tgt := 133) hX hi (off := (13)) (by decide +kernel) (by decide) (fun c120 => ?_) (fun c120 => ?_)
            · rw [if_pos c120] at h
              refine am_blk 133 [(.iinc 5 (1), 3, 5, 0, .int (1 : Int32)), (.goto (-92), 3, 0, 44, .null)] (44, [(0, .ref 60), (1, .ref 58), (2, .int v2), (3, .int v3), (4, .int v4), (5, .int (v5 + (1 : Int32))), (6, .int (gAt (I 58) 576 v5))], [], (am_up I 60 5 ((I 60 5) + (1 : Int32))), G, (gP rd)) (True) hX hi (by decide +kernel) rfl trivial ?_
              refine am_sub (L' := [(0, .ref 60), (1, .ref 58), (2, .int v2), (3, .int v3), (4, .int v4), (5, .int (v5 + (1 : Int32)))]) (by simp) ?_
              exact ih.2 _ _ _ _ _ _ _ h
            · rw [if_neg c120] at h
              refine am_blk 123 [(.aload_n 0, 1, 0, 0, .null), (.aload_n 1, 1, 1, 0, .null), (.iload 5, 2, 5, 0, .null), (.iload_n 2, 1, 2, 0, .null), (.iload 4, 2, 4, 0, .null)] (130, [(0, .ref 60), (1, .ref 58), (2, .int v2), (3, .int v3), (4, .int v4), (5, .int v5), (6, .int (gAt (I 58) 576 v5))], [.int v4, .int v2, .int v5, .ref 58, .ref 60], (am_up I 60 5 ((I 60 5) + (1 : Int32))), G, (gP rd)) (True) hX hi (by decide +kernel) rfl trivial ?_
              obtain ⟨r202, I202, G202, hc, h⟩ := rb_some h
              refine am_callV2 hX hi (M := mX4_spread) (idx := 46) (d' := 3) (b := 60) (ci := 2) (As := [.ref 58, .int v5, .int v2, .int v4]) (rest := []) mkX4_spread miX4_spread mvX4_spread (by decide +kernel) (by decide +kernel) rfl (by decide +kernel) rfl ⟨by omega, by (show 19 + 12 + 30 * _ ≤ 30 * _; omega), Nat.le_of_ble_eq_true rfl⟩ rfl (c_X4_spread_60_58 _ (am_up I 60 5 ((I 60 5) + (1 : Int32))) G v5 v2 v4 hc) ?_
              rintro r9 I9 G9 P9 ⟨e0, e1, e2, e3⟩
              rw [e0, e1, e2, e3]
              show am_V X 0 0 _ _ ad (133, [(0, .ref 60), (1, .ref 58), (2, .int v2), (3, .int v3), (4, .int v4), (5, .int v5), (6, .int (gAt (I 58) 576 v5))], [], I202, G202, (gP rd))
              refine am_blk 133 [(.iinc 5 (1), 3, 5, 0, .int (1 : Int32)), (.goto (-92), 3, 0, 44, .null)] (44, [(0, .ref 60), (1, .ref 58), (2, .int v2), (3, .int v3), (4, .int v4), (5, .int (v5 + (1 : Int32))), (6, .int (gAt (I 58) 576 v5))], [], I202, G202, (gP rd)) (True) hX hi (by decide +kernel) rfl trivial ?_
              refine am_sub (L' := [(0, .ref 60), (1, .ref 58), (2, .int v2), (3, .int v3), (4, .int v4), (5, .int (v5 + (1 : Int32)))]) (by simp) ?_
              exact ih.2 _ _ _ _ _ _ _ h
        · rw [if_neg c71] at h
          refine am_blk 74 [(.aload_n 0, 1, 0, 0, .null), (.dup, 1, 0, 0, .null), (.getfield 25, 3, 2, 5, .null), (.iconst (1), 1, 0, 0, .int (1 : Int32)), (.iadd, 1, 0, 0, .null), (.putfield 25, 3, 2, 5, .null), (.aload_n 1, 1, 1, 0, .null), (.iload 5, 2, 5, 0, .null), (.iload_n 2, 1, 2, 0, .null), (.iload 4, 2, 4, 0, .null)] (90, [(0, .ref 60), (1, .ref 58), (2, .int v2), (3, .int v3), (4, .int v4), (5, .int v5), (6, .int (gAt (I 58) 576 v5))], [.int v4, .int v2, .int v5, .ref 58], (am_up I 60 5 ((I 60 5) + (1 : Int32))), G, (gP rd)) (True) hX hi (by decide +kernel) rfl trivial ?_
          refine am_callS hX hi (M := mX4_below) (idx := 42) (d' := 1) (As := [.int v5, .int v2, .int v4]) (rest := [.ref 58]) mkX4_below msX4_below (by decide +kernel) (by decide +kernel) rfl ⟨by omega, by decide, Nat.le_of_ble_eq_true rfl⟩ rfl (c_X4_below (am_up I 60 5 ((I 60 5) + (1 : Int32))) G v5 v2 v4) ?_
          rintro r9 I9 G9 P9 ⟨e0, e1, e2, e3⟩
          rw [e0, e1, e2, e3]
          show am_V X 0 0 _ _ ad (93, [(0, .ref 60), (1, .ref 58), (2, .int v2), (3, .int v3), (4, .int v4), (5, .int v5), (6, .int (gAt (I 58) 576 v5))], [.int (f_X4_below (am_up I 60 5 ((I 60 5) + (1 : Int32))) G v5 v2 v4), .ref 58], (am_up I 60 5 ((I 60 5) + (1 : Int32))), G, (gP rd))
          refine am_callS hX hi (M := mX0_at) (idx := 34) (d' := 1) (As := [.ref 58, .int (f_X4_below (am_up I 60 5 ((I 60 5) + (1 : Int32))) G v5 v2 v4)]) (rest := []) mkX0_at msX0_at (by decide +kernel) (by decide +kernel) rfl ⟨by omega, by decide, Nat.le_of_ble_eq_true rfl⟩ rfl (c_at rfl (by decide) (f_X4_below (am_up I 60 5 ((I 60 5) + (1 : Int32))) G v5 v2 v4)) ?_
          rintro r9 I9 G9 P9 ⟨e0, e1, e2, e3⟩
          rw [e0, e1, e2, e3]
          show am_V X 0 0 _ _ ad (96, [(0, .ref 60), (1, .ref 58), (2, .int v2), (3, .int v3), (4, .int v4), (5, .int v5), (6, .int (gAt (I 58) 576 v5))], [.int (gAt ((am_up I 60 5 ((I 60 5) + (1 : Int32))) 58) 576 (f_X4_below (am_up I 60 5 ((I 60 5) + (1 : Int32))) G v5 v2 v4))], (am_up I 60 5 ((I 60 5) + (1 : Int32))), G, (gP rd))
          refine am_blk 96 [(.iload 6, 2, 6, 0, .null)] (98, [(0, .ref 60), (1, .ref 58), (2, .int v2), (3, .int v3), (4, .int v4), (5, .int v5), (6, .int (gAt (I 58) 576 v5))], [.int (gAt (I 58) 576 v5), .int (gAt ((am_up I 60 5 ((I 60 5) + (1 : Int32))) 58) 576 (f_X4_below (am_up I 60 5 ((I 60 5) + (1 : Int32))) G v5 v2 v4))], (am_up I 60 5 ((I 60 5) + (1 : Int32))), G, (gP rd)) (True) hX hi (by decide +kernel) rfl trivial ?_
          refine am_icmp_eq (tgt := 111) hX hi (off := (13)) (by decide +kernel) (by decide) (fun c98 => ?_) (fun c98 => ?_)
          · rw [if_pos c98] at h
            refine am_blk 111 [(.aload_n 0, 1, 0, 0, .null), (.getfield 9, 3, 2, 0, .null), (.iload 5, 2, 5, 0, .null)] (117, [(0, .ref 60), (1, .ref 58), (2, .int v2), (3, .int v3), (4, .int v4), (5, .int v5), (6, .int (gAt (I 58) 576 v5))], [.int v5, .ref 61], (am_up I 60 5 ((I 60 5) + (1 : Int32))), G, (gP rd)) (True) hX hi (by decide +kernel) rfl trivial ?_
            refine am_callS hX hi (M := mX0_at) (idx := 34) (d' := 1) (As := [.ref 61, .int v5]) (rest := []) mkX0_at msX0_at (by decide +kernel) (by decide +kernel) rfl ⟨by omega, by decide, Nat.le_of_ble_eq_true rfl⟩ rfl (c_at rfl (by decide) v5) ?_
            rintro r9 I9 G9 P9 ⟨e0, e1, e2, e3⟩
            rw [e0, e1, e2, e3]
            show am_V X 0 0 _ _ ad (120, [(0, .ref 60), (1, .ref 58), (2, .int v2), (3, .int v3), (4, .int v4), (5, .int v5), (6, .int (gAt (I 58) 576 v5))], [.int (gAt ((am_up I 60 5 ((I 60 5) + (1 : Int32))) 61) 576 v5)], (am_up I 60 5 ((I 60 5) + (1 : Int32))), G, (gP rd))
            refine am_if_ge (tgt := 133) hX hi (off := (13)) (by decide +kernel) (by decide) (fun c120 => ?_) (fun c120 => ?_)
            · rw [if_pos c120] at h
              refine am_blk 133 [(.iinc 5 (1), 3, 5, 0, .int (1 : Int32)), (.goto (-92), 3, 0, 44, .null)] (44, [(0, .ref 60), (1, .ref 58), (2, .int v2), (3, .int v3), (4, .int v4), (5, .int (v5 + (1 : Int32))), (6, .int (gAt (I 58) 576 v5))], [], (am_up I 60 5 ((I 60 5) + (1 : Int32))), G, (gP rd)) (True) hX hi (by decide +kernel) rfl trivial ?_
              refine am_sub (L' := [(0, .ref 60), (1, .ref 58), (2, .int v2), (3, .int v3), (4, .int v4), (5, .int (v5 + (1 : Int32)))]) (by simp) ?_
              exact ih.2 _ _ _ _ _ _ _ h
            · rw [if_neg c120] at h
              refine am_blk 123 [(.aload_n 0, 1, 0, 0, .null), (.aload_n 1, 1, 1, 0, .null), (.iload 5, 2, 5, 0, .null), (.iload_n 2, 1, 2, 0, .null), (.iload 4, 2, 4, 0, .null)] (130, [(0, .ref 60), (1, .ref 58), (2, .int v2), (3, .int v3), (4, .int v4), (5, .int v5), (6, .int (gAt (I 58) 576 v5))], [.int v4, .int v2, .int v5, .ref 58, .ref 60], (am_up I 60 5 ((I 60 5) + (1 : Int32))), G, (gP rd)) (True) hX hi (by decide +kernel) rfl trivial ?_
              obtain ⟨r203, I203, G203, hc, h⟩ := rb_some h
              refine am_callV2 hX hi (M := mX4_spread) (idx := 46) (d' := 3) (b := 60) (ci := 2) (As := [.ref 58, .int v5, .int v2, .int v4]) (rest := []) mkX4_spread miX4_spread mvX4_spread (by decide +kernel) (by decide +kernel) rfl (by decide +kernel) rfl ⟨by omega, by (show 19 + 12 + 30 * _ ≤ 30 * _; omega), Nat.le_of_ble_eq_true rfl⟩ rfl (c_X4_spread_60_58 _ (am_up I 60 5 ((I 60 5) + (1 : Int32))) G v5 v2 v4 hc) ?_
              rintro r9 I9 G9 P9 ⟨e0, e1, e2, e3⟩
              rw [e0, e1, e2, e3]
              show am_V X 0 0 _ _ ad (133, [(0, .ref 60), (1, .ref 58), (2, .int v2), (3, .int v3), (4, .int v4), (5, .int v5), (6, .int (gAt (I 58) 576 v5))], [], I203, G203, (gP rd))
              refine am_blk 133 [(.iinc 5 (1), 3, 5, 0, .int (1 : Int32)), (.goto (-92), 3, 0, 44, .null)] (44, [(0, .ref 60), (1, .ref 58), (2, .int v2), (3, .int v3), (4, .int v4), (5, .int (v5 + (1 : Int32))), (6, .int (gAt (I 58) 576 v5))], [], I203, G203, (gP rd)) (True) hX hi (by decide +kernel) rfl trivial ?_
              refine am_sub (L' := [(0, .ref 60), (1, .ref 58), (2, .int v2), (3, .int v3), (4, .int v4), (5, .int (v5 + (1 : Int32)))]) (by simp) ?_
              exact ih.2 _ _ _ _ _ _ _ h
          · rw [if_neg c98] at h
            refine am_blk 101 [(.aload_n 0, 1, 0, 0, .null), (.dup, 1, 0, 0, .null), (.getfield 25, 3, 2, 5, .null), (.iconst (1), 1, 0, 0, .int (1 : Int32)), (.iadd, 1, 0, 0, .null), (.putfield 25, 3, 2, 5, .null), (.aload_n 0, 1, 0, 0, .null), (.getfield 9, 3, 2, 0, .null), (.iload 5, 2, 5, 0, .null)] (117, [(0, .ref 60), (1, .ref 58), (2, .int v2), (3, .int v3), (4, .int v4), (5, .int v5), (6, .int (gAt (I 58) 576 v5))], [.int v5, .ref 61], (am_up (am_up I 60 5 ((I 60 5) + (1 : Int32))) 60 5 (((I 60 5) + (1 : Int32)) + (1 : Int32))), G, (gP rd)) (True) hX hi (by decide +kernel) rfl trivial ?_
            refine am_callS hX hi (M := mX0_at) (idx := 34) (d' := 1) (As := [.ref 61, .int v5]) (rest := []) mkX0_at msX0_at (by decide +kernel) (by decide +kernel) rfl ⟨by omega, by decide, Nat.le_of_ble_eq_true rfl⟩ rfl (c_at rfl (by decide) v5) ?_
            rintro r9 I9 G9 P9 ⟨e0, e1, e2, e3⟩
            rw [e0, e1, e2, e3]
            show am_V X 0 0 _ _ ad (120, [(0, .ref 60), (1, .ref 58), (2, .int v2), (3, .int v3), (4, .int v4), (5, .int v5), (6, .int (gAt (I 58) 576 v5))], [.int (gAt ((am_up (am_up I 60 5 ((I 60 5) + (1 : Int32))) 60 5 (((I 60 5) + (1 : Int32)) + (1 : Int32))) 61) 576 v5)], (am_up (am_up I 60 5 ((I 60 5) + (1 : Int32))) 60 5 (((I 60 5) + (1 : Int32)) + (1 : Int32))), G, (gP rd))
            refine am_if_ge (tgt := 133) hX hi (off := (13)) (by decide +kernel) (by decide) (fun c120 => ?_) (fun c120 => ?_)
            · rw [if_pos c120] at h
              refine am_blk 133 [(.iinc 5 (1), 3, 5, 0, .int (1 : Int32)), (.goto (-92), 3, 0, 44, .null)] (44, [(0, .ref 60), (1, .ref 58), (2, .int v2), (3, .int v3), (4, .int v4), (5, .int (v5 + (1 : Int32))), (6, .int (gAt (I 58) 576 v5))], [], (am_up (am_up I 60 5 ((I 60 5) + (1 : Int32))) 60 5 (((I 60 5) + (1 : Int32)) + (1 : Int32))), G, (gP rd)) (True) hX hi (by decide +kernel) rfl trivial ?_
              refine am_sub (L' := [(0, .ref 60), (1, .ref 58), (2, .int v2), (3, .int v3), (4, .int v4), (5, .int (v5 + (1 : Int32)))]) (by simp) ?_
              exact ih.2 _ _ _ _ _ _ _ h
            · rw [if_neg c120] at h
              refine am_blk 123 [(.aload_n 0, 1, 0, 0, .null), (.aload_n 1, 1, 1, 0, .null), (.iload 5, 2, 5, 0, .null), (.iload_n 2, 1, 2, 0, .null), (.iload 4, 2, 4, 0, .null)] (130, [(0, .ref 60), (1, .ref 58), (2, .int v2), (3, .int v3), (4, .int v4), (5, .int v5), (6, .int (gAt (I 58) 576 v5))], [.int v4, .int v2, .int v5, .ref 58, .ref 60], (am_up (am_up I 60 5 ((I 60 5) + (1 : Int32))) 60 5 (((I 60 5) + (1 : Int32)) + (1 : Int32))), G, (gP rd)) (True) hX hi (by decide +kernel) rfl trivial ?_
              obtain ⟨r204, I204, G204, hc, h⟩ := rb_some h
              refine am_callV2 hX hi (M := mX4_spread) (idx := 46) (d' := 3) (b := 60) (ci := 2) (As := [.ref 58, .int v5, .int v2, .int v4]) (rest := []) mkX4_spread miX4_spread mvX4_spread (by decide +kernel) (by decide +kernel) rfl (by decide +kernel) rfl ⟨by omega, by (show 19 + 12 + 30 * _ ≤ 30 * _; omega), Nat.le_of_ble_eq_true rfl⟩ rfl (c_X4_spread_60_58 _ (am_up (am_up I 60 5 ((I 60 5) + (1 : Int32))) 60 5 (((I 60 5) + (1 : Int32)) + (1 : Int32))) G v5 v2 v4 hc) ?_
              rintro r9 I9 G9 P9 ⟨e0, e1, e2, e3⟩
              rw [e0, e1, e2, e3]
              show am_V X 0 0 _ _ ad (133, [(0, .ref 60), (1, .ref 58), (2, .int v2), (3, .int v3), (4, .int v4), (5, .int v5), (6, .int (gAt (I 58) 576 v5))], [], I204, G204, (gP rd))
              refine am_blk 133 [(.iinc 5 (1), 3, 5, 0, .int (1 : Int32)), (.goto (-92), 3, 0, 44, .null)] (44, [(0, .ref 60), (1, .ref 58), (2, .int v2), (3, .int v3), (4, .int v4), (5, .int (v5 + (1 : Int32))), (6, .int (gAt (I 58) 576 v5))], [], I204, G204, (gP rd)) (True) hX hi (by decide +kernel) rfl trivial ?_
              refine am_sub (L' := [(0, .ref 60), (1, .ref 58), (2, .int v2), (3, .int v3), (4, .int v4), (5, .int (v5 + (1 : Int32)))]) (by simp) ?_
              exact ih.2 _ _ _ _ _ _ _ h
set_option maxRecDepth 20000 in
set_option maxHeartbeats 4000000 in
theorem c_X4_find_60_58 (rd : Nat) (I : am_I) (G : am_G) (x1 : Int32) (x2 : Int32) {out : Unit × am_I × am_G} (h : R_X4_find_60_58 I G x1 x2 = some out) : am_Ct mX4_find 5 gS [.ref 60, .ref 58, .int x1, .int x2] I G (gP rd) (pV out.2.1 out.2.2 (gP rd)) := by
  refine am_ofF (by decide +kernel) rfl (by decide) (by omega) (Nat.le_of_ble_eq_true rfl) (fun X ad hX hi => ?_)
  have hi : am_info X 2 cX4_find 7 false none 5 := hi
  show am_V X 0 0 _ _ ad (0, [(0, .ref 60), (1, .ref 58), (2, .int x1), (3, .int x2)], [], I, G, (gP rd))
  unfold R_X4_find_60_58 at h
  refine am_blk 0 [(.iload_n 2, 1, 2, 0, .null), (.iload_n 3, 1, 3, 0, .null), (.imul, 1, 0, 0, .null), (.istore 4, 2, 4, 0, .null), (.aload_n 0, 1, 0, 0, .null), (.iconst (0), 1, 0, 0, .int (0 : Int32)), (.putfield 21, 3, 2, 4, .null), (.aload_n 0, 1, 0, 0, .null), (.iconst (0), 1, 0, 0, .int (0 : Int32)), (.putfield 25, 3, 2, 5, .null), (.iconst (0), 1, 0, 0, .int (0 : Int32)), (.istore 5, 2, 5, 0, .null)] (18, [(0, .ref 60), (1, .ref 58), (2, .int x1), (3, .int x2), (4, .int (x1 * x2)), (5, .int (0 : Int32))], [], (am_up (am_up I 60 4 (0 : Int32)) 60 5 (0 : Int32)), G, (gP rd)) (True) hX hi (by decide +kernel) rfl trivial ?_
  exact (l_X4_find_60_58 rd hX hi FU).1 _ _ _ _ _ _ _ h
noncomputable def L_X4_find_73_71 (n0 : Nat) (hd : Nat) (I : am_I) (G : am_G) (v2 : Int32) (v3 : Int32) (v4 : Int32) (v5 : Int32) : Option (Unit × am_I × am_G) := match n0 with
  | 0 => none
  | n + 1 => match hd with
    | 0 => (if v4 ≤ v5 then L_X4_find_73_71 n 1 I G v2 v3 v4 (0 : Int32) else L_X4_find_73_71 n 0 (gPut I 74 576 v5 (-1 : Int32)) G v2 v3 v4 (v5 + (1 : Int32)))
    | _ => (if v4 ≤ v5 then some ((), I, G) else (if (gAt (I 71) 576 (f_X4_rightOf I G v5 v2)) = (gAt (I 71) 576 v5) then (if (gAt (I 71) 576 (f_X4_below I G v5 v2 v4)) = (gAt (I 71) 576 v5) then (if 0 ≤ (gAt (I 74) 576 v5) then L_X4_find_73_71 n 1 I G v2 v3 v4 (v5 + (1 : Int32)) else rb (R_X4_spread_73_71 I G v5 v2 v4) (fun r201 I201 G201 => L_X4_find_73_71 n 1 I201 G201 v2 v3 v4 (v5 + (1 : Int32)))) else (if 0 ≤ (gAt ((am_up I 73 5 ((I 73 5) + (1 : Int32))) 74) 576 v5) then L_X4_find_73_71 n 1 (am_up I 73 5 ((I 73 5) + (1 : Int32))) G v2 v3 v4 (v5 + (1 : Int32)) else rb (R_X4_spread_73_71 (am_up I 73 5 ((I 73 5) + (1 : Int32))) G v5 v2 v4) (fun r202 I202 G202 => L_X4_find_73_71 n 1 I202 G202 v2 v3 v4 (v5 + (1 : Int32))))) else (if (gAt ((am_up I 73 5 ((I 73 5) + (1 : Int32))) 71) 576 (f_X4_below (am_up I 73 5 ((I 73 5) + (1 : Int32))) G v5 v2 v4)) = (gAt (I 71) 576 v5) then (if 0 ≤ (gAt ((am_up I 73 5 ((I 73 5) + (1 : Int32))) 74) 576 v5) then L_X4_find_73_71 n 1 (am_up I 73 5 ((I 73 5) + (1 : Int32))) G v2 v3 v4 (v5 + (1 : Int32)) else rb (R_X4_spread_73_71 (am_up I 73 5 ((I 73 5) + (1 : Int32))) G v5 v2 v4) (fun r203 I203 G203 => L_X4_find_73_71 n 1 I203 G203 v2 v3 v4 (v5 + (1 : Int32)))) else (if 0 ≤ (gAt ((am_up (am_up I 73 5 ((I 73 5) + (1 : Int32))) 73 5 (((I 73 5) + (1 : Int32)) + (1 : Int32))) 74) 576 v5) then L_X4_find_73_71 n 1 (am_up (am_up I 73 5 ((I 73 5) + (1 : Int32))) 73 5 (((I 73 5) + (1 : Int32)) + (1 : Int32))) G v2 v3 v4 (v5 + (1 : Int32)) else rb (R_X4_spread_73_71 (am_up (am_up I 73 5 ((I 73 5) + (1 : Int32))) 73 5 (((I 73 5) + (1 : Int32)) + (1 : Int32))) G v5 v2 v4) (fun r204 I204 G204 => L_X4_find_73_71 n 1 I204 G204 v2 v3 v4 (v5 + (1 : Int32)))))))
theorem L_X4_find_73_71_0 (n : Nat) (I : am_I) (G : am_G) (v2 : Int32) (v3 : Int32) (v4 : Int32) (v5 : Int32) : L_X4_find_73_71 (n + 1) 0 I G v2 v3 v4 v5 = (if v4 ≤ v5 then L_X4_find_73_71 n 1 I G v2 v3 v4 (0 : Int32) else L_X4_find_73_71 n 0 (gPut I 74 576 v5 (-1 : Int32)) G v2 v3 v4 (v5 + (1 : Int32))) := rfl
theorem L_X4_find_73_71_1 (n : Nat) (I : am_I) (G : am_G) (v2 : Int32) (v3 : Int32) (v4 : Int32) (v5 : Int32) : L_X4_find_73_71 (n + 1) 1 I G v2 v3 v4 v5 = (if v4 ≤ v5 then some ((), I, G) else (if (gAt (I 71) 576 (f_X4_rightOf I G v5 v2)) = (gAt (I 71) 576 v5) then (if (gAt (I 71) 576 (f_X4_below I G v5 v2 v4)) = (gAt (I 71) 576 v5) then (if 0 ≤ (gAt (I 74) 576 v5) then L_X4_find_73_71 n 1 I G v2 v3 v4 (v5 + (1 : Int32)) else rb (R_X4_spread_73_71 I G v5 v2 v4) (fun r201 I201 G201 => L_X4_find_73_71 n 1 I201 G201 v2 v3 v4 (v5 + (1 : Int32)))) else (if 0 ≤ (gAt ((am_up I 73 5 ((I 73 5) + (1 : Int32))) 74) 576 v5) then L_X4_find_73_71 n 1 (am_up I 73 5 ((I 73 5) + (1 : Int32))) G v2 v3 v4 (v5 + (1 : Int32)) else rb (R_X4_spread_73_71 (am_up I 73 5 ((I 73 5) + (1 : Int32))) G v5 v2 v4) (fun r202 I202 G202 => L_X4_find_73_71 n 1 I202 G202 v2 v3 v4 (v5 + (1 : Int32))))) else (if (gAt ((am_up I 73 5 ((I 73 5) + (1 : Int32))) 71) 576 (f_X4_below (am_up I 73 5 ((I 73 5) + (1 : Int32))) G v5 v2 v4)) = (gAt (I 71) 576 v5) then (if 0 ≤ (gAt ((am_up I 73 5 ((I 73 5) + (1 : Int32))) 74) 576 v5) then L_X4_find_73_71 n 1 (am_up I 73 5 ((I 73 5) + (1 : Int32))) G v2 v3 v4 (v5 + (1 : Int32)) else rb (R_X4_spread_73_71 (am_up I 73 5 ((I 73 5) + (1 : Int32))) G v5 v2 v4) (fun r203 I203 G203 => L_X4_find_73_71 n 1 I203 G203 v2 v3 v4 (v5 + (1 : Int32)))) else (if 0 ≤ (gAt ((am_up (am_up I 73 5 ((I 73 5) + (1 : Int32))) 73 5 (((I 73 5) + (1 : Int32)) + (1 : Int32))) 74) 576 v5) then L_X4_find_73_71 n 1 (am_up (am_up I 73 5 ((I 73 5) + (1 : Int32))) 73 5 (((I 73 5) + (1 : Int32)) + (1 : Int32))) G v2 v3 v4 (v5 + (1 : Int32)) else rb (R_X4_spread_73_71 (am_up (am_up I 73 5 ((I 73 5) + (1 : Int32))) 73 5 (((I 73 5) + (1 : Int32)) + (1 : Int32))) G v5 v2 v4) (fun r204 I204 G204 => L_X4_find_73_71 n 1 I204 G204 v2 v3 v4 (v5 + (1 : Int32))))))) := rfl
theorem L_X4_find_73_71_z (h : Nat) (I : am_I) (G : am_G) (v2 : Int32) (v3 : Int32) (v4 : Int32) (v5 : Int32) : L_X4_find_73_71 0 h I G v2 v3 v4 v5 = none := rfl
noncomputable def R_X4_find_73_71 (I : am_I) (G : am_G) (x1 : Int32) (x2 : Int32) : Option (Unit × am_I × am_G) := L_X4_find_73_71 FU 0 (am_up (am_up I 73 4 (0 : Int32)) 73 5 (0 : Int32)) G x1 x2 (x1 * x2) (0 : Int32)
set_option maxRecDepth 20000 in
set_option maxHeartbeats 4000000 in
theorem l_X4_find_73_71 (rd : Nat) {X : am_X} {ad : Nat → Nat} (hX : am_okz X ad) (hi : am_info X 2 cX4_find 7 false none 5) (n : Nat) : (∀ (I : am_I) (G : am_G) (v2 : Int32) (v3 : Int32) (v4 : Int32) (v5 : Int32) (out : Unit × am_I × am_G), L_X4_find_73_71 n 0 I G v2 v3 v4 v5 = some out → am_V X 0 0 (am_Rt X gS ad (pV out.2.1 out.2.2 (gP rd))) gS ad (18, [(0, .ref 73), (1, .ref 71), (2, .int v2), (3, .int v3), (4, .int v4), (5, .int v5)], [], I, G, (gP rd))) ∧ (∀ (I : am_I) (G : am_G) (v2 : Int32) (v3 : Int32) (v4 : Int32) (v5 : Int32) (out : Unit × am_I × am_G), L_X4_find_73_71 n 1 I G v2 v3 v4 v5 = some out → am_V X 0 0 (am_Rt X gS ad (pV out.2.1 out.2.2 (gP rd))) gS ad (44, [(0, .ref 73), (1, .ref 71), (2, .int v2), (3, .int v3), (4, .int v4), (5, .int v5)], [], I, G, (gP rd))) := by
  induction n with
  | zero => exact ⟨(fun I G v2 v3 v4 v5 out h => by rw [L_X4_find_73_71_z] at h; cases h), (fun I G v2 v3 v4 v5 out h => by rw [L_X4_find_73_71_z] at h; cases h)⟩
  | succ n ih =>
    refine ⟨?_, ?_⟩
    · intro I G v2 v3 v4 v5 out h
      rw [L_X4_find_73_71_0] at h
      refine am_blk 18 [(.iload 5, 2, 5, 0, .null), (.iload 4, 2, 4, 0, .null)] (22, [(0, .ref 73), (1, .ref 71), (2, .int v2), (3, .int v3), (4, .int v4), (5, .int v5)], [.int v4, .int v5], I, G, (gP rd)) (True) hX hi (by decide +kernel) rfl trivial ?_
      refine am_icmp_ge (tgt := 41) hX hi (off := (19)) (by decide +kernel) (by decide) (fun c22 => ?_) (fun c22 => ?_)
      · rw [if_pos c22] at h
        refine am_blk 41 [(.iconst (0), 1, 0, 0, .int (0 : Int32)), (.istore 5, 2, 5, 0, .null)] (44, [(0, .ref 73), (1, .ref 71), (2, .int v2), (3, .int v3), (4, .int v4), (5, .int (0 : Int32))], [], I, G, (gP rd)) (True) hX hi (by decide +kernel) rfl trivial ?_
        exact ih.2 _ _ _ _ _ _ _ h
      · rw [if_neg c22] at h
        refine am_blk 25 [(.aload_n 0, 1, 0, 0, .null), (.getfield 9, 3, 2, 0, .null), (.iload 5, 2, 5, 0, .null), (.iconst (-1), 1, 0, 0, .int (-1 : Int32))] (32, [(0, .ref 73), (1, .ref 71), (2, .int v2), (3, .int v3), (4, .int v4), (5, .int v5)], [.int (-1 : Int32), .int v5, .ref 74], I, G, (gP rd)) (True) hX hi (by decide +kernel) rfl trivial ?_
        refine am_callS hX hi (M := mX0_put) (idx := 28) (d' := 1) (As := [.ref 74, .int v5, .int (-1 : Int32)]) (rest := []) mkX0_put msX0_put (by decide +kernel) (by decide +kernel) rfl ⟨by omega, by decide, Nat.le_of_ble_eq_true rfl⟩ rfl (c_put rfl (by decide) v5 (-1 : Int32)) ?_
        rintro r9 I9 G9 P9 ⟨e0, e1, e2, e3⟩
        rw [e0, e1, e2, e3]
        show am_V X 0 0 _ _ ad (35, [(0, .ref 73), (1, .ref 71), (2, .int v2), (3, .int v3), (4, .int v4), (5, .int v5)], [], (gPut I 74 576 v5 (-1 : Int32)), G, (gP rd))
        refine am_blk 35 [(.iinc 5 (1), 3, 5, 0, .int (1 : Int32)), (.goto (-20), 3, 0, 18, .null)] (18, [(0, .ref 73), (1, .ref 71), (2, .int v2), (3, .int v3), (4, .int v4), (5, .int (v5 + (1 : Int32)))], [], (gPut I 74 576 v5 (-1 : Int32)), G, (gP rd)) (True) hX hi (by decide +kernel) rfl trivial ?_
        exact ih.1 _ _ _ _ _ _ _ h
    · intro I G v2 v3 v4 v5 out h
      rw [L_X4_find_73_71_1] at h
      refine am_blk 44 [(.iload 5, 2, 5, 0, .null), (.iload 4, 2, 4, 0, .null)] (48, [(0, .ref 73), (1, .ref 71), (2, .int v2), (3, .int v3), (4, .int v4), (5, .int v5)], [.int v4, .int v5], I, G, (gP rd)) (True) hX hi (by decide +kernel) rfl trivial ?_
      refine am_icmp_ge (tgt := 139) hX hi (off := (91)) (by decide +kernel) (by decide) (fun c48 => ?_) (fun c48 => ?_)
      · rw [if_pos c48] at h
        cases h
        refine am_vret hX hi rfl (by decide +kernel) ?_
        exact ⟨rfl, rfl, rfl, rfl⟩
      · rw [if_neg c48] at h
        refine am_blk 51 [(.aload_n 1, 1, 1, 0, .null), (.iload 5, 2, 5, 0, .null)] (54, [(0, .ref 73), (1, .ref 71), (2, .int v2), (3, .int v3), (4, .int v4), (5, .int v5)], [.int v5, .ref 71], I, G, (gP rd)) (True) hX hi (by decide +kernel) rfl trivial ?_
        refine am_callS hX hi (M := mX0_at) (idx := 34) (d' := 1) (As := [.ref 71, .int v5]) (rest := []) mkX0_at msX0_at (by decide +kernel) (by decide +kernel) rfl ⟨by omega, by decide, Nat.le_of_ble_eq_true rfl⟩ rfl (c_at rfl (by decide) v5) ?_
        rintro r9 I9 G9 P9 ⟨e0, e1, e2, e3⟩
        rw [e0, e1, e2, e3]
        show am_V X 0 0 _ _ ad (57, [(0, .ref 73), (1, .ref 71), (2, .int v2), (3, .int v3), (4, .int v4), (5, .int v5)], [.int (gAt (I 71) 576 v5)], I, G, (gP rd))
        refine am_blk 57 [(.istore 6, 2, 6, 0, .null), (.aload_n 1, 1, 1, 0, .null), (.iload 5, 2, 5, 0, .null), (.iload_n 2, 1, 2, 0, .null)] (63, [(0, .ref 73), (1, .ref 71), (2, .int v2), (3, .int v3), (4, .int v4), (5, .int v5), (6, .int (gAt (I 71) 576 v5))], [.int v2, .int v5, .ref 71], I, G, (gP rd)) (True) hX hi (by decide +kernel) rfl trivial ?_
        refine am_callS hX hi (M := mX4_rightOf) (idx := 38) (d' := 1) (As := [.int v5, .int v2]) (rest := [.ref 71]) mkX4_rightOf msX4_rightOf (by decide +kernel) (by decide +kernel) rfl ⟨by omega, by decide, Nat.le_of_ble_eq_true rfl⟩ rfl (c_X4_rightOf I G v5 v2) ?_
        rintro r9 I9 G9 P9 ⟨e0, e1, e2, e3⟩
        rw [e0, e1, e2, e3]
        show am_V X 0 0 _ _ ad (66, [(0, .ref 73), (1, .ref 71), (2, .int v2), (3, .int v3), (4, .int v4), (5, .int v5), (6, .int (gAt (I 71) 576 v5))], [.int (f_X4_rightOf I G v5 v2), .ref 71], I, G, (gP rd))
        refine am_callS hX hi (M := mX0_at) (idx := 34) (d' := 1) (As := [.ref 71, .int (f_X4_rightOf I G v5 v2)]) (rest := []) mkX0_at msX0_at (by decide +kernel) (by decide +kernel) rfl ⟨by omega, by decide, Nat.le_of_ble_eq_true rfl⟩ rfl (c_at rfl (by decide) (f_X4_rightOf I G v5 v2)) ?_
        rintro r9 I9 G9 P9 ⟨e0, e1, e2, e3⟩
        rw [e0, e1, e2, e3]
        show am_V X 0 0 _ _ ad (69, [(0, .ref 73), (1, .ref 71), (2, .int v2), (3, .int v3), (4, .int v4), (5, .int v5), (6, .int (gAt (I 71) 576 v5))], [.int (gAt (I 71) 576 (f_X4_rightOf I G v5 v2))], I, G, (gP rd))
        refine am_blk 69 [(.iload 6, 2, 6, 0, .null)] (71, [(0, .ref 73), (1, .ref 71), (2, .int v2), (3, .int v3), (4, .int v4), (5, .int v5), (6, .int (gAt (I 71) 576 v5))], [.int (gAt (I 71) 576 v5), .int (gAt (I 71) 576 (f_X4_rightOf I G v5 v2))], I, G, (gP rd)) (True) hX hi (by decide +kernel) rfl trivial ?_
        refine am_icmp_eq (tgt := 84) hX hi (off := (13)) (by decide +kernel) (by decide) (fun c71 => ?_) (fun c71 => ?_)
        · rw [if_pos c71] at h
          refine am_blk 84 [(.aload_n 1, 1, 1, 0, .null), (.iload 5, 2, 5, 0, .null), (.iload_n 2, 1, 2, 0, .null), (.iload 4, 2, 4, 0, .null)] (90, [(0, .ref 73), (1, .ref 71), (2, .int v2), (3, .int v3), (4, .int v4), (5, .int v5), (6, .int (gAt (I 71) 576 v5))], [.int v4, .int v2, .int v5, .ref 71], I, G, (gP rd)) (True) hX hi (by decide +kernel) rfl trivial ?_
          refine am_callS hX hi (M := mX4_below) (idx := 42) (d' := 1) (As := [.int v5, .int v2, .int v4]) (rest := [.ref 71]) mkX4_below msX4_below (by decide +kernel) (by decide +kernel) rfl ⟨by omega, by decide, Nat.le_of_ble_eq_true rfl⟩ rfl (c_X4_below I G v5 v2 v4) ?_
          rintro r9 I9 G9 P9 ⟨e0, e1, e2, e3⟩
          rw [e0, e1, e2, e3]
          show am_V X 0 0 _ _ ad (93, [(0, .ref 73), (1, .ref 71), (2, .int v2), (3, .int v3), (4, .int v4), (5, .int v5), (6, .int (gAt (I 71) 576 v5))], [.int (f_X4_below I G v5 v2 v4), .ref 71], I, G, (gP rd))
          refine am_callS hX hi (M := mX0_at) (idx := 34) (d' := 1) (As := [.ref 71, .int (f_X4_below I G v5 v2 v4)]) (rest := []) mkX0_at msX0_at (by decide +kernel) (by decide +kernel) rfl ⟨by omega, by decide, Nat.le_of_ble_eq_true rfl⟩ rfl (c_at rfl (by decide) (f_X4_below I G v5 v2 v4)) ?_
          rintro r9 I9 G9 P9 ⟨e0, e1, e2, e3⟩
          rw [e0, e1, e2, e3]
          show am_V X 0 0 _ _ ad (96, [(0, .ref 73), (1, .ref 71), (2, .int v2), (3, .int v3), (4, .int v4), (5, .int v5), (6, .int (gAt (I 71) 576 v5))], [.int (gAt (I 71) 576 (f_X4_below I G v5 v2 v4))], I, G, (gP rd))
          refine am_blk 96 [(.iload 6, 2, 6, 0, .null)] (98, [(0, .ref 73), (1, .ref 71), (2, .int v2), (3, .int v3), (4, .int v4), (5, .int v5), (6, .int (gAt (I 71) 576 v5))], [.int (gAt (I 71) 576 v5), .int (gAt (I 71) 576 (f_X4_below I G v5 v2 v4))], I, G, (gP rd)) (True) hX hi (by decide +kernel) rfl trivial ?_
          refine am_icmp_eq (tgt := 111) hX hi (off := (13)) (by decide +kernel) (by decide) (fun c98 => ?_) (fun c98 => ?_)
          · rw [if_pos c98] at h
            refine am_blk 111 [(.aload_n 0, 1, 0, 0, .null), (.getfield 9, 3, 2, 0, .null), (.iload 5, 2, 5, 0, .null)] (117, [(0, .ref 73), (1, .ref 71), (2, .int v2), (3, .int v3), (4, .int v4), (5, .int v5), (6, .int (gAt (I 71) 576 v5))], [.int v5, .ref 74], I, G, (gP rd)) (True) hX hi (by decide +kernel) rfl trivial ?_
            refine am_callS hX hi (M := mX0_at) (idx := 34) (d' := 1) (As := [.ref 74, .int v5]) (rest := []) mkX0_at msX0_at (by decide +kernel) (by decide +kernel) rfl ⟨by omega, by decide, Nat.le_of_ble_eq_true rfl⟩ rfl (c_at rfl (by decide) v5) ?_
            rintro r9 I9 G9 P9 ⟨e0, e1, e2, e3⟩
            rw [e0, e1, e2, e3]
            show am_V X 0 0 _ _ ad (120, [(0, .ref 73), (1, .ref 71), (2, .int v2), (3, .int v3), (4, .int v4), (5, .int v5), (6, .int (gAt (I 71) 576 v5))], [.int (gAt (I 74) 576 v5)], I, G, (gP rd))
            refine am_if_ge (tgt := 133) hX hi (off := (13)) (by decide +kernel) (by decide) (fun c120 => ?_) (fun c120 => ?_)
            · rw [if_pos c120] at h
              refine am_blk 133 [(.iinc 5 (1), 3, 5, 0, .int (1 : Int32)), (.goto (-92), 3, 0, 44, .null)] (44, [(0, .ref 73), (1, .ref 71), (2, .int v2), (3, .int v3), (4, .int v4), (5, .int (v5 + (1 : Int32))), (6, .int (gAt (I 71) 576 v5))], [], I, G, (gP rd)) (True) hX hi (by decide +kernel) rfl trivial ?_
              refine am_sub (L' := [(0, .ref 73), (1, .ref 71), (2, .int v2), (3, .int v3), (4, .int v4), (5, .int (v5 + (1 : Int32)))]) (by simp) ?_
              exact ih.2 _ _ _ _ _ _ _ h
            · rw [if_neg c120] at h
              refine am_blk 123 [(.aload_n 0, 1, 0, 0, .null), (.aload_n 1, 1, 1, 0, .null), (.iload 5, 2, 5, 0, .null), (.iload_n 2, 1, 2, 0, .null), (.iload 4, 2, 4, 0, .null)] (130, [(0, .ref 73), (1, .ref 71), (2, .int v2), (3, .int v3), (4, .int v4), (5, .int v5), (6, .int (gAt (I 71) 576 v5))], [.int v4, .int v2, .int v5, .ref 71, .ref 73], I, G, (gP rd)) (True) hX hi (by decide +kernel) rfl trivial ?_
              obtain ⟨r201, I201, G201, hc, h⟩ := rb_some h
              refine am_callV2 hX hi (M := mX4_spread) (idx := 46) (d' := 3) (b := 73) (ci := 2) (As := [.ref 71, .int v5, .int v2, .int v4]) (rest := []) mkX4_spread miX4_spread mvX4_spread (by decide +kernel) (by decide +kernel) rfl (by decide +kernel) rfl ⟨by omega, by (show 19 + 12 + 30 * _ ≤ 30 * _; omega), Nat.le_of_ble_eq_true rfl⟩ rfl (c_X4_spread_73_71 _ I G v5 v2 v4 hc) ?_
              rintro r9 I9 G9 P9 ⟨e0, e1, e2, e3⟩
              rw [e0, e1, e2, e3]
              show am_V X 0 0 _ _ ad (133, [(0, .ref 73), (1, .ref 71), (2, .int v2), (3, .int v3), (4, .int v4), (5, .int v5), (6, .int (gAt (I 71) 576 v5))], [], I201, G201, (gP rd))
              refine am_blk 133 [(.iinc 5 (1), 3, 5, 0, .int (1 : Int32)), (.goto (-92), 3, 0, 44, .null)] (44, [(0, .ref 73), (1, .ref 71), (2, .int v2), (3, .int v3), (4, .int v4), (5, .int (v5 + (1 : Int32))), (6, .int (gAt (I 71) 576 v5))], [], I201, G201, (gP rd)) (True) hX hi (by decide +kernel) rfl trivial ?_
              refine am_sub (L' := [(0, .ref 73), (1, .ref 71), (2, .int v2), (3, .int v3), (4, .int v4), (5, .int (v5 + (1 : Int32)))]) (by simp) ?_
              exact ih.2 _ _ _ _ _ _ _ h
          · rw [if_neg c98] at h
            refine am_blk 101 [(.aload_n 0, 1, 0, 0, .null), (.dup, 1, 0, 0, .null), (.getfield 25, 3, 2, 5, .null), (.iconst (1), 1, 0, 0, .int (1 : Int32)), (.iadd, 1, 0, 0, .null), (.putfield 25, 3, 2, 5, .null), (.aload_n 0, 1, 0, 0, .null), (.getfield 9, 3, 2, 0, .null), (.iload 5, 2, 5, 0, .null)] (117, [(0, .ref 73), (1, .ref 71), (2, .int v2), (3, .int v3), (4, .int v4), (5, .int v5), (6, .int (gAt (I 71) 576 v5))], [.int v5, .ref 74], (am_up I 73 5 ((I 73 5) + (1 : Int32))), G, (gP rd)) (True) hX hi (by decide +kernel) rfl trivial ?_
            refine am_callS hX hi (M := mX0_at) (idx := 34) (d' := 1) (As := [.ref 74, .int v5]) (rest := []) mkX0_at msX0_at (by decide +kernel) (by decide +kernel) rfl ⟨by omega, by decide, Nat.le_of_ble_eq_true rfl⟩ rfl (c_at rfl (by decide) v5) ?_
            rintro r9 I9 G9 P9 ⟨e0, e1, e2, e3⟩
            rw [e0, e1, e2, e3]
            show am_V X 0 0 _ _ ad (120, [(0, .ref 73), (1, .ref 71), (2, .int v2), (3, .int v3), (4, .int v4), (5, .int v5), (6, .int (gAt (I 71) 576 v5))], [.int (gAt ((am_up I 73 5 ((I 73 5) + (1 : Int32))) 74) 576 v5)], (am_up I 73 5 ((I 73 5) + (1 : Int32))), G, (gP rd))
            refine am_if_ge (tgt := 133) hX hi (off := (13)) (by decide +kernel) (by decide) (fun c120 => ?_) (fun c120 => ?_)
            · rw [if_pos c120] at h
              refine am_blk 133 [(.iinc 5 (1), 3, 5, 0, .int (1 : Int32)), (.goto (-92), 3, 0, 44, .null)] (44, [(0, .ref 73), (1, .ref 71), (2, .int v2), (3, .int v3), (4, .int v4), (5, .int (v5 + (1 : Int32))), (6, .int (gAt (I 71) 576 v5))], [], (am_up I 73 5 ((I 73 5) + (1 : Int32))), G, (gP rd)) (True) hX hi (by decide +kernel) rfl trivial ?_
              refine am_sub (L' := [(0, .ref 73), (1, .ref 71), (2, .int v2), (3, .int v3), (4, .int v4), (5, .int (v5 + (1 : Int32)))]) (by simp) ?_
              exact ih.2 _ _ _ _ _ _ _ h
            · rw [if_neg c120] at h
              refine am_blk 123 [(.aload_n 0, 1, 0, 0, .null), (.aload_n 1, 1, 1, 0, .null), (.iload 5, 2, 5, 0, .null), (.iload_n 2, 1, 2, 0, .null), (.iload 4, 2, 4, 0, .null)] (130, [(0, .ref 73), (1, .ref 71), (2, .int v2), (3, .int v3), (4, .int v4), (5, .int v5), (6, .int (gAt (I 71) 576 v5))], [.int v4, .int v2, .int v5, .ref 71, .ref 73], (am_up I 73 5 ((I 73 5) + (1 : Int32))), G, (gP rd)) (True) hX hi (by decide +kernel) rfl trivial ?_
              obtain ⟨r202, I202, G202, hc, h⟩ := rb_some h
              refine am_callV2 hX hi (M := mX4_spread) (idx := 46) (d' := 3) (b := 73) (ci := 2) (As := [.ref 71, .int v5, .int v2, .int v4]) (rest := []) mkX4_spread miX4_spread mvX4_spread (by decide +kernel) (by decide +kernel) rfl (by decide +kernel) rfl ⟨by omega, by (show 19 + 12 + 30 * _ ≤ 30 * _; omega), Nat.le_of_ble_eq_true rfl⟩ rfl (c_X4_spread_73_71 _ (am_up I 73 5 ((I 73 5) + (1 : Int32))) G v5 v2 v4 hc) ?_
              rintro r9 I9 G9 P9 ⟨e0, e1, e2, e3⟩
              rw [e0, e1, e2, e3]
              show am_V X 0 0 _ _ ad (133, [(0, .ref 73), (1, .ref 71), (2, .int v2), (3, .int v3), (4, .int v4), (5, .int v5), (6, .int (gAt (I 71) 576 v5))], [], I202, G202, (gP rd))
              refine am_blk 133 [(.iinc 5 (1), 3, 5, 0, .int (1 : Int32)), (.goto (-92), 3, 0, 44, .null)] (44, [(0, .ref 73), (1, .ref 71), (2, .int v2), (3, .int v3), (4, .int v4), (5, .int (v5 + (1 : Int32))), (6, .int (gAt (I 71) 576 v5))], [], I202, G202, (gP rd)) (True) hX hi (by decide +kernel) rfl trivial ?_
              refine am_sub (L' := [(0, .ref 73), (1, .ref 71), (2, .int v2), (3, .int v3), (4, .int v4), (5, .int (v5 + (1 : Int32)))]) (by simp) ?_
              exact ih.2 _ _ _ _ _ _ _ h
        · rw [if_neg c71] at h
          refine am_blk 74 [(.aload_n 0, 1, 0, 0, .null), (.dup, 1, 0, 0, .null), (.getfield 25, 3, 2, 5, .null), (.iconst (1), 1, 0, 0, .int (1 : Int32)), (.iadd, 1, 0, 0, .null), (.putfield 25, 3, 2, 5, .null), (.aload_n 1, 1, 1, 0, .null), (.iload 5, 2, 5, 0, .null), (.iload_n 2, 1, 2, 0, .null), (.iload 4, 2, 4, 0, .null)] (90, [(0, .ref 73), (1, .ref 71), (2, .int v2), (3, .int v3), (4, .int v4), (5, .int v5), (6, .int (gAt (I 71) 576 v5))], [.int v4, .int v2, .int v5, .ref 71], (am_up I 73 5 ((I 73 5) + (1 : Int32))), G, (gP rd)) (True) hX hi (by decide +kernel) rfl trivial ?_
          refine am_callS hX hi (M := mX4_below) (idx := 42) (d' := 1) (As := [.int v5, .int v2, .int v4]) (rest := [.ref 71]) mkX4_below msX4_below (by decide +kernel) (by decide +kernel) rfl ⟨by omega, by decide, Nat.le_of_ble_eq_true rfl⟩ rfl (c_X4_below (am_up I 73 5 ((I 73 5) + (1 : Int32))) G v5 v2 v4) ?_
          rintro r9 I9 G9 P9 ⟨e0, e1, e2, e3⟩
          rw [e0, e1, e2, e3]
          show am_V X 0 0 _ _ ad (93, [(0, .ref 73), (1, .ref 71), (2, .int v2), (3, .int v3), (4, .int v4), (5, .int v5), (6, .int (gAt (I 71) 576 v5))], [.int (f_X4_below (am_up I 73 5 ((I 73 5) + (1 : Int32))) G v5 v2 v4), .ref 71], (am_up I 73 5 ((I 73 5) + (1 : Int32))), G, (gP rd))
          refine am_callS hX hi (M := mX0_at) (idx := 34) (d' := 1) (As := [.ref 71, .int (f_X4_below (am_up I 73 5 ((I 73 5) + (1 : Int32))) G v5 v2 v4)]) (rest := []) mkX0_at msX0_at (by decide +kernel) (by decide +kernel) rfl ⟨by omega, by decide, Nat.le_of_ble_eq_true rfl⟩ rfl (c_at rfl (by decide) (f_X4_below (am_up I 73 5 ((I 73 5) + (1 : Int32))) G v5 v2 v4)) ?_
          rintro r9 I9 G9 P9 ⟨e0, e1, e2, e3⟩
          rw [e0, e1, e2, e3]
          show am_V X 0 0 _ _ ad (96, [(0, .ref 73), (1, .ref 71), (2, .int v2), (3, .int v3), (4, .int v4), (5, .int v5), (6, .int (gAt (I 71) 576 v5))], [.int (gAt ((am_up I 73 5 ((I 73 5) + (1 : Int32))) 71) 576 (f_X4_below (am_up I 73 5 ((I 73 5) + (1 : Int32))) G v5 v2 v4))], (am_up I 73 5 ((I 73 5) + (1 : Int32))), G, (gP rd))
          refine am_blk 96 [(.iload 6, 2, 6, 0, .null)] (98, [(0, .ref 73), (1, .ref 71), (2, .int v2), (3, .int v3), (4, .int v4), (5, .int v5), (6, .int (gAt (I 71) 576 v5))], [.int (gAt (I 71) 576 v5), .int (gAt ((am_up I 73 5 ((I 73 5) + (1 : Int32))) 71) 576 (f_X4_below (am_up I 73 5 ((I 73 5) + (1 : Int32))) G v5 v2 v4))], (am_up I 73 5 ((I 73 5) + (1 : Int32))), G, (gP rd)) (True) hX hi (by decide +kernel) rfl trivial ?_
          refine am_icmp_eq (tgt := 111) hX hi (off := (13)) (by decide +kernel) (by decide) (fun c98 => ?_) (fun c98 => ?_)
          · rw [if_pos c98] at h
            refine am_blk 111 [(.aload_n 0, 1, 0, 0, .null), (.getfield 9, 3, 2, 0, .null), (.iload 5, 2, 5, 0, .null)] (117, [(0, .ref 73), (1, .ref 71), (2, .int v2), (3, .int v3), (4, .int v4), (5, .int v5), (6, .int (gAt (I 71) 576 v5))], [.int v5, .ref 74], (am_up I 73 5 ((I 73 5) + (1 : Int32))), G, (gP rd)) (True) hX hi (by decide +kernel) rfl trivial ?_
            refine am_callS hX hi (M := mX0_at) (idx := 34) (d' := 1) (As := [.ref 74, .int v5]) (rest := []) mkX0_at msX0_at (by decide +kernel) (by decide +kernel) rfl ⟨by omega, by decide, Nat.le_of_ble_eq_true rfl⟩ rfl (c_at rfl (by decide) v5) ?_
            rintro r9 I9 G9 P9 ⟨e0, e1, e2, e3⟩
            rw [e0, e1, e2, e3]
            show am_V X 0 0 _ _ ad (120, [(0, .ref 73), (1, .ref 71), (2, .int v2), (3, .int v3), (4, .int v4), (5, .int v5), (6, .int (gAt (I 71) 576 v5))], [.int (gAt ((am_up I 73 5 ((I 73 5) + (1 : Int32))) 74) 576 v5)], (am_up I 73 5 ((I 73 5) + (1 : Int32))), G, (gP rd))
            refine am_if_ge (tgt := 133) hX hi (off := (13)) (by decide +kernel) (by decide) (fun c120 => ?_) (fun c120 => ?_)
            · rw [if_pos c120] at h
              refine am_blk 133 [(.iinc 5 (1), 3, 5, 0, .int (1 : Int32)), (.goto (-92), 3, 0, 44, .null)] (44, [(0, .ref 73), (1, .ref 71), (2, .int v2), (3, .int v3), (4, .int v4), (5, .int (v5 + (1 : Int32))), (6, .int (gAt (I 71) 576 v5))], [], (am_up I 73 5 ((I 73 5) + (1 : Int32))), G, (gP rd)) (True) hX hi (by decide +kernel) rfl trivial ?_
              refine am_sub (L' := [(0, .ref 73), (1, .ref 71), (2, .int v2), (3, .int v3), (4, .int v4), (5, .int (v5 + (1 : Int32)))]) (by simp) ?_
              exact ih.2 _ _ _ _ _ _ _ h
            · rw [if_neg c120] at h
              refine am_blk 123 [(.aload_n 0, 1, 0, 0, .null), (.aload_n 1, 1, 1, 0, .null), (.iload 5, 2, 5, 0, .null), (.iload_n 2, 1, 2, 0, .null), (.iload 4, 2, 4, 0, .null)] (130, [(0, .ref 73), (1, .ref 71), (2, .int v2), (3, .int v3), (4, .int v4), (5, .int v5), (6, .int (gAt (I 71) 576 v5))], [.int v4, .int v2, .int v5, .ref 71, .ref 73], (am_up I 73 5 ((I 73 5) + (1 : Int32))), G, (gP rd)) (True) hX hi (by decide +kernel) rfl trivial ?_
              obtain ⟨r203, I203, G203, hc, h⟩ := rb_some h
              refine am_callV2 hX hi (M := mX4_spread) (idx := 46) (d' := 3) (b := 73) (ci := 2) (As := [.ref 71, .int v5, .int v2, .int v4]) (rest := []) mkX4_spread miX4_spread mvX4_spread (by decide +kernel) (by decide +kernel) rfl (by decide +kernel) rfl ⟨by omega, by (show 19 + 12 + 30 * _ ≤ 30 * _; omega), Nat.le_of_ble_eq_true rfl⟩ rfl (c_X4_spread_73_71 _ (am_up I 73 5 ((I 73 5) + (1 : Int32))) G v5 v2 v4 hc) ?_
              rintro r9 I9 G9 P9 ⟨e0, e1, e2, e3⟩
              rw [e0, e1, e2, e3]
              show am_V X 0 0 _ _ ad (133, [(0, .ref 73), (1, .ref 71), (2, .int v2), (3, .int v3), (4, .int v4), (5, .int v5), (6, .int (gAt (I 71) 576 v5))], [], I203, G203, (gP rd))
              refine am_blk 133 [(.iinc 5 (1), 3, 5, 0, .int (1 : Int32)), (.goto (-92), 3, 0, 44, .null)] (44, [(0, .ref 73), (1, .ref 71), (2, .int v2), (3, .int v3), (4, .int v4), (5, .int (v5 + (1 : Int32))), (6, .int (gAt (I 71) 576 v5))], [], I203, G203, (gP rd)) (True) hX hi (by decide +kernel) rfl trivial ?_
              refine am_sub (L' := [(0, .ref 73), (1, .ref 71), (2, .int v2), (3, .int v3), (4, .int v4), (5, .int (v5 + (1 : Int32)))]) (by simp) ?_
              exact ih.2 _ _ _ _ _ _ _ h
          · rw [if_neg c98] at h
            refine am_blk 101 [(.aload_n 0, 1, 0, 0, .null), (.dup, 1, 0, 0, .null), (.getfield 25, 3, 2, 5, .null), (.iconst (1), 1, 0, 0, .int (1 : Int32)), (.iadd, 1, 0, 0, .null), (.putfield 25, 3, 2, 5, .null), (.aload_n 0, 1, 0, 0, .null), (.getfield 9, 3, 2, 0, .null), (.iload 5, 2, 5, 0, .null)] (117, [(0, .ref 73), (1, .ref 71), (2, .int v2), (3, .int v3), (4, .int v4), (5, .int v5), (6, .int (gAt (I 71) 576 v5))], [.int v5, .ref 74], (am_up (am_up I 73 5 ((I 73 5) + (1 : Int32))) 73 5 (((I 73 5) + (1 : Int32)) + (1 : Int32))), G, (gP rd)) (True) hX hi (by decide +kernel) rfl trivial ?_
            refine am_callS hX hi (M := mX0_at) (idx := 34) (d' := 1) (As := [.ref 74, .int v5]) (rest := []) mkX0_at msX0_at (by decide +kernel) (by decide +kernel) rfl ⟨by omega, by decide, Nat.le_of_ble_eq_true rfl⟩ rfl (c_at rfl (by decide) v5) ?_
            rintro r9 I9 G9 P9 ⟨e0, e1, e2, e3⟩
            rw [e0, e1, e2, e3]
            show am_V X 0 0 _ _ ad (120, [(0, .ref 73), (1, .ref 71), (2, .int v2), (3, .int v3), (4, .int v4), (5, .int v5), (6, .int (gAt (I 71) 576 v5))], [.int (gAt ((am_up (am_up I 73 5 ((I 73 5) + (1 : Int32))) 73 5 (((I 73 5) + (1 : Int32)) + (1 : Int32))) 74) 576 v5)], (am_up (am_up I 73 5 ((I 73 5) + (1 : Int32))) 73 5 (((I 73 5) + (1 : Int32)) + (1 : Int32))), G, (gP rd))
            refine am_if_ge (tgt := 133) hX hi (off := (13)) (by decide +kernel) (by decide) (fun c120 => ?_) (fun c120 => ?_)
            · rw [if_pos c120] at h
              refine am_blk 133 [(.iinc 5 (1), 3, 5, 0, .int (1 : Int32)), (.goto (-92), 3, 0, 44, .null)] (44, [(0, .ref 73), (1, .ref 71), (2, .int v2), (3, .int v3), (4, .int v4), (5, .int (v5 + (1 : Int32))), (6, .int (gAt (I 71) 576 v5))], [], (am_up (am_up I 73 5 ((I 73 5) + (1 : Int32))) 73 5 (((I 73 5) + (1 : Int32)) + (1 : Int32))), G, (gP rd)) (True) hX hi (by decide +kernel) rfl trivial ?_
              refine am_sub (L' := [(0, .ref 73), (1, .ref 71), (2, .int v2), (3, .int v3), (4, .int v4), (5, .int (v5 + (1 : Int32)))]) (by simp) ?_
              exact ih.2 _ _ _ _ _ _ _ h
            · rw [if_neg c120] at h
              refine am_blk 123 [(.aload_n 0, 1, 0, 0, .null), (.aload_n 1, 1, 1, 0, .null), (.iload 5, 2, 5, 0, .null), (.iload_n 2, 1, 2, 0, .null), (.iload 4, 2, 4, 0, .null)] (130, [(0, .ref 73), (1, .ref 71), (2, .int v2), (3, .int v3), (4, .int v4), (5, .int v5), (6, .int (gAt (I 71) 576 v5))], [.int v4, .int v2, .int v5, .ref 71, .ref 73], (am_up (am_up I 73 5 ((I 73 5) + (1 : Int32))) 73 5 (((I 73 5) + (1 : Int32)) + (1 : Int32))), G, (gP rd)) (True) hX hi (by decide +kernel) rfl trivial ?_
              obtain ⟨r204, I204, G204, hc, h⟩ := rb_some h
              refine am_callV2 hX hi (M := mX4_spread) (idx := 46) (d' := 3) (b := 73) (ci := 2) (As := [.ref 71, .int v5, .int v2, .int v4]) (rest := []) mkX4_spread miX4_spread mvX4_spread (by decide +kernel) (by decide +kernel) rfl (by decide +kernel) rfl ⟨by omega, by (show 19 + 12 + 30 * _ ≤ 30 * _; omega), Nat.le_of_ble_eq_true rfl⟩ rfl (c_X4_spread_73_71 _ (am_up (am_up I 73 5 ((I 73 5) + (1 : Int32))) 73 5 (((I 73 5) + (1 : Int32)) + (1 : Int32))) G v5 v2 v4 hc) ?_
              rintro r9 I9 G9 P9 ⟨e0, e1, e2, e3⟩
              rw [e0, e1, e2, e3]
              show am_V X 0 0 _ _ ad (133, [(0, .ref 73), (1, .ref 71), (2, .int v2), (3, .int v3), (4, .int v4), (5, .int v5), (6, .int (gAt (I 71) 576 v5))], [], I204, G204, (gP rd))
              refine am_blk 133 [(.iinc 5 (1), 3, 5, 0, .int (1 : Int32)), (.goto (-92), 3, 0, 44, .null)] (44, [(0, .ref 73), (1, .ref 71), (2, .int v2), (3, .int v3), (4, .int v4), (5, .int (v5 + (1 : Int32))), (6, .int (gAt (I 71) 576 v5))], [], I204, G204, (gP rd)) (True) hX hi (by decide +kernel) rfl trivial ?_
              refine am_sub (L' := [(0, .ref 73), (1, .ref 71), (2, .int v2), (3, .int v3), (4, .int v4), (5, .int (v5 + (1 : Int32)))]) (by simp) ?_
              exact ih.2 _ _ _ _ _ _ _ h
set_option maxRecDepth 20000 in
set_option maxHeartbeats 4000000 in
theorem c_X4_find_73_71 (rd : Nat) (I : am_I) (G : am_G) (x1 : Int32) (x2 : Int32) {out : Unit × am_I × am_G} (h : R_X4_find_73_71 I G x1 x2 = some out) : am_Ct mX4_find 5 gS [.ref 73, .ref 71, .int x1, .int x2] I G (gP rd) (pV out.2.1 out.2.2 (gP rd)) := by
  refine am_ofF (by decide +kernel) rfl (by decide) (by omega) (Nat.le_of_ble_eq_true rfl) (fun X ad hX hi => ?_)
  have hi : am_info X 2 cX4_find 7 false none 5 := hi
  show am_V X 0 0 _ _ ad (0, [(0, .ref 73), (1, .ref 71), (2, .int x1), (3, .int x2)], [], I, G, (gP rd))
  unfold R_X4_find_73_71 at h
  refine am_blk 0 [(.iload_n 2, 1, 2, 0, .null), (.iload_n 3, 1, 3, 0, .null), (.imul, 1, 0, 0, .null), (.istore 4, 2, 4, 0, .null), (.aload_n 0, 1, 0, 0, .null), (.iconst (0), 1, 0, 0, .int (0 : Int32)), (.putfield 21, 3, 2, 4, .null), (.aload_n 0, 1, 0, 0, .null), (.iconst (0), 1, 0, 0, .int (0 : Int32)), (.putfield 25, 3, 2, 5, .null), (.iconst (0), 1, 0, 0, .int (0 : Int32)), (.istore 5, 2, 5, 0, .null)] (18, [(0, .ref 73), (1, .ref 71), (2, .int x1), (3, .int x2), (4, .int (x1 * x2)), (5, .int (0 : Int32))], [], (am_up (am_up I 73 4 (0 : Int32)) 73 5 (0 : Int32)), G, (gP rd)) (True) hX hi (by decide +kernel) rfl trivial ?_
  exact (l_X4_find_73_71 rd hX hi FU).1 _ _ _ _ _ _ _ h
noncomputable def R_X6_readOctave_28 (I : am_I) (G : am_G)  : Option (Unit × am_I × am_G) := rb (R_X6_readNewName_28_47 (g_X6_advance_28 I G ) G ) (fun r1 I1 G1 => some ((), (g_X5_addOctave_29 (g_X6_readNumber_28 (g_X6_expect_28 (g_X6_readNumber_28 (g_X6_expect_28 (g_X6_readNumber_28 (g_X6_expect_28 (g_X6_readNumber_28 (g_X6_expect_28 I1 G1 (3 : Int32)) G1 (1 : Int32) (8 : Int32)) G1 (4 : Int32)) G1 (1 : Int32) (8 : Int32)) G1 (5 : Int32)) G1 (1 : Int32) (9 : Int32)) G1 (6 : Int32)) G1 (0 : Int32) (999 : Int32)) G1 (f_X6_readNumber_28 (g_X6_expect_28 I1 G1 (3 : Int32)) G1 (1 : Int32) (8 : Int32)) (f_X6_readNumber_28 (g_X6_expect_28 (g_X6_readNumber_28 (g_X6_expect_28 I1 G1 (3 : Int32)) G1 (1 : Int32) (8 : Int32)) G1 (4 : Int32)) G1 (1 : Int32) (8 : Int32)) (f_X6_readNumber_28 (g_X6_expect_28 (g_X6_readNumber_28 (g_X6_expect_28 (g_X6_readNumber_28 (g_X6_expect_28 I1 G1 (3 : Int32)) G1 (1 : Int32) (8 : Int32)) G1 (4 : Int32)) G1 (1 : Int32) (8 : Int32)) G1 (5 : Int32)) G1 (1 : Int32) (9 : Int32)) (f_X6_readNumber_28 (g_X6_expect_28 (g_X6_readNumber_28 (g_X6_expect_28 (g_X6_readNumber_28 (g_X6_expect_28 (g_X6_readNumber_28 (g_X6_expect_28 I1 G1 (3 : Int32)) G1 (1 : Int32) (8 : Int32)) G1 (4 : Int32)) G1 (1 : Int32) (8 : Int32)) G1 (5 : Int32)) G1 (1 : Int32) (9 : Int32)) G1 (6 : Int32)) G1 (0 : Int32) (999 : Int32))), G1))
set_option maxRecDepth 20000 in
set_option maxHeartbeats 4000000 in
theorem c_X6_readOctave_28 (rd : Nat) (I : am_I) (G : am_G)  {out : Unit × am_I × am_G} (h : R_X6_readOctave_28 I G  = some out) : am_Ct mX6_readOctave 4 gS [.ref 28] I G (gP rd) (pV out.2.1 out.2.2 (gP rd)) := by
  refine am_ofF (by decide +kernel) rfl (by decide) (by omega) (Nat.le_of_ble_eq_true rfl) (fun X ad hX hi => ?_)
  have hi : am_info X 4 cX6_readOctave 4 false none 4 := hi
  show am_V X 0 0 _ _ ad (0, [(0, .ref 28)], [], I, G, (gP rd))
  unfold R_X6_readOctave_28 at h
  refine am_blk 0 [(.aload_n 0, 1, 0, 0, .null)] (1, [(0, .ref 28)], [.ref 28], I, G, (gP rd)) (True) hX hi (by decide +kernel) rfl trivial ?_
  refine am_callV hX hi (M := mX6_advance) (idx := 100) (d' := 2) (b := 28) (ci := 4) (As := []) (rest := []) mkX6_advance miX6_advance mvX6_advance (by decide +kernel) (by decide +kernel) rfl (by decide +kernel) rfl ⟨by omega, by decide, Nat.le_of_ble_eq_true rfl⟩ rfl (c_X6_advance_28 _ I G ) ?_
  rintro r9 I9 G9 P9 ⟨e0, e1, e2, e3⟩
  rw [e0, e1, e2, e3]
  show am_V X 0 0 _ _ ad (4, [(0, .ref 28)], [], (g_X6_advance_28 I G ), G, (gP rd))
  refine am_blk 4 [(.aload_n 0, 1, 0, 0, .null), (.aload_n 0, 1, 0, 0, .null), (.getfield 23, 3, 4, 2, .null)] (9, [(0, .ref 28)], [.ref 47, .ref 28], (g_X6_advance_28 I G ), G, (gP rd)) (True) hX hi (by decide +kernel) rfl trivial ?_
  obtain ⟨r1, I1, G1, hc, h⟩ := rb_some h
  refine am_callV hX hi (M := mX6_readNewName) (idx := 122) (d' := 3) (b := 28) (ci := 4) (As := [.ref 47]) (rest := []) mkX6_readNewName miX6_readNewName mvX6_readNewName (by decide +kernel) (by decide +kernel) rfl (by decide +kernel) rfl ⟨by omega, by decide, Nat.le_of_ble_eq_true rfl⟩ rfl (c_X6_readNewName_28_47 _ (g_X6_advance_28 I G ) G  hc) ?_
  rintro r9 I9 G9 P9 ⟨e0, e1, e2, e3⟩
  rw [e0, e1, e2, e3]
  show am_V X 0 0 _ _ ad (12, [(0, .ref 28)], [], I1, G1, (gP rd))
  refine am_blk 12 [(.aload_n 0, 1, 0, 0, .null), (.iconst (3), 1, 0, 0, .int (3 : Int32))] (14, [(0, .ref 28)], [.int (3 : Int32), .ref 28], I1, G1, (gP rd)) (True) hX hi (by decide +kernel) rfl trivial ?_
  refine am_callV hX hi (M := mX6_expect) (idx := 109) (d' := 3) (b := 28) (ci := 4) (As := [.int (3 : Int32)]) (rest := []) mkX6_expect miX6_expect mvX6_expect (by decide +kernel) (by decide +kernel) rfl (by decide +kernel) rfl ⟨by omega, by decide, Nat.le_of_ble_eq_true rfl⟩ rfl (c_X6_expect_28 _ I1 G1 (3 : Int32)) ?_
  rintro r9 I9 G9 P9 ⟨e0, e1, e2, e3⟩
  rw [e0, e1, e2, e3]
  show am_V X 0 0 _ _ ad (17, [(0, .ref 28)], [], (g_X6_expect_28 I1 G1 (3 : Int32)), G1, (gP rd))
  refine am_blk 17 [(.aload_n 0, 1, 0, 0, .null), (.iconst (1), 1, 0, 0, .int (1 : Int32)), (.bipush (8), 2, 0, 0, .int (8 : Int32))] (21, [(0, .ref 28)], [.int (8 : Int32), .int (1 : Int32), .ref 28], (g_X6_expect_28 I1 G1 (3 : Int32)), G1, (gP rd)) (True) hX hi (by decide +kernel) rfl trivial ?_
  refine am_callV hX hi (M := mX6_readNumber) (idx := 112) (d' := 3) (b := 28) (ci := 4) (As := [.int (1 : Int32), .int (8 : Int32)]) (rest := []) mkX6_readNumber miX6_readNumber mvX6_readNumber (by decide +kernel) (by decide +kernel) rfl (by decide +kernel) rfl ⟨by omega, by decide, Nat.le_of_ble_eq_true rfl⟩ rfl (c_X6_readNumber_28 _ (g_X6_expect_28 I1 G1 (3 : Int32)) G1 (1 : Int32) (8 : Int32)) ?_
  rintro r9 I9 G9 P9 ⟨e0, e1, e2, e3⟩
  rw [e0, e1, e2, e3]
  show am_V X 0 0 _ _ ad (24, [(0, .ref 28)], [.int (f_X6_readNumber_28 (g_X6_expect_28 I1 G1 (3 : Int32)) G1 (1 : Int32) (8 : Int32))], (g_X6_readNumber_28 (g_X6_expect_28 I1 G1 (3 : Int32)) G1 (1 : Int32) (8 : Int32)), G1, (gP rd))
  refine am_blk 24 [(.istore_n 1, 1, 1, 0, .null), (.aload_n 0, 1, 0, 0, .null), (.iconst (4), 1, 0, 0, .int (4 : Int32))] (27, [(0, .ref 28), (1, .int (f_X6_readNumber_28 (g_X6_expect_28 I1 G1 (3 : Int32)) G1 (1 : Int32) (8 : Int32)))], [.int (4 : Int32), .ref 28], (g_X6_readNumber_28 (g_X6_expect_28 I1 G1 (3 : Int32)) G1 (1 : Int32) (8 : Int32)), G1, (gP rd)) (True) hX hi (by decide +kernel) rfl trivial ?_
  refine am_callV hX hi (M := mX6_expect) (idx := 109) (d' := 3) (b := 28) (ci := 4) (As := [.int (4 : Int32)]) (rest := []) mkX6_expect miX6_expect mvX6_expect (by decide +kernel) (by decide +kernel) rfl (by decide +kernel) rfl ⟨by omega, by decide, Nat.le_of_ble_eq_true rfl⟩ rfl (c_X6_expect_28 _ (g_X6_readNumber_28 (g_X6_expect_28 I1 G1 (3 : Int32)) G1 (1 : Int32) (8 : Int32)) G1 (4 : Int32)) ?_
  rintro r9 I9 G9 P9 ⟨e0, e1, e2, e3⟩
  rw [e0, e1, e2, e3]
  show am_V X 0 0 _ _ ad (30, [(0, .ref 28), (1, .int (f_X6_readNumber_28 (g_X6_expect_28 I1 G1 (3 : Int32)) G1 (1 : Int32) (8 : Int32)))], [], (g_X6_expect_28 (g_X6_readNumber_28 (g_X6_expect_28 I1 G1 (3 : Int32)) G1 (1 : Int32) (8 : Int32)) G1 (4 : Int32)), G1, (gP rd))
  refine am_blk 30 [(.aload_n 0, 1, 0, 0, .null), (.iconst (1), 1, 0, 0, .int (1 : Int32)), (.bipush (8), 2, 0, 0, .int (8 : Int32))] (34, [(0, .ref 28), (1, .int (f_X6_readNumber_28 (g_X6_expect_28 I1 G1 (3 : Int32)) G1 (1 : Int32) (8 : Int32)))], [.int (8 : Int32), .int (1 : Int32), .ref 28], (g_X6_expect_28 (g_X6_readNumber_28 (g_X6_expect_28 I1 G1 (3 : Int32)) G1 (1 : Int32) (8 : Int32)) G1 (4 : Int32)), G1, (gP rd)) (True) hX hi (by decide +kernel) rfl trivial ?_
  refine am_callV hX hi (M := mX6_readNumber) (idx := 112) (d' := 3) (b := 28) (ci := 4) (As := [.int (1 : Int32), .int (8 : Int32)]) (rest := []) mkX6_readNumber miX6_readNumber mvX6_readNumber (by decide +kernel) (by decide +kernel) rfl (by decide +kernel) rfl ⟨by omega, by decide, Nat.le_of_ble_eq_true rfl⟩ rfl (c_X6_readNumber_28 _ (g_X6_expect_28 (g_X6_readNumber_28 (g_X6_expect_28 I1 G1 (3 : Int32)) G1 (1 : Int32) (8 : Int32)) G1 (4 : Int32)) G1 (1 : Int32) (8 : Int32)) ?_
  rintro r9 I9 G9 P9 ⟨e0, e1, e2, e3⟩
  rw [e0, e1, e2, e3]
  show am_V X 0 0 _ _ ad (37, [(0, .ref 28), (1, .int (f_X6_readNumber_28 (g_X6_expect_28 I1 G1 (3 : Int32)) G1 (1 : Int32) (8 : Int32)))], [.int (f_X6_readNumber_28 (g_X6_expect_28 (g_X6_readNumber_28 (g_X6_expect_28 I1 G1 (3 : Int32)) G1 (1 : Int32) (8 : Int32)) G1 (4 : Int32)) G1 (1 : Int32) (8 : Int32))], (g_X6_readNumber_28 (g_X6_expect_28 (g_X6_readNumber_28 (g_X6_expect_28 I1 G1 (3 : Int32)) G1 (1 : Int32) (8 : Int32)) G1 (4 : Int32)) G1 (1 : Int32) (8 : Int32)), G1, (gP rd))
  refine am_blk 37 [(.istore_n 2, 1, 2, 0, .null), (.aload_n 0, 1, 0, 0, .null), (.iconst (5), 1, 0, 0, .int (5 : Int32))] (40, [(0, .ref 28), (1, .int (f_X6_readNumber_28 (g_X6_expect_28 I1 G1 (3 : Int32)) G1 (1 : Int32) (8 : Int32))), (2, .int (f_X6_readNumber_28 (g_X6_expect_28 (g_X6_readNumber_28 (g_X6_expect_28 I1 G1 (3 : Int32)) G1 (1 : Int32) (8 : Int32)) G1 (4 : Int32)) G1 (1 : Int32) (8 : Int32)))], [.int (5 : Int32), .ref 28], (g_X6_readNumber_28 (g_X6_expect_28 (g_X6_readNumber_28 (g_X6_expect_28 I1 G1 (3 : Int32)) G1 (1 : Int32) (8 : Int32)) G1 (4 : Int32)) G1 (1 : Int32) (8 : Int32)), G1, (gP rd)) (True) hX hi (by decide +kernel) rfl trivial ?_
  refine am_callV hX hi (M := mX6_expect) (idx := 109) (d' := 3) (b := 28) (ci := 4) (As := [.int (5 : Int32)]) (rest := []) mkX6_expect miX6_expect mvX6_expect (by decide +kernel) (by decide +kernel) rfl (by decide +kernel) rfl ⟨by omega, by decide, Nat.le_of_ble_eq_true rfl⟩ rfl (c_X6_expect_28 _ (g_X6_readNumber_28 (g_X6_expect_28 (g_X6_readNumber_28 (g_X6_expect_28 I1 G1 (3 : Int32)) G1 (1 : Int32) (8 : Int32)) G1 (4 : Int32)) G1 (1 : Int32) (8 : Int32)) G1 (5 : Int32)) ?_
  rintro r9 I9 G9 P9 ⟨e0, e1, e2, e3⟩
  rw [e0, e1, e2, e3]
  show am_V X 0 0 _ _ ad (43, [(0, .ref 28), (1, .int (f_X6_readNumber_28 (g_X6_expect_28 I1 G1 (3 : Int32)) G1 (1 : Int32) (8 : Int32))), (2, .int (f_X6_readNumber_28 (g_X6_expect_28 (g_X6_readNumber_28 (g_X6_expect_28 I1 G1 (3 : Int32)) G1 (1 : Int32) (8 : Int32)) G1 (4 : Int32)) G1 (1 : Int32) (8 : Int32)))], [], (g_X6_expect_28 (g_X6_readNumber_28 (g_X6_expect_28 (g_X6_readNumber_28 (g_X6_expect_28 I1 G1 (3 : Int32)) G1 (1 : Int32) (8 : Int32)) G1 (4 : Int32)) G1 (1 : Int32) (8 : Int32)) G1 (5 : Int32)), G1, (gP rd))
  refine am_blk 43 [(.aload_n 0, 1, 0, 0, .null), (.iconst (1), 1, 0, 0, .int (1 : Int32)), (.bipush (9), 2, 0, 0, .int (9 : Int32))] (47, [(0, .ref 28), (1, .int (f_X6_readNumber_28 (g_X6_expect_28 I1 G1 (3 : Int32)) G1 (1 : Int32) (8 : Int32))), (2, .int (f_X6_readNumber_28 (g_X6_expect_28 (g_X6_readNumber_28 (g_X6_expect_28 I1 G1 (3 : Int32)) G1 (1 : Int32) (8 : Int32)) G1 (4 : Int32)) G1 (1 : Int32) (8 : Int32)))], [.int (9 : Int32), .int (1 : Int32), .ref 28], (g_X6_expect_28 (g_X6_readNumber_28 (g_X6_expect_28 (g_X6_readNumber_28 (g_X6_expect_28 I1 G1 (3 : Int32)) G1 (1 : Int32) (8 : Int32)) G1 (4 : Int32)) G1 (1 : Int32) (8 : Int32)) G1 (5 : Int32)), G1, (gP rd)) (True) hX hi (by decide +kernel) rfl trivial ?_
  refine am_callV hX hi (M := mX6_readNumber) (idx := 112) (d' := 3) (b := 28) (ci := 4) (As := [.int (1 : Int32), .int (9 : Int32)]) (rest := []) mkX6_readNumber miX6_readNumber mvX6_readNumber (by decide +kernel) (by decide +kernel) rfl (by decide +kernel) rfl ⟨by omega, by decide, Nat.le_of_ble_eq_true rfl⟩ rfl (c_X6_readNumber_28 _ (g_X6_expect_28 (g_X6_readNumber_28 (g_X6_expect_28 (g_X6_readNumber_28 (g_X6_expect_28 I1 G1 (3 : Int32)) G1 (1 : Int32) (8 : Int32)) G1 (4 : Int32)) G1 (1 : Int32) (8 : Int32)) G1 (5 : Int32)) G1 (1 : Int32) (9 : Int32)) ?_
  rintro r9 I9 G9 P9 ⟨e0, e1, e2, e3⟩
  rw [e0, e1, e2, e3]
  show am_V X 0 0 _ _ ad (50, [(0, .ref 28), (1, .int (f_X6_readNumber_28 (g_X6_expect_28 I1 G1 (3 : Int32)) G1 (1 : Int32) (8 : Int32))), (2, .int (f_X6_readNumber_28 (g_X6_expect_28 (g_X6_readNumber_28 (g_X6_expect_28 I1 G1 (3 : Int32)) G1 (1 : Int32) (8 : Int32)) G1 (4 : Int32)) G1 (1 : Int32) (8 : Int32)))], [.int (f_X6_readNumber_28 (g_X6_expect_28 (g_X6_readNumber_28 (g_X6_expect_28 (g_X6_readNumber_28 (g_X6_expect_28 I1 G1 (3 : Int32)) G1 (1 : Int32) (8 : Int32)) G1 (4 : Int32)) G1 (1 : Int32) (8 : Int32)) G1 (5 : Int32)) G1 (1 : Int32) (9 : Int32))], (g_X6_readNumber_28 (g_X6_expect_28 (g_X6_readNumber_28 (g_X6_expect_28 (g_X6_readNumber_28 (g_X6_expect_28 I1 G1 (3 : Int32)) G1 (1 : Int32) (8 : Int32)) G1 (4 : Int32)) G1 (1 : Int32) (8 : Int32)) G1 (5 : Int32)) G1 (1 : Int32) (9 : Int32)), G1, (gP rd))
  refine am_blk 50 [(.istore_n 3, 1, 3, 0, .null), (.aload_n 0, 1, 0, 0, .null), (.bipush (6), 2, 0, 0, .int (6 : Int32))] (54, [(0, .ref 28), (1, .int (f_X6_readNumber_28 (g_X6_expect_28 I1 G1 (3 : Int32)) G1 (1 : Int32) (8 : Int32))), (2, .int (f_X6_readNumber_28 (g_X6_expect_28 (g_X6_readNumber_28 (g_X6_expect_28 I1 G1 (3 : Int32)) G1 (1 : Int32) (8 : Int32)) G1 (4 : Int32)) G1 (1 : Int32) (8 : Int32))), (3, .int (f_X6_readNumber_28 (g_X6_expect_28 (g_X6_readNumber_28 (g_X6_expect_28 (g_X6_readNumber_28 (g_X6_expect_28 I1 G1 (3 : Int32)) G1 (1 : Int32) (8 : Int32)) G1 (4 : Int32)) G1 (1 : Int32) (8 : Int32)) G1 (5 : Int32)) G1 (1 : Int32) (9 : Int32)))], [.int (6 : Int32), .ref 28], (g_X6_readNumber_28 (g_X6_expect_28 (g_X6_readNumber_28 (g_X6_expect_28 (g_X6_readNumber_28 (g_X6_expect_28 I1 G1 (3 : Int32)) G1 (1 : Int32) (8 : Int32)) G1 (4 : Int32)) G1 (1 : Int32) (8 : Int32)) G1 (5 : Int32)) G1 (1 : Int32) (9 : Int32)), G1, (gP rd)) (True) hX hi (by decide +kernel) rfl trivial ?_
  refine am_callV hX hi (M := mX6_expect) (idx := 109) (d' := 3) (b := 28) (ci := 4) (As := [.int (6 : Int32)]) (rest := []) mkX6_expect miX6_expect mvX6_expect (by decide +kernel) (by decide +kernel) rfl (by decide +kernel) rfl ⟨by omega, by decide, Nat.le_of_ble_eq_true rfl⟩ rfl (c_X6_expect_28 _ (g_X6_readNumber_28 (g_X6_expect_28 (g_X6_readNumber_28 (g_X6_expect_28 (g_X6_readNumber_28 (g_X6_expect_28 I1 G1 (3 : Int32)) G1 (1 : Int32) (8 : Int32)) G1 (4 : Int32)) G1 (1 : Int32) (8 : Int32)) G1 (5 : Int32)) G1 (1 : Int32) (9 : Int32)) G1 (6 : Int32)) ?_
  rintro r9 I9 G9 P9 ⟨e0, e1, e2, e3⟩
  rw [e0, e1, e2, e3]
  show am_V X 0 0 _ _ ad (57, [(0, .ref 28), (1, .int (f_X6_readNumber_28 (g_X6_expect_28 I1 G1 (3 : Int32)) G1 (1 : Int32) (8 : Int32))), (2, .int (f_X6_readNumber_28 (g_X6_expect_28 (g_X6_readNumber_28 (g_X6_expect_28 I1 G1 (3 : Int32)) G1 (1 : Int32) (8 : Int32)) G1 (4 : Int32)) G1 (1 : Int32) (8 : Int32))), (3, .int (f_X6_readNumber_28 (g_X6_expect_28 (g_X6_readNumber_28 (g_X6_expect_28 (g_X6_readNumber_28 (g_X6_expect_28 I1 G1 (3 : Int32)) G1 (1 : Int32) (8 : Int32)) G1 (4 : Int32)) G1 (1 : Int32) (8 : Int32)) G1 (5 : Int32)) G1 (1 : Int32) (9 : Int32)))], [], (g_X6_expect_28 (g_X6_readNumber_28 (g_X6_expect_28 (g_X6_readNumber_28 (g_X6_expect_28 (g_X6_readNumber_28 (g_X6_expect_28 I1 G1 (3 : Int32)) G1 (1 : Int32) (8 : Int32)) G1 (4 : Int32)) G1 (1 : Int32) (8 : Int32)) G1 (5 : Int32)) G1 (1 : Int32) (9 : Int32)) G1 (6 : Int32)), G1, (gP rd))
  refine am_blk 57 [(.aload_n 0, 1, 0, 0, .null), (.getfield 12, 3, 4, 1, .null), (.iload_n 1, 1, 1, 0, .null), (.iload_n 2, 1, 2, 0, .null), (.iload_n 3, 1, 3, 0, .null), (.aload_n 0, 1, 0, 0, .null), (.iconst (0), 1, 0, 0, .int (0 : Int32)), (.sipush (999), 3, 0, 0, .int (999 : Int32))] (69, [(0, .ref 28), (1, .int (f_X6_readNumber_28 (g_X6_expect_28 I1 G1 (3 : Int32)) G1 (1 : Int32) (8 : Int32))), (2, .int (f_X6_readNumber_28 (g_X6_expect_28 (g_X6_readNumber_28 (g_X6_expect_28 I1 G1 (3 : Int32)) G1 (1 : Int32) (8 : Int32)) G1 (4 : Int32)) G1 (1 : Int32) (8 : Int32))), (3, .int (f_X6_readNumber_28 (g_X6_expect_28 (g_X6_readNumber_28 (g_X6_expect_28 (g_X6_readNumber_28 (g_X6_expect_28 I1 G1 (3 : Int32)) G1 (1 : Int32) (8 : Int32)) G1 (4 : Int32)) G1 (1 : Int32) (8 : Int32)) G1 (5 : Int32)) G1 (1 : Int32) (9 : Int32)))], [.int (999 : Int32), .int (0 : Int32), .ref 28, .int (f_X6_readNumber_28 (g_X6_expect_28 (g_X6_readNumber_28 (g_X6_expect_28 (g_X6_readNumber_28 (g_X6_expect_28 I1 G1 (3 : Int32)) G1 (1 : Int32) (8 : Int32)) G1 (4 : Int32)) G1 (1 : Int32) (8 : Int32)) G1 (5 : Int32)) G1 (1 : Int32) (9 : Int32)), .int (f_X6_readNumber_28 (g_X6_expect_28 (g_X6_readNumber_28 (g_X6_expect_28 I1 G1 (3 : Int32)) G1 (1 : Int32) (8 : Int32)) G1 (4 : Int32)) G1 (1 : Int32) (8 : Int32)), .int (f_X6_readNumber_28 (g_X6_expect_28 I1 G1 (3 : Int32)) G1 (1 : Int32) (8 : Int32)), .ref 29], (g_X6_expect_28 (g_X6_readNumber_28 (g_X6_expect_28 (g_X6_readNumber_28 (g_X6_expect_28 (g_X6_readNumber_28 (g_X6_expect_28 I1 G1 (3 : Int32)) G1 (1 : Int32) (8 : Int32)) G1 (4 : Int32)) G1 (1 : Int32) (8 : Int32)) G1 (5 : Int32)) G1 (1 : Int32) (9 : Int32)) G1 (6 : Int32)), G1, (gP rd)) (True) hX hi (by decide +kernel) rfl trivial ?_
  refine am_callV hX hi (M := mX6_readNumber) (idx := 112) (d' := 3) (b := 28) (ci := 4) (As := [.int (0 : Int32), .int (999 : Int32)]) (rest := [.int (f_X6_readNumber_28 (g_X6_expect_28 (g_X6_readNumber_28 (g_X6_expect_28 (g_X6_readNumber_28 (g_X6_expect_28 I1 G1 (3 : Int32)) G1 (1 : Int32) (8 : Int32)) G1 (4 : Int32)) G1 (1 : Int32) (8 : Int32)) G1 (5 : Int32)) G1 (1 : Int32) (9 : Int32)), .int (f_X6_readNumber_28 (g_X6_expect_28 (g_X6_readNumber_28 (g_X6_expect_28 I1 G1 (3 : Int32)) G1 (1 : Int32) (8 : Int32)) G1 (4 : Int32)) G1 (1 : Int32) (8 : Int32)), .int (f_X6_readNumber_28 (g_X6_expect_28 I1 G1 (3 : Int32)) G1 (1 : Int32) (8 : Int32)), .ref 29]) mkX6_readNumber miX6_readNumber mvX6_readNumber (by decide +kernel) (by decide +kernel) rfl (by decide +kernel) rfl ⟨by omega, by decide, Nat.le_of_ble_eq_true rfl⟩ rfl (c_X6_readNumber_28 _ (g_X6_expect_28 (g_X6_readNumber_28 (g_X6_expect_28 (g_X6_readNumber_28 (g_X6_expect_28 (g_X6_readNumber_28 (g_X6_expect_28 I1 G1 (3 : Int32)) G1 (1 : Int32) (8 : Int32)) G1 (4 : Int32)) G1 (1 : Int32) (8 : Int32)) G1 (5 : Int32)) G1 (1 : Int32) (9 : Int32)) G1 (6 : Int32)) G1 (0 : Int32) (999 : Int32)) ?_
  rintro r9 I9 G9 P9 ⟨e0, e1, e2, e3⟩
  rw [e0, e1, e2, e3]
  show am_V X 0 0 _ _ ad (72, [(0, .ref 28), (1, .int (f_X6_readNumber_28 (g_X6_expect_28 I1 G1 (3 : Int32)) G1 (1 : Int32) (8 : Int32))), (2, .int (f_X6_readNumber_28 (g_X6_expect_28 (g_X6_readNumber_28 (g_X6_expect_28 I1 G1 (3 : Int32)) G1 (1 : Int32) (8 : Int32)) G1 (4 : Int32)) G1 (1 : Int32) (8 : Int32))), (3, .int (f_X6_readNumber_28 (g_X6_expect_28 (g_X6_readNumber_28 (g_X6_expect_28 (g_X6_readNumber_28 (g_X6_expect_28 I1 G1 (3 : Int32)) G1 (1 : Int32) (8 : Int32)) G1 (4 : Int32)) G1 (1 : Int32) (8 : Int32)) G1 (5 : Int32)) G1 (1 : Int32) (9 : Int32)))], [.int (f_X6_readNumber_28 (g_X6_expect_28 (g_X6_readNumber_28 (g_X6_expect_28 (g_X6_readNumber_28 (g_X6_expect_28 (g_X6_readNumber_28 (g_X6_expect_28 I1 G1 (3 : Int32)) G1 (1 : Int32) (8 : Int32)) G1 (4 : Int32)) G1 (1 : Int32) (8 : Int32)) G1 (5 : Int32)) G1 (1 : Int32) (9 : Int32)) G1 (6 : Int32)) G1 (0 : Int32) (999 : Int32)), .int (f_X6_readNumber_28 (g_X6_expect_28 (g_X6_readNumber_28 (g_X6_expect_28 (g_X6_readNumber_28 (g_X6_expect_28 I1 G1 (3 : Int32)) G1 (1 : Int32) (8 : Int32)) G1 (4 : Int32)) G1 (1 : Int32) (8 : Int32)) G1 (5 : Int32)) G1 (1 : Int32) (9 : Int32)), .int (f_X6_readNumber_28 (g_X6_expect_28 (g_X6_readNumber_28 (g_X6_expect_28 I1 G1 (3 : Int32)) G1 (1 : Int32) (8 : Int32)) G1 (4 : Int32)) G1 (1 : Int32) (8 : Int32)), .int (f_X6_readNumber_28 (g_X6_expect_28 I1 G1 (3 : Int32)) G1 (1 : Int32) (8 : Int32)), .ref 29], (g_X6_readNumber_28 (g_X6_expect_28 (g_X6_readNumber_28 (g_X6_expect_28 (g_X6_readNumber_28 (g_X6_expect_28 (g_X6_readNumber_28 (g_X6_expect_28 I1 G1 (3 : Int32)) G1 (1 : Int32) (8 : Int32)) G1 (4 : Int32)) G1 (1 : Int32) (8 : Int32)) G1 (5 : Int32)) G1 (1 : Int32) (9 : Int32)) G1 (6 : Int32)) G1 (0 : Int32) (999 : Int32)), G1, (gP rd))
  refine am_callV hX hi (M := mX5_addOctave) (idx := 126) (d' := 2) (b := 29) (ci := 3) (As := [.int (f_X6_readNumber_28 (g_X6_expect_28 I1 G1 (3 : Int32)) G1 (1 : Int32) (8 : Int32)), .int (f_X6_readNumber_28 (g_X6_expect_28 (g_X6_readNumber_28 (g_X6_expect_28 I1 G1 (3 : Int32)) G1 (1 : Int32) (8 : Int32)) G1 (4 : Int32)) G1 (1 : Int32) (8 : Int32)), .int (f_X6_readNumber_28 (g_X6_expect_28 (g_X6_readNumber_28 (g_X6_expect_28 (g_X6_readNumber_28 (g_X6_expect_28 I1 G1 (3 : Int32)) G1 (1 : Int32) (8 : Int32)) G1 (4 : Int32)) G1 (1 : Int32) (8 : Int32)) G1 (5 : Int32)) G1 (1 : Int32) (9 : Int32)), .int (f_X6_readNumber_28 (g_X6_expect_28 (g_X6_readNumber_28 (g_X6_expect_28 (g_X6_readNumber_28 (g_X6_expect_28 (g_X6_readNumber_28 (g_X6_expect_28 I1 G1 (3 : Int32)) G1 (1 : Int32) (8 : Int32)) G1 (4 : Int32)) G1 (1 : Int32) (8 : Int32)) G1 (5 : Int32)) G1 (1 : Int32) (9 : Int32)) G1 (6 : Int32)) G1 (0 : Int32) (999 : Int32))]) (rest := []) mkX5_addOctave miX5_addOctave mvX5_addOctave (by decide +kernel) (by decide +kernel) rfl (by decide +kernel) rfl ⟨by omega, by decide, Nat.le_of_ble_eq_true rfl⟩ rfl (c_X5_addOctave_29 _ (g_X6_readNumber_28 (g_X6_expect_28 (g_X6_readNumber_28 (g_X6_expect_28 (g_X6_readNumber_28 (g_X6_expect_28 (g_X6_readNumber_28 (g_X6_expect_28 I1 G1 (3 : Int32)) G1 (1 : Int32) (8 : Int32)) G1 (4 : Int32)) G1 (1 : Int32) (8 : Int32)) G1 (5 : Int32)) G1 (1 : Int32) (9 : Int32)) G1 (6 : Int32)) G1 (0 : Int32) (999 : Int32)) G1 (f_X6_readNumber_28 (g_X6_expect_28 I1 G1 (3 : Int32)) G1 (1 : Int32) (8 : Int32)) (f_X6_readNumber_28 (g_X6_expect_28 (g_X6_readNumber_28 (g_X6_expect_28 I1 G1 (3 : Int32)) G1 (1 : Int32) (8 : Int32)) G1 (4 : Int32)) G1 (1 : Int32) (8 : Int32)) (f_X6_readNumber_28 (g_X6_expect_28 (g_X6_readNumber_28 (g_X6_expect_28 (g_X6_readNumber_28 (g_X6_expect_28 I1 G1 (3 : Int32)) G1 (1 : Int32) (8 : Int32)) G1 (4 : Int32)) G1 (1 : Int32) (8 : Int32)) G1 (5 : Int32)) G1 (1 : Int32) (9 : Int32)) (f_X6_readNumber_28 (g_X6_expect_28 (g_X6_readNumber_28 (g_X6_expect_28 (g_X6_readNumber_28 (g_X6_expect_28 (g_X6_readNumber_28 (g_X6_expect_28 I1 G1 (3 : Int32)) G1 (1 : Int32) (8 : Int32)) G1 (4 : Int32)) G1 (1 : Int32) (8 : Int32)) G1 (5 : Int32)) G1 (1 : Int32) (9 : Int32)) G1 (6 : Int32)) G1 (0 : Int32) (999 : Int32))) ?_
  rintro r9 I9 G9 P9 ⟨e0, e1, e2, e3⟩
  rw [e0, e1, e2, e3]
  show am_V X 0 0 _ _ ad (75, [(0, .ref 28), (1, .int (f_X6_readNumber_28 (g_X6_expect_28 I1 G1 (3 : Int32)) G1 (1 : Int32) (8 : Int32))), (2, .int (f_X6_readNumber_28 (g_X6_expect_28 (g_X6_readNumber_28 (g_X6_expect_28 I1 G1 (3 : Int32)) G1 (1 : Int32) (8 : Int32)) G1 (4 : Int32)) G1 (1 : Int32) (8 : Int32))), (3, .int (f_X6_readNumber_28 (g_X6_expect_28 (g_X6_readNumber_28 (g_X6_expect_28 (g_X6_readNumber_28 (g_X6_expect_28 I1 G1 (3 : Int32)) G1 (1 : Int32) (8 : Int32)) G1 (4 : Int32)) G1 (1 : Int32) (8 : Int32)) G1 (5 : Int32)) G1 (1 : Int32) (9 : Int32)))], [], (g_X5_addOctave_29 (g_X6_readNumber_28 (g_X6_expect_28 (g_X6_readNumber_28 (g_X6_expect_28 (g_X6_readNumber_28 (g_X6_expect_28 (g_X6_readNumber_28 (g_X6_expect_28 I1 G1 (3 : Int32)) G1 (1 : Int32) (8 : Int32)) G1 (4 : Int32)) G1 (1 : Int32) (8 : Int32)) G1 (5 : Int32)) G1 (1 : Int32) (9 : Int32)) G1 (6 : Int32)) G1 (0 : Int32) (999 : Int32)) G1 (f_X6_readNumber_28 (g_X6_expect_28 I1 G1 (3 : Int32)) G1 (1 : Int32) (8 : Int32)) (f_X6_readNumber_28 (g_X6_expect_28 (g_X6_readNumber_28 (g_X6_expect_28 I1 G1 (3 : Int32)) G1 (1 : Int32) (8 : Int32)) G1 (4 : Int32)) G1 (1 : Int32) (8 : Int32)) (f_X6_readNumber_28 (g_X6_expect_28 (g_X6_readNumber_28 (g_X6_expect_28 (g_X6_readNumber_28 (g_X6_expect_28 I1 G1 (3 : Int32)) G1 (1 : Int32) (8 : Int32)) G1 (4 : Int32)) G1 (1 : Int32) (8 : Int32)) G1 (5 : Int32)) G1 (1 : Int32) (9 : Int32)) (f_X6_readNumber_28 (g_X6_expect_28 (g_X6_readNumber_28 (g_X6_expect_28 (g_X6_readNumber_28 (g_X6_expect_28 (g_X6_readNumber_28 (g_X6_expect_28 I1 G1 (3 : Int32)) G1 (1 : Int32) (8 : Int32)) G1 (4 : Int32)) G1 (1 : Int32) (8 : Int32)) G1 (5 : Int32)) G1 (1 : Int32) (9 : Int32)) G1 (6 : Int32)) G1 (0 : Int32) (999 : Int32))), G1, (gP rd))
  cases h
  refine am_vret hX hi rfl (by decide +kernel) ?_
  exact ⟨rfl, rfl, rfl, rfl⟩
noncomputable def R_X6_readComb_28 (I : am_I) (G : am_G)  : Option (Unit × am_I × am_G) := rb (R_X6_readNewName_28_49 (g_X6_advance_28 I G ) G ) (fun r1 I1 G1 => some ((), (g_X5_addComb_29 (g_X6_readNumber_28 (g_X6_expect_28 (g_X6_readNumber_28 (g_X6_expect_28 (g_X6_readWay_28 I1 G1 ) G1 (8 : Int32)) G1 (1 : Int32) (8 : Int32)) G1 (9 : Int32)) G1 (0 : Int32) (16 : Int32)) G1 (f_X6_readWay_28 I1 G1 ) (f_X6_readNumber_28 (g_X6_expect_28 (g_X6_readWay_28 I1 G1 ) G1 (8 : Int32)) G1 (1 : Int32) (8 : Int32)) (f_X6_readNumber_28 (g_X6_expect_28 (g_X6_readNumber_28 (g_X6_expect_28 (g_X6_readWay_28 I1 G1 ) G1 (8 : Int32)) G1 (1 : Int32) (8 : Int32)) G1 (9 : Int32)) G1 (0 : Int32) (16 : Int32))), G1))
set_option maxRecDepth 20000 in
set_option maxHeartbeats 4000000 in
theorem c_X6_readComb_28 (rd : Nat) (I : am_I) (G : am_G)  {out : Unit × am_I × am_G} (h : R_X6_readComb_28 I G  = some out) : am_Ct mX6_readComb 4 gS [.ref 28] I G (gP rd) (pV out.2.1 out.2.2 (gP rd)) := by
  refine am_ofF (by decide +kernel) rfl (by decide) (by omega) (Nat.le_of_ble_eq_true rfl) (fun X ad hX hi => ?_)
  have hi : am_info X 4 cX6_readComb 3 false none 4 := hi
  show am_V X 0 0 _ _ ad (0, [(0, .ref 28)], [], I, G, (gP rd))
  unfold R_X6_readComb_28 at h
  refine am_blk 0 [(.aload_n 0, 1, 0, 0, .null)] (1, [(0, .ref 28)], [.ref 28], I, G, (gP rd)) (True) hX hi (by decide +kernel) rfl trivial ?_
  refine am_callV hX hi (M := mX6_advance) (idx := 100) (d' := 2) (b := 28) (ci := 4) (As := []) (rest := []) mkX6_advance miX6_advance mvX6_advance (by decide +kernel) (by decide +kernel) rfl (by decide +kernel) rfl ⟨by omega, by decide, Nat.le_of_ble_eq_true rfl⟩ rfl (c_X6_advance_28 _ I G ) ?_
  rintro r9 I9 G9 P9 ⟨e0, e1, e2, e3⟩
  rw [e0, e1, e2, e3]
  show am_V X 0 0 _ _ ad (4, [(0, .ref 28)], [], (g_X6_advance_28 I G ), G, (gP rd))
  refine am_blk 4 [(.aload_n 0, 1, 0, 0, .null), (.aload_n 0, 1, 0, 0, .null), (.getfield 27, 3, 4, 3, .null)] (9, [(0, .ref 28)], [.ref 49, .ref 28], (g_X6_advance_28 I G ), G, (gP rd)) (True) hX hi (by decide +kernel) rfl trivial ?_
  obtain ⟨r1, I1, G1, hc, h⟩ := rb_some h
  refine am_callV hX hi (M := mX6_readNewName) (idx := 122) (d' := 3) (b := 28) (ci := 4) (As := [.ref 49]) (rest := []) mkX6_readNewName miX6_readNewName mvX6_readNewName (by decide +kernel) (by decide +kernel) rfl (by decide +kernel) rfl ⟨by omega, by decide, Nat.le_of_ble_eq_true rfl⟩ rfl (c_X6_readNewName_28_49 _ (g_X6_advance_28 I G ) G  hc) ?_
  rintro r9 I9 G9 P9 ⟨e0, e1, e2, e3⟩
  rw [e0, e1, e2, e3]
  show am_V X 0 0 _ _ ad (12, [(0, .ref 28)], [], I1, G1, (gP rd))
  refine am_blk 12 [(.aload_n 0, 1, 0, 0, .null)] (13, [(0, .ref 28)], [.ref 28], I1, G1, (gP rd)) (True) hX hi (by decide +kernel) rfl trivial ?_
  refine am_callV hX hi (M := mX6_readWay) (idx := 130) (d' := 3) (b := 28) (ci := 4) (As := []) (rest := []) mkX6_readWay miX6_readWay mvX6_readWay (by decide +kernel) (by decide +kernel) rfl (by decide +kernel) rfl ⟨by omega, by decide, Nat.le_of_ble_eq_true rfl⟩ rfl (c_X6_readWay_28 _ I1 G1 ) ?_
  rintro r9 I9 G9 P9 ⟨e0, e1, e2, e3⟩
  rw [e0, e1, e2, e3]
  show am_V X 0 0 _ _ ad (16, [(0, .ref 28)], [.int (f_X6_readWay_28 I1 G1 )], (g_X6_readWay_28 I1 G1 ), G1, (gP rd))
  refine am_blk 16 [(.istore_n 1, 1, 1, 0, .null), (.aload_n 0, 1, 0, 0, .null), (.bipush (8), 2, 0, 0, .int (8 : Int32))] (20, [(0, .ref 28), (1, .int (f_X6_readWay_28 I1 G1 ))], [.int (8 : Int32), .ref 28], (g_X6_readWay_28 I1 G1 ), G1, (gP rd)) (True) hX hi (by decide +kernel) rfl trivial ?_
  refine am_callV hX hi (M := mX6_expect) (idx := 109) (d' := 3) (b := 28) (ci := 4) (As := [.int (8 : Int32)]) (rest := []) mkX6_expect miX6_expect mvX6_expect (by decide +kernel) (by decide +kernel) rfl (by decide +kernel) rfl ⟨by omega, by decide, Nat.le_of_ble_eq_true rfl⟩ rfl (c_X6_expect_28 _ (g_X6_readWay_28 I1 G1 ) G1 (8 : Int32)) ?_
  rintro r9 I9 G9 P9 ⟨e0, e1, e2, e3⟩
  rw [e0, e1, e2, e3]
  show am_V X 0 0 _ _ ad (23, [(0, .ref 28), (1, .int (f_X6_readWay_28 I1 G1 ))], [], (g_X6_expect_28 (g_X6_readWay_28 I1 G1 ) G1 (8 : Int32)), G1, (gP rd))
  refine am_blk 23 [(.aload_n 0, 1, 0, 0, .null), (.iconst (1), 1, 0, 0, .int (1 : Int32)), (.bipush (8), 2, 0, 0, .int (8 : Int32))] (27, [(0, .ref 28), (1, .int (f_X6_readWay_28 I1 G1 ))], [.int (8 : Int32), .int (1 : Int32), .ref 28], (g_X6_expect_28 (g_X6_readWay_28 I1 G1 ) G1 (8 : Int32)), G1, (gP rd)) (True) hX hi (by decide +kernel) rfl trivial ?_
  refine am_callV hX hi (M := mX6_readNumber) (idx := 112) (d' := 3) (b := 28) (ci := 4) (As := [.int (1 : Int32), .int (8 : Int32)]) (rest := []) mkX6_readNumber miX6_readNumber mvX6_readNumber (by decide +kernel) (by decide +kernel) rfl (by decide +kernel) rfl ⟨by omega, by decide, Nat.le_of_ble_eq_true rfl⟩ rfl (c_X6_readNumber_28 _ (g_X6_expect_28 (g_X6_readWay_28 I1 G1 ) G1 (8 : Int32)) G1 (1 : Int32) (8 : Int32)) ?_
  rintro r9 I9 G9 P9 ⟨e0, e1, e2, e3⟩
  rw [e0, e1, e2, e3]
  show am_V X 0 0 _ _ ad (30, [(0, .ref 28), (1, .int (f_X6_readWay_28 I1 G1 ))], [.int (f_X6_readNumber_28 (g_X6_expect_28 (g_X6_readWay_28 I1 G1 ) G1 (8 : Int32)) G1 (1 : Int32) (8 : Int32))], (g_X6_readNumber_28 (g_X6_expect_28 (g_X6_readWay_28 I1 G1 ) G1 (8 : Int32)) G1 (1 : Int32) (8 : Int32)), G1, (gP rd))
  refine am_blk 30 [(.istore_n 2, 1, 2, 0, .null), (.aload_n 0, 1, 0, 0, .null), (.bipush (9), 2, 0, 0, .int (9 : Int32))] (34, [(0, .ref 28), (1, .int (f_X6_readWay_28 I1 G1 )), (2, .int (f_X6_readNumber_28 (g_X6_expect_28 (g_X6_readWay_28 I1 G1 ) G1 (8 : Int32)) G1 (1 : Int32) (8 : Int32)))], [.int (9 : Int32), .ref 28], (g_X6_readNumber_28 (g_X6_expect_28 (g_X6_readWay_28 I1 G1 ) G1 (8 : Int32)) G1 (1 : Int32) (8 : Int32)), G1, (gP rd)) (True) hX hi (by decide +kernel) rfl trivial ?_
  refine am_callV hX hi (M := mX6_expect) (idx := 109) (d' := 3) (b := 28) (ci := 4) (As := [.int (9 : Int32)]) (rest := []) mkX6_expect miX6_expect mvX6_expect (by decide +kernel) (by decide +kernel) rfl (by decide +kernel) rfl ⟨by omega, by decide, Nat.le_of_ble_eq_true rfl⟩ rfl (c_X6_expect_28 _ (g_X6_readNumber_28 (g_X6_expect_28 (g_X6_readWay_28 I1 G1 ) G1 (8 : Int32)) G1 (1 : Int32) (8 : Int32)) G1 (9 : Int32)) ?_
  rintro r9 I9 G9 P9 ⟨e0, e1, e2, e3⟩
  rw [e0, e1, e2, e3]
  show am_V X 0 0 _ _ ad (37, [(0, .ref 28), (1, .int (f_X6_readWay_28 I1 G1 )), (2, .int (f_X6_readNumber_28 (g_X6_expect_28 (g_X6_readWay_28 I1 G1 ) G1 (8 : Int32)) G1 (1 : Int32) (8 : Int32)))], [], (g_X6_expect_28 (g_X6_readNumber_28 (g_X6_expect_28 (g_X6_readWay_28 I1 G1 ) G1 (8 : Int32)) G1 (1 : Int32) (8 : Int32)) G1 (9 : Int32)), G1, (gP rd))
  refine am_blk 37 [(.aload_n 0, 1, 0, 0, .null), (.getfield 12, 3, 4, 1, .null), (.iload_n 1, 1, 1, 0, .null), (.iload_n 2, 1, 2, 0, .null), (.aload_n 0, 1, 0, 0, .null), (.iconst (0), 1, 0, 0, .int (0 : Int32)), (.bipush (16), 2, 0, 0, .int (16 : Int32))] (47, [(0, .ref 28), (1, .int (f_X6_readWay_28 I1 G1 )), (2, .int (f_X6_readNumber_28 (g_X6_expect_28 (g_X6_readWay_28 I1 G1 ) G1 (8 : Int32)) G1 (1 : Int32) (8 : Int32)))], [.int (16 : Int32), .int (0 : Int32), .ref 28, .int (f_X6_readNumber_28 (g_X6_expect_28 (g_X6_readWay_28 I1 G1 ) G1 (8 : Int32)) G1 (1 : Int32) (8 : Int32)), .int (f_X6_readWay_28 I1 G1 ), .ref 29], (g_X6_expect_28 (g_X6_readNumber_28 (g_X6_expect_28 (g_X6_readWay_28 I1 G1 ) G1 (8 : Int32)) G1 (1 : Int32) (8 : Int32)) G1 (9 : Int32)), G1, (gP rd)) (True) hX hi (by decide +kernel) rfl trivial ?_
  refine am_callV hX hi (M := mX6_readNumber) (idx := 112) (d' := 3) (b := 28) (ci := 4) (As := [.int (0 : Int32), .int (16 : Int32)]) (rest := [.int (f_X6_readNumber_28 (g_X6_expect_28 (g_X6_readWay_28 I1 G1 ) G1 (8 : Int32)) G1 (1 : Int32) (8 : Int32)), .int (f_X6_readWay_28 I1 G1 ), .ref 29]) mkX6_readNumber miX6_readNumber mvX6_readNumber (by decide +kernel) (by decide +kernel) rfl (by decide +kernel) rfl ⟨by omega, by decide, Nat.le_of_ble_eq_true rfl⟩ rfl (c_X6_readNumber_28 _ (g_X6_expect_28 (g_X6_readNumber_28 (g_X6_expect_28 (g_X6_readWay_28 I1 G1 ) G1 (8 : Int32)) G1 (1 : Int32) (8 : Int32)) G1 (9 : Int32)) G1 (0 : Int32) (16 : Int32)) ?_
  rintro r9 I9 G9 P9 ⟨e0, e1, e2, e3⟩
  rw [e0, e1, e2, e3]
  show am_V X 0 0 _ _ ad (50, [(0, .ref 28), (1, .int (f_X6_readWay_28 I1 G1 )), (2, .int (f_X6_readNumber_28 (g_X6_expect_28 (g_X6_readWay_28 I1 G1 ) G1 (8 : Int32)) G1 (1 : Int32) (8 : Int32)))], [.int (f_X6_readNumber_28 (g_X6_expect_28 (g_X6_readNumber_28 (g_X6_expect_28 (g_X6_readWay_28 I1 G1 ) G1 (8 : Int32)) G1 (1 : Int32) (8 : Int32)) G1 (9 : Int32)) G1 (0 : Int32) (16 : Int32)), .int (f_X6_readNumber_28 (g_X6_expect_28 (g_X6_readWay_28 I1 G1 ) G1 (8 : Int32)) G1 (1 : Int32) (8 : Int32)), .int (f_X6_readWay_28 I1 G1 ), .ref 29], (g_X6_readNumber_28 (g_X6_expect_28 (g_X6_readNumber_28 (g_X6_expect_28 (g_X6_readWay_28 I1 G1 ) G1 (8 : Int32)) G1 (1 : Int32) (8 : Int32)) G1 (9 : Int32)) G1 (0 : Int32) (16 : Int32)), G1, (gP rd))
  refine am_callV hX hi (M := mX5_addComb) (idx := 134) (d' := 2) (b := 29) (ci := 3) (As := [.int (f_X6_readWay_28 I1 G1 ), .int (f_X6_readNumber_28 (g_X6_expect_28 (g_X6_readWay_28 I1 G1 ) G1 (8 : Int32)) G1 (1 : Int32) (8 : Int32)), .int (f_X6_readNumber_28 (g_X6_expect_28 (g_X6_readNumber_28 (g_X6_expect_28 (g_X6_readWay_28 I1 G1 ) G1 (8 : Int32)) G1 (1 : Int32) (8 : Int32)) G1 (9 : Int32)) G1 (0 : Int32) (16 : Int32))]) (rest := []) mkX5_addComb miX5_addComb mvX5_addComb (by decide +kernel) (by decide +kernel) rfl (by decide +kernel) rfl ⟨by omega, by decide, Nat.le_of_ble_eq_true rfl⟩ rfl (c_X5_addComb_29 _ (g_X6_readNumber_28 (g_X6_expect_28 (g_X6_readNumber_28 (g_X6_expect_28 (g_X6_readWay_28 I1 G1 ) G1 (8 : Int32)) G1 (1 : Int32) (8 : Int32)) G1 (9 : Int32)) G1 (0 : Int32) (16 : Int32)) G1 (f_X6_readWay_28 I1 G1 ) (f_X6_readNumber_28 (g_X6_expect_28 (g_X6_readWay_28 I1 G1 ) G1 (8 : Int32)) G1 (1 : Int32) (8 : Int32)) (f_X6_readNumber_28 (g_X6_expect_28 (g_X6_readNumber_28 (g_X6_expect_28 (g_X6_readWay_28 I1 G1 ) G1 (8 : Int32)) G1 (1 : Int32) (8 : Int32)) G1 (9 : Int32)) G1 (0 : Int32) (16 : Int32))) ?_
  rintro r9 I9 G9 P9 ⟨e0, e1, e2, e3⟩
  rw [e0, e1, e2, e3]
  show am_V X 0 0 _ _ ad (53, [(0, .ref 28), (1, .int (f_X6_readWay_28 I1 G1 )), (2, .int (f_X6_readNumber_28 (g_X6_expect_28 (g_X6_readWay_28 I1 G1 ) G1 (8 : Int32)) G1 (1 : Int32) (8 : Int32)))], [], (g_X5_addComb_29 (g_X6_readNumber_28 (g_X6_expect_28 (g_X6_readNumber_28 (g_X6_expect_28 (g_X6_readWay_28 I1 G1 ) G1 (8 : Int32)) G1 (1 : Int32) (8 : Int32)) G1 (9 : Int32)) G1 (0 : Int32) (16 : Int32)) G1 (f_X6_readWay_28 I1 G1 ) (f_X6_readNumber_28 (g_X6_expect_28 (g_X6_readWay_28 I1 G1 ) G1 (8 : Int32)) G1 (1 : Int32) (8 : Int32)) (f_X6_readNumber_28 (g_X6_expect_28 (g_X6_readNumber_28 (g_X6_expect_28 (g_X6_readWay_28 I1 G1 ) G1 (8 : Int32)) G1 (1 : Int32) (8 : Int32)) G1 (9 : Int32)) G1 (0 : Int32) (16 : Int32))), G1, (gP rd))
  cases h
  refine am_vret hX hi rfl (by decide +kernel) ?_
  exact ⟨rfl, rfl, rfl, rfl⟩
noncomputable def R_X6_readInk_28 (I : am_I) (G : am_G)  : Option (Unit × am_I × am_G) := rb (R_X6_readNewName_28_51 (g_X6_advance_28 I G ) G ) (fun r1 I1 G1 => some ((), (g_X5_addInk_29 (g_X6_readNumber_28 (g_X6_expect_28 I1 G1 (11 : Int32)) G1 (f_X5_lowestNextLevel_29 (g_X6_expect_28 I1 G1 (11 : Int32)) G1 ) (999 : Int32)) G1 (f_X6_readNumber_28 (g_X6_expect_28 I1 G1 (11 : Int32)) G1 (f_X5_lowestNextLevel_29 (g_X6_expect_28 I1 G1 (11 : Int32)) G1 ) (999 : Int32))), G1))
set_option maxRecDepth 20000 in
set_option maxHeartbeats 4000000 in
theorem c_X6_readInk_28 (rd : Nat) (I : am_I) (G : am_G)  {out : Unit × am_I × am_G} (h : R_X6_readInk_28 I G  = some out) : am_Ct mX6_readInk 4 gS [.ref 28] I G (gP rd) (pV out.2.1 out.2.2 (gP rd)) := by
  refine am_ofF (by decide +kernel) rfl (by decide) (by omega) (Nat.le_of_ble_eq_true rfl) (fun X ad hX hi => ?_)
  have hi : am_info X 4 cX6_readInk 1 false none 4 := hi
  show am_V X 0 0 _ _ ad (0, [(0, .ref 28)], [], I, G, (gP rd))
  unfold R_X6_readInk_28 at h
  refine am_blk 0 [(.aload_n 0, 1, 0, 0, .null)] (1, [(0, .ref 28)], [.ref 28], I, G, (gP rd)) (True) hX hi (by decide +kernel) rfl trivial ?_
  refine am_callV hX hi (M := mX6_advance) (idx := 100) (d' := 2) (b := 28) (ci := 4) (As := []) (rest := []) mkX6_advance miX6_advance mvX6_advance (by decide +kernel) (by decide +kernel) rfl (by decide +kernel) rfl ⟨by omega, by decide, Nat.le_of_ble_eq_true rfl⟩ rfl (c_X6_advance_28 _ I G ) ?_
  rintro r9 I9 G9 P9 ⟨e0, e1, e2, e3⟩
  rw [e0, e1, e2, e3]
  show am_V X 0 0 _ _ ad (4, [(0, .ref 28)], [], (g_X6_advance_28 I G ), G, (gP rd))
  refine am_blk 4 [(.aload_n 0, 1, 0, 0, .null), (.aload_n 0, 1, 0, 0, .null), (.getfield 30, 3, 4, 4, .null)] (9, [(0, .ref 28)], [.ref 51, .ref 28], (g_X6_advance_28 I G ), G, (gP rd)) (True) hX hi (by decide +kernel) rfl trivial ?_
  obtain ⟨r1, I1, G1, hc, h⟩ := rb_some h
  refine am_callV hX hi (M := mX6_readNewName) (idx := 122) (d' := 3) (b := 28) (ci := 4) (As := [.ref 51]) (rest := []) mkX6_readNewName miX6_readNewName mvX6_readNewName (by decide +kernel) (by decide +kernel) rfl (by decide +kernel) rfl ⟨by omega, by decide, Nat.le_of_ble_eq_true rfl⟩ rfl (c_X6_readNewName_28_51 _ (g_X6_advance_28 I G ) G  hc) ?_
  rintro r9 I9 G9 P9 ⟨e0, e1, e2, e3⟩
  rw [e0, e1, e2, e3]
  show am_V X 0 0 _ _ ad (12, [(0, .ref 28)], [], I1, G1, (gP rd))
  refine am_blk 12 [(.aload_n 0, 1, 0, 0, .null), (.bipush (11), 2, 0, 0, .int (11 : Int32))] (15, [(0, .ref 28)], [.int (11 : Int32), .ref 28], I1, G1, (gP rd)) (True) hX hi (by decide +kernel) rfl trivial ?_
  refine am_callV hX hi (M := mX6_expect) (idx := 109) (d' := 3) (b := 28) (ci := 4) (As := [.int (11 : Int32)]) (rest := []) mkX6_expect miX6_expect mvX6_expect (by decide +kernel) (by decide +kernel) rfl (by decide +kernel) rfl ⟨by omega, by decide, Nat.le_of_ble_eq_true rfl⟩ rfl (c_X6_expect_28 _ I1 G1 (11 : Int32)) ?_
  rintro r9 I9 G9 P9 ⟨e0, e1, e2, e3⟩
  rw [e0, e1, e2, e3]
  show am_V X 0 0 _ _ ad (18, [(0, .ref 28)], [], (g_X6_expect_28 I1 G1 (11 : Int32)), G1, (gP rd))
  refine am_blk 18 [(.aload_n 0, 1, 0, 0, .null), (.getfield 12, 3, 4, 1, .null), (.aload_n 0, 1, 0, 0, .null), (.aload_n 0, 1, 0, 0, .null), (.getfield 12, 3, 4, 1, .null)] (27, [(0, .ref 28)], [.ref 29, .ref 28, .ref 29], (g_X6_expect_28 I1 G1 (11 : Int32)), G1, (gP rd)) (True) hX hi (by decide +kernel) rfl trivial ?_
  refine am_callV hX hi (M := mX5_lowestNextLevel) (idx := 138) (d' := 2) (b := 29) (ci := 3) (As := []) (rest := [.ref 28, .ref 29]) mkX5_lowestNextLevel miX5_lowestNextLevel mvX5_lowestNextLevel (by decide +kernel) (by decide +kernel) rfl (by decide +kernel) rfl ⟨by omega, by decide, Nat.le_of_ble_eq_true rfl⟩ rfl (c_X5_lowestNextLevel_29 _ (g_X6_expect_28 I1 G1 (11 : Int32)) G1 ) ?_
  rintro r9 I9 G9 P9 ⟨e0, e1, e2, e3⟩
  rw [e0, e1, e2, e3]
  show am_V X 0 0 _ _ ad (30, [(0, .ref 28)], [.int (f_X5_lowestNextLevel_29 (g_X6_expect_28 I1 G1 (11 : Int32)) G1 ), .ref 28, .ref 29], (g_X6_expect_28 I1 G1 (11 : Int32)), G1, (gP rd))
  refine am_blk 30 [(.sipush (999), 3, 0, 0, .int (999 : Int32))] (33, [(0, .ref 28)], [.int (999 : Int32), .int (f_X5_lowestNextLevel_29 (g_X6_expect_28 I1 G1 (11 : Int32)) G1 ), .ref 28, .ref 29], (g_X6_expect_28 I1 G1 (11 : Int32)), G1, (gP rd)) (True) hX hi (by decide +kernel) rfl trivial ?_
  refine am_callV hX hi (M := mX6_readNumber) (idx := 112) (d' := 3) (b := 28) (ci := 4) (As := [.int (f_X5_lowestNextLevel_29 (g_X6_expect_28 I1 G1 (11 : Int32)) G1 ), .int (999 : Int32)]) (rest := [.ref 29]) mkX6_readNumber miX6_readNumber mvX6_readNumber (by decide +kernel) (by decide +kernel) rfl (by decide +kernel) rfl ⟨by omega, by decide, Nat.le_of_ble_eq_true rfl⟩ rfl (c_X6_readNumber_28 _ (g_X6_expect_28 I1 G1 (11 : Int32)) G1 (f_X5_lowestNextLevel_29 (g_X6_expect_28 I1 G1 (11 : Int32)) G1 ) (999 : Int32)) ?_
  rintro r9 I9 G9 P9 ⟨e0, e1, e2, e3⟩
  rw [e0, e1, e2, e3]
  show am_V X 0 0 _ _ ad (36, [(0, .ref 28)], [.int (f_X6_readNumber_28 (g_X6_expect_28 I1 G1 (11 : Int32)) G1 (f_X5_lowestNextLevel_29 (g_X6_expect_28 I1 G1 (11 : Int32)) G1 ) (999 : Int32)), .ref 29], (g_X6_readNumber_28 (g_X6_expect_28 I1 G1 (11 : Int32)) G1 (f_X5_lowestNextLevel_29 (g_X6_expect_28 I1 G1 (11 : Int32)) G1 ) (999 : Int32)), G1, (gP rd))
  refine am_callV hX hi (M := mX5_addInk) (idx := 141) (d' := 2) (b := 29) (ci := 3) (As := [.int (f_X6_readNumber_28 (g_X6_expect_28 I1 G1 (11 : Int32)) G1 (f_X5_lowestNextLevel_29 (g_X6_expect_28 I1 G1 (11 : Int32)) G1 ) (999 : Int32))]) (rest := []) mkX5_addInk miX5_addInk mvX5_addInk (by decide +kernel) (by decide +kernel) rfl (by decide +kernel) rfl ⟨by omega, by decide, Nat.le_of_ble_eq_true rfl⟩ rfl (c_X5_addInk_29 _ (g_X6_readNumber_28 (g_X6_expect_28 I1 G1 (11 : Int32)) G1 (f_X5_lowestNextLevel_29 (g_X6_expect_28 I1 G1 (11 : Int32)) G1 ) (999 : Int32)) G1 (f_X6_readNumber_28 (g_X6_expect_28 I1 G1 (11 : Int32)) G1 (f_X5_lowestNextLevel_29 (g_X6_expect_28 I1 G1 (11 : Int32)) G1 ) (999 : Int32))) ?_
  rintro r9 I9 G9 P9 ⟨e0, e1, e2, e3⟩
  rw [e0, e1, e2, e3]
  show am_V X 0 0 _ _ ad (39, [(0, .ref 28)], [], (g_X5_addInk_29 (g_X6_readNumber_28 (g_X6_expect_28 I1 G1 (11 : Int32)) G1 (f_X5_lowestNextLevel_29 (g_X6_expect_28 I1 G1 (11 : Int32)) G1 ) (999 : Int32)) G1 (f_X6_readNumber_28 (g_X6_expect_28 I1 G1 (11 : Int32)) G1 (f_X5_lowestNextLevel_29 (g_X6_expect_28 I1 G1 (11 : Int32)) G1 ) (999 : Int32))), G1, (gP rd))
  cases h
  refine am_vret hX hi rfl (by decide +kernel) ?_
  exact ⟨rfl, rfl, rfl, rfl⟩
theorem am_pvo {out : Unit × am_I × am_G} {I : am_I} {G : am_G} {P : am_P} (h : ((), I, G) = out) : pV out.2.1 out.2.2 P none I G P := by subst h; exact ⟨rfl, rfl, rfl, rfl⟩
noncomputable def L_X6_readOrderHead_28 (n0 : Nat) (hd : Nat) (I : am_I) (G : am_G) (v1 : Int32) (v2 : Int32) : Option (Unit × am_I × am_G) := match n0 with
  | 0 => none
  | n + 1 => match hd with
    | 0 => (if (I 38 8) < (20 : Int32) then L_X6_readOrderHead_28 n 2 I G v1 0 else L_X6_readOrderHead_28 n 1 I G v1 0)
    | 1 => L_X6_readOrderHead_28 n 2 (g_X6_fault_28 I G (4 : Int32)) G v1 0
    | 2 => L_X6_readOrderHead_28 n 3 (g_X6_advance_28 I G ) G v1 0
    | 3 => (if v1 = (12 : Int32) then L_X6_readOrderHead_28 n 4 I G v1 0 else L_X6_readOrderHead_28 n 5 I G v1 0)
    | 4 => L_X6_readOrderHead_28 n 6 (g_X6_readWay_28 I G ) G v1 (f_X6_readWay_28 I G )
    | 5 => (if v1 = (9 : Int32) then rb (R_X6_readKnownName_28_49 I G ) (fun r602 I602 G602 => L_X6_readOrderHead_28 n 6 I602 G602 v1 r602) else rb (R_X6_readKnownName_28_47 I G ) (fun r601 I601 G601 => L_X6_readOrderHead_28 n 6 I601 G601 v1 r601))
    | 6 => (if v1 = (12 : Int32) then L_X6_readOrderHead_28 n 7 (g_X6_expect_28 I G (1 : Int32)) G v1 v2 else L_X6_readOrderHead_28 n 7 (g_X6_expect_28 I G (13 : Int32)) G v1 v2)
    | _ => some ((), (g_X3_begin_38 I G v1 v2), G)
theorem L_X6_readOrderHead_28_0 (n : Nat) (I : am_I) (G : am_G) (v1 : Int32) (v2 : Int32) : L_X6_readOrderHead_28 (n + 1) 0 I G v1 v2 = (if (I 38 8) < (20 : Int32) then L_X6_readOrderHead_28 n 2 I G v1 0 else L_X6_readOrderHead_28 n 1 I G v1 0) := rfl
theorem L_X6_readOrderHead_28_1 (n : Nat) (I : am_I) (G : am_G) (v1 : Int32) (v2 : Int32) : L_X6_readOrderHead_28 (n + 1) 1 I G v1 v2 = L_X6_readOrderHead_28 n 2 (g_X6_fault_28 I G (4 : Int32)) G v1 0 := rfl
theorem L_X6_readOrderHead_28_2 (n : Nat) (I : am_I) (G : am_G) (v1 : Int32) (v2 : Int32) : L_X6_readOrderHead_28 (n + 1) 2 I G v1 v2 = L_X6_readOrderHead_28 n 3 (g_X6_advance_28 I G ) G v1 0 := rfl
theorem L_X6_readOrderHead_28_3 (n : Nat) (I : am_I) (G : am_G) (v1 : Int32) (v2 : Int32) : L_X6_readOrderHead_28 (n + 1) 3 I G v1 v2 = (if v1 = (12 : Int32) then L_X6_readOrderHead_28 n 4 I G v1 0 else L_X6_readOrderHead_28 n 5 I G v1 0) := rfl
theorem L_X6_readOrderHead_28_4 (n : Nat) (I : am_I) (G : am_G) (v1 : Int32) (v2 : Int32) : L_X6_readOrderHead_28 (n + 1) 4 I G v1 v2 = L_X6_readOrderHead_28 n 6 (g_X6_readWay_28 I G ) G v1 (f_X6_readWay_28 I G ) := rfl
theorem L_X6_readOrderHead_28_5 (n : Nat) (I : am_I) (G : am_G) (v1 : Int32) (v2 : Int32) : L_X6_readOrderHead_28 (n + 1) 5 I G v1 v2 = (if v1 = (9 : Int32) then rb (R_X6_readKnownName_28_49 I G ) (fun r602 I602 G602 => L_X6_readOrderHead_28 n 6 I602 G602 v1 r602) else rb (R_X6_readKnownName_28_47 I G ) (fun r601 I601 G601 => L_X6_readOrderHead_28 n 6 I601 G601 v1 r601)) := rfl
theorem L_X6_readOrderHead_28_6 (n : Nat) (I : am_I) (G : am_G) (v1 : Int32) (v2 : Int32) : L_X6_readOrderHead_28 (n + 1) 6 I G v1 v2 = (if v1 = (12 : Int32) then L_X6_readOrderHead_28 n 7 (g_X6_expect_28 I G (1 : Int32)) G v1 v2 else L_X6_readOrderHead_28 n 7 (g_X6_expect_28 I G (13 : Int32)) G v1 v2) := rfl
theorem L_X6_readOrderHead_28_7 (n : Nat) (I : am_I) (G : am_G) (v1 : Int32) (v2 : Int32) : L_X6_readOrderHead_28 (n + 1) 7 I G v1 v2 = some ((), (g_X3_begin_38 I G v1 v2), G) := rfl
theorem L_X6_readOrderHead_28_z (h : Nat) (I : am_I) (G : am_G) (v1 : Int32) (v2 : Int32) : L_X6_readOrderHead_28 0 h I G v1 v2 = none := rfl
noncomputable def R_X6_readOrderHead_28 (I : am_I) (G : am_G)  : Option (Unit × am_I × am_G) := (if (I 28 6) = (9 : Int32) then L_X6_readOrderHead_28 FU 0 I G (I 28 6) 0 else (if (I 28 6) = (6 : Int32) then L_X6_readOrderHead_28 FU 0 I G (I 28 6) 0 else (if (I 28 6) = (12 : Int32) then L_X6_readOrderHead_28 FU 0 I G (I 28 6) 0 else some ((), (g_X6_refuse_28 I G ), G))))
set_option maxRecDepth 20000 in
set_option maxHeartbeats 4000000 in
theorem l_X6_readOrderHead_28 (rd : Nat) {X : am_X} {ad : Nat → Nat} (hX : am_okz X ad) (hi : am_info X 4 cX6_readOrderHead 3 false none 4) (n : Nat) : (∀ (I : am_I) (G : am_G) (v1 : Int32) (v2 : Int32) (out : Unit × am_I × am_G), L_X6_readOrderHead_28 n 0 I G v1 v2 = some out → am_V X 0 0 (am_Rt X gS ad (pV out.2.1 out.2.2 (gP rd))) gS ad (28, [(0, .ref 28), (1, .int v1)], [], I, G, (gP rd))) ∧ (∀ (I : am_I) (G : am_G) (v1 : Int32) (v2 : Int32) (out : Unit × am_I × am_G), L_X6_readOrderHead_28 n 1 I G v1 v2 = some out → am_V X 0 0 (am_Rt X gS ad (pV out.2.1 out.2.2 (gP rd))) gS ad (43, [(0, .ref 28), (1, .int v1)], [], I, G, (gP rd))) ∧ (∀ (I : am_I) (G : am_G) (v1 : Int32) (v2 : Int32) (out : Unit × am_I × am_G), L_X6_readOrderHead_28 n 2 I G v1 v2 = some out → am_V X 0 0 (am_Rt X gS ad (pV out.2.1 out.2.2 (gP rd))) gS ad (48, [(0, .ref 28), (1, .int v1)], [], I, G, (gP rd))) ∧ (∀ (I : am_I) (G : am_G) (v1 : Int32) (v2 : Int32) (out : Unit × am_I × am_G), L_X6_readOrderHead_28 n 3 I G v1 v2 = some out → am_V X 0 0 (am_Rt X gS ad (pV out.2.1 out.2.2 (gP rd))) gS ad (52, [(0, .ref 28), (1, .int v1)], [], I, G, (gP rd))) ∧ (∀ (I : am_I) (G : am_G) (v1 : Int32) (v2 : Int32) (out : Unit × am_I × am_G), L_X6_readOrderHead_28 n 4 I G v1 v2 = some out → am_V X 0 0 (am_Rt X gS ad (pV out.2.1 out.2.2 (gP rd))) gS ad (58, [(0, .ref 28), (1, .int v1)], [], I, G, (gP rd))) ∧ (∀ (I : am_I) (G : am_G) (v1 : Int32) (v2 : Int32) (out : Unit × am_I × am_G), L_X6_readOrderHead_28 n 5 I G v1 v2 = some out → am_V X 0 0 (am_Rt X gS ad (pV out.2.1 out.2.2 (gP rd))) gS ad (65, [(0, .ref 28), (1, .int v1)], [], I, G, (gP rd))) ∧ (∀ (I : am_I) (G : am_G) (v1 : Int32) (v2 : Int32) (out : Unit × am_I × am_G), L_X6_readOrderHead_28 n 6 I G v1 v2 = some out → am_V X 0 0 (am_Rt X gS ad (pV out.2.1 out.2.2 (gP rd))) gS ad (87, [(0, .ref 28), (1, .int v1), (2, .int v2)], [], I, G, (gP rd))) ∧ (∀ (I : am_I) (G : am_G) (v1 : Int32) (v2 : Int32) (out : Unit × am_I × am_G), L_X6_readOrderHead_28 n 7 I G v1 v2 = some out → am_V X 0 0 (am_Rt X gS ad (pV out.2.1 out.2.2 (gP rd))) gS ad (103, [(0, .ref 28), (1, .int v1), (2, .int v2)], [], I, G, (gP rd))) := by
  induction n with
  | zero => exact ⟨(fun I G v1 v2 out h => by rw [L_X6_readOrderHead_28_z] at h; cases h), (fun I G v1 v2 out h => by rw [L_X6_readOrderHead_28_z] at h; cases h), (fun I G v1 v2 out h => by rw [L_X6_readOrderHead_28_z] at h; cases h), (fun I G v1 v2 out h => by rw [L_X6_readOrderHead_28_z] at h; cases h), (fun I G v1 v2 out h => by rw [L_X6_readOrderHead_28_z] at h; cases h), (fun I G v1 v2 out h => by rw [L_X6_readOrderHead_28_z] at h; cases h), (fun I G v1 v2 out h => by rw [L_X6_readOrderHead_28_z] at h; cases h), (fun I G v1 v2 out h => by rw [L_X6_readOrderHead_28_z] at h; cases h)⟩
  | succ n ih =>
    refine ⟨?_, ?_, ?_, ?_, ?_, ?_, ?_, ?_⟩
    · intro I G v1 v2 out h
      rw [L_X6_readOrderHead_28_0] at h
      refine am_blk 28 [(.aload_n 0, 1, 0, 0, .null), (.getfield 12, 3, 4, 1, .null), (.getfield 91, 3, 3, 8, .null), (.getfield 144, 3, 1, 8, .null), (.bipush (20), 2, 0, 0, .int (20 : Int32))] (40, [(0, .ref 28), (1, .int v1)], [.int (20 : Int32), .int (I 38 8)], I, G, (gP rd)) (True) hX hi (by decide +kernel) rfl trivial ?_
      refine am_icmp_lt (tgt := 48) hX hi (off := (8)) (by decide +kernel) (by decide) (fun c40 => ?_) (fun c40 => ?_)
      · rw [if_pos c40] at h
        exact ih.2.2.1 _ _ _ _ _ h
      · rw [if_neg c40] at h
        exact ih.2.1 _ _ _ _ _ h
    · intro I G v1 v2 out h
      rw [L_X6_readOrderHead_28_1] at h
      refine am_blk 43 [(.aload_n 0, 1, 0, 0, .null), (.iconst (4), 1, 0, 0, .int (4 : Int32))] (45, [(0, .ref 28), (1, .int v1)], [.int (4 : Int32), .ref 28], I, G, (gP rd)) (True) hX hi (by decide +kernel) rfl trivial ?_
      refine am_callV hX hi (M := mX6_fault) (idx := 147) (d' := 2) (b := 28) (ci := 4) (As := [.int (4 : Int32)]) (rest := []) mkX6_fault miX6_fault mvX6_fault (by decide +kernel) (by decide +kernel) rfl (by decide +kernel) rfl ⟨by omega, by decide, Nat.le_of_ble_eq_true rfl⟩ rfl (c_X6_fault_28 _ I G (4 : Int32)) ?_
      rintro r9 I9 G9 P9 ⟨e0, e1, e2, e3⟩
      rw [e0, e1, e2, e3]
      show am_V X 0 0 _ _ ad (48, [(0, .ref 28), (1, .int v1)], [], (g_X6_fault_28 I G (4 : Int32)), G, (gP rd))
      exact ih.2.2.1 _ _ _ _ _ h
    · intro I G v1 v2 out h
      rw [L_X6_readOrderHead_28_2] at h
      refine am_blk 48 [(.aload_n 0, 1, 0, 0, .null)] (49, [(0, .ref 28), (1, .int v1)], [.ref 28], I, G, (gP rd)) (True) hX hi (by decide +kernel) rfl trivial ?_
      refine am_callV hX hi (M := mX6_advance) (idx := 100) (d' := 2) (b := 28) (ci := 4) (As := []) (rest := []) mkX6_advance miX6_advance mvX6_advance (by decide +kernel) (by decide +kernel) rfl (by decide +kernel) rfl ⟨by omega, by decide, Nat.le_of_ble_eq_true rfl⟩ rfl (c_X6_advance_28 _ I G ) ?_
      rintro r9 I9 G9 P9 ⟨e0, e1, e2, e3⟩
      rw [e0, e1, e2, e3]
      show am_V X 0 0 _ _ ad (52, [(0, .ref 28), (1, .int v1)], [], (g_X6_advance_28 I G ), G, (gP rd))
      exact ih.2.2.2.1 _ _ _ _ _ h
    · intro I G v1 v2 out h
      rw [L_X6_readOrderHead_28_3] at h
      refine am_blk 52 [(.iload_n 1, 1, 1, 0, .null), (.bipush (12), 2, 0, 0, .int (12 : Int32))] (55, [(0, .ref 28), (1, .int v1)], [.int (12 : Int32), .int v1], I, G, (gP rd)) (True) hX hi (by decide +kernel) rfl trivial ?_
      refine am_icmp_ne (tgt := 65) hX hi (off := (10)) (by decide +kernel) (by decide) (fun c55 => ?_) (fun c55 => ?_)
      · rw [if_neg c55] at h
        exact ih.2.2.2.2.2.1 _ _ _ _ _ h
      · rw [if_pos c55] at h
        exact ih.2.2.2.2.1 _ _ _ _ _ h
    · intro I G v1 v2 out h
      rw [L_X6_readOrderHead_28_4] at h
      refine am_blk 58 [(.aload_n 0, 1, 0, 0, .null)] (59, [(0, .ref 28), (1, .int v1)], [.ref 28], I, G, (gP rd)) (True) hX hi (by decide +kernel) rfl trivial ?_
      refine am_callV hX hi (M := mX6_readWay) (idx := 130) (d' := 3) (b := 28) (ci := 4) (As := []) (rest := []) mkX6_readWay miX6_readWay mvX6_readWay (by decide +kernel) (by decide +kernel) rfl (by decide +kernel) rfl ⟨by omega, by decide, Nat.le_of_ble_eq_true rfl⟩ rfl (c_X6_readWay_28 _ I G ) ?_
      rintro r9 I9 G9 P9 ⟨e0, e1, e2, e3⟩
      rw [e0, e1, e2, e3]
      show am_V X 0 0 _ _ ad (62, [(0, .ref 28), (1, .int v1)], [.int (f_X6_readWay_28 I G )], (g_X6_readWay_28 I G ), G, (gP rd))
      refine am_blk 62 [(.goto (24), 3, 0, 86, .null), (.istore_n 2, 1, 2, 0, .null)] (87, [(0, .ref 28), (1, .int v1), (2, .int (f_X6_readWay_28 I G ))], [], (g_X6_readWay_28 I G ), G, (gP rd)) (True) hX hi (by decide +kernel) rfl trivial ?_
      exact ih.2.2.2.2.2.2.1 _ _ _ _ _ h
    · intro I G v1 v2 out h
      rw [L_X6_readOrderHead_28_5] at h
      refine am_blk 65 [(.aload_n 0, 1, 0, 0, .null), (.iload_n 1, 1, 1, 0, .null), (.bipush (9), 2, 0, 0, .int (9 : Int32))] (69, [(0, .ref 28), (1, .int v1)], [.int (9 : Int32), .int v1, .ref 28], I, G, (gP rd)) (True) hX hi (by decide +kernel) rfl trivial ?_
      refine am_icmp_ne (tgt := 79) hX hi (off := (10)) (by decide +kernel) (by decide) (fun c69 => ?_) (fun c69 => ?_)
      · rw [if_neg c69] at h
        refine am_blk 79 [(.aload_n 0, 1, 0, 0, .null), (.getfield 23, 3, 4, 2, .null)] (83, [(0, .ref 28), (1, .int v1)], [.ref 47, .ref 28], I, G, (gP rd)) (True) hX hi (by decide +kernel) rfl trivial ?_
        obtain ⟨r601, I601, G601, hc, h⟩ := rb_some h
        refine am_callV hX hi (M := mX6_readKnownName) (idx := 150) (d' := 3) (b := 28) (ci := 4) (As := [.ref 47]) (rest := []) mkX6_readKnownName miX6_readKnownName mvX6_readKnownName (by decide +kernel) (by decide +kernel) rfl (by decide +kernel) rfl ⟨by omega, by decide, Nat.le_of_ble_eq_true rfl⟩ rfl (c_X6_readKnownName_28_47 _ I G  hc) ?_
        rintro r9 I9 G9 P9 ⟨e0, e1, e2, e3⟩
        rw [e0, e1, e2, e3]
        show am_V X 0 0 _ _ ad (86, [(0, .ref 28), (1, .int v1)], [.int r601], I601, G601, (gP rd))
        refine am_blk 86 [(.istore_n 2, 1, 2, 0, .null)] (87, [(0, .ref 28), (1, .int v1), (2, .int r601)], [], I601, G601, (gP rd)) (True) hX hi (by decide +kernel) rfl trivial ?_
        exact ih.2.2.2.2.2.2.1 _ _ _ _ _ h
      · rw [if_pos c69] at h
        refine am_blk 72 [(.aload_n 0, 1, 0, 0, .null), (.getfield 27, 3, 4, 3, .null), (.goto (7), 3, 0, 83, .null)] (83, [(0, .ref 28), (1, .int v1)], [.ref 49, .ref 28], I, G, (gP rd)) (True) hX hi (by decide +kernel) rfl trivial ?_
        obtain ⟨r602, I602, G602, hc, h⟩ := rb_some h
        refine am_callV hX hi (M := mX6_readKnownName) (idx := 150) (d' := 3) (b := 28) (ci := 4) (As := [.ref 49]) (rest := []) mkX6_readKnownName miX6_readKnownName mvX6_readKnownName (by decide +kernel) (by decide +kernel) rfl (by decide +kernel) rfl ⟨by omega, by decide, Nat.le_of_ble_eq_true rfl⟩ rfl (c_X6_readKnownName_28_49 _ I G  hc) ?_
        rintro r9 I9 G9 P9 ⟨e0, e1, e2, e3⟩
        rw [e0, e1, e2, e3]
        show am_V X 0 0 _ _ ad (86, [(0, .ref 28), (1, .int v1)], [.int r602], I602, G602, (gP rd))
        refine am_blk 86 [(.istore_n 2, 1, 2, 0, .null)] (87, [(0, .ref 28), (1, .int v1), (2, .int r602)], [], I602, G602, (gP rd)) (True) hX hi (by decide +kernel) rfl trivial ?_
        exact ih.2.2.2.2.2.2.1 _ _ _ _ _ h
    · intro I G v1 v2 out h
      rw [L_X6_readOrderHead_28_6] at h
      refine am_blk 87 [(.aload_n 0, 1, 0, 0, .null), (.iload_n 1, 1, 1, 0, .null), (.bipush (12), 2, 0, 0, .int (12 : Int32))] (91, [(0, .ref 28), (1, .int v1), (2, .int v2)], [.int (12 : Int32), .int v1, .ref 28], I, G, (gP rd)) (True) hX hi (by decide +kernel) rfl trivial ?_
      refine am_icmp_ne (tgt := 98) hX hi (off := (7)) (by decide +kernel) (by decide) (fun c91 => ?_) (fun c91 => ?_)
      · rw [if_neg c91] at h
        refine am_blk 98 [(.bipush (13), 2, 0, 0, .int (13 : Int32))] (100, [(0, .ref 28), (1, .int v1), (2, .int v2)], [.int (13 : Int32), .ref 28], I, G, (gP rd)) (True) hX hi (by decide +kernel) rfl trivial ?_
        refine am_callV hX hi (M := mX6_expect) (idx := 109) (d' := 3) (b := 28) (ci := 4) (As := [.int (13 : Int32)]) (rest := []) mkX6_expect miX6_expect mvX6_expect (by decide +kernel) (by decide +kernel) rfl (by decide +kernel) rfl ⟨by omega, by decide, Nat.le_of_ble_eq_true rfl⟩ rfl (c_X6_expect_28 _ I G (13 : Int32)) ?_
        rintro r9 I9 G9 P9 ⟨e0, e1, e2, e3⟩
        rw [e0, e1, e2, e3]
        show am_V X 0 0 _ _ ad (103, [(0, .ref 28), (1, .int v1), (2, .int v2)], [], (g_X6_expect_28 I G (13 : Int32)), G, (gP rd))
        exact ih.2.2.2.2.2.2.2 _ _ _ _ _ h
      · rw [if_pos c91] at h
        refine am_blk 94 [(.iconst (1), 1, 0, 0, .int (1 : Int32)), (.goto (5), 3, 0, 100, .null)] (100, [(0, .ref 28), (1, .int v1), (2, .int v2)], [.int (1 : Int32), .ref 28], I, G, (gP rd)) (True) hX hi (by decide +kernel) rfl trivial ?_
        refine am_callV hX hi (M := mX6_expect) (idx := 109) (d' := 3) (b := 28) (ci := 4) (As := [.int (1 : Int32)]) (rest := []) mkX6_expect miX6_expect mvX6_expect (by decide +kernel) (by decide +kernel) rfl (by decide +kernel) rfl ⟨by omega, by decide, Nat.le_of_ble_eq_true rfl⟩ rfl (c_X6_expect_28 _ I G (1 : Int32)) ?_
        rintro r9 I9 G9 P9 ⟨e0, e1, e2, e3⟩
        rw [e0, e1, e2, e3]
        show am_V X 0 0 _ _ ad (103, [(0, .ref 28), (1, .int v1), (2, .int v2)], [], (g_X6_expect_28 I G (1 : Int32)), G, (gP rd))
        exact ih.2.2.2.2.2.2.2 _ _ _ _ _ h
    · intro I G v1 v2 out h
      rw [L_X6_readOrderHead_28_7] at h
      refine am_blk 103 [(.aload_n 0, 1, 0, 0, .null), (.getfield 12, 3, 4, 1, .null), (.getfield 91, 3, 3, 8, .null), (.iload_n 1, 1, 1, 0, .null), (.iload_n 2, 1, 2, 0, .null)] (112, [(0, .ref 28), (1, .int v1), (2, .int v2)], [.int v2, .int v1, .ref 38], I, G, (gP rd)) (True) hX hi (by decide +kernel) rfl trivial ?_
      refine am_callV hX hi (M := mX3_begin) (idx := 154) (d' := 2) (b := 38) (ci := 1) (As := [.int v1, .int v2]) (rest := []) mkX3_begin miX3_begin mvX3_begin (by decide +kernel) (by decide +kernel) rfl (by decide +kernel) rfl ⟨by omega, by decide, Nat.le_of_ble_eq_true rfl⟩ rfl (c_X3_begin_38 _ I G v1 v2) ?_
      rintro r9 I9 G9 P9 ⟨e0, e1, e2, e3⟩
      rw [e0, e1, e2, e3]
      show am_V X 0 0 _ _ ad (115, [(0, .ref 28), (1, .int v1), (2, .int v2)], [], (g_X3_begin_38 I G v1 v2), G, (gP rd))
      refine am_vret hX hi rfl (by decide +kernel) ?_
      exact am_pvo (Option.some.inj h)
set_option maxRecDepth 20000 in
set_option maxHeartbeats 4000000 in
theorem c_X6_readOrderHead_28 (rd : Nat) (I : am_I) (G : am_G)  {out : Unit × am_I × am_G} (h : R_X6_readOrderHead_28 I G  = some out) : am_Ct mX6_readOrderHead 4 gS [.ref 28] I G (gP rd) (pV out.2.1 out.2.2 (gP rd)) := by
  refine am_ofF (by decide +kernel) rfl (by decide) (by omega) (Nat.le_of_ble_eq_true rfl) (fun X ad hX hi => ?_)
  have hi : am_info X 4 cX6_readOrderHead 3 false none 4 := hi
  show am_V X 0 0 _ _ ad (0, [(0, .ref 28)], [], I, G, (gP rd))
  unfold R_X6_readOrderHead_28 at h
  refine am_blk 0 [(.aload_n 0, 1, 0, 0, .null), (.getfield 62, 3, 4, 6, .null), (.istore_n 1, 1, 1, 0, .null), (.iload_n 1, 1, 1, 0, .null), (.bipush (9), 2, 0, 0, .int (9 : Int32))] (8, [(0, .ref 28), (1, .int (I 28 6))], [.int (9 : Int32), .int (I 28 6)], I, G, (gP rd)) (True) hX hi (by decide +kernel) rfl trivial ?_
  refine am_icmp_eq (tgt := 28) hX hi (off := (20)) (by decide +kernel) (by decide) (fun c8 => ?_) (fun c8 => ?_)
  · rw [if_pos c8] at h
    exact (l_X6_readOrderHead_28 rd hX hi FU).1 _ _ _ _ _ h
  · rw [if_neg c8] at h
    refine am_blk 11 [(.iload_n 1, 1, 1, 0, .null), (.bipush (6), 2, 0, 0, .int (6 : Int32))] (14, [(0, .ref 28), (1, .int (I 28 6))], [.int (6 : Int32), .int (I 28 6)], I, G, (gP rd)) (True) hX hi (by decide +kernel) rfl trivial ?_
    refine am_icmp_eq (tgt := 28) hX hi (off := (14)) (by decide +kernel) (by decide) (fun c14 => ?_) (fun c14 => ?_)
    · rw [if_pos c14] at h
      exact (l_X6_readOrderHead_28 rd hX hi FU).1 _ _ _ _ _ h
    · rw [if_neg c14] at h
      refine am_blk 17 [(.iload_n 1, 1, 1, 0, .null), (.bipush (12), 2, 0, 0, .int (12 : Int32))] (20, [(0, .ref 28), (1, .int (I 28 6))], [.int (12 : Int32), .int (I 28 6)], I, G, (gP rd)) (True) hX hi (by decide +kernel) rfl trivial ?_
      refine am_icmp_eq (tgt := 28) hX hi (off := (8)) (by decide +kernel) (by decide) (fun c20 => ?_) (fun c20 => ?_)
      · rw [if_pos c20] at h
        exact (l_X6_readOrderHead_28 rd hX hi FU).1 _ _ _ _ _ h
      · rw [if_neg c20] at h
        refine am_blk 23 [(.aload_n 0, 1, 0, 0, .null)] (24, [(0, .ref 28), (1, .int (I 28 6))], [.ref 28], I, G, (gP rd)) (True) hX hi (by decide +kernel) rfl trivial ?_
        refine am_callV hX hi (M := mX6_refuse) (idx := 70) (d' := 2) (b := 28) (ci := 4) (As := []) (rest := []) mkX6_refuse miX6_refuse mvX6_refuse (by decide +kernel) (by decide +kernel) rfl (by decide +kernel) rfl ⟨by omega, by decide, Nat.le_of_ble_eq_true rfl⟩ rfl (c_X6_refuse_28 _ I G ) ?_
        rintro r9 I9 G9 P9 ⟨e0, e1, e2, e3⟩
        rw [e0, e1, e2, e3]
        show am_V X 0 0 _ _ ad (27, [(0, .ref 28), (1, .int (I 28 6))], [], (g_X6_refuse_28 I G ), G, (gP rd))
        refine am_vret hX hi rfl (by decide +kernel) ?_
        exact am_pvo (Option.some.inj h)
noncomputable def L_X7_takePulls_53_14 (n0 : Nat) (hd : Nat) (I : am_I) (G : am_G) (v2 : Int32) : Option (Unit × am_I × am_G) := match n0 with
  | 0 => none
  | n + 1 => match hd with
    | _ => (if (I 7 12) ≤ v2 then some ((), I, G) else rb (R_X7_reckonShifts_53 (gPut I 54 4 v2 (gAt (I 14) 4 v2)) G v2) (fun r101 I101 G101 => L_X7_takePulls_53_14 n 0 I101 G101 (v2 + (1 : Int32))))
theorem L_X7_takePulls_53_14_0 (n : Nat) (I : am_I) (G : am_G) (v2 : Int32) : L_X7_takePulls_53_14 (n + 1) 0 I G v2 = (if (I 7 12) ≤ v2 then some ((), I, G) else rb (R_X7_reckonShifts_53 (gPut I 54 4 v2 (gAt (I 14) 4 v2)) G v2) (fun r101 I101 G101 => L_X7_takePulls_53_14 n 0 I101 G101 (v2 + (1 : Int32)))) := rfl
theorem L_X7_takePulls_53_14_z (h : Nat) (I : am_I) (G : am_G) (v2 : Int32) : L_X7_takePulls_53_14 0 h I G v2 = none := rfl
noncomputable def R_X7_takePulls_53_14 (I : am_I) (G : am_G)  : Option (Unit × am_I × am_G) := L_X7_takePulls_53_14 FU 0 I G (0 : Int32)
set_option maxRecDepth 20000 in
set_option maxHeartbeats 4000000 in
theorem l_X7_takePulls_53_14 (rd : Nat) {X : am_X} {ad : Nat → Nat} (hX : am_okz X ad) (hi : am_info X 5 cX7_takePulls 3 false none 4) (n : Nat) : (∀ (I : am_I) (G : am_G) (v2 : Int32) (out : Unit × am_I × am_G), L_X7_takePulls_53_14 n 0 I G v2 = some out → am_V X 0 0 (am_Rt X gS ad (pV out.2.1 out.2.2 (gP rd))) gS ad (2, [(0, .ref 53), (1, .ref 14), (2, .int v2)], [], I, G, (gP rd))) := by
  induction n with
  | zero => exact fun I G v2 out h => by rw [L_X7_takePulls_53_14_z] at h; cases h
  | succ n ih =>
    · intro I G v2 out h
      rw [L_X7_takePulls_53_14_0] at h
      refine am_blk 2 [(.iload_n 2, 1, 2, 0, .null), (.aload_n 0, 1, 0, 0, .null), (.getfield 44, 3, 5, 0, .null), (.getfield 82, 3, 3, 12, .null)] (10, [(0, .ref 53), (1, .ref 14), (2, .int v2)], [.int (I 7 12), .int v2], I, G, (gP rd)) (True) hX hi (by decide +kernel) rfl trivial ?_
      refine am_icmp_ge (tgt := 37) hX hi (off := (27)) (by decide +kernel) (by decide) (fun c10 => ?_) (fun c10 => ?_)
      · rw [if_pos c10] at h
        cases h
        refine am_vret hX hi rfl (by decide +kernel) ?_
        exact ⟨rfl, rfl, rfl, rfl⟩
      · rw [if_neg c10] at h
        refine am_blk 13 [(.aload_n 0, 1, 0, 0, .null), (.getfield 9, 3, 5, 2, .null), (.iload_n 2, 1, 2, 0, .null), (.aload_n 1, 1, 1, 0, .null), (.iload_n 2, 1, 2, 0, .null)] (20, [(0, .ref 53), (1, .ref 14), (2, .int v2)], [.int v2, .ref 14, .int v2, .ref 54], I, G, (gP rd)) (True) hX hi (by decide +kernel) rfl trivial ?_
        refine am_callS hX hi (M := mX0_at) (idx := 85) (d' := 1) (As := [.ref 14, .int v2]) (rest := [.int v2, .ref 54]) mkX0_at msX0_at (by decide +kernel) (by decide +kernel) rfl ⟨by omega, by decide, Nat.le_of_ble_eq_true rfl⟩ rfl (c_at rfl (by decide) v2) ?_
        rintro r9 I9 G9 P9 ⟨e0, e1, e2, e3⟩
        rw [e0, e1, e2, e3]
        show am_V X 0 0 _ _ ad (23, [(0, .ref 53), (1, .ref 14), (2, .int v2)], [.int (gAt (I 14) 4 v2), .int v2, .ref 54], I, G, (gP rd))
        refine am_callS hX hi (M := mX0_put) (idx := 89) (d' := 1) (As := [.ref 54, .int v2, .int (gAt (I 14) 4 v2)]) (rest := []) mkX0_put msX0_put (by decide +kernel) (by decide +kernel) rfl ⟨by omega, by decide, Nat.le_of_ble_eq_true rfl⟩ rfl (c_put rfl (by decide) v2 (gAt (I 14) 4 v2)) ?_
        rintro r9 I9 G9 P9 ⟨e0, e1, e2, e3⟩
        rw [e0, e1, e2, e3]
        show am_V X 0 0 _ _ ad (26, [(0, .ref 53), (1, .ref 14), (2, .int v2)], [], (gPut I 54 4 v2 (gAt (I 14) 4 v2)), G, (gP rd))
        refine am_blk 26 [(.aload_n 0, 1, 0, 0, .null), (.iload_n 2, 1, 2, 0, .null)] (28, [(0, .ref 53), (1, .ref 14), (2, .int v2)], [.int v2, .ref 53], (gPut I 54 4 v2 (gAt (I 14) 4 v2)), G, (gP rd)) (True) hX hi (by decide +kernel) rfl trivial ?_
        obtain ⟨r101, I101, G101, hc, h⟩ := rb_some h
        refine am_callV hX hi (M := mX7_reckonShifts) (idx := 93) (d' := 3) (b := 53) (ci := 5) (As := [.int v2]) (rest := []) mkX7_reckonShifts miX7_reckonShifts mvX7_reckonShifts (by decide +kernel) (by decide +kernel) rfl (by decide +kernel) rfl ⟨by omega, by decide, Nat.le_of_ble_eq_true rfl⟩ rfl (c_X7_reckonShifts_53 _ (gPut I 54 4 v2 (gAt (I 14) 4 v2)) G v2 hc) ?_
        rintro r9 I9 G9 P9 ⟨e0, e1, e2, e3⟩
        rw [e0, e1, e2, e3]
        show am_V X 0 0 _ _ ad (31, [(0, .ref 53), (1, .ref 14), (2, .int v2)], [], I101, G101, (gP rd))
        refine am_blk 31 [(.iinc 2 (1), 3, 2, 0, .int (1 : Int32)), (.goto (-32), 3, 0, 2, .null)] (2, [(0, .ref 53), (1, .ref 14), (2, .int (v2 + (1 : Int32)))], [], I101, G101, (gP rd)) (True) hX hi (by decide +kernel) rfl trivial ?_
        exact ih _ _ _ _ h
set_option maxRecDepth 20000 in
set_option maxHeartbeats 4000000 in
theorem c_X7_takePulls_53_14 (rd : Nat) (I : am_I) (G : am_G)  {out : Unit × am_I × am_G} (h : R_X7_takePulls_53_14 I G  = some out) : am_Ct mX7_takePulls 4 gS [.ref 53, .ref 14] I G (gP rd) (pV out.2.1 out.2.2 (gP rd)) := by
  refine am_ofF (by decide +kernel) rfl (by decide) (by omega) (Nat.le_of_ble_eq_true rfl) (fun X ad hX hi => ?_)
  have hi : am_info X 5 cX7_takePulls 3 false none 4 := hi
  show am_V X 0 0 _ _ ad (0, [(0, .ref 53), (1, .ref 14)], [], I, G, (gP rd))
  unfold R_X7_takePulls_53_14 at h
  refine am_blk 0 [(.iconst (0), 1, 0, 0, .int (0 : Int32)), (.istore_n 2, 1, 2, 0, .null)] (2, [(0, .ref 53), (1, .ref 14), (2, .int (0 : Int32))], [], I, G, (gP rd)) (True) hX hi (by decide +kernel) rfl trivial ?_
  exact (l_X7_takePulls_53_14 rd hX hi FU) _ _ _ _ h
noncomputable def L_X7_takePulls_66_54 (n0 : Nat) (hd : Nat) (I : am_I) (G : am_G) (v2 : Int32) : Option (Unit × am_I × am_G) := match n0 with
  | 0 => none
  | n + 1 => match hd with
    | _ => (if (I 7 12) ≤ v2 then some ((), I, G) else rb (R_X7_reckonShifts_66 (gPut I 67 4 v2 (gAt (I 54) 4 v2)) G v2) (fun r101 I101 G101 => L_X7_takePulls_66_54 n 0 I101 G101 (v2 + (1 : Int32))))
theorem L_X7_takePulls_66_54_0 (n : Nat) (I : am_I) (G : am_G) (v2 : Int32) : L_X7_takePulls_66_54 (n + 1) 0 I G v2 = (if (I 7 12) ≤ v2 then some ((), I, G) else rb (R_X7_reckonShifts_66 (gPut I 67 4 v2 (gAt (I 54) 4 v2)) G v2) (fun r101 I101 G101 => L_X7_takePulls_66_54 n 0 I101 G101 (v2 + (1 : Int32)))) := rfl
theorem L_X7_takePulls_66_54_z (h : Nat) (I : am_I) (G : am_G) (v2 : Int32) : L_X7_takePulls_66_54 0 h I G v2 = none := rfl
noncomputable def R_X7_takePulls_66_54 (I : am_I) (G : am_G)  : Option (Unit × am_I × am_G) := L_X7_takePulls_66_54 FU 0 I G (0 : Int32)
set_option maxRecDepth 20000 in
set_option maxHeartbeats 4000000 in
theorem l_X7_takePulls_66_54 (rd : Nat) {X : am_X} {ad : Nat → Nat} (hX : am_okz X ad) (hi : am_info X 5 cX7_takePulls 3 false none 4) (n : Nat) : (∀ (I : am_I) (G : am_G) (v2 : Int32) (out : Unit × am_I × am_G), L_X7_takePulls_66_54 n 0 I G v2 = some out → am_V X 0 0 (am_Rt X gS ad (pV out.2.1 out.2.2 (gP rd))) gS ad (2, [(0, .ref 66), (1, .ref 54), (2, .int v2)], [], I, G, (gP rd))) := by
  induction n with
  | zero => exact fun I G v2 out h => by rw [L_X7_takePulls_66_54_z] at h; cases h
  | succ n ih =>
    · intro I G v2 out h
      rw [L_X7_takePulls_66_54_0] at h
      refine am_blk 2 [(.iload_n 2, 1, 2, 0, .null), (.aload_n 0, 1, 0, 0, .null), (.getfield 44, 3, 5, 0, .null), (.getfield 82, 3, 3, 12, .null)] (10, [(0, .ref 66), (1, .ref 54), (2, .int v2)], [.int (I 7 12), .int v2], I, G, (gP rd)) (True) hX hi (by decide +kernel) rfl trivial ?_
      refine am_icmp_ge (tgt := 37) hX hi (off := (27)) (by decide +kernel) (by decide) (fun c10 => ?_) (fun c10 => ?_)
      · rw [if_pos c10] at h
        cases h
        refine am_vret hX hi rfl (by decide +kernel) ?_
        exact ⟨rfl, rfl, rfl, rfl⟩
      · rw [if_neg c10] at h
        refine am_blk 13 [(.aload_n 0, 1, 0, 0, .null), (.getfield 9, 3, 5, 2, .null), (.iload_n 2, 1, 2, 0, .null), (.aload_n 1, 1, 1, 0, .null), (.iload_n 2, 1, 2, 0, .null)] (20, [(0, .ref 66), (1, .ref 54), (2, .int v2)], [.int v2, .ref 54, .int v2, .ref 67], I, G, (gP rd)) (True) hX hi (by decide +kernel) rfl trivial ?_
        refine am_callS hX hi (M := mX0_at) (idx := 85) (d' := 1) (As := [.ref 54, .int v2]) (rest := [.int v2, .ref 67]) mkX0_at msX0_at (by decide +kernel) (by decide +kernel) rfl ⟨by omega, by decide, Nat.le_of_ble_eq_true rfl⟩ rfl (c_at rfl (by decide) v2) ?_
        rintro r9 I9 G9 P9 ⟨e0, e1, e2, e3⟩
        rw [e0, e1, e2, e3]
        show am_V X 0 0 _ _ ad (23, [(0, .ref 66), (1, .ref 54), (2, .int v2)], [.int (gAt (I 54) 4 v2), .int v2, .ref 67], I, G, (gP rd))
        refine am_callS hX hi (M := mX0_put) (idx := 89) (d' := 1) (As := [.ref 67, .int v2, .int (gAt (I 54) 4 v2)]) (rest := []) mkX0_put msX0_put (by decide +kernel) (by decide +kernel) rfl ⟨by omega, by decide, Nat.le_of_ble_eq_true rfl⟩ rfl (c_put rfl (by decide) v2 (gAt (I 54) 4 v2)) ?_
        rintro r9 I9 G9 P9 ⟨e0, e1, e2, e3⟩
        rw [e0, e1, e2, e3]
        show am_V X 0 0 _ _ ad (26, [(0, .ref 66), (1, .ref 54), (2, .int v2)], [], (gPut I 67 4 v2 (gAt (I 54) 4 v2)), G, (gP rd))
        refine am_blk 26 [(.aload_n 0, 1, 0, 0, .null), (.iload_n 2, 1, 2, 0, .null)] (28, [(0, .ref 66), (1, .ref 54), (2, .int v2)], [.int v2, .ref 66], (gPut I 67 4 v2 (gAt (I 54) 4 v2)), G, (gP rd)) (True) hX hi (by decide +kernel) rfl trivial ?_
        obtain ⟨r101, I101, G101, hc, h⟩ := rb_some h
        refine am_callV hX hi (M := mX7_reckonShifts) (idx := 93) (d' := 3) (b := 66) (ci := 5) (As := [.int v2]) (rest := []) mkX7_reckonShifts miX7_reckonShifts mvX7_reckonShifts (by decide +kernel) (by decide +kernel) rfl (by decide +kernel) rfl ⟨by omega, by decide, Nat.le_of_ble_eq_true rfl⟩ rfl (c_X7_reckonShifts_66 _ (gPut I 67 4 v2 (gAt (I 54) 4 v2)) G v2 hc) ?_
        rintro r9 I9 G9 P9 ⟨e0, e1, e2, e3⟩
        rw [e0, e1, e2, e3]
        show am_V X 0 0 _ _ ad (31, [(0, .ref 66), (1, .ref 54), (2, .int v2)], [], I101, G101, (gP rd))
        refine am_blk 31 [(.iinc 2 (1), 3, 2, 0, .int (1 : Int32)), (.goto (-32), 3, 0, 2, .null)] (2, [(0, .ref 66), (1, .ref 54), (2, .int (v2 + (1 : Int32)))], [], I101, G101, (gP rd)) (True) hX hi (by decide +kernel) rfl trivial ?_
        exact ih _ _ _ _ h
set_option maxRecDepth 20000 in
set_option maxHeartbeats 4000000 in
theorem c_X7_takePulls_66_54 (rd : Nat) (I : am_I) (G : am_G)  {out : Unit × am_I × am_G} (h : R_X7_takePulls_66_54 I G  = some out) : am_Ct mX7_takePulls 4 gS [.ref 66, .ref 54] I G (gP rd) (pV out.2.1 out.2.2 (gP rd)) := by
  refine am_ofF (by decide +kernel) rfl (by decide) (by omega) (Nat.le_of_ble_eq_true rfl) (fun X ad hX hi => ?_)
  have hi : am_info X 5 cX7_takePulls 3 false none 4 := hi
  show am_V X 0 0 _ _ ad (0, [(0, .ref 66), (1, .ref 54)], [], I, G, (gP rd))
  unfold R_X7_takePulls_66_54 at h
  refine am_blk 0 [(.iconst (0), 1, 0, 0, .int (0 : Int32)), (.istore_n 2, 1, 2, 0, .null)] (2, [(0, .ref 66), (1, .ref 54), (2, .int (0 : Int32))], [], I, G, (gP rd)) (True) hX hi (by decide +kernel) rfl trivial ?_
  exact (l_X7_takePulls_66_54 rd hX hi FU) _ _ _ _ h
noncomputable def R_X7_changePull_53 (I : am_I) (G : am_G) (x1 : Int32) (x2 : Int32) : Option (Int32 × am_I × am_G) := (if (gAt (I 54) 4 x1) = x2 then some ((0 : Int32), I, G) else rb (R_X7_reckonShifts_53 (gPut I 54 4 x1 x2) G x1) (fun r1 I1 G1 => some ((1 : Int32), (g_X7_spoil_53 I1 G1 ), G1)))
set_option maxRecDepth 20000 in
set_option maxHeartbeats 4000000 in
theorem c_X7_changePull_53 (rd : Nat) (I : am_I) (G : am_G) (x1 : Int32) (x2 : Int32) {out : Int32 × am_I × am_G} (h : R_X7_changePull_53 I G x1 x2 = some out) : am_Ct mX7_changePull 4 gS [.ref 53, .int x1, .int x2] I G (gP rd) (pI out.1 out.2.1 out.2.2 (gP rd)) := by
  refine am_ofF (by decide +kernel) rfl (by decide) (by omega) (Nat.le_of_ble_eq_true rfl) (fun X ad hX hi => ?_)
  have hi : am_info X 5 cX7_changePull 3 false (Option.some Jvm.ClassFile.FieldType.boolean) 4 := hi
  show am_V X 0 0 _ _ ad (0, [(0, .ref 53), (1, .int x1), (2, .int x2)], [], I, G, (gP rd))
  unfold R_X7_changePull_53 at h
  refine am_blk 0 [(.aload_n 0, 1, 0, 0, .null), (.getfield 9, 3, 5, 2, .null), (.iload_n 1, 1, 1, 0, .null)] (5, [(0, .ref 53), (1, .int x1), (2, .int x2)], [.int x1, .ref 54], I, G, (gP rd)) (True) hX hi (by decide +kernel) rfl trivial ?_
  refine am_callS hX hi (M := mX0_at) (idx := 85) (d' := 1) (As := [.ref 54, .int x1]) (rest := []) mkX0_at msX0_at (by decide +kernel) (by decide +kernel) rfl ⟨by omega, by decide, Nat.le_of_ble_eq_true rfl⟩ rfl (c_at rfl (by decide) x1) ?_
  rintro r9 I9 G9 P9 ⟨e0, e1, e2, e3⟩
  rw [e0, e1, e2, e3]
  show am_V X 0 0 _ _ ad (8, [(0, .ref 53), (1, .int x1), (2, .int x2)], [.int (gAt (I 54) 4 x1)], I, G, (gP rd))
  refine am_blk 8 [(.iload_n 2, 1, 2, 0, .null)] (9, [(0, .ref 53), (1, .int x1), (2, .int x2)], [.int x2, .int (gAt (I 54) 4 x1)], I, G, (gP rd)) (True) hX hi (by decide +kernel) rfl trivial ?_
  refine am_icmp_ne (tgt := 14) hX hi (off := (5)) (by decide +kernel) (by decide) (fun c9 => ?_) (fun c9 => ?_)
  · rw [if_neg c9] at h
    refine am_blk 14 [(.aload_n 0, 1, 0, 0, .null), (.getfield 9, 3, 5, 2, .null), (.iload_n 1, 1, 1, 0, .null), (.iload_n 2, 1, 2, 0, .null)] (20, [(0, .ref 53), (1, .int x1), (2, .int x2)], [.int x2, .int x1, .ref 54], I, G, (gP rd)) (True) hX hi (by decide +kernel) rfl trivial ?_
    refine am_callS hX hi (M := mX0_put) (idx := 89) (d' := 1) (As := [.ref 54, .int x1, .int x2]) (rest := []) mkX0_put msX0_put (by decide +kernel) (by decide +kernel) rfl ⟨by omega, by decide, Nat.le_of_ble_eq_true rfl⟩ rfl (c_put rfl (by decide) x1 x2) ?_
    rintro r9 I9 G9 P9 ⟨e0, e1, e2, e3⟩
    rw [e0, e1, e2, e3]
    show am_V X 0 0 _ _ ad (23, [(0, .ref 53), (1, .int x1), (2, .int x2)], [], (gPut I 54 4 x1 x2), G, (gP rd))
    refine am_blk 23 [(.aload_n 0, 1, 0, 0, .null), (.iload_n 1, 1, 1, 0, .null)] (25, [(0, .ref 53), (1, .int x1), (2, .int x2)], [.int x1, .ref 53], (gPut I 54 4 x1 x2), G, (gP rd)) (True) hX hi (by decide +kernel) rfl trivial ?_
    obtain ⟨r1, I1, G1, hc, h⟩ := rb_some h
    refine am_callV hX hi (M := mX7_reckonShifts) (idx := 93) (d' := 3) (b := 53) (ci := 5) (As := [.int x1]) (rest := []) mkX7_reckonShifts miX7_reckonShifts mvX7_reckonShifts (by decide +kernel) (by decide +kernel) rfl (by decide +kernel) rfl ⟨by omega, by decide, Nat.le_of_ble_eq_true rfl⟩ rfl (c_X7_reckonShifts_53 _ (gPut I 54 4 x1 x2) G x1 hc) ?_
    rintro r9 I9 G9 P9 ⟨e0, e1, e2, e3⟩
    rw [e0, e1, e2, e3]
    show am_V X 0 0 _ _ ad (28, [(0, .ref 53), (1, .int x1), (2, .int x2)], [], I1, G1, (gP rd))
    refine am_blk 28 [(.aload_n 0, 1, 0, 0, .null)] (29, [(0, .ref 53), (1, .int x1), (2, .int x2)], [.ref 53], I1, G1, (gP rd)) (True) hX hi (by decide +kernel) rfl trivial ?_
    refine am_callV hX hi (M := mX7_spoil) (idx := 79) (d' := 1) (b := 53) (ci := 5) (As := []) (rest := []) mkX7_spoil miX7_spoil mvX7_spoil (by decide +kernel) (by decide +kernel) rfl (by decide +kernel) rfl ⟨by omega, by decide, Nat.le_of_ble_eq_true rfl⟩ rfl (c_X7_spoil_53 _ I1 G1 ) ?_
    rintro r9 I9 G9 P9 ⟨e0, e1, e2, e3⟩
    rw [e0, e1, e2, e3]
    show am_V X 0 0 _ _ ad (32, [(0, .ref 53), (1, .int x1), (2, .int x2)], [], (g_X7_spoil_53 I1 G1 ), G1, (gP rd))
    refine am_blk 32 [(.iconst (1), 1, 0, 0, .int (1 : Int32))] (33, [(0, .ref 53), (1, .int x1), (2, .int x2)], [.int (1 : Int32)], (g_X7_spoil_53 I1 G1 ), G1, (gP rd)) (True) hX hi (by decide +kernel) rfl trivial ?_
    cases h
    refine am_iret hX hi rfl (by first | rfl | decide | (simp [narrow]; done)) (by decide +kernel) ?_
    exact ⟨rfl, rfl, rfl, rfl⟩
  · rw [if_pos c9] at h
    refine am_blk 12 [(.iconst (0), 1, 0, 0, .int (0 : Int32))] (13, [(0, .ref 53), (1, .int x1), (2, .int x2)], [.int (0 : Int32)], I, G, (gP rd)) (True) hX hi (by decide +kernel) rfl trivial ?_
    cases h
    refine am_iret hX hi rfl (by first | rfl | decide | (simp [narrow]; done)) (by decide +kernel) ?_
    exact ⟨rfl, rfl, rfl, rfl⟩
noncomputable def R_X7_changePull_66 (I : am_I) (G : am_G) (x1 : Int32) (x2 : Int32) : Option (Int32 × am_I × am_G) := (if (gAt (I 67) 4 x1) = x2 then some ((0 : Int32), I, G) else rb (R_X7_reckonShifts_66 (gPut I 67 4 x1 x2) G x1) (fun r1 I1 G1 => some ((1 : Int32), (g_X7_spoil_66 I1 G1 ), G1)))
set_option maxRecDepth 20000 in
set_option maxHeartbeats 4000000 in
theorem c_X7_changePull_66 (rd : Nat) (I : am_I) (G : am_G) (x1 : Int32) (x2 : Int32) {out : Int32 × am_I × am_G} (h : R_X7_changePull_66 I G x1 x2 = some out) : am_Ct mX7_changePull 4 gS [.ref 66, .int x1, .int x2] I G (gP rd) (pI out.1 out.2.1 out.2.2 (gP rd)) := by
  refine am_ofF (by decide +kernel) rfl (by decide) (by omega) (Nat.le_of_ble_eq_true rfl) (fun X ad hX hi => ?_)
  have hi : am_info X 5 cX7_changePull 3 false (Option.some Jvm.ClassFile.FieldType.boolean) 4 := hi
  show am_V X 0 0 _ _ ad (0, [(0, .ref 66), (1, .int x1), (2, .int x2)], [], I, G, (gP rd))
  unfold R_X7_changePull_66 at h
  refine am_blk 0 [(.aload_n 0, 1, 0, 0, .null), (.getfield 9, 3, 5, 2, .null), (.iload_n 1, 1, 1, 0, .null)] (5, [(0, .ref 66), (1, .int x1), (2, .int x2)], [.int x1, .ref 67], I, G, (gP rd)) (True) hX hi (by decide +kernel) rfl trivial ?_
  refine am_callS hX hi (M := mX0_at) (idx := 85) (d' := 1) (As := [.ref 67, .int x1]) (rest := []) mkX0_at msX0_at (by decide +kernel) (by decide +kernel) rfl ⟨by omega, by decide, Nat.le_of_ble_eq_true rfl⟩ rfl (c_at rfl (by decide) x1) ?_
  rintro r9 I9 G9 P9 ⟨e0, e1, e2, e3⟩
  rw [e0, e1, e2, e3]
  show am_V X 0 0 _ _ ad (8, [(0, .ref 66), (1, .int x1), (2, .int x2)], [.int (gAt (I 67) 4 x1)], I, G, (gP rd))
  refine am_blk 8 [(.iload_n 2, 1, 2, 0, .null)] (9, [(0, .ref 66), (1, .int x1), (2, .int x2)], [.int x2, .int (gAt (I 67) 4 x1)], I, G, (gP rd)) (True) hX hi (by decide +kernel) rfl trivial ?_
  refine am_icmp_ne (tgt := 14) hX hi (off := (5)) (by decide +kernel) (by decide) (fun c9 => ?_) (fun c9 => ?_)
  · rw [if_neg c9] at h
    refine am_blk 14 [(.aload_n 0, 1, 0, 0, .null), (.getfield 9, 3, 5, 2, .null), (.iload_n 1, 1, 1, 0, .null), (.iload_n 2, 1, 2, 0, .null)] (20, [(0, .ref 66), (1, .int x1), (2, .int x2)], [.int x2, .int x1, .ref 67], I, G, (gP rd)) (True) hX hi (by decide +kernel) rfl trivial ?_
    refine am_callS hX hi (M := mX0_put) (idx := 89) (d' := 1) (As := [.ref 67, .int x1, .int x2]) (rest := []) mkX0_put msX0_put (by decide +kernel) (by decide +kernel) rfl ⟨by omega, by decide, Nat.le_of_ble_eq_true rfl⟩ rfl (c_put rfl (by decide) x1 x2) ?_
    rintro r9 I9 G9 P9 ⟨e0, e1, e2, e3⟩
    rw [e0, e1, e2, e3]
    show am_V X 0 0 _ _ ad (23, [(0, .ref 66), (1, .int x1), (2, .int x2)], [], (gPut I 67 4 x1 x2), G, (gP rd))
    refine am_blk 23 [(.aload_n 0, 1, 0, 0, .null), (.iload_n 1, 1, 1, 0, .null)] (25, [(0, .ref 66), (1, .int x1), (2, .int x2)], [.int x1, .ref 66], (gPut I 67 4 x1 x2), G, (gP rd)) (True) hX hi (by decide +kernel) rfl trivial ?_
    obtain ⟨r1, I1, G1, hc, h⟩ := rb_some h
    refine am_callV hX hi (M := mX7_reckonShifts) (idx := 93) (d' := 3) (b := 66) (ci := 5) (As := [.int x1]) (rest := []) mkX7_reckonShifts miX7_reckonShifts mvX7_reckonShifts (by decide +kernel) (by decide +kernel) rfl (by decide +kernel) rfl ⟨by omega, by decide, Nat.le_of_ble_eq_true rfl⟩ rfl (c_X7_reckonShifts_66 _ (gPut I 67 4 x1 x2) G x1 hc) ?_
    rintro r9 I9 G9 P9 ⟨e0, e1, e2, e3⟩
    rw [e0, e1, e2, e3]
    show am_V X 0 0 _ _ ad (28, [(0, .ref 66), (1, .int x1), (2, .int x2)], [], I1, G1, (gP rd))
    refine am_blk 28 [(.aload_n 0, 1, 0, 0, .null)] (29, [(0, .ref 66), (1, .int x1), (2, .int x2)], [.ref 66], I1, G1, (gP rd)) (True) hX hi (by decide +kernel) rfl trivial ?_
    refine am_callV hX hi (M := mX7_spoil) (idx := 79) (d' := 1) (b := 66) (ci := 5) (As := []) (rest := []) mkX7_spoil miX7_spoil mvX7_spoil (by decide +kernel) (by decide +kernel) rfl (by decide +kernel) rfl ⟨by omega, by decide, Nat.le_of_ble_eq_true rfl⟩ rfl (c_X7_spoil_66 _ I1 G1 ) ?_
    rintro r9 I9 G9 P9 ⟨e0, e1, e2, e3⟩
    rw [e0, e1, e2, e3]
    show am_V X 0 0 _ _ ad (32, [(0, .ref 66), (1, .int x1), (2, .int x2)], [], (g_X7_spoil_66 I1 G1 ), G1, (gP rd))
    refine am_blk 32 [(.iconst (1), 1, 0, 0, .int (1 : Int32))] (33, [(0, .ref 66), (1, .int x1), (2, .int x2)], [.int (1 : Int32)], (g_X7_spoil_66 I1 G1 ), G1, (gP rd)) (True) hX hi (by decide +kernel) rfl trivial ?_
    cases h
    refine am_iret hX hi rfl (by first | rfl | decide | (simp [narrow]; done)) (by decide +kernel) ?_
    exact ⟨rfl, rfl, rfl, rfl⟩
  · rw [if_pos c9] at h
    refine am_blk 12 [(.iconst (0), 1, 0, 0, .int (0 : Int32))] (13, [(0, .ref 66), (1, .int x1), (2, .int x2)], [.int (0 : Int32)], I, G, (gP rd)) (True) hX hi (by decide +kernel) rfl trivial ?_
    cases h
    refine am_iret hX hi rfl (by first | rfl | decide | (simp [narrow]; done)) (by decide +kernel) ?_
    exact ⟨rfl, rfl, rfl, rfl⟩
noncomputable def R_X7_step_53 (I : am_I) (G : am_G) (x1 : Int32) (x2 : Int32) : Option (Unit × am_I × am_G) := (if x1 = (6 : Int32) then some ((), (g_X8_push_64 I G (gAt (I 56) 4 x2)), G) else if x1 = (9 : Int32) then some ((), (g_X8_push_64 I G (gAt (I 54) 4 x2)), G) else if x1 = (15 : Int32) then some ((), (g_X8_push_64 I G (I 53 12)), G) else if x1 = (16 : Int32) then some ((), (g_X8_push_64 I G (gAt (I 59) 6 (x2 + (1 : Int32)))), G) else if x1 = (18 : Int32) then rb (R_X7_isAtEdge_53 I G (x2 + (1 : Int32))) (fun r1 I1 G1 => some ((), (g_X8_pushTest_64 I1 G1 r1), G1)) else if x1 = (19 : Int32) then (if (f_X8_pop_64 I G ) = 0 then some ((), (g_X8_pushTest_64 (g_X8_pop_64 I G ) G (1 : Int32)), G) else some ((), (g_X8_pushTest_64 (g_X8_pop_64 I G ) G (0 : Int32)), G)) else if x1 = (40 : Int32) then some ((), (g_X8_push_64 I G x2), G) else if x1 = (43 : Int32) then some ((), (g_X8_push_64 (g_X8_pop_64 I G ) G (-(f_X8_pop_64 I G ))), G) else (if x1 = (17 : Int32) then some ((), (g_X8_push_64 (g_X8_pop_64 (g_X8_pop_64 I G ) G ) G (gAt ((g_X8_pop_64 (g_X8_pop_64 I G ) G ) 57) 576 (f_X5_spot_7 (g_X8_pop_64 (g_X8_pop_64 I G ) G ) G (f_X8_pop_64 (g_X8_pop_64 I G ) G ) (f_X8_pop_64 I G )))), G) else some ((), (g_X8_push_64 (g_X8_pop_64 (g_X8_pop_64 I G ) G ) G (f_X7_combine (g_X8_pop_64 (g_X8_pop_64 I G ) G ) G x1 (f_X8_pop_64 (g_X8_pop_64 I G ) G ) (f_X8_pop_64 I G ))), G)))
set_option maxRecDepth 20000 in
set_option maxHeartbeats 4000000 in
theorem c_X7_step_53 (rd : Nat) (I : am_I) (G : am_G) (x1 : Int32) (x2 : Int32) {out : Unit × am_I × am_G} (h : R_X7_step_53 I G x1 x2 = some out) : am_Ct mX7_step 4 gS [.ref 53, .int x1, .int x2] I G (gP rd) (pV out.2.1 out.2.2 (gP rd)) := by
  refine am_ofF (by decide +kernel) rfl (by decide) (by omega) (Nat.le_of_ble_eq_true rfl) (fun X ad hX hi => ?_)
  have hi : am_info X 5 cX7_step 5 false none 4 := hi
  show am_V X 0 0 _ _ ad (0, [(0, .ref 53), (1, .int x1), (2, .int x2)], [], I, G, (gP rd))
  unfold R_X7_step_53 at h
  refine am_blk 0 [(.iload_n 1, 1, 1, 0, .null)] (1, [(0, .ref 53), (1, .int x1), (2, .int x2)], [.int x1], I, G, (gP rd)) (True) hX hi (by decide +kernel) rfl trivial ?_
  by_cases s1_6 : x1 = (6 : Int32)
  · rw [if_pos s1_6] at h
    refine am_lsw hX hi (dflt := (216)) (ps := #[((6), (118)), ((9), (100)), ((15), (86)), ((16), (136)), ((18), (156)), ((19), (191)), ((40), (75)), ((43), (173))]) (len := 75) (off := (118)) (tgt := 119) (by decide +kernel) (by decide +kernel) (by rw [s1_6]; rfl) (by decide) ?_
    refine am_blk 119 [(.aload_n 0, 1, 0, 0, .null), (.getfield 40, 3, 5, 9, .null), (.aload_n 0, 1, 0, 0, .null), (.getfield 18, 3, 5, 4, .null), (.iload_n 2, 1, 2, 0, .null)] (128, [(0, .ref 53), (1, .int x1), (2, .int x2)], [.int x2, .ref 56, .ref 64], I, G, (gP rd)) (True) hX hi (by decide +kernel) rfl trivial ?_
    refine am_callS hX hi (M := mX0_at) (idx := 85) (d' := 1) (As := [.ref 56, .int x2]) (rest := [.ref 64]) mkX0_at msX0_at (by decide +kernel) (by decide +kernel) rfl ⟨by omega, by decide, Nat.le_of_ble_eq_true rfl⟩ rfl (c_at rfl (by decide) x2) ?_
    rintro r9 I9 G9 P9 ⟨e0, e1, e2, e3⟩
    rw [e0, e1, e2, e3]
    show am_V X 0 0 _ _ ad (131, [(0, .ref 53), (1, .int x1), (2, .int x2)], [.int (gAt (I 56) 4 x2), .ref 64], I, G, (gP rd))
    refine am_callV hX hi (M := mX8_push) (idx := 183) (d' := 1) (b := 64) (ci := 6) (As := [.int (gAt (I 56) 4 x2)]) (rest := []) mkX8_push miX8_push mvX8_push (by decide +kernel) (by decide +kernel) rfl (by decide +kernel) rfl ⟨by omega, by decide, Nat.le_of_ble_eq_true rfl⟩ rfl (c_X8_push_64 _ I G (gAt (I 56) 4 x2)) ?_
    rintro r9 I9 G9 P9 ⟨e0, e1, e2, e3⟩
    rw [e0, e1, e2, e3]
    show am_V X 0 0 _ _ ad (134, [(0, .ref 53), (1, .int x1), (2, .int x2)], [], (g_X8_push_64 I G (gAt (I 56) 4 x2)), G, (gP rd))
    refine am_blk 134 [(.goto (140), 3, 0, 274, .null)] (274, [(0, .ref 53), (1, .int x1), (2, .int x2)], [], (g_X8_push_64 I G (gAt (I 56) 4 x2)), G, (gP rd)) (True) hX hi (by decide +kernel) rfl trivial ?_
    cases h
    refine am_vret hX hi rfl (by decide +kernel) ?_
    exact ⟨rfl, rfl, rfl, rfl⟩
  rw [if_neg s1_6] at h
  by_cases s1_9 : x1 = (9 : Int32)
  · rw [if_pos s1_9] at h
    refine am_lsw hX hi (dflt := (216)) (ps := #[((6), (118)), ((9), (100)), ((15), (86)), ((16), (136)), ((18), (156)), ((19), (191)), ((40), (75)), ((43), (173))]) (len := 75) (off := (100)) (tgt := 101) (by decide +kernel) (by decide +kernel) (by rw [s1_9]; rfl) (by decide) ?_
    refine am_blk 101 [(.aload_n 0, 1, 0, 0, .null), (.getfield 40, 3, 5, 9, .null), (.aload_n 0, 1, 0, 0, .null), (.getfield 9, 3, 5, 2, .null), (.iload_n 2, 1, 2, 0, .null)] (110, [(0, .ref 53), (1, .int x1), (2, .int x2)], [.int x2, .ref 54, .ref 64], I, G, (gP rd)) (True) hX hi (by decide +kernel) rfl trivial ?_
    refine am_callS hX hi (M := mX0_at) (idx := 85) (d' := 1) (As := [.ref 54, .int x2]) (rest := [.ref 64]) mkX0_at msX0_at (by decide +kernel) (by decide +kernel) rfl ⟨by omega, by decide, Nat.le_of_ble_eq_true rfl⟩ rfl (c_at rfl (by decide) x2) ?_
    rintro r9 I9 G9 P9 ⟨e0, e1, e2, e3⟩
    rw [e0, e1, e2, e3]
    show am_V X 0 0 _ _ ad (113, [(0, .ref 53), (1, .int x1), (2, .int x2)], [.int (gAt (I 54) 4 x2), .ref 64], I, G, (gP rd))
    refine am_callV hX hi (M := mX8_push) (idx := 183) (d' := 1) (b := 64) (ci := 6) (As := [.int (gAt (I 54) 4 x2)]) (rest := []) mkX8_push miX8_push mvX8_push (by decide +kernel) (by decide +kernel) rfl (by decide +kernel) rfl ⟨by omega, by decide, Nat.le_of_ble_eq_true rfl⟩ rfl (c_X8_push_64 _ I G (gAt (I 54) 4 x2)) ?_
    rintro r9 I9 G9 P9 ⟨e0, e1, e2, e3⟩
    rw [e0, e1, e2, e3]
    show am_V X 0 0 _ _ ad (116, [(0, .ref 53), (1, .int x1), (2, .int x2)], [], (g_X8_push_64 I G (gAt (I 54) 4 x2)), G, (gP rd))
    refine am_blk 116 [(.goto (158), 3, 0, 274, .null)] (274, [(0, .ref 53), (1, .int x1), (2, .int x2)], [], (g_X8_push_64 I G (gAt (I 54) 4 x2)), G, (gP rd)) (True) hX hi (by decide +kernel) rfl trivial ?_
    cases h
    refine am_vret hX hi rfl (by decide +kernel) ?_
    exact ⟨rfl, rfl, rfl, rfl⟩
  rw [if_neg s1_9] at h
  by_cases s1_15 : x1 = (15 : Int32)
  · rw [if_pos s1_15] at h
    refine am_lsw hX hi (dflt := (216)) (ps := #[((6), (118)), ((9), (100)), ((15), (86)), ((16), (136)), ((18), (156)), ((19), (191)), ((40), (75)), ((43), (173))]) (len := 75) (off := (86)) (tgt := 87) (by decide +kernel) (by decide +kernel) (by rw [s1_15]; rfl) (by decide) ?_
    refine am_blk 87 [(.aload_n 0, 1, 0, 0, .null), (.getfield 40, 3, 5, 9, .null), (.aload_n 0, 1, 0, 0, .null), (.getfield 59, 3, 5, 12, .null)] (95, [(0, .ref 53), (1, .int x1), (2, .int x2)], [.int (I 53 12), .ref 64], I, G, (gP rd)) (True) hX hi (by decide +kernel) rfl trivial ?_
    refine am_callV hX hi (M := mX8_push) (idx := 183) (d' := 1) (b := 64) (ci := 6) (As := [.int (I 53 12)]) (rest := []) mkX8_push miX8_push mvX8_push (by decide +kernel) (by decide +kernel) rfl (by decide +kernel) rfl ⟨by omega, by decide, Nat.le_of_ble_eq_true rfl⟩ rfl (c_X8_push_64 _ I G (I 53 12)) ?_
    rintro r9 I9 G9 P9 ⟨e0, e1, e2, e3⟩
    rw [e0, e1, e2, e3]
    show am_V X 0 0 _ _ ad (98, [(0, .ref 53), (1, .int x1), (2, .int x2)], [], (g_X8_push_64 I G (I 53 12)), G, (gP rd))
    refine am_blk 98 [(.goto (176), 3, 0, 274, .null)] (274, [(0, .ref 53), (1, .int x1), (2, .int x2)], [], (g_X8_push_64 I G (I 53 12)), G, (gP rd)) (True) hX hi (by decide +kernel) rfl trivial ?_
    cases h
    refine am_vret hX hi rfl (by decide +kernel) ?_
    exact ⟨rfl, rfl, rfl, rfl⟩
  rw [if_neg s1_15] at h
  by_cases s1_16 : x1 = (16 : Int32)
  · rw [if_pos s1_16] at h
    refine am_lsw hX hi (dflt := (216)) (ps := #[((6), (118)), ((9), (100)), ((15), (86)), ((16), (136)), ((18), (156)), ((19), (191)), ((40), (75)), ((43), (173))]) (len := 75) (off := (136)) (tgt := 137) (by decide +kernel) (by decide +kernel) (by rw [s1_16]; rfl) (by decide) ?_
    refine am_blk 137 [(.aload_n 0, 1, 0, 0, .null), (.getfield 40, 3, 5, 9, .null), (.aload_n 0, 1, 0, 0, .null), (.getfield 27, 3, 5, 7, .null), (.iload_n 2, 1, 2, 0, .null), (.iconst (1), 1, 0, 0, .int (1 : Int32)), (.iadd, 1, 0, 0, .null)] (148, [(0, .ref 53), (1, .int x1), (2, .int x2)], [.int (x2 + (1 : Int32)), .ref 59, .ref 64], I, G, (gP rd)) (True) hX hi (by decide +kernel) rfl trivial ?_
    refine am_callS hX hi (M := mX0_at) (idx := 85) (d' := 1) (As := [.ref 59, .int (x2 + (1 : Int32))]) (rest := [.ref 64]) mkX0_at msX0_at (by decide +kernel) (by decide +kernel) rfl ⟨by omega, by decide, Nat.le_of_ble_eq_true rfl⟩ rfl (c_at rfl (by decide) (x2 + (1 : Int32))) ?_
    rintro r9 I9 G9 P9 ⟨e0, e1, e2, e3⟩
    rw [e0, e1, e2, e3]
    show am_V X 0 0 _ _ ad (151, [(0, .ref 53), (1, .int x1), (2, .int x2)], [.int (gAt (I 59) 6 (x2 + (1 : Int32))), .ref 64], I, G, (gP rd))
    refine am_callV hX hi (M := mX8_push) (idx := 183) (d' := 1) (b := 64) (ci := 6) (As := [.int (gAt (I 59) 6 (x2 + (1 : Int32)))]) (rest := []) mkX8_push miX8_push mvX8_push (by decide +kernel) (by decide +kernel) rfl (by decide +kernel) rfl ⟨by omega, by decide, Nat.le_of_ble_eq_true rfl⟩ rfl (c_X8_push_64 _ I G (gAt (I 59) 6 (x2 + (1 : Int32)))) ?_
    rintro r9 I9 G9 P9 ⟨e0, e1, e2, e3⟩
    rw [e0, e1, e2, e3]
    show am_V X 0 0 _ _ ad (154, [(0, .ref 53), (1, .int x1), (2, .int x2)], [], (g_X8_push_64 I G (gAt (I 59) 6 (x2 + (1 : Int32)))), G, (gP rd))
    refine am_blk 154 [(.goto (120), 3, 0, 274, .null)] (274, [(0, .ref 53), (1, .int x1), (2, .int x2)], [], (g_X8_push_64 I G (gAt (I 59) 6 (x2 + (1 : Int32)))), G, (gP rd)) (True) hX hi (by decide +kernel) rfl trivial ?_
    cases h
    refine am_vret hX hi rfl (by decide +kernel) ?_
    exact ⟨rfl, rfl, rfl, rfl⟩
  rw [if_neg s1_16] at h
  by_cases s1_18 : x1 = (18 : Int32)
  · rw [if_pos s1_18] at h
    refine am_lsw hX hi (dflt := (216)) (ps := #[((6), (118)), ((9), (100)), ((15), (86)), ((16), (136)), ((18), (156)), ((19), (191)), ((40), (75)), ((43), (173))]) (len := 75) (off := (156)) (tgt := 157) (by decide +kernel) (by decide +kernel) (by rw [s1_18]; rfl) (by decide) ?_
    refine am_blk 157 [(.aload_n 0, 1, 0, 0, .null), (.getfield 40, 3, 5, 9, .null), (.aload_n 0, 1, 0, 0, .null), (.iload_n 2, 1, 2, 0, .null), (.iconst (1), 1, 0, 0, .int (1 : Int32)), (.iadd, 1, 0, 0, .null)] (165, [(0, .ref 53), (1, .int x1), (2, .int x2)], [.int (x2 + (1 : Int32)), .ref 53, .ref 64], I, G, (gP rd)) (True) hX hi (by decide +kernel) rfl trivial ?_
    obtain ⟨r1, I1, G1, hc, h⟩ := rb_some h
    refine am_callV hX hi (M := mX7_isAtEdge) (idx := 186) (d' := 2) (b := 53) (ci := 5) (As := [.int (x2 + (1 : Int32))]) (rest := [.ref 64]) mkX7_isAtEdge miX7_isAtEdge mvX7_isAtEdge (by decide +kernel) (by decide +kernel) rfl (by decide +kernel) rfl ⟨by omega, by decide, Nat.le_of_ble_eq_true rfl⟩ rfl (c_X7_isAtEdge_53 _ I G (x2 + (1 : Int32)) hc) ?_
    rintro r9 I9 G9 P9 ⟨e0, e1, e2, e3⟩
    rw [e0, e1, e2, e3]
    show am_V X 0 0 _ _ ad (168, [(0, .ref 53), (1, .int x1), (2, .int x2)], [.int r1, .ref 64], I1, G1, (gP rd))
    refine am_callV hX hi (M := mX8_pushTest) (idx := 189) (d' := 2) (b := 64) (ci := 6) (As := [.int r1]) (rest := []) mkX8_pushTest miX8_pushTest mvX8_pushTest (by decide +kernel) (by decide +kernel) rfl (by decide +kernel) rfl ⟨by omega, by decide, Nat.le_of_ble_eq_true rfl⟩ rfl (c_X8_pushTest_64 _ I1 G1 r1) ?_
    rintro r9 I9 G9 P9 ⟨e0, e1, e2, e3⟩
    rw [e0, e1, e2, e3]
    show am_V X 0 0 _ _ ad (171, [(0, .ref 53), (1, .int x1), (2, .int x2)], [], (g_X8_pushTest_64 I1 G1 r1), G1, (gP rd))
    refine am_blk 171 [(.goto (103), 3, 0, 274, .null)] (274, [(0, .ref 53), (1, .int x1), (2, .int x2)], [], (g_X8_pushTest_64 I1 G1 r1), G1, (gP rd)) (True) hX hi (by decide +kernel) rfl trivial ?_
    cases h
    refine am_vret hX hi rfl (by decide +kernel) ?_
    exact ⟨rfl, rfl, rfl, rfl⟩
  rw [if_neg s1_18] at h
  by_cases s1_19 : x1 = (19 : Int32)
  · rw [if_pos s1_19] at h
    refine am_lsw hX hi (dflt := (216)) (ps := #[((6), (118)), ((9), (100)), ((15), (86)), ((16), (136)), ((18), (156)), ((19), (191)), ((40), (75)), ((43), (173))]) (len := 75) (off := (191)) (tgt := 192) (by decide +kernel) (by decide +kernel) (by rw [s1_19]; rfl) (by decide) ?_
    refine am_blk 192 [(.aload_n 0, 1, 0, 0, .null), (.getfield 40, 3, 5, 9, .null), (.aload_n 0, 1, 0, 0, .null), (.getfield 40, 3, 5, 9, .null)] (200, [(0, .ref 53), (1, .int x1), (2, .int x2)], [.ref 64, .ref 64], I, G, (gP rd)) (True) hX hi (by decide +kernel) rfl trivial ?_
    refine am_callV hX hi (M := mX8_pop) (idx := 179) (d' := 1) (b := 64) (ci := 6) (As := []) (rest := [.ref 64]) mkX8_pop miX8_pop mvX8_pop (by decide +kernel) (by decide +kernel) rfl (by decide +kernel) rfl ⟨by omega, by decide, Nat.le_of_ble_eq_true rfl⟩ rfl (c_X8_pop_64 _ I G ) ?_
    rintro r9 I9 G9 P9 ⟨e0, e1, e2, e3⟩
    rw [e0, e1, e2, e3]
    show am_V X 0 0 _ _ ad (203, [(0, .ref 53), (1, .int x1), (2, .int x2)], [.int (f_X8_pop_64 I G ), .ref 64], (g_X8_pop_64 I G ), G, (gP rd))
    refine am_if_ne (tgt := 210) hX hi (off := (7)) (by decide +kernel) (by decide) (fun c203 => ?_) (fun c203 => ?_)
    · rw [if_neg c203] at h
      refine am_blk 210 [(.iconst (0), 1, 0, 0, .int (0 : Int32))] (211, [(0, .ref 53), (1, .int x1), (2, .int x2)], [.int (0 : Int32), .ref 64], (g_X8_pop_64 I G ), G, (gP rd)) (True) hX hi (by decide +kernel) rfl trivial ?_
      refine am_callV hX hi (M := mX8_pushTest) (idx := 189) (d' := 2) (b := 64) (ci := 6) (As := [.int (0 : Int32)]) (rest := []) mkX8_pushTest miX8_pushTest mvX8_pushTest (by decide +kernel) (by decide +kernel) rfl (by decide +kernel) rfl ⟨by omega, by decide, Nat.le_of_ble_eq_true rfl⟩ rfl (c_X8_pushTest_64 _ (g_X8_pop_64 I G ) G (0 : Int32)) ?_
      rintro r9 I9 G9 P9 ⟨e0, e1, e2, e3⟩
      rw [e0, e1, e2, e3]
      show am_V X 0 0 _ _ ad (214, [(0, .ref 53), (1, .int x1), (2, .int x2)], [], (g_X8_pushTest_64 (g_X8_pop_64 I G ) G (0 : Int32)), G, (gP rd))
      refine am_blk 214 [(.goto (60), 3, 0, 274, .null)] (274, [(0, .ref 53), (1, .int x1), (2, .int x2)], [], (g_X8_pushTest_64 (g_X8_pop_64 I G ) G (0 : Int32)), G, (gP rd)) (True) hX hi (by decide +kernel) rfl trivial ?_
      cases h
      refine am_vret hX hi rfl (by decide +kernel) ?_
      exact ⟨rfl, rfl, rfl, rfl⟩
    · rw [if_pos c203] at h
      refine am_blk 206 [(.iconst (1), 1, 0, 0, .int (1 : Int32)), (.goto (4), 3, 0, 211, .null)] (211, [(0, .ref 53), (1, .int x1), (2, .int x2)], [.int (1 : Int32), .ref 64], (g_X8_pop_64 I G ), G, (gP rd)) (True) hX hi (by decide +kernel) rfl trivial ?_
      refine am_callV hX hi (M := mX8_pushTest) (idx := 189) (d' := 2) (b := 64) (ci := 6) (As := [.int (1 : Int32)]) (rest := []) mkX8_pushTest miX8_pushTest mvX8_pushTest (by decide +kernel) (by decide +kernel) rfl (by decide +kernel) rfl ⟨by omega, by decide, Nat.le_of_ble_eq_true rfl⟩ rfl (c_X8_pushTest_64 _ (g_X8_pop_64 I G ) G (1 : Int32)) ?_
      rintro r9 I9 G9 P9 ⟨e0, e1, e2, e3⟩
      rw [e0, e1, e2, e3]
      show am_V X 0 0 _ _ ad (214, [(0, .ref 53), (1, .int x1), (2, .int x2)], [], (g_X8_pushTest_64 (g_X8_pop_64 I G ) G (1 : Int32)), G, (gP rd))
      refine am_blk 214 [(.goto (60), 3, 0, 274, .null)] (274, [(0, .ref 53), (1, .int x1), (2, .int x2)], [], (g_X8_pushTest_64 (g_X8_pop_64 I G ) G (1 : Int32)), G, (gP rd)) (True) hX hi (by decide +kernel) rfl trivial ?_
      cases h
      refine am_vret hX hi rfl (by decide +kernel) ?_
      exact ⟨rfl, rfl, rfl, rfl⟩
  rw [if_neg s1_19] at h
  by_cases s1_40 : x1 = (40 : Int32)
  · rw [if_pos s1_40] at h
    refine am_lsw hX hi (dflt := (216)) (ps := #[((6), (118)), ((9), (100)), ((15), (86)), ((16), (136)), ((18), (156)), ((19), (191)), ((40), (75)), ((43), (173))]) (len := 75) (off := (75)) (tgt := 76) (by decide +kernel) (by decide +kernel) (by rw [s1_40]; rfl) (by decide) ?_
    refine am_blk 76 [(.aload_n 0, 1, 0, 0, .null), (.getfield 40, 3, 5, 9, .null), (.iload_n 2, 1, 2, 0, .null)] (81, [(0, .ref 53), (1, .int x1), (2, .int x2)], [.int x2, .ref 64], I, G, (gP rd)) (True) hX hi (by decide +kernel) rfl trivial ?_
    refine am_callV hX hi (M := mX8_push) (idx := 183) (d' := 1) (b := 64) (ci := 6) (As := [.int x2]) (rest := []) mkX8_push miX8_push mvX8_push (by decide +kernel) (by decide +kernel) rfl (by decide +kernel) rfl ⟨by omega, by decide, Nat.le_of_ble_eq_true rfl⟩ rfl (c_X8_push_64 _ I G x2) ?_
    rintro r9 I9 G9 P9 ⟨e0, e1, e2, e3⟩
    rw [e0, e1, e2, e3]
    show am_V X 0 0 _ _ ad (84, [(0, .ref 53), (1, .int x1), (2, .int x2)], [], (g_X8_push_64 I G x2), G, (gP rd))
    refine am_blk 84 [(.goto (190), 3, 0, 274, .null)] (274, [(0, .ref 53), (1, .int x1), (2, .int x2)], [], (g_X8_push_64 I G x2), G, (gP rd)) (True) hX hi (by decide +kernel) rfl trivial ?_
    cases h
    refine am_vret hX hi rfl (by decide +kernel) ?_
    exact ⟨rfl, rfl, rfl, rfl⟩
  rw [if_neg s1_40] at h
  by_cases s1_43 : x1 = (43 : Int32)
  · rw [if_pos s1_43] at h
    refine am_lsw hX hi (dflt := (216)) (ps := #[((6), (118)), ((9), (100)), ((15), (86)), ((16), (136)), ((18), (156)), ((19), (191)), ((40), (75)), ((43), (173))]) (len := 75) (off := (173)) (tgt := 174) (by decide +kernel) (by decide +kernel) (by rw [s1_43]; rfl) (by decide) ?_
    refine am_blk 174 [(.aload_n 0, 1, 0, 0, .null), (.getfield 40, 3, 5, 9, .null), (.aload_n 0, 1, 0, 0, .null), (.getfield 40, 3, 5, 9, .null)] (182, [(0, .ref 53), (1, .int x1), (2, .int x2)], [.ref 64, .ref 64], I, G, (gP rd)) (True) hX hi (by decide +kernel) rfl trivial ?_
    refine am_callV hX hi (M := mX8_pop) (idx := 179) (d' := 1) (b := 64) (ci := 6) (As := []) (rest := [.ref 64]) mkX8_pop miX8_pop mvX8_pop (by decide +kernel) (by decide +kernel) rfl (by decide +kernel) rfl ⟨by omega, by decide, Nat.le_of_ble_eq_true rfl⟩ rfl (c_X8_pop_64 _ I G ) ?_
    rintro r9 I9 G9 P9 ⟨e0, e1, e2, e3⟩
    rw [e0, e1, e2, e3]
    show am_V X 0 0 _ _ ad (185, [(0, .ref 53), (1, .int x1), (2, .int x2)], [.int (f_X8_pop_64 I G ), .ref 64], (g_X8_pop_64 I G ), G, (gP rd))
    refine am_blk 185 [(.ineg, 1, 0, 0, .null)] (186, [(0, .ref 53), (1, .int x1), (2, .int x2)], [.int (-(f_X8_pop_64 I G )), .ref 64], (g_X8_pop_64 I G ), G, (gP rd)) (True) hX hi (by decide +kernel) rfl trivial ?_
    refine am_callV hX hi (M := mX8_push) (idx := 183) (d' := 1) (b := 64) (ci := 6) (As := [.int (-(f_X8_pop_64 I G ))]) (rest := []) mkX8_push miX8_push mvX8_push (by decide +kernel) (by decide +kernel) rfl (by decide +kernel) rfl ⟨by omega, by decide, Nat.le_of_ble_eq_true rfl⟩ rfl (c_X8_push_64 _ (g_X8_pop_64 I G ) G (-(f_X8_pop_64 I G ))) ?_
    rintro r9 I9 G9 P9 ⟨e0, e1, e2, e3⟩
    rw [e0, e1, e2, e3]
    show am_V X 0 0 _ _ ad (189, [(0, .ref 53), (1, .int x1), (2, .int x2)], [], (g_X8_push_64 (g_X8_pop_64 I G ) G (-(f_X8_pop_64 I G ))), G, (gP rd))
    refine am_blk 189 [(.goto (85), 3, 0, 274, .null)] (274, [(0, .ref 53), (1, .int x1), (2, .int x2)], [], (g_X8_push_64 (g_X8_pop_64 I G ) G (-(f_X8_pop_64 I G ))), G, (gP rd)) (True) hX hi (by decide +kernel) rfl trivial ?_
    cases h
    refine am_vret hX hi rfl (by decide +kernel) ?_
    exact ⟨rfl, rfl, rfl, rfl⟩
  rw [if_neg s1_43] at h
  refine am_lsw hX hi (dflt := (216)) (ps := #[((6), (118)), ((9), (100)), ((15), (86)), ((16), (136)), ((18), (156)), ((19), (191)), ((40), (75)), ((43), (173))]) (len := 75) (off := (216)) (tgt := 217) (by decide +kernel) (by decide +kernel) ?_ (by decide) ?_
  · have eF : ∀ v : Int32, ¬ x1 = v → ¬ (x1).toInt = v.toInt := fun v q z => q ((i_eq _ _).mpr z)
    have e6 := eF (6 : Int32) s1_6
    have e9 := eF (9 : Int32) s1_9
    have e15 := eF (15 : Int32) s1_15
    have e16 := eF (16 : Int32) s1_16
    have e18 := eF (18 : Int32) s1_18
    have e19 := eF (19 : Int32) s1_19
    have e40 := eF (40 : Int32) s1_40
    have e43 := eF (43 : Int32) s1_43
    simp only [show ((6 : Int32) : Int32).toInt = 6 from rfl, show ((9 : Int32) : Int32).toInt = 9 from rfl, show ((15 : Int32) : Int32).toInt = 15 from rfl, show ((16 : Int32) : Int32).toInt = 16 from rfl, show ((18 : Int32) : Int32).toInt = 18 from rfl, show ((19 : Int32) : Int32).toInt = 19 from rfl, show ((40 : Int32) : Int32).toInt = 40 from rfl, show ((43 : Int32) : Int32).toInt = 43 from rfl] at e6 e9 e15 e16 e18 e19 e40 e43
    simp [Op.lookupswitch.offset, e6, Ne.symm e6, e9, Ne.symm e9, e15, Ne.symm e15, e16, Ne.symm e16, e18, Ne.symm e18, e19, Ne.symm e19, e40, Ne.symm e40, e43, Ne.symm e43]
  refine am_blk 217 [(.aload_n 0, 1, 0, 0, .null), (.getfield 40, 3, 5, 9, .null)] (221, [(0, .ref 53), (1, .int x1), (2, .int x2)], [.ref 64], I, G, (gP rd)) (True) hX hi (by decide +kernel) rfl trivial ?_
  refine am_callV hX hi (M := mX8_pop) (idx := 179) (d' := 1) (b := 64) (ci := 6) (As := []) (rest := []) mkX8_pop miX8_pop mvX8_pop (by decide +kernel) (by decide +kernel) rfl (by decide +kernel) rfl ⟨by omega, by decide, Nat.le_of_ble_eq_true rfl⟩ rfl (c_X8_pop_64 _ I G ) ?_
  rintro r9 I9 G9 P9 ⟨e0, e1, e2, e3⟩
  rw [e0, e1, e2, e3]
  show am_V X 0 0 _ _ ad (224, [(0, .ref 53), (1, .int x1), (2, .int x2)], [.int (f_X8_pop_64 I G )], (g_X8_pop_64 I G ), G, (gP rd))
  refine am_blk 224 [(.istore_n 3, 1, 3, 0, .null), (.aload_n 0, 1, 0, 0, .null), (.getfield 40, 3, 5, 9, .null)] (229, [(0, .ref 53), (1, .int x1), (2, .int x2), (3, .int (f_X8_pop_64 I G ))], [.ref 64], (g_X8_pop_64 I G ), G, (gP rd)) (True) hX hi (by decide +kernel) rfl trivial ?_
  refine am_callV hX hi (M := mX8_pop) (idx := 179) (d' := 1) (b := 64) (ci := 6) (As := []) (rest := []) mkX8_pop miX8_pop mvX8_pop (by decide +kernel) (by decide +kernel) rfl (by decide +kernel) rfl ⟨by omega, by decide, Nat.le_of_ble_eq_true rfl⟩ rfl (c_X8_pop_64 _ (g_X8_pop_64 I G ) G ) ?_
  rintro r9 I9 G9 P9 ⟨e0, e1, e2, e3⟩
  rw [e0, e1, e2, e3]
  show am_V X 0 0 _ _ ad (232, [(0, .ref 53), (1, .int x1), (2, .int x2), (3, .int (f_X8_pop_64 I G ))], [.int (f_X8_pop_64 (g_X8_pop_64 I G ) G )], (g_X8_pop_64 (g_X8_pop_64 I G ) G ), G, (gP rd))
  refine am_blk 232 [(.istore 4, 2, 4, 0, .null), (.aload_n 0, 1, 0, 0, .null), (.getfield 40, 3, 5, 9, .null), (.iload_n 1, 1, 1, 0, .null), (.bipush (17), 2, 0, 0, .int (17 : Int32))] (241, [(0, .ref 53), (1, .int x1), (2, .int x2), (3, .int (f_X8_pop_64 I G )), (4, .int (f_X8_pop_64 (g_X8_pop_64 I G ) G ))], [.int (17 : Int32), .int x1, .ref 64], (g_X8_pop_64 (g_X8_pop_64 I G ) G ), G, (gP rd)) (True) hX hi (by decide +kernel) rfl trivial ?_
  refine am_icmp_ne (tgt := 264) hX hi (off := (23)) (by decide +kernel) (by decide) (fun c241 => ?_) (fun c241 => ?_)
  · rw [if_neg c241] at h
    refine am_blk 264 [(.iload_n 1, 1, 1, 0, .null), (.iload 4, 2, 4, 0, .null), (.iload_n 3, 1, 3, 0, .null)] (268, [(0, .ref 53), (1, .int x1), (2, .int x2), (3, .int (f_X8_pop_64 I G )), (4, .int (f_X8_pop_64 (g_X8_pop_64 I G ) G ))], [.int (f_X8_pop_64 I G ), .int (f_X8_pop_64 (g_X8_pop_64 I G ) G ), .int x1, .ref 64], (g_X8_pop_64 (g_X8_pop_64 I G ) G ), G, (gP rd)) (True) hX hi (by decide +kernel) rfl trivial ?_
    refine am_callS hX hi (M := mX7_combine) (idx := 198) (d' := 2) (As := [.int x1, .int (f_X8_pop_64 (g_X8_pop_64 I G ) G ), .int (f_X8_pop_64 I G )]) (rest := [.ref 64]) mkX7_combine msX7_combine (by decide +kernel) (by decide +kernel) rfl ⟨by omega, by decide, Nat.le_of_ble_eq_true rfl⟩ rfl (c_X7_combine (g_X8_pop_64 (g_X8_pop_64 I G ) G ) G x1 (f_X8_pop_64 (g_X8_pop_64 I G ) G ) (f_X8_pop_64 I G )) ?_
    rintro r9 I9 G9 P9 ⟨e0, e1, e2, e3⟩
    rw [e0, e1, e2, e3]
    show am_V X 0 0 _ _ ad (271, [(0, .ref 53), (1, .int x1), (2, .int x2), (3, .int (f_X8_pop_64 I G )), (4, .int (f_X8_pop_64 (g_X8_pop_64 I G ) G ))], [.int (f_X7_combine (g_X8_pop_64 (g_X8_pop_64 I G ) G ) G x1 (f_X8_pop_64 (g_X8_pop_64 I G ) G ) (f_X8_pop_64 I G )), .ref 64], (g_X8_pop_64 (g_X8_pop_64 I G ) G ), G, (gP rd))
    refine am_callV hX hi (M := mX8_push) (idx := 183) (d' := 1) (b := 64) (ci := 6) (As := [.int (f_X7_combine (g_X8_pop_64 (g_X8_pop_64 I G ) G ) G x1 (f_X8_pop_64 (g_X8_pop_64 I G ) G ) (f_X8_pop_64 I G ))]) (rest := []) mkX8_push miX8_push mvX8_push (by decide +kernel) (by decide +kernel) rfl (by decide +kernel) rfl ⟨by omega, by decide, Nat.le_of_ble_eq_true rfl⟩ rfl (c_X8_push_64 _ (g_X8_pop_64 (g_X8_pop_64 I G ) G ) G (f_X7_combine (g_X8_pop_64 (g_X8_pop_64 I G ) G ) G x1 (f_X8_pop_64 (g_X8_pop_64 I G ) G ) (f_X8_pop_64 I G ))) ?_
    rintro r9 I9 G9 P9 ⟨e0, e1, e2, e3⟩
    rw [e0, e1, e2, e3]
    show am_V X 0 0 _ _ ad (274, [(0, .ref 53), (1, .int x1), (2, .int x2), (3, .int (f_X8_pop_64 I G )), (4, .int (f_X8_pop_64 (g_X8_pop_64 I G ) G ))], [], (g_X8_push_64 (g_X8_pop_64 (g_X8_pop_64 I G ) G ) G (f_X7_combine (g_X8_pop_64 (g_X8_pop_64 I G ) G ) G x1 (f_X8_pop_64 (g_X8_pop_64 I G ) G ) (f_X8_pop_64 I G ))), G, (gP rd))
    cases h
    refine am_vret hX hi rfl (by decide +kernel) ?_
    exact ⟨rfl, rfl, rfl, rfl⟩
  · rw [if_pos c241] at h
    refine am_blk 244 [(.aload_n 0, 1, 0, 0, .null), (.getfield 21, 3, 5, 5, .null), (.aload_n 0, 1, 0, 0, .null), (.getfield 44, 3, 5, 0, .null), (.iload 4, 2, 4, 0, .null), (.iload_n 3, 1, 3, 0, .null)] (255, [(0, .ref 53), (1, .int x1), (2, .int x2), (3, .int (f_X8_pop_64 I G )), (4, .int (f_X8_pop_64 (g_X8_pop_64 I G ) G ))], [.int (f_X8_pop_64 I G ), .int (f_X8_pop_64 (g_X8_pop_64 I G ) G ), .ref 7, .ref 57, .ref 64], (g_X8_pop_64 (g_X8_pop_64 I G ) G ), G, (gP rd)) (True) hX hi (by decide +kernel) rfl trivial ?_
    refine am_callV hX hi (M := mX5_spot) (idx := 195) (d' := 3) (b := 7) (ci := 3) (As := [.int (f_X8_pop_64 (g_X8_pop_64 I G ) G ), .int (f_X8_pop_64 I G )]) (rest := [.ref 57, .ref 64]) mkX5_spot miX5_spot mvX5_spot (by decide +kernel) (by decide +kernel) rfl (by decide +kernel) rfl ⟨by omega, by decide, Nat.le_of_ble_eq_true rfl⟩ rfl (c_X5_spot_7 _ (g_X8_pop_64 (g_X8_pop_64 I G ) G ) G (f_X8_pop_64 (g_X8_pop_64 I G ) G ) (f_X8_pop_64 I G )) ?_
    rintro r9 I9 G9 P9 ⟨e0, e1, e2, e3⟩
    rw [e0, e1, e2, e3]
    show am_V X 0 0 _ _ ad (258, [(0, .ref 53), (1, .int x1), (2, .int x2), (3, .int (f_X8_pop_64 I G )), (4, .int (f_X8_pop_64 (g_X8_pop_64 I G ) G ))], [.int (f_X5_spot_7 (g_X8_pop_64 (g_X8_pop_64 I G ) G ) G (f_X8_pop_64 (g_X8_pop_64 I G ) G ) (f_X8_pop_64 I G )), .ref 57, .ref 64], (g_X8_pop_64 (g_X8_pop_64 I G ) G ), G, (gP rd))
    refine am_callS hX hi (M := mX0_at) (idx := 85) (d' := 1) (As := [.ref 57, .int (f_X5_spot_7 (g_X8_pop_64 (g_X8_pop_64 I G ) G ) G (f_X8_pop_64 (g_X8_pop_64 I G ) G ) (f_X8_pop_64 I G ))]) (rest := [.ref 64]) mkX0_at msX0_at (by decide +kernel) (by decide +kernel) rfl ⟨by omega, by decide, Nat.le_of_ble_eq_true rfl⟩ rfl (c_at rfl (by decide) (f_X5_spot_7 (g_X8_pop_64 (g_X8_pop_64 I G ) G ) G (f_X8_pop_64 (g_X8_pop_64 I G ) G ) (f_X8_pop_64 I G ))) ?_
    rintro r9 I9 G9 P9 ⟨e0, e1, e2, e3⟩
    rw [e0, e1, e2, e3]
    show am_V X 0 0 _ _ ad (261, [(0, .ref 53), (1, .int x1), (2, .int x2), (3, .int (f_X8_pop_64 I G )), (4, .int (f_X8_pop_64 (g_X8_pop_64 I G ) G ))], [.int (gAt ((g_X8_pop_64 (g_X8_pop_64 I G ) G ) 57) 576 (f_X5_spot_7 (g_X8_pop_64 (g_X8_pop_64 I G ) G ) G (f_X8_pop_64 (g_X8_pop_64 I G ) G ) (f_X8_pop_64 I G ))), .ref 64], (g_X8_pop_64 (g_X8_pop_64 I G ) G ), G, (gP rd))
    refine am_blk 261 [(.goto (10), 3, 0, 271, .null)] (271, [(0, .ref 53), (1, .int x1), (2, .int x2), (3, .int (f_X8_pop_64 I G )), (4, .int (f_X8_pop_64 (g_X8_pop_64 I G ) G ))], [.int (gAt ((g_X8_pop_64 (g_X8_pop_64 I G ) G ) 57) 576 (f_X5_spot_7 (g_X8_pop_64 (g_X8_pop_64 I G ) G ) G (f_X8_pop_64 (g_X8_pop_64 I G ) G ) (f_X8_pop_64 I G ))), .ref 64], (g_X8_pop_64 (g_X8_pop_64 I G ) G ), G, (gP rd)) (True) hX hi (by decide +kernel) rfl trivial ?_
    refine am_callV hX hi (M := mX8_push) (idx := 183) (d' := 1) (b := 64) (ci := 6) (As := [.int (gAt ((g_X8_pop_64 (g_X8_pop_64 I G ) G ) 57) 576 (f_X5_spot_7 (g_X8_pop_64 (g_X8_pop_64 I G ) G ) G (f_X8_pop_64 (g_X8_pop_64 I G ) G ) (f_X8_pop_64 I G )))]) (rest := []) mkX8_push miX8_push mvX8_push (by decide +kernel) (by decide +kernel) rfl (by decide +kernel) rfl ⟨by omega, by decide, Nat.le_of_ble_eq_true rfl⟩ rfl (c_X8_push_64 _ (g_X8_pop_64 (g_X8_pop_64 I G ) G ) G (gAt ((g_X8_pop_64 (g_X8_pop_64 I G ) G ) 57) 576 (f_X5_spot_7 (g_X8_pop_64 (g_X8_pop_64 I G ) G ) G (f_X8_pop_64 (g_X8_pop_64 I G ) G ) (f_X8_pop_64 I G )))) ?_
    rintro r9 I9 G9 P9 ⟨e0, e1, e2, e3⟩
    rw [e0, e1, e2, e3]
    show am_V X 0 0 _ _ ad (274, [(0, .ref 53), (1, .int x1), (2, .int x2), (3, .int (f_X8_pop_64 I G )), (4, .int (f_X8_pop_64 (g_X8_pop_64 I G ) G ))], [], (g_X8_push_64 (g_X8_pop_64 (g_X8_pop_64 I G ) G ) G (gAt ((g_X8_pop_64 (g_X8_pop_64 I G ) G ) 57) 576 (f_X5_spot_7 (g_X8_pop_64 (g_X8_pop_64 I G ) G ) G (f_X8_pop_64 (g_X8_pop_64 I G ) G ) (f_X8_pop_64 I G )))), G, (gP rd))
    cases h
    refine am_vret hX hi rfl (by decide +kernel) ?_
    exact ⟨rfl, rfl, rfl, rfl⟩
noncomputable def R_X7_step_66 (I : am_I) (G : am_G) (x1 : Int32) (x2 : Int32) : Option (Unit × am_I × am_G) := (if x1 = (6 : Int32) then some ((), (g_X8_push_77 I G (gAt (I 69) 4 x2)), G) else if x1 = (9 : Int32) then some ((), (g_X8_push_77 I G (gAt (I 67) 4 x2)), G) else if x1 = (15 : Int32) then some ((), (g_X8_push_77 I G (I 66 12)), G) else if x1 = (16 : Int32) then some ((), (g_X8_push_77 I G (gAt (I 72) 6 (x2 + (1 : Int32)))), G) else if x1 = (18 : Int32) then rb (R_X7_isAtEdge_66 I G (x2 + (1 : Int32))) (fun r1 I1 G1 => some ((), (g_X8_pushTest_77 I1 G1 r1), G1)) else if x1 = (19 : Int32) then (if (f_X8_pop_77 I G ) = 0 then some ((), (g_X8_pushTest_77 (g_X8_pop_77 I G ) G (1 : Int32)), G) else some ((), (g_X8_pushTest_77 (g_X8_pop_77 I G ) G (0 : Int32)), G)) else if x1 = (40 : Int32) then some ((), (g_X8_push_77 I G x2), G) else if x1 = (43 : Int32) then some ((), (g_X8_push_77 (g_X8_pop_77 I G ) G (-(f_X8_pop_77 I G ))), G) else (if x1 = (17 : Int32) then some ((), (g_X8_push_77 (g_X8_pop_77 (g_X8_pop_77 I G ) G ) G (gAt ((g_X8_pop_77 (g_X8_pop_77 I G ) G ) 70) 576 (f_X5_spot_7 (g_X8_pop_77 (g_X8_pop_77 I G ) G ) G (f_X8_pop_77 (g_X8_pop_77 I G ) G ) (f_X8_pop_77 I G )))), G) else some ((), (g_X8_push_77 (g_X8_pop_77 (g_X8_pop_77 I G ) G ) G (f_X7_combine (g_X8_pop_77 (g_X8_pop_77 I G ) G ) G x1 (f_X8_pop_77 (g_X8_pop_77 I G ) G ) (f_X8_pop_77 I G ))), G)))
set_option maxRecDepth 20000 in
set_option maxHeartbeats 4000000 in
theorem c_X7_step_66 (rd : Nat) (I : am_I) (G : am_G) (x1 : Int32) (x2 : Int32) {out : Unit × am_I × am_G} (h : R_X7_step_66 I G x1 x2 = some out) : am_Ct mX7_step 4 gS [.ref 66, .int x1, .int x2] I G (gP rd) (pV out.2.1 out.2.2 (gP rd)) := by
  refine am_ofF (by decide +kernel) rfl (by decide) (by omega) (Nat.le_of_ble_eq_true rfl) (fun X ad hX hi => ?_)
  have hi : am_info X 5 cX7_step 5 false none 4 := hi
  show am_V X 0 0 _ _ ad (0, [(0, .ref 66), (1, .int x1), (2, .int x2)], [], I, G, (gP rd))
  unfold R_X7_step_66 at h
  refine am_blk 0 [(.iload_n 1, 1, 1, 0, .null)] (1, [(0, .ref 66), (1, .int x1), (2, .int x2)], [.int x1], I, G, (gP rd)) (True) hX hi (by decide +kernel) rfl trivial ?_
  by_cases s1_6 : x1 = (6 : Int32)
  · rw [if_pos s1_6] at h
    refine am_lsw hX hi (dflt := (216)) (ps := #[((6), (118)), ((9), (100)), ((15), (86)), ((16), (136)), ((18), (156)), ((19), (191)), ((40), (75)), ((43), (173))]) (len := 75) (off := (118)) (tgt := 119) (by decide +kernel) (by decide +kernel) (by rw [s1_6]; rfl) (by decide) ?_
    refine am_blk 119 [(.aload_n 0, 1, 0, 0, .null), (.getfield 40, 3, 5, 9, .null), (.aload_n 0, 1, 0, 0, .null), (.getfield 18, 3, 5, 4, .null), (.iload_n 2, 1, 2, 0, .null)] (128, [(0, .ref 66), (1, .int x1), (2, .int x2)], [.int x2, .ref 69, .ref 77], I, G, (gP rd)) (True) hX hi (by decide +kernel) rfl trivial ?_
    refine am_callS hX hi (M := mX0_at) (idx := 85) (d' := 1) (As := [.ref 69, .int x2]) (rest := [.ref 77]) mkX0_at msX0_at (by decide +kernel) (by decide +kernel) rfl ⟨by omega, by decide, Nat.le_of_ble_eq_true rfl⟩ rfl (c_at rfl (by decide) x2) ?_
    rintro r9 I9 G9 P9 ⟨e0, e1, e2, e3⟩
    rw [e0, e1, e2, e3]
    show am_V X 0 0 _ _ ad (131, [(0, .ref 66), (1, .int x1), (2, .int x2)], [.int (gAt (I 69) 4 x2), .ref 77], I, G, (gP rd))
    refine am_callV hX hi (M := mX8_push) (idx := 183) (d' := 1) (b := 77) (ci := 6) (As := [.int (gAt (I 69) 4 x2)]) (rest := []) mkX8_push miX8_push mvX8_push (by decide +kernel) (by decide +kernel) rfl (by decide +kernel) rfl ⟨by omega, by decide, Nat.le_of_ble_eq_true rfl⟩ rfl (c_X8_push_77 _ I G (gAt (I 69) 4 x2)) ?_
    rintro r9 I9 G9 P9 ⟨e0, e1, e2, e3⟩
    rw [e0, e1, e2, e3]
    show am_V X 0 0 _ _ ad (134, [(0, .ref 66), (1, .int x1), (2, .int x2)], [], (g_X8_push_77 I G (gAt (I 69) 4 x2)), G, (gP rd))
    refine am_blk 134 [(.goto (140), 3, 0, 274, .null)] (274, [(0, .ref 66), (1, .int x1), (2, .int x2)], [], (g_X8_push_77 I G (gAt (I 69) 4 x2)), G, (gP rd)) (True) hX hi (by decide +kernel) rfl trivial ?_
    cases h
    refine am_vret hX hi rfl (by decide +kernel) ?_
    exact ⟨rfl, rfl, rfl, rfl⟩
  rw [if_neg s1_6] at h
  by_cases s1_9 : x1 = (9 : Int32)
  · rw [if_pos s1_9] at h
    refine am_lsw hX hi (dflt := (216)) (ps := #[((6), (118)), ((9), (100)), ((15), (86)), ((16), (136)), ((18), (156)), ((19), (191)), ((40), (75)), ((43), (173))]) (len := 75) (off := (100)) (tgt := 101) (by decide +kernel) (by decide +kernel) (by rw [s1_9]; rfl) (by decide) ?_
    refine am_blk 101 [(.aload_n 0, 1, 0, 0, .null), (.getfield 40, 3, 5, 9, .null), (.aload_n 0, 1, 0, 0, .null), (.getfield 9, 3, 5, 2, .null), (.iload_n 2, 1, 2, 0, .null)] (110, [(0, .ref 66), (1, .int x1), (2, .int x2)], [.int x2, .ref 67, .ref 77], I, G, (gP rd)) (True) hX hi (by decide +kernel) rfl trivial ?_
    refine am_callS hX hi (M := mX0_at) (idx := 85) (d' := 1) (As := [.ref 67, .int x2]) (rest := [.ref 77]) mkX0_at msX0_at (by decide +kernel) (by decide +kernel) rfl ⟨by omega, by decide, Nat.le_of_ble_eq_true rfl⟩ rfl (c_at rfl (by decide) x2) ?_
    rintro r9 I9 G9 P9 ⟨e0, e1, e2, e3⟩
    rw [e0, e1, e2, e3]
    show am_V X 0 0 _ _ ad (113, [(0, .ref 66), (1, .int x1), (2, .int x2)], [.int (gAt (I 67) 4 x2), .ref 77], I, G, (gP rd))
    refine am_callV hX hi (M := mX8_push) (idx := 183) (d' := 1) (b := 77) (ci := 6) (As := [.int (gAt (I 67) 4 x2)]) (rest := []) mkX8_push miX8_push mvX8_push (by decide +kernel) (by decide +kernel) rfl (by decide +kernel) rfl ⟨by omega, by decide, Nat.le_of_ble_eq_true rfl⟩ rfl (c_X8_push_77 _ I G (gAt (I 67) 4 x2)) ?_
    rintro r9 I9 G9 P9 ⟨e0, e1, e2, e3⟩
    rw [e0, e1, e2, e3]
    show am_V X 0 0 _ _ ad (116, [(0, .ref 66), (1, .int x1), (2, .int x2)], [], (g_X8_push_77 I G (gAt (I 67) 4 x2)), G, (gP rd))
    refine am_blk 116 [(.goto (158), 3, 0, 274, .null)] (274, [(0, .ref 66), (1, .int x1), (2, .int x2)], [], (g_X8_push_77 I G (gAt (I 67) 4 x2)), G, (gP rd)) (True) hX hi (by decide +kernel) rfl trivial ?_
    cases h
    refine am_vret hX hi rfl (by decide +kernel) ?_
    exact ⟨rfl, rfl, rfl, rfl⟩
  rw [if_neg s1_9] at h
  by_cases s1_15 : x1 = (15 : Int32)
  · rw [if_pos s1_15] at h
    refine am_lsw hX hi (dflt := (216)) (ps := #[((6), (118)), ((9), (100)), ((15), (86)), ((16), (136)), ((18), (156)), ((19), (191)), ((40), (75)), ((43), (173))]) (len := 75) (off := (86)) (tgt := 87) (by decide +kernel) (by decide +kernel) (by rw [s1_15]; rfl) (by decide) ?_
    refine am_blk 87 [(.aload_n 0, 1, 0, 0, .null), (.getfield 40, 3, 5, 9, .null), (.aload_n 0, 1, 0, 0, .null), (.getfield 59, 3, 5, 12, .null)] (95, [(0, .ref 66), (1, .int x1), (2, .int x2)], [.int (I 66 12), .ref 77], I, G, (gP rd)) (True) hX hi (by decide +kernel) rfl trivial ?_
    refine am_callV hX hi (M := mX8_push) (idx := 183) (d' := 1) (b := 77) (ci := 6) (As := [.int (I 66 12)]) (rest := []) mkX8_push miX8_push mvX8_push (by decide +kernel) (by decide +kernel) rfl (by decide +kernel) rfl ⟨by omega, by decide, Nat.le_of_ble_eq_true rfl⟩ rfl (c_X8_push_77 _ I G (I 66 12)) ?_
    rintro r9 I9 G9 P9 ⟨e0, e1, e2, e3⟩
    rw [e0, e1, e2, e3]
    show am_V X 0 0 _ _ ad (98, [(0, .ref 66), (1, .int x1), (2, .int x2)], [], (g_X8_push_77 I G (I 66 12)), G, (gP rd))
    refine am_blk 98 [(.goto (176), 3, 0, 274, .null)] (274, [(0, .ref 66), (1, .int x1), (2, .int x2)], [], (g_X8_push_77 I G (I 66 12)), G, (gP rd)) (True) hX hi (by decide +kernel) rfl trivial ?_
    cases h
    refine am_vret hX hi rfl (by decide +kernel) ?_
    exact ⟨rfl, rfl, rfl, rfl⟩
  rw [if_neg s1_15] at h
  by_cases s1_16 : x1 = (16 : Int32)
  · rw [if_pos s1_16] at h
    refine am_lsw hX hi (dflt := (216)) (ps := #[((6), (118)), ((9), (100)), ((15), (86)), ((16), (136)), ((18), (156)), ((19), (191)), ((40), (75)), ((43), (173))]) (len := 75) (off := (136)) (tgt := 137) (by decide +kernel) (by decide +kernel) (by rw [s1_16]; rfl) (by decide) ?_
    refine am_blk 137 [(.aload_n 0, 1, 0, 0, .null), (.getfield 40, 3, 5, 9, .null), (.aload_n 0, 1, 0, 0, .null), (.getfield 27, 3, 5, 7, .null), (.iload_n 2, 1, 2, 0, .null), (.iconst (1), 1, 0, 0, .int (1 : Int32)), (.iadd, 1, 0, 0, .null)] (148, [(0, .ref 66), (1, .int x1), (2, .int x2)], [.int (x2 + (1 : Int32)), .ref 72, .ref 77], I, G, (gP rd)) (True) hX hi (by decide +kernel) rfl trivial ?_
    refine am_callS hX hi (M := mX0_at) (idx := 85) (d' := 1) (As := [.ref 72, .int (x2 + (1 : Int32))]) (rest := [.ref 77]) mkX0_at msX0_at (by decide +kernel) (by decide +kernel) rfl ⟨by omega, by decide, Nat.le_of_ble_eq_true rfl⟩ rfl (c_at rfl (by decide) (x2 + (1 : Int32))) ?_
    rintro r9 I9 G9 P9 ⟨e0, e1, e2, e3⟩
    rw [e0, e1, e2, e3]
    show am_V X 0 0 _ _ ad (151, [(0, .ref 66), (1, .int x1), (2, .int x2)], [.int (gAt (I 72) 6 (x2 + (1 : Int32))), .ref 77], I, G, (gP rd))
    refine am_callV hX hi (M := mX8_push) (idx := 183) (d' := 1) (b := 77) (ci := 6) (As := [.int (gAt (I 72) 6 (x2 + (1 : Int32)))]) (rest := []) mkX8_push miX8_push mvX8_push (by decide +kernel) (by decide +kernel) rfl (by decide +kernel) rfl ⟨by omega, by decide, Nat.le_of_ble_eq_true rfl⟩ rfl (c_X8_push_77 _ I G (gAt (I 72) 6 (x2 + (1 : Int32)))) ?_
    rintro r9 I9 G9 P9 ⟨e0, e1, e2, e3⟩
    rw [e0, e1, e2, e3]
    show am_V X 0 0 _ _ ad (154, [(0, .ref 66), (1, .int x1), (2, .int x2)], [], (g_X8_push_77 I G (gAt (I 72) 6 (x2 + (1 : Int32)))), G, (gP rd))
    refine am_blk 154 [(.goto (120), 3, 0, 274, .null)] (274, [(0, .ref 66), (1, .int x1), (2, .int x2)], [], (g_X8_push_77 I G (gAt (I 72) 6 (x2 + (1 : Int32)))), G, (gP rd)) (True) hX hi (by decide +kernel) rfl trivial ?_
    cases h
    refine am_vret hX hi rfl (by decide +kernel) ?_
    exact ⟨rfl, rfl, rfl, rfl⟩
  rw [if_neg s1_16] at h
  by_cases s1_18 : x1 = (18 : Int32)
  · rw [if_pos s1_18] at h
    refine am_lsw hX hi (dflt := (216)) (ps := #[((6), (118)), ((9), (100)), ((15), (86)), ((16), (136)), ((18), (156)), ((19), (191)), ((40), (75)), ((43), (173))]) (len := 75) (off := (156)) (tgt := 157) (by decide +kernel) (by decide +kernel) (by rw [s1_18]; rfl) (by decide) ?_
    refine am_blk 157 [(.aload_n 0, 1, 0, 0, .null), (.getfield 40, 3, 5, 9, .null), (.aload_n 0, 1, 0, 0, .null), (.iload_n 2, 1, 2, 0, .null), (.iconst (1), 1, 0, 0, .int (1 : Int32)), (.iadd, 1, 0, 0, .null)] (165, [(0, .ref 66), (1, .int x1), (2, .int x2)], [.int (x2 + (1 : Int32)), .ref 66, .ref 77], I, G, (gP rd)) (True) hX hi (by decide +kernel) rfl trivial ?_
    obtain ⟨r1, I1, G1, hc, h⟩ := rb_some h
    refine am_callV hX hi (M := mX7_isAtEdge) (idx := 186) (d' := 2) (b := 66) (ci := 5) (As := [.int (x2 + (1 : Int32))]) (rest := [.ref 77]) mkX7_isAtEdge miX7_isAtEdge mvX7_isAtEdge (by decide +kernel) (by decide +kernel) rfl (by decide +kernel) rfl ⟨by omega, by decide, Nat.le_of_ble_eq_true rfl⟩ rfl (c_X7_isAtEdge_66 _ I G (x2 + (1 : Int32)) hc) ?_
    rintro r9 I9 G9 P9 ⟨e0, e1, e2, e3⟩
    rw [e0, e1, e2, e3]
    show am_V X 0 0 _ _ ad (168, [(0, .ref 66), (1, .int x1), (2, .int x2)], [.int r1, .ref 77], I1, G1, (gP rd))
    refine am_callV hX hi (M := mX8_pushTest) (idx := 189) (d' := 2) (b := 77) (ci := 6) (As := [.int r1]) (rest := []) mkX8_pushTest miX8_pushTest mvX8_pushTest (by decide +kernel) (by decide +kernel) rfl (by decide +kernel) rfl ⟨by omega, by decide, Nat.le_of_ble_eq_true rfl⟩ rfl (c_X8_pushTest_77 _ I1 G1 r1) ?_
    rintro r9 I9 G9 P9 ⟨e0, e1, e2, e3⟩
    rw [e0, e1, e2, e3]
    show am_V X 0 0 _ _ ad (171, [(0, .ref 66), (1, .int x1), (2, .int x2)], [], (g_X8_pushTest_77 I1 G1 r1), G1, (gP rd))
    refine am_blk 171 [(.goto (103), 3, 0, 274, .null)] (274, [(0, .ref 66), (1, .int x1), (2, .int x2)], [], (g_X8_pushTest_77 I1 G1 r1), G1, (gP rd)) (True) hX hi (by decide +kernel) rfl trivial ?_
    cases h
    refine am_vret hX hi rfl (by decide +kernel) ?_
    exact ⟨rfl, rfl, rfl, rfl⟩
  rw [if_neg s1_18] at h
  by_cases s1_19 : x1 = (19 : Int32)
  · rw [if_pos s1_19] at h
    refine am_lsw hX hi (dflt := (216)) (ps := #[((6), (118)), ((9), (100)), ((15), (86)), ((16), (136)), ((18), (156)), ((19), (191)), ((40), (75)), ((43), (173))]) (len := 75) (off := (191)) (tgt := 192) (by decide +kernel) (by decide +kernel) (by rw [s1_19]; rfl) (by decide) ?_
    refine am_blk 192 [(.aload_n 0, 1, 0, 0, .null), (.getfield 40, 3, 5, 9, .null), (.aload_n 0, 1, 0, 0, .null), (.getfield 40, 3, 5, 9, .null)] (200, [(0, .ref 66), (1, .int x1), (2, .int x2)], [.ref 77, .ref 77], I, G, (gP rd)) (True) hX hi (by decide +kernel) rfl trivial ?_
    refine am_callV hX hi (M := mX8_pop) (idx := 179) (d' := 1) (b := 77) (ci := 6) (As := []) (rest := [.ref 77]) mkX8_pop miX8_pop mvX8_pop (by decide +kernel) (by decide +kernel) rfl (by decide +kernel) rfl ⟨by omega, by decide, Nat.le_of_ble_eq_true rfl⟩ rfl (c_X8_pop_77 _ I G ) ?_
    rintro r9 I9 G9 P9 ⟨e0, e1, e2, e3⟩
    rw [e0, e1, e2, e3]
    show am_V X 0 0 _ _ ad (203, [(0, .ref 66), (1, .int x1), (2, .int x2)], [.int (f_X8_pop_77 I G ), .ref 77], (g_X8_pop_77 I G ), G, (gP rd))
    refine am_if_ne (tgt := 210) hX hi (off := (7)) (by decide +kernel) (by decide) (fun c203 => ?_) (fun c203 => ?_)
    · rw [if_neg c203] at h
      refine am_blk 210 [(.iconst (0), 1, 0, 0, .int (0 : Int32))] (211, [(0, .ref 66), (1, .int x1), (2, .int x2)], [.int (0 : Int32), .ref 77], (g_X8_pop_77 I G ), G, (gP rd)) (True) hX hi (by decide +kernel) rfl trivial ?_
      refine am_callV hX hi (M := mX8_pushTest) (idx := 189) (d' := 2) (b := 77) (ci := 6) (As := [.int (0 : Int32)]) (rest := []) mkX8_pushTest miX8_pushTest mvX8_pushTest (by decide +kernel) (by decide +kernel) rfl (by decide +kernel) rfl ⟨by omega, by decide, Nat.le_of_ble_eq_true rfl⟩ rfl (c_X8_pushTest_77 _ (g_X8_pop_77 I G ) G (0 : Int32)) ?_
      rintro r9 I9 G9 P9 ⟨e0, e1, e2, e3⟩
      rw [e0, e1, e2, e3]
      show am_V X 0 0 _ _ ad (214, [(0, .ref 66), (1, .int x1), (2, .int x2)], [], (g_X8_pushTest_77 (g_X8_pop_77 I G ) G (0 : Int32)), G, (gP rd))
      refine am_blk 214 [(.goto (60), 3, 0, 274, .null)] (274, [(0, .ref 66), (1, .int x1), (2, .int x2)], [], (g_X8_pushTest_77 (g_X8_pop_77 I G ) G (0 : Int32)), G, (gP rd)) (True) hX hi (by decide +kernel) rfl trivial ?_
      cases h
      refine am_vret hX hi rfl (by decide +kernel) ?_
      exact ⟨rfl, rfl, rfl, rfl⟩
    · rw [if_pos c203] at h
      refine am_blk 206 [(.iconst (1), 1, 0, 0, .int (1 : Int32)), (.goto (4), 3, 0, 211, .null)] (211, [(0, .ref 66), (1, .int x1), (2, .int x2)], [.int (1 : Int32), .ref 77], (g_X8_pop_77 I G ), G, (gP rd)) (True) hX hi (by decide +kernel) rfl trivial ?_
      refine am_callV hX hi (M := mX8_pushTest) (idx := 189) (d' := 2) (b := 77) (ci := 6) (As := [.int (1 : Int32)]) (rest := []) mkX8_pushTest miX8_pushTest mvX8_pushTest (by decide +kernel) (by decide +kernel) rfl (by decide +kernel) rfl ⟨by omega, by decide, Nat.le_of_ble_eq_true rfl⟩ rfl (c_X8_pushTest_77 _ (g_X8_pop_77 I G ) G (1 : Int32)) ?_
      rintro r9 I9 G9 P9 ⟨e0, e1, e2, e3⟩
      rw [e0, e1, e2, e3]
      show am_V X 0 0 _ _ ad (214, [(0, .ref 66), (1, .int x1), (2, .int x2)], [], (g_X8_pushTest_77 (g_X8_pop_77 I G ) G (1 : Int32)), G, (gP rd))
      refine am_blk 214 [(.goto (60), 3, 0, 274, .null)] (274, [(0, .ref 66), (1, .int x1), (2, .int x2)], [], (g_X8_pushTest_77 (g_X8_pop_77 I G ) G (1 : Int32)), G, (gP rd)) (True) hX hi (by decide +kernel) rfl trivial ?_
      cases h
      refine am_vret hX hi rfl (by decide +kernel) ?_
      exact ⟨rfl, rfl, rfl, rfl⟩
  rw [if_neg s1_19] at h
  by_cases s1_40 : x1 = (40 : Int32)
  · rw [if_pos s1_40] at h
    refine am_lsw hX hi (dflt := (216)) (ps := #[((6), (118)), ((9), (100)), ((15), (86)), ((16), (136)), ((18), (156)), ((19), (191)), ((40), (75)), ((43), (173))]) (len := 75) (off := (75)) (tgt := 76) (by decide +kernel) (by decide +kernel) (by rw [s1_40]; rfl) (by decide) ?_
    refine am_blk 76 [(.aload_n 0, 1, 0, 0, .null), (.getfield 40, 3, 5, 9, .null), (.iload_n 2, 1, 2, 0, .null)] (81, [(0, .ref 66), (1, .int x1), (2, .int x2)], [.int x2, .ref 77], I, G, (gP rd)) (True) hX hi (by decide +kernel) rfl trivial ?_
    refine am_callV hX hi (M := mX8_push) (idx := 183) (d' := 1) (b := 77) (ci := 6) (As := [.int x2]) (rest := []) mkX8_push miX8_push mvX8_push (by decide +kernel) (by decide +kernel) rfl (by decide +kernel) rfl ⟨by omega, by decide, Nat.le_of_ble_eq_true rfl⟩ rfl (c_X8_push_77 _ I G x2) ?_
    rintro r9 I9 G9 P9 ⟨e0, e1, e2, e3⟩
    rw [e0, e1, e2, e3]
    show am_V X 0 0 _ _ ad (84, [(0, .ref 66), (1, .int x1), (2, .int x2)], [], (g_X8_push_77 I G x2), G, (gP rd))
    refine am_blk 84 [(.goto (190), 3, 0, 274, .null)] (274, [(0, .ref 66), (1, .int x1), (2, .int x2)], [], (g_X8_push_77 I G x2), G, (gP rd)) (True) hX hi (by decide +kernel) rfl trivial ?_
    cases h
    refine am_vret hX hi rfl (by decide +kernel) ?_
    exact ⟨rfl, rfl, rfl, rfl⟩
  rw [if_neg s1_40] at h
  by_cases s1_43 : x1 = (43 : Int32)
  · rw [if_pos s1_43] at h
    refine am_lsw hX hi (dflt := (216)) (ps := #[((6), (118)), ((9), (100)), ((15), (86)), ((16), (136)), ((18), (156)), ((19), (191)), ((40), (75)), ((43), (173))]) (len := 75) (off := (173)) (tgt := 174) (by decide +kernel) (by decide +kernel) (by rw [s1_43]; rfl) (by decide) ?_
    refine am_blk 174 [(.aload_n 0, 1, 0, 0, .null), (.getfield 40, 3, 5, 9, .null), (.aload_n 0, 1, 0, 0, .null), (.getfield 40, 3, 5, 9, .null)] (182, [(0, .ref 66), (1, .int x1), (2, .int x2)], [.ref 77, .ref 77], I, G, (gP rd)) (True) hX hi (by decide +kernel) rfl trivial ?_
    refine am_callV hX hi (M := mX8_pop) (idx := 179) (d' := 1) (b := 77) (ci := 6) (As := []) (rest := [.ref 77]) mkX8_pop miX8_pop mvX8_pop (by decide +kernel) (by decide +kernel) rfl (by decide +kernel) rfl ⟨by omega, by decide, Nat.le_of_ble_eq_true rfl⟩ rfl (c_X8_pop_77 _ I G ) ?_
    rintro r9 I9 G9 P9 ⟨e0, e1, e2, e3⟩
    rw [e0, e1, e2, e3]
    show am_V X 0 0 _ _ ad (185, [(0, .ref 66), (1, .int x1), (2, .int x2)], [.int (f_X8_pop_77 I G ), .ref 77], (g_X8_pop_77 I G ), G, (gP rd))
    refine am_blk 185 [(.ineg, 1, 0, 0, .null)] (186, [(0, .ref 66), (1, .int x1), (2, .int x2)], [.int (-(f_X8_pop_77 I G )), .ref 77], (g_X8_pop_77 I G ), G, (gP rd)) (True) hX hi (by decide +kernel) rfl trivial ?_
    refine am_callV hX hi (M := mX8_push) (idx := 183) (d' := 1) (b := 77) (ci := 6) (As := [.int (-(f_X8_pop_77 I G ))]) (rest := []) mkX8_push miX8_push mvX8_push (by decide +kernel) (by decide +kernel) rfl (by decide +kernel) rfl ⟨by omega, by decide, Nat.le_of_ble_eq_true rfl⟩ rfl (c_X8_push_77 _ (g_X8_pop_77 I G ) G (-(f_X8_pop_77 I G ))) ?_
    rintro r9 I9 G9 P9 ⟨e0, e1, e2, e3⟩
    rw [e0, e1, e2, e3]
    show am_V X 0 0 _ _ ad (189, [(0, .ref 66), (1, .int x1), (2, .int x2)], [], (g_X8_push_77 (g_X8_pop_77 I G ) G (-(f_X8_pop_77 I G ))), G, (gP rd))
    refine am_blk 189 [(.goto (85), 3, 0, 274, .null)] (274, [(0, .ref 66), (1, .int x1), (2, .int x2)], [], (g_X8_push_77 (g_X8_pop_77 I G ) G (-(f_X8_pop_77 I G ))), G, (gP rd)) (True) hX hi (by decide +kernel) rfl trivial ?_
    cases h
    refine am_vret hX hi rfl (by decide +kernel) ?_
    exact ⟨rfl, rfl, rfl, rfl⟩
  rw [if_neg s1_43] at h
  refine am_lsw hX hi (dflt := (216)) (ps := #[((6), (118)), ((9), (100)), ((15), (86)), ((16), (136)), ((18), (156)), ((19), (191)), ((40), (75)), ((43), (173))]) (len := 75) (off := (216)) (tgt := 217) (by decide +kernel) (by decide +kernel) ?_ (by decide) ?_
  · have eF : ∀ v : Int32, ¬ x1 = v → ¬ (x1).toInt = v.toInt := fun v q z => q ((i_eq _ _).mpr z)
    have e6 := eF (6 : Int32) s1_6
    have e9 := eF (9 : Int32) s1_9
    have e15 := eF (15 : Int32) s1_15
    have e16 := eF (16 : Int32) s1_16
    have e18 := eF (18 : Int32) s1_18
    have e19 := eF (19 : Int32) s1_19
    have e40 := eF (40 : Int32) s1_40
    have e43 := eF (43 : Int32) s1_43
    simp only [show ((6 : Int32) : Int32).toInt = 6 from rfl, show ((9 : Int32) : Int32).toInt = 9 from rfl, show ((15 : Int32) : Int32).toInt = 15 from rfl, show ((16 : Int32) : Int32).toInt = 16 from rfl, show ((18 : Int32) : Int32).toInt = 18 from rfl, show ((19 : Int32) : Int32).toInt = 19 from rfl, show ((40 : Int32) : Int32).toInt = 40 from rfl, show ((43 : Int32) : Int32).toInt = 43 from rfl] at e6 e9 e15 e16 e18 e19 e40 e43
    simp [Op.lookupswitch.offset, e6, Ne.symm e6, e9, Ne.symm e9, e15, Ne.symm e15, e16, Ne.symm e16, e18, Ne.symm e18, e19, Ne.symm e19, e40, Ne.symm e40, e43, Ne.symm e43]
  refine am_blk 217 [(.aload_n 0, 1, 0, 0, .null), (.getfield 40, 3, 5, 9, .null)] (221, [(0, .ref 66), (1, .int x1), (2, .int x2)], [.ref 77], I, G, (gP rd)) (True) hX hi (by decide +kernel) rfl trivial ?_
  refine am_callV hX hi (M := mX8_pop) (idx := 179) (d' := 1) (b := 77) (ci := 6) (As := []) (rest := []) mkX8_pop miX8_pop mvX8_pop (by decide +kernel) (by decide +kernel) rfl (by decide +kernel) rfl ⟨by omega, by decide, Nat.le_of_ble_eq_true rfl⟩ rfl (c_X8_pop_77 _ I G ) ?_
  rintro r9 I9 G9 P9 ⟨e0, e1, e2, e3⟩
  rw [e0, e1, e2, e3]
  show am_V X 0 0 _ _ ad (224, [(0, .ref 66), (1, .int x1), (2, .int x2)], [.int (f_X8_pop_77 I G )], (g_X8_pop_77 I G ), G, (gP rd))
  refine am_blk 224 [(.istore_n 3, 1, 3, 0, .null), (.aload_n 0, 1, 0, 0, .null), (.getfield 40, 3, 5, 9, .null)] (229, [(0, .ref 66), (1, .int x1), (2, .int x2), (3, .int (f_X8_pop_77 I G ))], [.ref 77], (g_X8_pop_77 I G ), G, (gP rd)) (True) hX hi (by decide +kernel) rfl trivial ?_
  refine am_callV hX hi (M := mX8_pop) (idx := 179) (d' := 1) (b := 77) (ci := 6) (As := []) (rest := []) mkX8_pop miX8_pop mvX8_pop (by decide +kernel) (by decide +kernel) rfl (by decide +kernel) rfl ⟨by omega, by decide, Nat.le_of_ble_eq_true rfl⟩ rfl (c_X8_pop_77 _ (g_X8_pop_77 I G ) G ) ?_
  rintro r9 I9 G9 P9 ⟨e0, e1, e2, e3⟩
  rw [e0, e1, e2, e3]
  show am_V X 0 0 _ _ ad (232, [(0, .ref 66), (1, .int x1), (2, .int x2), (3, .int (f_X8_pop_77 I G ))], [.int (f_X8_pop_77 (g_X8_pop_77 I G ) G )], (g_X8_pop_77 (g_X8_pop_77 I G ) G ), G, (gP rd))
  refine am_blk 232 [(.istore 4, 2, 4, 0, .null), (.aload_n 0, 1, 0, 0, .null), (.getfield 40, 3, 5, 9, .null), (.iload_n 1, 1, 1, 0, .null), (.bipush (17), 2, 0, 0, .int (17 : Int32))] (241, [(0, .ref 66), (1, .int x1), (2, .int x2), (3, .int (f_X8_pop_77 I G )), (4, .int (f_X8_pop_77 (g_X8_pop_77 I G ) G ))], [.int (17 : Int32), .int x1, .ref 77], (g_X8_pop_77 (g_X8_pop_77 I G ) G ), G, (gP rd)) (True) hX hi (by decide +kernel) rfl trivial ?_
  refine am_icmp_ne (tgt := 264) hX hi (off := (23)) (by decide +kernel) (by decide) (fun c241 => ?_) (fun c241 => ?_)
  · rw [if_neg c241] at h
    refine am_blk 264 [(.iload_n 1, 1, 1, 0, .null), (.iload 4, 2, 4, 0, .null), (.iload_n 3, 1, 3, 0, .null)] (268, [(0, .ref 66), (1, .int x1), (2, .int x2), (3, .int (f_X8_pop_77 I G )), (4, .int (f_X8_pop_77 (g_X8_pop_77 I G ) G ))], [.int (f_X8_pop_77 I G ), .int (f_X8_pop_77 (g_X8_pop_77 I G ) G ), .int x1, .ref 77], (g_X8_pop_77 (g_X8_pop_77 I G ) G ), G, (gP rd)) (True) hX hi (by decide +kernel) rfl trivial ?_
    refine am_callS hX hi (M := mX7_combine) (idx := 198) (d' := 2) (As := [.int x1, .int (f_X8_pop_77 (g_X8_pop_77 I G ) G ), .int (f_X8_pop_77 I G )]) (rest := [.ref 77]) mkX7_combine msX7_combine (by decide +kernel) (by decide +kernel) rfl ⟨by omega, by decide, Nat.le_of_ble_eq_true rfl⟩ rfl (c_X7_combine (g_X8_pop_77 (g_X8_pop_77 I G ) G ) G x1 (f_X8_pop_77 (g_X8_pop_77 I G ) G ) (f_X8_pop_77 I G )) ?_
    rintro r9 I9 G9 P9 ⟨e0, e1, e2, e3⟩
    rw [e0, e1, e2, e3]
    show am_V X 0 0 _ _ ad (271, [(0, .ref 66), (1, .int x1), (2, .int x2), (3, .int (f_X8_pop_77 I G )), (4, .int (f_X8_pop_77 (g_X8_pop_77 I G ) G ))], [.int (f_X7_combine (g_X8_pop_77 (g_X8_pop_77 I G ) G ) G x1 (f_X8_pop_77 (g_X8_pop_77 I G ) G ) (f_X8_pop_77 I G )), .ref 77], (g_X8_pop_77 (g_X8_pop_77 I G ) G ), G, (gP rd))
    refine am_callV hX hi (M := mX8_push) (idx := 183) (d' := 1) (b := 77) (ci := 6) (As := [.int (f_X7_combine (g_X8_pop_77 (g_X8_pop_77 I G ) G ) G x1 (f_X8_pop_77 (g_X8_pop_77 I G ) G ) (f_X8_pop_77 I G ))]) (rest := []) mkX8_push miX8_push mvX8_push (by decide +kernel) (by decide +kernel) rfl (by decide +kernel) rfl ⟨by omega, by decide, Nat.le_of_ble_eq_true rfl⟩ rfl (c_X8_push_77 _ (g_X8_pop_77 (g_X8_pop_77 I G ) G ) G (f_X7_combine (g_X8_pop_77 (g_X8_pop_77 I G ) G ) G x1 (f_X8_pop_77 (g_X8_pop_77 I G ) G ) (f_X8_pop_77 I G ))) ?_
    rintro r9 I9 G9 P9 ⟨e0, e1, e2, e3⟩
    rw [e0, e1, e2, e3]
    show am_V X 0 0 _ _ ad (274, [(0, .ref 66), (1, .int x1), (2, .int x2), (3, .int (f_X8_pop_77 I G )), (4, .int (f_X8_pop_77 (g_X8_pop_77 I G ) G ))], [], (g_X8_push_77 (g_X8_pop_77 (g_X8_pop_77 I G ) G ) G (f_X7_combine (g_X8_pop_77 (g_X8_pop_77 I G ) G ) G x1 (f_X8_pop_77 (g_X8_pop_77 I G ) G ) (f_X8_pop_77 I G ))), G, (gP rd))
    cases h
    refine am_vret hX hi rfl (by decide +kernel) ?_
    exact ⟨rfl, rfl, rfl, rfl⟩
  · rw [if_pos c241] at h
    refine am_blk 244 [(.aload_n 0, 1, 0, 0, .null), (.getfield 21, 3, 5, 5, .null), (.aload_n 0, 1, 0, 0, .null), (.getfield 44, 3, 5, 0, .null), (.iload 4, 2, 4, 0, .null), (.iload_n 3, 1, 3, 0, .null)] (255, [(0, .ref 66), (1, .int x1), (2, .int x2), (3, .int (f_X8_pop_77 I G )), (4, .int (f_X8_pop_77 (g_X8_pop_77 I G ) G ))], [.int (f_X8_pop_77 I G ), .int (f_X8_pop_77 (g_X8_pop_77 I G ) G ), .ref 7, .ref 70, .ref 77], (g_X8_pop_77 (g_X8_pop_77 I G ) G ), G, (gP rd)) (True) hX hi (by decide +kernel) rfl trivial ?_
    refine am_callV hX hi (M := mX5_spot) (idx := 195) (d' := 3) (b := 7) (ci := 3) (As := [.int (f_X8_pop_77 (g_X8_pop_77 I G ) G ), .int (f_X8_pop_77 I G )]) (rest := [.ref 70, .ref 77]) mkX5_spot miX5_spot mvX5_spot (by decide +kernel) (by decide +kernel) rfl (by decide +kernel) rfl ⟨by omega, by decide, Nat.le_of_ble_eq_true rfl⟩ rfl (c_X5_spot_7 _ (g_X8_pop_77 (g_X8_pop_77 I G ) G ) G (f_X8_pop_77 (g_X8_pop_77 I G ) G ) (f_X8_pop_77 I G )) ?_
    rintro r9 I9 G9 P9 ⟨e0, e1, e2, e3⟩
    rw [e0, e1, e2, e3]
    show am_V X 0 0 _ _ ad (258, [(0, .ref 66), (1, .int x1), (2, .int x2), (3, .int (f_X8_pop_77 I G )), (4, .int (f_X8_pop_77 (g_X8_pop_77 I G ) G ))], [.int (f_X5_spot_7 (g_X8_pop_77 (g_X8_pop_77 I G ) G ) G (f_X8_pop_77 (g_X8_pop_77 I G ) G ) (f_X8_pop_77 I G )), .ref 70, .ref 77], (g_X8_pop_77 (g_X8_pop_77 I G ) G ), G, (gP rd))
    refine am_callS hX hi (M := mX0_at) (idx := 85) (d' := 1) (As := [.ref 70, .int (f_X5_spot_7 (g_X8_pop_77 (g_X8_pop_77 I G ) G ) G (f_X8_pop_77 (g_X8_pop_77 I G ) G ) (f_X8_pop_77 I G ))]) (rest := [.ref 77]) mkX0_at msX0_at (by decide +kernel) (by decide +kernel) rfl ⟨by omega, by decide, Nat.le_of_ble_eq_true rfl⟩ rfl (c_at rfl (by decide) (f_X5_spot_7 (g_X8_pop_77 (g_X8_pop_77 I G ) G ) G (f_X8_pop_77 (g_X8_pop_77 I G ) G ) (f_X8_pop_77 I G ))) ?_
    rintro r9 I9 G9 P9 ⟨e0, e1, e2, e3⟩
    rw [e0, e1, e2, e3]
    show am_V X 0 0 _ _ ad (261, [(0, .ref 66), (1, .int x1), (2, .int x2), (3, .int (f_X8_pop_77 I G )), (4, .int (f_X8_pop_77 (g_X8_pop_77 I G ) G ))], [.int (gAt ((g_X8_pop_77 (g_X8_pop_77 I G ) G ) 70) 576 (f_X5_spot_7 (g_X8_pop_77 (g_X8_pop_77 I G ) G ) G (f_X8_pop_77 (g_X8_pop_77 I G ) G ) (f_X8_pop_77 I G ))), .ref 77], (g_X8_pop_77 (g_X8_pop_77 I G ) G ), G, (gP rd))
    refine am_blk 261 [(.goto (10), 3, 0, 271, .null)] (271, [(0, .ref 66), (1, .int x1), (2, .int x2), (3, .int (f_X8_pop_77 I G )), (4, .int (f_X8_pop_77 (g_X8_pop_77 I G ) G ))], [.int (gAt ((g_X8_pop_77 (g_X8_pop_77 I G ) G ) 70) 576 (f_X5_spot_7 (g_X8_pop_77 (g_X8_pop_77 I G ) G ) G (f_X8_pop_77 (g_X8_pop_77 I G ) G ) (f_X8_pop_77 I G ))), .ref 77], (g_X8_pop_77 (g_X8_pop_77 I G ) G ), G, (gP rd)) (True) hX hi (by decide +kernel) rfl trivial ?_
    refine am_callV hX hi (M := mX8_push) (idx := 183) (d' := 1) (b := 77) (ci := 6) (As := [.int (gAt ((g_X8_pop_77 (g_X8_pop_77 I G ) G ) 70) 576 (f_X5_spot_7 (g_X8_pop_77 (g_X8_pop_77 I G ) G ) G (f_X8_pop_77 (g_X8_pop_77 I G ) G ) (f_X8_pop_77 I G )))]) (rest := []) mkX8_push miX8_push mvX8_push (by decide +kernel) (by decide +kernel) rfl (by decide +kernel) rfl ⟨by omega, by decide, Nat.le_of_ble_eq_true rfl⟩ rfl (c_X8_push_77 _ (g_X8_pop_77 (g_X8_pop_77 I G ) G ) G (gAt ((g_X8_pop_77 (g_X8_pop_77 I G ) G ) 70) 576 (f_X5_spot_7 (g_X8_pop_77 (g_X8_pop_77 I G ) G ) G (f_X8_pop_77 (g_X8_pop_77 I G ) G ) (f_X8_pop_77 I G )))) ?_
    rintro r9 I9 G9 P9 ⟨e0, e1, e2, e3⟩
    rw [e0, e1, e2, e3]
    show am_V X 0 0 _ _ ad (274, [(0, .ref 66), (1, .int x1), (2, .int x2), (3, .int (f_X8_pop_77 I G )), (4, .int (f_X8_pop_77 (g_X8_pop_77 I G ) G ))], [], (g_X8_push_77 (g_X8_pop_77 (g_X8_pop_77 I G ) G ) G (gAt ((g_X8_pop_77 (g_X8_pop_77 I G ) G ) 70) 576 (f_X5_spot_7 (g_X8_pop_77 (g_X8_pop_77 I G ) G ) G (f_X8_pop_77 (g_X8_pop_77 I G ) G ) (f_X8_pop_77 I G )))), G, (gP rd))
    cases h
    refine am_vret hX hi rfl (by decide +kernel) ?_
    exact ⟨rfl, rfl, rfl, rfl⟩
noncomputable def L_X7_refresh_53 (n0 : Nat) (hd : Nat) (I : am_I) (G : am_G) (v1 : Int32) (v2 : Int32) (v3 : Int32) : Option (Unit × am_I × am_G) := match n0 with
  | 0 => none
  | n + 1 => match hd with
    | 0 => (if (I 7 11) ≤ v1 then L_X7_refresh_53 n 1 I G (0 : Int32) 0 0 else rb (R_X10_prepare_25 I G v1 (gAt (I 56) 4 v1)) (fun r101 I101 G101 => L_X7_refresh_53 n 0 I101 G101 (v1 + (1 : Int32)) 0 0))
    | 1 => (if (Int32.ofNat 6) ≤ v1 then L_X7_refresh_53 n 2 I G (0 : Int32) (0 : Int32) 0 else rg (vp_in v1 6) (L_X7_refresh_53 n 1 (am_up I 59 v1.toNatClampNeg (0 : Int32)) G (v1 + (1 : Int32)) 0 0))
    | 2 => (if (I 7 10) ≤ v2 then rg (((1 : Int32) = 0 ∨ (1 : Int32) = 1)) (some ((), (am_up I 53 14 (1 : Int32)), G)) else L_X7_refresh_53 n 3 I G v1 v2 (0 : Int32))
    | _ => (if (I 7 9) ≤ v3 then L_X7_refresh_53 n 2 I G v1 (v2 + (1 : Int32)) 0 else rb (R_X7_source_53 I G v3 v2) (fun r401 I401 G401 => rb (R_X7_heightFrom_53 I401 G401 r401) (fun r402 I402 G402 => rb (R_X5_inkOf_7 I402 G402 r402) (fun r403 I403 G403 => L_X7_refresh_53 n 3 (gPut (gPut (gPut I403 57 576 v1 r402) 58 576 v1 r403) 59 6 r403 ((gAt ((gPut (gPut I403 57 576 v1 r402) 58 576 v1 r403) 59) 6 r403) + (1 : Int32))) G403 (v1 + (1 : Int32)) v2 (v3 + (1 : Int32))))))
theorem L_X7_refresh_53_0 (n : Nat) (I : am_I) (G : am_G) (v1 : Int32) (v2 : Int32) (v3 : Int32) : L_X7_refresh_53 (n + 1) 0 I G v1 v2 v3 = (if (I 7 11) ≤ v1 then L_X7_refresh_53 n 1 I G (0 : Int32) 0 0 else rb (R_X10_prepare_25 I G v1 (gAt (I 56) 4 v1)) (fun r101 I101 G101 => L_X7_refresh_53 n 0 I101 G101 (v1 + (1 : Int32)) 0 0)) := rfl
theorem L_X7_refresh_53_1 (n : Nat) (I : am_I) (G : am_G) (v1 : Int32) (v2 : Int32) (v3 : Int32) : L_X7_refresh_53 (n + 1) 1 I G v1 v2 v3 = (if (Int32.ofNat 6) ≤ v1 then L_X7_refresh_53 n 2 I G (0 : Int32) (0 : Int32) 0 else rg (vp_in v1 6) (L_X7_refresh_53 n 1 (am_up I 59 v1.toNatClampNeg (0 : Int32)) G (v1 + (1 : Int32)) 0 0)) := rfl
theorem L_X7_refresh_53_2 (n : Nat) (I : am_I) (G : am_G) (v1 : Int32) (v2 : Int32) (v3 : Int32) : L_X7_refresh_53 (n + 1) 2 I G v1 v2 v3 = (if (I 7 10) ≤ v2 then rg (((1 : Int32) = 0 ∨ (1 : Int32) = 1)) (some ((), (am_up I 53 14 (1 : Int32)), G)) else L_X7_refresh_53 n 3 I G v1 v2 (0 : Int32)) := rfl
theorem L_X7_refresh_53_3 (n : Nat) (I : am_I) (G : am_G) (v1 : Int32) (v2 : Int32) (v3 : Int32) : L_X7_refresh_53 (n + 1) 3 I G v1 v2 v3 = (if (I 7 9) ≤ v3 then L_X7_refresh_53 n 2 I G v1 (v2 + (1 : Int32)) 0 else rb (R_X7_source_53 I G v3 v2) (fun r401 I401 G401 => rb (R_X7_heightFrom_53 I401 G401 r401) (fun r402 I402 G402 => rb (R_X5_inkOf_7 I402 G402 r402) (fun r403 I403 G403 => L_X7_refresh_53 n 3 (gPut (gPut (gPut I403 57 576 v1 r402) 58 576 v1 r403) 59 6 r403 ((gAt ((gPut (gPut I403 57 576 v1 r402) 58 576 v1 r403) 59) 6 r403) + (1 : Int32))) G403 (v1 + (1 : Int32)) v2 (v3 + (1 : Int32)))))) := rfl
theorem L_X7_refresh_53_z (h : Nat) (I : am_I) (G : am_G) (v1 : Int32) (v2 : Int32) (v3 : Int32) : L_X7_refresh_53 0 h I G v1 v2 v3 = none := rfl
noncomputable def R_X7_refresh_53 (I : am_I) (G : am_G)  : Option (Unit × am_I × am_G) := (if (I 53 14) = 0 then L_X7_refresh_53 FU 0 I G (0 : Int32) 0 0 else some ((), I, G))
set_option maxRecDepth 20000 in
set_option maxHeartbeats 4000000 in
theorem l_X7_refresh_53 (rd : Nat) {X : am_X} {ad : Nat → Nat} (hX : am_okz X ad) (hi : am_info X 5 cX7_refresh 6 false none 7) (n : Nat) : (∀ (I : am_I) (G : am_G) (v1 : Int32) (v2 : Int32) (v3 : Int32) (out : Unit × am_I × am_G), L_X7_refresh_53 n 0 I G v1 v2 v3 = some out → am_V X 0 0 (am_Rt X gS ad (pV out.2.1 out.2.2 (gP rd))) gS ad (10, [(0, .ref 53), (1, .int v1)], [], I, G, (gP rd))) ∧ (∀ (I : am_I) (G : am_G) (v1 : Int32) (v2 : Int32) (v3 : Int32) (out : Unit × am_I × am_G), L_X7_refresh_53 n 1 I G v1 v2 v3 = some out → am_V X 0 0 (am_Rt X gS ad (pV out.2.1 out.2.2 (gP rd))) gS ad (45, [(0, .ref 53), (1, .int v1)], [], I, G, (gP rd))) ∧ (∀ (I : am_I) (G : am_G) (v1 : Int32) (v2 : Int32) (v3 : Int32) (out : Unit × am_I × am_G), L_X7_refresh_53 n 2 I G v1 v2 v3 = some out → am_V X 0 0 (am_Rt X gS ad (pV out.2.1 out.2.2 (gP rd))) gS ad (71, [(0, .ref 53), (1, .int v1), (2, .int v2)], [], I, G, (gP rd))) ∧ (∀ (I : am_I) (G : am_G) (v1 : Int32) (v2 : Int32) (v3 : Int32) (out : Unit × am_I × am_G), L_X7_refresh_53 n 3 I G v1 v2 v3 = some out → am_V X 0 0 (am_Rt X gS ad (pV out.2.1 out.2.2 (gP rd))) gS ad (84, [(0, .ref 53), (1, .int v1), (2, .int v2), (3, .int v3)], [], I, G, (gP rd))) := by
  induction n with
  | zero => exact ⟨(fun I G v1 v2 v3 out h => by rw [L_X7_refresh_53_z] at h; cases h), (fun I G v1 v2 v3 out h => by rw [L_X7_refresh_53_z] at h; cases h), (fun I G v1 v2 v3 out h => by rw [L_X7_refresh_53_z] at h; cases h), (fun I G v1 v2 v3 out h => by rw [L_X7_refresh_53_z] at h; cases h)⟩
  | succ n ih =>
    refine ⟨?_, ?_, ?_, ?_⟩
    · intro I G v1 v2 v3 out h
      rw [L_X7_refresh_53_0] at h
      refine am_blk 10 [(.iload_n 1, 1, 1, 0, .null), (.aload_n 0, 1, 0, 0, .null), (.getfield 44, 3, 5, 0, .null), (.getfield 229, 3, 3, 11, .null)] (18, [(0, .ref 53), (1, .int v1)], [.int (I 7 11), .int v1], I, G, (gP rd)) (True) hX hi (by decide +kernel) rfl trivial ?_
      refine am_icmp_ge (tgt := 43) hX hi (off := (25)) (by decide +kernel) (by decide) (fun c18 => ?_) (fun c18 => ?_)
      · rw [if_pos c18] at h
        refine am_blk 43 [(.iconst (0), 1, 0, 0, .int (0 : Int32)), (.istore_n 1, 1, 1, 0, .null)] (45, [(0, .ref 53), (1, .int (0 : Int32))], [], I, G, (gP rd)) (True) hX hi (by decide +kernel) rfl trivial ?_
        exact ih.2.1 _ _ _ _ _ _ h
      · rw [if_neg c18] at h
        refine am_blk 21 [(.aload_n 0, 1, 0, 0, .null), (.getfield 48, 3, 5, 1, .null), (.iload_n 1, 1, 1, 0, .null), (.aload_n 0, 1, 0, 0, .null), (.getfield 18, 3, 5, 4, .null), (.iload_n 1, 1, 1, 0, .null)] (31, [(0, .ref 53), (1, .int v1)], [.int v1, .ref 56, .int v1, .ref 25], I, G, (gP rd)) (True) hX hi (by decide +kernel) rfl trivial ?_
        refine am_callS hX hi (M := mX0_at) (idx := 85) (d' := 1) (As := [.ref 56, .int v1]) (rest := [.int v1, .ref 25]) mkX0_at msX0_at (by decide +kernel) (by decide +kernel) rfl ⟨by omega, by decide, Nat.le_of_ble_eq_true rfl⟩ rfl (c_at rfl (by decide) v1) ?_
        rintro r9 I9 G9 P9 ⟨e0, e1, e2, e3⟩
        rw [e0, e1, e2, e3]
        show am_V X 0 0 _ _ ad (34, [(0, .ref 53), (1, .int v1)], [.int (gAt (I 56) 4 v1), .int v1, .ref 25], I, G, (gP rd))
        obtain ⟨r101, I101, G101, hc, h⟩ := rb_some h
        refine am_callV hX hi (M := mX10_prepare) (idx := 232) (d' := 6) (b := 25) (ci := 8) (As := [.int v1, .int (gAt (I 56) 4 v1)]) (rest := []) mkX10_prepare miX10_prepare mvX10_prepare (by decide +kernel) (by decide +kernel) rfl (by decide +kernel) rfl ⟨by omega, by decide, Nat.le_of_ble_eq_true rfl⟩ rfl (c_X10_prepare_25 _ I G v1 (gAt (I 56) 4 v1) hc) ?_
        rintro r9 I9 G9 P9 ⟨e0, e1, e2, e3⟩
        rw [e0, e1, e2, e3]
        show am_V X 0 0 _ _ ad (37, [(0, .ref 53), (1, .int v1)], [], I101, G101, (gP rd))
        refine am_blk 37 [(.iinc 1 (1), 3, 1, 0, .int (1 : Int32)), (.goto (-30), 3, 0, 10, .null)] (10, [(0, .ref 53), (1, .int (v1 + (1 : Int32)))], [], I101, G101, (gP rd)) (True) hX hi (by decide +kernel) rfl trivial ?_
        exact ih.1 _ _ _ _ _ _ h
    · intro I G v1 v2 v3 out h
      rw [L_X7_refresh_53_1] at h
      refine am_blk 45 [(.iload_n 1, 1, 1, 0, .null), (.aload_n 0, 1, 0, 0, .null), (.getfield 27, 3, 5, 7, .null), (.arraylength, 1, 0, 0, .null)] (51, [(0, .ref 53), (1, .int v1)], [.int (Int32.ofNat 6), .int v1], I, G, (gP rd)) (True) hX hi (by decide +kernel) rfl trivial ?_
      refine am_icmp_ge (tgt := 67) hX hi (off := (16)) (by decide +kernel) (by decide) (fun c51 => ?_) (fun c51 => ?_)
      · rw [if_pos c51] at h
        refine am_blk 67 [(.iconst (0), 1, 0, 0, .int (0 : Int32)), (.istore_n 1, 1, 1, 0, .null), (.iconst (0), 1, 0, 0, .int (0 : Int32)), (.istore_n 2, 1, 2, 0, .null)] (71, [(0, .ref 53), (1, .int (0 : Int32)), (2, .int (0 : Int32))], [], I, G, (gP rd)) (True) hX hi (by decide +kernel) rfl trivial ?_
        exact ih.2.2.1 _ _ _ _ _ _ h
      · rw [if_neg c51] at h
        obtain ⟨g0, h⟩ := rg_some h
        refine am_blk 54 [(.aload_n 0, 1, 0, 0, .null), (.getfield 27, 3, 5, 7, .null), (.iload_n 1, 1, 1, 0, .null), (.iconst (0), 1, 0, 0, .int (0 : Int32)), (.iastore, 1, 0, 0, .null), (.iinc 1 (1), 3, 1, 0, .int (1 : Int32)), (.goto (-19), 3, 0, 45, .null)] (45, [(0, .ref 53), (1, .int (v1 + (1 : Int32)))], [], (am_up I 59 v1.toNatClampNeg (0 : Int32)), G, (gP rd)) (vp_in v1 6 ∧ True) hX hi (by decide +kernel) rfl ⟨g0, trivial⟩ ?_
        exact ih.2.1 _ _ _ _ _ _ h
    · intro I G v1 v2 v3 out h
      rw [L_X7_refresh_53_2] at h
      refine am_blk 71 [(.iload_n 2, 1, 2, 0, .null), (.aload_n 0, 1, 0, 0, .null), (.getfield 44, 3, 5, 0, .null), (.getfield 111, 3, 3, 10, .null)] (79, [(0, .ref 53), (1, .int v1), (2, .int v2)], [.int (I 7 10), .int v2], I, G, (gP rd)) (True) hX hi (by decide +kernel) rfl trivial ?_
      refine am_icmp_ge (tgt := 173) hX hi (off := (94)) (by decide +kernel) (by decide) (fun c79 => ?_) (fun c79 => ?_)
      · rw [if_pos c79] at h
        obtain ⟨g0, h⟩ := rg_some h
        refine am_blk 173 [(.aload_n 0, 1, 0, 0, .null), (.iconst (1), 1, 0, 0, .int (1 : Int32)), (.putfield 97, 3, 5, 14, .null)] (178, [(0, .ref 53), (1, .int v1), (2, .int v2)], [], (am_up I 53 14 (1 : Int32)), G, (gP rd)) (((1 : Int32) = 0 ∨ (1 : Int32) = 1) ∧ True) hX hi (by decide +kernel) rfl ⟨g0, trivial⟩ ?_
        cases h
        refine am_vret hX hi rfl (by decide +kernel) ?_
        exact ⟨rfl, rfl, rfl, rfl⟩
      · rw [if_neg c79] at h
        refine am_blk 82 [(.iconst (0), 1, 0, 0, .int (0 : Int32)), (.istore_n 3, 1, 3, 0, .null)] (84, [(0, .ref 53), (1, .int v1), (2, .int v2), (3, .int (0 : Int32))], [], I, G, (gP rd)) (True) hX hi (by decide +kernel) rfl trivial ?_
        exact ih.2.2.2 _ _ _ _ _ _ h
    · intro I G v1 v2 v3 out h
      rw [L_X7_refresh_53_3] at h
      refine am_blk 84 [(.iload_n 3, 1, 3, 0, .null), (.aload_n 0, 1, 0, 0, .null), (.getfield 44, 3, 5, 0, .null), (.getfield 104, 3, 3, 9, .null)] (92, [(0, .ref 53), (1, .int v1), (2, .int v2), (3, .int v3)], [.int (I 7 9), .int v3], I, G, (gP rd)) (True) hX hi (by decide +kernel) rfl trivial ?_
      refine am_icmp_ge (tgt := 167) hX hi (off := (75)) (by decide +kernel) (by decide) (fun c92 => ?_) (fun c92 => ?_)
      · rw [if_pos c92] at h
        refine am_blk 167 [(.iinc 2 (1), 3, 2, 0, .int (1 : Int32)), (.goto (-99), 3, 0, 71, .null)] (71, [(0, .ref 53), (1, .int v1), (2, .int (v2 + (1 : Int32))), (3, .int v3)], [], I, G, (gP rd)) (True) hX hi (by decide +kernel) rfl trivial ?_
        refine am_sub (L' := [(0, .ref 53), (1, .int v1), (2, .int (v2 + (1 : Int32)))]) (by simp) ?_
        exact ih.2.2.1 _ _ _ _ _ _ h
      · rw [if_neg c92] at h
        refine am_blk 95 [(.aload_n 0, 1, 0, 0, .null), (.aload_n 0, 1, 0, 0, .null), (.iload_n 3, 1, 3, 0, .null), (.iload_n 2, 1, 2, 0, .null)] (99, [(0, .ref 53), (1, .int v1), (2, .int v2), (3, .int v3)], [.int v2, .int v3, .ref 53, .ref 53], I, G, (gP rd)) (True) hX hi (by decide +kernel) rfl trivial ?_
        obtain ⟨r401, I401, G401, hc, h⟩ := rb_some h
        refine am_callV hX hi (M := mX7_source) (idx := 237) (d' := 4) (b := 53) (ci := 5) (As := [.int v3, .int v2]) (rest := [.ref 53]) mkX7_source miX7_source mvX7_source (by decide +kernel) (by decide +kernel) rfl (by decide +kernel) rfl ⟨by omega, by decide, Nat.le_of_ble_eq_true rfl⟩ rfl (c_X7_source_53 _ I G v3 v2 hc) ?_
        rintro r9 I9 G9 P9 ⟨e0, e1, e2, e3⟩
        rw [e0, e1, e2, e3]
        show am_V X 0 0 _ _ ad (102, [(0, .ref 53), (1, .int v1), (2, .int v2), (3, .int v3)], [.int r401, .ref 53], I401, G401, (gP rd))
        obtain ⟨r402, I402, G402, hc, h⟩ := rb_some h
        refine am_callV hX hi (M := mX7_heightFrom) (idx := 240) (d' := 3) (b := 53) (ci := 5) (As := [.int r401]) (rest := []) mkX7_heightFrom miX7_heightFrom mvX7_heightFrom (by decide +kernel) (by decide +kernel) rfl (by decide +kernel) rfl ⟨by omega, by decide, Nat.le_of_ble_eq_true rfl⟩ rfl (c_X7_heightFrom_53 _ I401 G401 r401 hc) ?_
        rintro r9 I9 G9 P9 ⟨e0, e1, e2, e3⟩
        rw [e0, e1, e2, e3]
        show am_V X 0 0 _ _ ad (105, [(0, .ref 53), (1, .int v1), (2, .int v2), (3, .int v3)], [.int r402], I402, G402, (gP rd))
        refine am_blk 105 [(.istore 4, 2, 4, 0, .null), (.aload_n 0, 1, 0, 0, .null), (.getfield 44, 3, 5, 0, .null), (.iload 4, 2, 4, 0, .null)] (113, [(0, .ref 53), (1, .int v1), (2, .int v2), (3, .int v3), (4, .int r402)], [.int r402, .ref 7], I402, G402, (gP rd)) (True) hX hi (by decide +kernel) rfl trivial ?_
        obtain ⟨r403, I403, G403, hc, h⟩ := rb_some h
        refine am_callV hX hi (M := mX5_inkOf) (idx := 243) (d' := 2) (b := 7) (ci := 3) (As := [.int r402]) (rest := []) mkX5_inkOf miX5_inkOf mvX5_inkOf (by decide +kernel) (by decide +kernel) rfl (by decide +kernel) rfl ⟨by omega, by decide, Nat.le_of_ble_eq_true rfl⟩ rfl (c_X5_inkOf_7 _ I402 G402 r402 hc) ?_
        rintro r9 I9 G9 P9 ⟨e0, e1, e2, e3⟩
        rw [e0, e1, e2, e3]
        show am_V X 0 0 _ _ ad (116, [(0, .ref 53), (1, .int v1), (2, .int v2), (3, .int v3), (4, .int r402)], [.int r403], I403, G403, (gP rd))
        refine am_blk 116 [(.istore 5, 2, 5, 0, .null), (.aload_n 0, 1, 0, 0, .null), (.getfield 21, 3, 5, 5, .null), (.iload_n 1, 1, 1, 0, .null), (.iload 4, 2, 4, 0, .null)] (125, [(0, .ref 53), (1, .int v1), (2, .int v2), (3, .int v3), (4, .int r402), (5, .int r403)], [.int r402, .int v1, .ref 57], I403, G403, (gP rd)) (True) hX hi (by decide +kernel) rfl trivial ?_
        refine am_callS hX hi (M := mX0_put) (idx := 89) (d' := 1) (As := [.ref 57, .int v1, .int r402]) (rest := []) mkX0_put msX0_put (by decide +kernel) (by decide +kernel) rfl ⟨by omega, by decide, Nat.le_of_ble_eq_true rfl⟩ rfl (c_put rfl (by decide) v1 r402) ?_
        rintro r9 I9 G9 P9 ⟨e0, e1, e2, e3⟩
        rw [e0, e1, e2, e3]
        show am_V X 0 0 _ _ ad (128, [(0, .ref 53), (1, .int v1), (2, .int v2), (3, .int v3), (4, .int r402), (5, .int r403)], [], (gPut I403 57 576 v1 r402), G403, (gP rd))
        refine am_blk 128 [(.aload_n 0, 1, 0, 0, .null), (.getfield 24, 3, 5, 6, .null), (.iload_n 1, 1, 1, 0, .null), (.iload 5, 2, 5, 0, .null)] (135, [(0, .ref 53), (1, .int v1), (2, .int v2), (3, .int v3), (4, .int r402), (5, .int r403)], [.int r403, .int v1, .ref 58], (gPut I403 57 576 v1 r402), G403, (gP rd)) (True) hX hi (by decide +kernel) rfl trivial ?_
        refine am_callS hX hi (M := mX0_put) (idx := 89) (d' := 1) (As := [.ref 58, .int v1, .int r403]) (rest := []) mkX0_put msX0_put (by decide +kernel) (by decide +kernel) rfl ⟨by omega, by decide, Nat.le_of_ble_eq_true rfl⟩ rfl (c_put rfl (by decide) v1 r403) ?_
        rintro r9 I9 G9 P9 ⟨e0, e1, e2, e3⟩
        rw [e0, e1, e2, e3]
        show am_V X 0 0 _ _ ad (138, [(0, .ref 53), (1, .int v1), (2, .int v2), (3, .int v3), (4, .int r402), (5, .int r403)], [], (gPut (gPut I403 57 576 v1 r402) 58 576 v1 r403), G403, (gP rd))
        refine am_blk 138 [(.aload_n 0, 1, 0, 0, .null), (.getfield 27, 3, 5, 7, .null), (.iload 5, 2, 5, 0, .null), (.aload_n 0, 1, 0, 0, .null), (.getfield 27, 3, 5, 7, .null), (.iload 5, 2, 5, 0, .null)] (150, [(0, .ref 53), (1, .int v1), (2, .int v2), (3, .int v3), (4, .int r402), (5, .int r403)], [.int r403, .ref 59, .int r403, .ref 59], (gPut (gPut I403 57 576 v1 r402) 58 576 v1 r403), G403, (gP rd)) (True) hX hi (by decide +kernel) rfl trivial ?_
        refine am_callS hX hi (M := mX0_at) (idx := 85) (d' := 1) (As := [.ref 59, .int r403]) (rest := [.int r403, .ref 59]) mkX0_at msX0_at (by decide +kernel) (by decide +kernel) rfl ⟨by omega, by decide, Nat.le_of_ble_eq_true rfl⟩ rfl (c_at rfl (by decide) r403) ?_
        rintro r9 I9 G9 P9 ⟨e0, e1, e2, e3⟩
        rw [e0, e1, e2, e3]
        show am_V X 0 0 _ _ ad (153, [(0, .ref 53), (1, .int v1), (2, .int v2), (3, .int v3), (4, .int r402), (5, .int r403)], [.int (gAt ((gPut (gPut I403 57 576 v1 r402) 58 576 v1 r403) 59) 6 r403), .int r403, .ref 59], (gPut (gPut I403 57 576 v1 r402) 58 576 v1 r403), G403, (gP rd))
        refine am_blk 153 [(.iconst (1), 1, 0, 0, .int (1 : Int32)), (.iadd, 1, 0, 0, .null)] (155, [(0, .ref 53), (1, .int v1), (2, .int v2), (3, .int v3), (4, .int r402), (5, .int r403)], [.int ((gAt ((gPut (gPut I403 57 576 v1 r402) 58 576 v1 r403) 59) 6 r403) + (1 : Int32)), .int r403, .ref 59], (gPut (gPut I403 57 576 v1 r402) 58 576 v1 r403), G403, (gP rd)) (True) hX hi (by decide +kernel) rfl trivial ?_
        refine am_callS hX hi (M := mX0_put) (idx := 89) (d' := 1) (As := [.ref 59, .int r403, .int ((gAt ((gPut (gPut I403 57 576 v1 r402) 58 576 v1 r403) 59) 6 r403) + (1 : Int32))]) (rest := []) mkX0_put msX0_put (by decide +kernel) (by decide +kernel) rfl ⟨by omega, by decide, Nat.le_of_ble_eq_true rfl⟩ rfl (c_put rfl (by decide) r403 ((gAt ((gPut (gPut I403 57 576 v1 r402) 58 576 v1 r403) 59) 6 r403) + (1 : Int32))) ?_
        rintro r9 I9 G9 P9 ⟨e0, e1, e2, e3⟩
        rw [e0, e1, e2, e3]
        show am_V X 0 0 _ _ ad (158, [(0, .ref 53), (1, .int v1), (2, .int v2), (3, .int v3), (4, .int r402), (5, .int r403)], [], (gPut (gPut (gPut I403 57 576 v1 r402) 58 576 v1 r403) 59 6 r403 ((gAt ((gPut (gPut I403 57 576 v1 r402) 58 576 v1 r403) 59) 6 r403) + (1 : Int32))), G403, (gP rd))
        refine am_blk 158 [(.iinc 1 (1), 3, 1, 0, .int (1 : Int32)), (.iinc 3 (1), 3, 3, 0, .int (1 : Int32)), (.goto (-80), 3, 0, 84, .null)] (84, [(0, .ref 53), (1, .int (v1 + (1 : Int32))), (2, .int v2), (3, .int (v3 + (1 : Int32))), (4, .int r402), (5, .int r403)], [], (gPut (gPut (gPut I403 57 576 v1 r402) 58 576 v1 r403) 59 6 r403 ((gAt ((gPut (gPut I403 57 576 v1 r402) 58 576 v1 r403) 59) 6 r403) + (1 : Int32))), G403, (gP rd)) (True) hX hi (by decide +kernel) rfl trivial ?_
        refine am_sub (L' := [(0, .ref 53), (1, .int (v1 + (1 : Int32))), (2, .int v2), (3, .int (v3 + (1 : Int32)))]) (by simp) ?_
        exact ih.2.2.2 _ _ _ _ _ _ h
set_option maxRecDepth 20000 in
set_option maxHeartbeats 4000000 in
theorem c_X7_refresh_53 (rd : Nat) (I : am_I) (G : am_G)  {out : Unit × am_I × am_G} (h : R_X7_refresh_53 I G  = some out) : am_Ct mX7_refresh 7 gS [.ref 53] I G (gP rd) (pV out.2.1 out.2.2 (gP rd)) := by
  refine am_ofF (by decide +kernel) rfl (by decide) (by omega) (Nat.le_of_ble_eq_true rfl) (fun X ad hX hi => ?_)
  have hi : am_info X 5 cX7_refresh 6 false none 7 := hi
  show am_V X 0 0 _ _ ad (0, [(0, .ref 53)], [], I, G, (gP rd))
  unfold R_X7_refresh_53 at h
  refine am_blk 0 [(.aload_n 0, 1, 0, 0, .null), (.getfield 97, 3, 5, 14, .null)] (4, [(0, .ref 53)], [.int (I 53 14)], I, G, (gP rd)) (True) hX hi (by decide +kernel) rfl trivial ?_
  refine am_if_eq (tgt := 8) hX hi (off := (4)) (by decide +kernel) (by decide) (fun c4 => ?_) (fun c4 => ?_)
  · rw [if_pos c4] at h
    refine am_blk 8 [(.iconst (0), 1, 0, 0, .int (0 : Int32)), (.istore_n 1, 1, 1, 0, .null)] (10, [(0, .ref 53), (1, .int (0 : Int32))], [], I, G, (gP rd)) (True) hX hi (by decide +kernel) rfl trivial ?_
    exact (l_X7_refresh_53 rd hX hi FU).1 _ _ _ _ _ _ h
  · rw [if_neg c4] at h
    cases h
    refine am_vret hX hi rfl (by decide +kernel) ?_
    exact ⟨rfl, rfl, rfl, rfl⟩
noncomputable def L_X7_refresh_66 (n0 : Nat) (hd : Nat) (I : am_I) (G : am_G) (v1 : Int32) (v2 : Int32) (v3 : Int32) : Option (Unit × am_I × am_G) := match n0 with
  | 0 => none
  | n + 1 => match hd with
    | 0 => (if (I 7 11) ≤ v1 then L_X7_refresh_66 n 1 I G (0 : Int32) 0 0 else rb (R_X10_prepare_25 I G v1 (gAt (I 69) 4 v1)) (fun r101 I101 G101 => L_X7_refresh_66 n 0 I101 G101 (v1 + (1 : Int32)) 0 0))
    | 1 => (if (Int32.ofNat 6) ≤ v1 then L_X7_refresh_66 n 2 I G (0 : Int32) (0 : Int32) 0 else rg (vp_in v1 6) (L_X7_refresh_66 n 1 (am_up I 72 v1.toNatClampNeg (0 : Int32)) G (v1 + (1 : Int32)) 0 0))
    | 2 => (if (I 7 10) ≤ v2 then rg (((1 : Int32) = 0 ∨ (1 : Int32) = 1)) (some ((), (am_up I 66 14 (1 : Int32)), G)) else L_X7_refresh_66 n 3 I G v1 v2 (0 : Int32))
    | _ => (if (I 7 9) ≤ v3 then L_X7_refresh_66 n 2 I G v1 (v2 + (1 : Int32)) 0 else rb (R_X7_source_66 I G v3 v2) (fun r401 I401 G401 => rb (R_X7_heightFrom_66 I401 G401 r401) (fun r402 I402 G402 => rb (R_X5_inkOf_7 I402 G402 r402) (fun r403 I403 G403 => L_X7_refresh_66 n 3 (gPut (gPut (gPut I403 70 576 v1 r402) 71 576 v1 r403) 72 6 r403 ((gAt ((gPut (gPut I403 70 576 v1 r402) 71 576 v1 r403) 72) 6 r403) + (1 : Int32))) G403 (v1 + (1 : Int32)) v2 (v3 + (1 : Int32))))))
theorem L_X7_refresh_66_0 (n : Nat) (I : am_I) (G : am_G) (v1 : Int32) (v2 : Int32) (v3 : Int32) : L_X7_refresh_66 (n + 1) 0 I G v1 v2 v3 = (if (I 7 11) ≤ v1 then L_X7_refresh_66 n 1 I G (0 : Int32) 0 0 else rb (R_X10_prepare_25 I G v1 (gAt (I 69) 4 v1)) (fun r101 I101 G101 => L_X7_refresh_66 n 0 I101 G101 (v1 + (1 : Int32)) 0 0)) := rfl
theorem L_X7_refresh_66_1 (n : Nat) (I : am_I) (G : am_G) (v1 : Int32) (v2 : Int32) (v3 : Int32) : L_X7_refresh_66 (n + 1) 1 I G v1 v2 v3 = (if (Int32.ofNat 6) ≤ v1 then L_X7_refresh_66 n 2 I G (0 : Int32) (0 : Int32) 0 else rg (vp_in v1 6) (L_X7_refresh_66 n 1 (am_up I 72 v1.toNatClampNeg (0 : Int32)) G (v1 + (1 : Int32)) 0 0)) := rfl
theorem L_X7_refresh_66_2 (n : Nat) (I : am_I) (G : am_G) (v1 : Int32) (v2 : Int32) (v3 : Int32) : L_X7_refresh_66 (n + 1) 2 I G v1 v2 v3 = (if (I 7 10) ≤ v2 then rg (((1 : Int32) = 0 ∨ (1 : Int32) = 1)) (some ((), (am_up I 66 14 (1 : Int32)), G)) else L_X7_refresh_66 n 3 I G v1 v2 (0 : Int32)) := rfl
theorem L_X7_refresh_66_3 (n : Nat) (I : am_I) (G : am_G) (v1 : Int32) (v2 : Int32) (v3 : Int32) : L_X7_refresh_66 (n + 1) 3 I G v1 v2 v3 = (if (I 7 9) ≤ v3 then L_X7_refresh_66 n 2 I G v1 (v2 + (1 : Int32)) 0 else rb (R_X7_source_66 I G v3 v2) (fun r401 I401 G401 => rb (R_X7_heightFrom_66 I401 G401 r401) (fun r402 I402 G402 => rb (R_X5_inkOf_7 I402 G402 r402) (fun r403 I403 G403 => L_X7_refresh_66 n 3 (gPut (gPut (gPut I403 70 576 v1 r402) 71 576 v1 r403) 72 6 r403 ((gAt ((gPut (gPut I403 70 576 v1 r402) 71 576 v1 r403) 72) 6 r403) + (1 : Int32))) G403 (v1 + (1 : Int32)) v2 (v3 + (1 : Int32)))))) := rfl
theorem L_X7_refresh_66_z (h : Nat) (I : am_I) (G : am_G) (v1 : Int32) (v2 : Int32) (v3 : Int32) : L_X7_refresh_66 0 h I G v1 v2 v3 = none := rfl
noncomputable def R_X7_refresh_66 (I : am_I) (G : am_G)  : Option (Unit × am_I × am_G) := (if (I 66 14) = 0 then L_X7_refresh_66 FU 0 I G (0 : Int32) 0 0 else some ((), I, G))
set_option maxRecDepth 20000 in
set_option maxHeartbeats 4000000 in
theorem l_X7_refresh_66 (rd : Nat) {X : am_X} {ad : Nat → Nat} (hX : am_okz X ad) (hi : am_info X 5 cX7_refresh 6 false none 7) (n : Nat) : (∀ (I : am_I) (G : am_G) (v1 : Int32) (v2 : Int32) (v3 : Int32) (out : Unit × am_I × am_G), L_X7_refresh_66 n 0 I G v1 v2 v3 = some out → am_V X 0 0 (am_Rt X gS ad (pV out.2.1 out.2.2 (gP rd))) gS ad (10, [(0, .ref 66), (1, .int v1)], [], I, G, (gP rd))) ∧ (∀ (I : am_I) (G : am_G) (v1 : Int32) (v2 : Int32) (v3 : Int32) (out : Unit × am_I × am_G), L_X7_refresh_66 n 1 I G v1 v2 v3 = some out → am_V X 0 0 (am_Rt X gS ad (pV out.2.1 out.2.2 (gP rd))) gS ad (45, [(0, .ref 66), (1, .int v1)], [], I, G, (gP rd))) ∧ (∀ (I : am_I) (G : am_G) (v1 : Int32) (v2 : Int32) (v3 : Int32) (out : Unit × am_I × am_G), L_X7_refresh_66 n 2 I G v1 v2 v3 = some out → am_V X 0 0 (am_Rt X gS ad (pV out.2.1 out.2.2 (gP rd))) gS ad (71, [(0, .ref 66), (1, .int v1), (2, .int v2)], [], I, G, (gP rd))) ∧ (∀ (I : am_I) (G : am_G) (v1 : Int32) (v2 : Int32) (v3 : Int32) (out : Unit × am_I × am_G), L_X7_refresh_66 n 3 I G v1 v2 v3 = some out → am_V X 0 0 (am_Rt X gS ad (pV out.2.1 out.2.2 (gP rd))) gS ad (84, [(0, .ref 66), (1, .int v1), (2, .int v2), (3, .int v3)], [], I, G, (gP rd))) := by
  induction n with
  | zero => exact ⟨(fun I G v1 v2 v3 out h => by rw [L_X7_refresh_66_z] at h; cases h), (fun I G v1 v2 v3 out h => by rw [L_X7_refresh_66_z] at h; cases h), (fun I G v1 v2 v3 out h => by rw [L_X7_refresh_66_z] at h; cases h), (fun I G v1 v2 v3 out h => by rw [L_X7_refresh_66_z] at h; cases h)⟩
  | succ n ih =>
    refine ⟨?_, ?_, ?_, ?_⟩
    · intro I G v1 v2 v3 out h
      rw [L_X7_refresh_66_0] at h
      refine am_blk 10 [(.iload_n 1, 1, 1, 0, .null), (.aload_n 0, 1, 0, 0, .null), (.getfield 44, 3, 5, 0, .null), (.getfield 229, 3, 3, 11, .null)] (18, [(0, .ref 66), (1, .int v1)], [.int (I 7 11), .int v1], I, G, (gP rd)) (True) hX hi (by decide +kernel) rfl trivial ?_
      refine am_icmp_ge (tgt := 43) hX hi (off := (25)) (by decide +kernel) (by decide) (fun c18 => ?_) (fun c18 => ?_)
      · rw [if_pos c18] at h
        refine am_blk 43 [(.iconst (0), 1, 0, 0, .int (0 : Int32)), (.istore_n 1, 1, 1, 0, .null)] (45, [(0, .ref 66), (1, .int (0 : Int32))], [], I, G, (gP rd)) (True) hX hi (by decide +kernel) rfl trivial ?_
        exact ih.2.1 _ _ _ _ _ _ h
      · rw [if_neg c18] at h
        refine am_blk 21 [(.aload_n 0, 1, 0, 0, .null), (.getfield 48, 3, 5, 1, .null), (.iload_n 1, 1, 1, 0, .null), (.aload_n 0, 1, 0, 0, .null), (.getfield 18, 3, 5, 4, .null), (.iload_n 1, 1, 1, 0, .null)] (31, [(0, .ref 66), (1, .int v1)], [.int v1, .ref 69, .int v1, .ref 25], I, G, (gP rd)) (True) hX hi (by decide +kernel) rfl trivial ?_
        refine am_callS hX hi (M := mX0_at) (idx := 85) (d' := 1) (As := [.ref 69, .int v1]) (rest := [.int v1, .ref 25]) mkX0_at msX0_at (by decide +kernel) (by decide +kernel) rfl ⟨by omega, by decide, Nat.le_of_ble_eq_true rfl⟩ rfl (c_at rfl (by decide) v1) ?_
        rintro r9 I9 G9 P9 ⟨e0, e1, e2, e3⟩
        rw [e0, e1, e2, e3]
        show am_V X 0 0 _ _ ad (34, [(0, .ref 66), (1, .int v1)], [.int (gAt (I 69) 4 v1), .int v1, .ref 25], I, G, (gP rd))
        obtain ⟨r101, I101, G101, hc, h⟩ := rb_some h
        refine am_callV hX hi (M := mX10_prepare) (idx := 232) (d' := 6) (b := 25) (ci := 8) (As := [.int v1, .int (gAt (I 69) 4 v1)]) (rest := []) mkX10_prepare miX10_prepare mvX10_prepare (by decide +kernel) (by decide +kernel) rfl (by decide +kernel) rfl ⟨by omega, by decide, Nat.le_of_ble_eq_true rfl⟩ rfl (c_X10_prepare_25 _ I G v1 (gAt (I 69) 4 v1) hc) ?_
        rintro r9 I9 G9 P9 ⟨e0, e1, e2, e3⟩
        rw [e0, e1, e2, e3]
        show am_V X 0 0 _ _ ad (37, [(0, .ref 66), (1, .int v1)], [], I101, G101, (gP rd))
        refine am_blk 37 [(.iinc 1 (1), 3, 1, 0, .int (1 : Int32)), (.goto (-30), 3, 0, 10, .null)] (10, [(0, .ref 66), (1, .int (v1 + (1 : Int32)))], [], I101, G101, (gP rd)) (True) hX hi (by decide +kernel) rfl trivial ?_
        exact ih.1 _ _ _ _ _ _ h
    · intro I G v1 v2 v3 out h
      rw [L_X7_refresh_66_1] at h
      refine am_blk 45 [(.iload_n 1, 1, 1, 0, .null), (.aload_n 0, 1, 0, 0, .null), (.getfield 27, 3, 5, 7, .null), (.arraylength, 1, 0, 0, .null)] (51, [(0, .ref 66), (1, .int v1)], [.int (Int32.ofNat 6), .int v1], I, G, (gP rd)) (True) hX hi (by decide +kernel) rfl trivial ?_
      refine am_icmp_ge (tgt := 67) hX hi (off := (16)) (by decide +kernel) (by decide) (fun c51 => ?_) (fun c51 => ?_)
      · rw [if_pos c51] at h
        refine am_blk 67 [(.iconst (0), 1, 0, 0, .int (0 : Int32)), (.istore_n 1, 1, 1, 0, .null), (.iconst (0), 1, 0, 0, .int (0 : Int32)), (.istore_n 2, 1, 2, 0, .null)] (71, [(0, .ref 66), (1, .int (0 : Int32)), (2, .int (0 : Int32))], [], I, G, (gP rd)) (True) hX hi (by decide +kernel) rfl trivial ?_
        exact ih.2.2.1 _ _ _ _ _ _ h
      · rw [if_neg c51] at h
        obtain ⟨g0, h⟩ := rg_some h
        refine am_blk 54 [(.aload_n 0, 1, 0, 0, .null), (.getfield 27, 3, 5, 7, .null), (.iload_n 1, 1, 1, 0, .null), (.iconst (0), 1, 0, 0, .int (0 : Int32)), (.iastore, 1, 0, 0, .null), (.iinc 1 (1), 3, 1, 0, .int (1 : Int32)), (.goto (-19), 3, 0, 45, .null)] (45, [(0, .ref 66), (1, .int (v1 + (1 : Int32)))], [], (am_up I 72 v1.toNatClampNeg (0 : Int32)), G, (gP rd)) (vp_in v1 6 ∧ True) hX hi (by decide +kernel) rfl ⟨g0, trivial⟩ ?_
        exact ih.2.1 _ _ _ _ _ _ h
    · intro I G v1 v2 v3 out h
      rw [L_X7_refresh_66_2] at h
      refine am_blk 71 [(.iload_n 2, 1, 2, 0, .null), (.aload_n 0, 1, 0, 0, .null), (.getfield 44, 3, 5, 0, .null), (.getfield 111, 3, 3, 10, .null)] (79, [(0, .ref 66), (1, .int v1), (2, .int v2)], [.int (I 7 10), .int v2], I, G, (gP rd)) (True) hX hi (by decide +kernel) rfl trivial ?_
      refine am_icmp_ge (tgt := 173) hX hi (off := (94)) (by decide +kernel) (by decide) (fun c79 => ?_) (fun c79 => ?_)
      · rw [if_pos c79] at h
        obtain ⟨g0, h⟩ := rg_some h
        refine am_blk 173 [(.aload_n 0, 1, 0, 0, .null), (.iconst (1), 1, 0, 0, .int (1 : Int32)), (.putfield 97, 3, 5, 14, .null)] (178, [(0, .ref 66), (1, .int v1), (2, .int v2)], [], (am_up I 66 14 (1 : Int32)), G, (gP rd)) (((1 : Int32) = 0 ∨ (1 : Int32) = 1) ∧ True) hX hi (by decide +kernel) rfl ⟨g0, trivial⟩ ?_
        cases h
        refine am_vret hX hi rfl (by decide +kernel) ?_
        exact ⟨rfl, rfl, rfl, rfl⟩
      · rw [if_neg c79] at h
        refine am_blk 82 [(.iconst (0), 1, 0, 0, .int (0 : Int32)), (.istore_n 3, 1, 3, 0, .null)] (84, [(0, .ref 66), (1, .int v1), (2, .int v2), (3, .int (0 : Int32))], [], I, G, (gP rd)) (True) hX hi (by decide +kernel) rfl trivial ?_
        exact ih.2.2.2 _ _ _ _ _ _ h
    · intro I G v1 v2 v3 out h
      rw [L_X7_refresh_66_3] at h
      refine am_blk 84 [(.iload_n 3, 1, 3, 0, .null), (.aload_n 0, 1, 0, 0, .null), (.getfield 44, 3, 5, 0, .null), (.getfield 104, 3, 3, 9, .null)] (92, [(0, .ref 66), (1, .int v1), (2, .int v2), (3, .int v3)], [.int (I 7 9), .int v3], I, G, (gP rd)) (True) hX hi (by decide +kernel) rfl trivial ?_
      refine am_icmp_ge (tgt := 167) hX hi (off := (75)) (by decide +kernel) (by decide) (fun c92 => ?_) (fun c92 => ?_)
      · rw [if_pos c92] at h
        refine am_blk 167 [(.iinc 2 (1), 3, 2, 0, .int (1 : Int32)), (.goto (-99), 3, 0, 71, .null)] (71, [(0, .ref 66), (1, .int v1), (2, .int (v2 + (1 : Int32))), (3, .int v3)], [], I, G, (gP rd)) (True) hX hi (by decide +kernel) rfl trivial ?_
        refine am_sub (L' := [(0, .ref 66), (1, .int v1), (2, .int (v2 + (1 : Int32)))]) (by simp) ?_
        exact ih.2.2.1 _ _ _ _ _ _ h
      · rw [if_neg c92] at h
        refine am_blk 95 [(.aload_n 0, 1, 0, 0, .null), (.aload_n 0, 1, 0, 0, .null), (.iload_n 3, 1, 3, 0, .null), (.iload_n 2, 1, 2, 0, .null)] (99, [(0, .ref 66), (1, .int v1), (2, .int v2), (3, .int v3)], [.int v2, .int v3, .ref 66, .ref 66], I, G, (gP rd)) (True) hX hi (by decide +kernel) rfl trivial ?_
        obtain ⟨r401, I401, G401, hc, h⟩ := rb_some h
        refine am_callV hX hi (M := mX7_source) (idx := 237) (d' := 4) (b := 66) (ci := 5) (As := [.int v3, .int v2]) (rest := [.ref 66]) mkX7_source miX7_source mvX7_source (by decide +kernel) (by decide +kernel) rfl (by decide +kernel) rfl ⟨by omega, by decide, Nat.le_of_ble_eq_true rfl⟩ rfl (c_X7_source_66 _ I G v3 v2 hc) ?_
        rintro r9 I9 G9 P9 ⟨e0, e1, e2, e3⟩
        rw [e0, e1, e2, e3]
        show am_V X 0 0 _ _ ad (102, [(0, .ref 66), (1, .int v1), (2, .int v2), (3, .int v3)], [.int r401, .ref 66], I401, G401, (gP rd))
        obtain ⟨r402, I402, G402, hc, h⟩ := rb_some h
        refine am_callV hX hi (M := mX7_heightFrom) (idx := 240) (d' := 3) (b := 66) (ci := 5) (As := [.int r401]) (rest := []) mkX7_heightFrom miX7_heightFrom mvX7_heightFrom (by decide +kernel) (by decide +kernel) rfl (by decide +kernel) rfl ⟨by omega, by decide, Nat.le_of_ble_eq_true rfl⟩ rfl (c_X7_heightFrom_66 _ I401 G401 r401 hc) ?_
        rintro r9 I9 G9 P9 ⟨e0, e1, e2, e3⟩
        rw [e0, e1, e2, e3]
        show am_V X 0 0 _ _ ad (105, [(0, .ref 66), (1, .int v1), (2, .int v2), (3, .int v3)], [.int r402], I402, G402, (gP rd))
        refine am_blk 105 [(.istore 4, 2, 4, 0, .null), (.aload_n 0, 1, 0, 0, .null), (.getfield 44, 3, 5, 0, .null), (.iload 4, 2, 4, 0, .null)] (113, [(0, .ref 66), (1, .int v1), (2, .int v2), (3, .int v3), (4, .int r402)], [.int r402, .ref 7], I402, G402, (gP rd)) (True) hX hi (by decide +kernel) rfl trivial ?_
        obtain ⟨r403, I403, G403, hc, h⟩ := rb_some h
        refine am_callV hX hi (M := mX5_inkOf) (idx := 243) (d' := 2) (b := 7) (ci := 3) (As := [.int r402]) (rest := []) mkX5_inkOf miX5_inkOf mvX5_inkOf (by decide +kernel) (by decide +kernel) rfl (by decide +kernel) rfl ⟨by omega, by decide, Nat.le_of_ble_eq_true rfl⟩ rfl (c_X5_inkOf_7 _ I402 G402 r402 hc) ?_
        rintro r9 I9 G9 P9 ⟨e0, e1, e2, e3⟩
        rw [e0, e1, e2, e3]
        show am_V X 0 0 _ _ ad (116, [(0, .ref 66), (1, .int v1), (2, .int v2), (3, .int v3), (4, .int r402)], [.int r403], I403, G403, (gP rd))
        refine am_blk 116 [(.istore 5, 2, 5, 0, .null), (.aload_n 0, 1, 0, 0, .null), (.getfield 21, 3, 5, 5, .null), (.iload_n 1, 1, 1, 0, .null), (.iload 4, 2, 4, 0, .null)] (125, [(0, .ref 66), (1, .int v1), (2, .int v2), (3, .int v3), (4, .int r402), (5, .int r403)], [.int r402, .int v1, .ref 70], I403, G403, (gP rd)) (True) hX hi (by decide +kernel) rfl trivial ?_
        refine am_callS hX hi (M := mX0_put) (idx := 89) (d' := 1) (As := [.ref 70, .int v1, .int r402]) (rest := []) mkX0_put msX0_put (by decide +kernel) (by decide +kernel) rfl ⟨by omega, by decide, Nat.le_of_ble_eq_true rfl⟩ rfl (c_put rfl (by decide) v1 r402) ?_
        rintro r9 I9 G9 P9 ⟨e0, e1, e2, e3⟩
        rw [e0, e1, e2, e3]
        show am_V X 0 0 _ _ ad (128, [(0, .ref 66), (1, .int v1), (2, .int v2), (3, .int v3), (4, .int r402), (5, .int r403)], [], (gPut I403 70 576 v1 r402), G403, (gP rd))
        refine am_blk 128 [(.aload_n 0, 1, 0, 0, .null), (.getfield 24, 3, 5, 6, .null), (.iload_n 1, 1, 1, 0, .null), (.iload 5, 2, 5, 0, .null)] (135, [(0, .ref 66), (1, .int v1), (2, .int v2), (3, .int v3), (4, .int r402), (5, .int r403)], [.int r403, .int v1, .ref 71], (gPut I403 70 576 v1 r402), G403, (gP rd)) (True) hX hi (by decide +kernel) rfl trivial ?_
        refine am_callS hX hi (M := mX0_put) (idx := 89) (d' := 1) (As := [.ref 71, .int v1, .int r403]) (rest := []) mkX0_put msX0_put (by decide +kernel) (by decide +kernel) rfl ⟨by omega, by decide, Nat.le_of_ble_eq_true rfl⟩ rfl (c_put rfl (by decide) v1 r403) ?_
        rintro r9 I9 G9 P9 ⟨e0, e1, e2, e3⟩
        rw [e0, e1, e2, e3]
        show am_V X 0 0 _ _ ad (138, [(0, .ref 66), (1, .int v1), (2, .int v2), (3, .int v3), (4, .int r402), (5, .int r403)], [], (gPut (gPut I403 70 576 v1 r402) 71 576 v1 r403), G403, (gP rd))
        refine am_blk 138 [(.aload_n 0, 1, 0, 0, .null), (.getfield 27, 3, 5, 7, .null), (.iload 5, 2, 5, 0, .null), (.aload_n 0, 1, 0, 0, .null), (.getfield 27, 3, 5, 7, .null), (.iload 5, 2, 5, 0, .null)] (150, [(0, .ref 66), (1, .int v1), (2, .int v2), (3, .int v3), (4, .int r402), (5, .int r403)], [.int r403, .ref 72, .int r403, .ref 72], (gPut (gPut I403 70 576 v1 r402) 71 576 v1 r403), G403, (gP rd)) (True) hX hi (by decide +kernel) rfl trivial ?_
        refine am_callS hX hi (M := mX0_at) (idx := 85) (d' := 1) (As := [.ref 72, .int r403]) (rest := [.int r403, .ref 72]) mkX0_at msX0_at (by decide +kernel) (by decide +kernel) rfl ⟨by omega, by decide, Nat.le_of_ble_eq_true rfl⟩ rfl (c_at rfl (by decide) r403) ?_
        rintro r9 I9 G9 P9 ⟨e0, e1, e2, e3⟩
        rw [e0, e1, e2, e3]
        show am_V X 0 0 _ _ ad (153, [(0, .ref 66), (1, .int v1), (2, .int v2), (3, .int v3), (4, .int r402), (5, .int r403)], [.int (gAt ((gPut (gPut I403 70 576 v1 r402) 71 576 v1 r403) 72) 6 r403), .int r403, .ref 72], (gPut (gPut I403 70 576 v1 r402) 71 576 v1 r403), G403, (gP rd))
        refine am_blk 153 [(.iconst (1), 1, 0, 0, .int (1 : Int32)), (.iadd, 1, 0, 0, .null)] (155, [(0, .ref 66), (1, .int v1), (2, .int v2), (3, .int v3), (4, .int r402), (5, .int r403)], [.int ((gAt ((gPut (gPut I403 70 576 v1 r402) 71 576 v1 r403) 72) 6 r403) + (1 : Int32)), .int r403, .ref 72], (gPut (gPut I403 70 576 v1 r402) 71 576 v1 r403), G403, (gP rd)) (True) hX hi (by decide +kernel) rfl trivial ?_
        refine am_callS hX hi (M := mX0_put) (idx := 89) (d' := 1) (As := [.ref 72, .int r403, .int ((gAt ((gPut (gPut I403 70 576 v1 r402) 71 576 v1 r403) 72) 6 r403) + (1 : Int32))]) (rest := []) mkX0_put msX0_put (by decide +kernel) (by decide +kernel) rfl ⟨by omega, by decide, Nat.le_of_ble_eq_true rfl⟩ rfl (c_put rfl (by decide) r403 ((gAt ((gPut (gPut I403 70 576 v1 r402) 71 576 v1 r403) 72) 6 r403) + (1 : Int32))) ?_
        rintro r9 I9 G9 P9 ⟨e0, e1, e2, e3⟩
        rw [e0, e1, e2, e3]
        show am_V X 0 0 _ _ ad (158, [(0, .ref 66), (1, .int v1), (2, .int v2), (3, .int v3), (4, .int r402), (5, .int r403)], [], (gPut (gPut (gPut I403 70 576 v1 r402) 71 576 v1 r403) 72 6 r403 ((gAt ((gPut (gPut I403 70 576 v1 r402) 71 576 v1 r403) 72) 6 r403) + (1 : Int32))), G403, (gP rd))
        refine am_blk 158 [(.iinc 1 (1), 3, 1, 0, .int (1 : Int32)), (.iinc 3 (1), 3, 3, 0, .int (1 : Int32)), (.goto (-80), 3, 0, 84, .null)] (84, [(0, .ref 66), (1, .int (v1 + (1 : Int32))), (2, .int v2), (3, .int (v3 + (1 : Int32))), (4, .int r402), (5, .int r403)], [], (gPut (gPut (gPut I403 70 576 v1 r402) 71 576 v1 r403) 72 6 r403 ((gAt ((gPut (gPut I403 70 576 v1 r402) 71 576 v1 r403) 72) 6 r403) + (1 : Int32))), G403, (gP rd)) (True) hX hi (by decide +kernel) rfl trivial ?_
        refine am_sub (L' := [(0, .ref 66), (1, .int (v1 + (1 : Int32))), (2, .int v2), (3, .int (v3 + (1 : Int32)))]) (by simp) ?_
        exact ih.2.2.2 _ _ _ _ _ _ h
set_option maxRecDepth 20000 in
set_option maxHeartbeats 4000000 in
theorem c_X7_refresh_66 (rd : Nat) (I : am_I) (G : am_G)  {out : Unit × am_I × am_G} (h : R_X7_refresh_66 I G  = some out) : am_Ct mX7_refresh 7 gS [.ref 66] I G (gP rd) (pV out.2.1 out.2.2 (gP rd)) := by
  refine am_ofF (by decide +kernel) rfl (by decide) (by omega) (Nat.le_of_ble_eq_true rfl) (fun X ad hX hi => ?_)
  have hi : am_info X 5 cX7_refresh 6 false none 7 := hi
  show am_V X 0 0 _ _ ad (0, [(0, .ref 66)], [], I, G, (gP rd))
  unfold R_X7_refresh_66 at h
  refine am_blk 0 [(.aload_n 0, 1, 0, 0, .null), (.getfield 97, 3, 5, 14, .null)] (4, [(0, .ref 66)], [.int (I 66 14)], I, G, (gP rd)) (True) hX hi (by decide +kernel) rfl trivial ?_
  refine am_if_eq (tgt := 8) hX hi (off := (4)) (by decide +kernel) (by decide) (fun c4 => ?_) (fun c4 => ?_)
  · rw [if_pos c4] at h
    refine am_blk 8 [(.iconst (0), 1, 0, 0, .int (0 : Int32)), (.istore_n 1, 1, 1, 0, .null)] (10, [(0, .ref 66), (1, .int (0 : Int32))], [], I, G, (gP rd)) (True) hX hi (by decide +kernel) rfl trivial ?_
    exact (l_X7_refresh_66 rd hX hi FU).1 _ _ _ _ _ _ h
  · rw [if_neg c4] at h
    cases h
    refine am_vret hX hi rfl (by decide +kernel) ?_
    exact ⟨rfl, rfl, rfl, rfl⟩
noncomputable def R_X7_group_53 (I : am_I) (G : am_G)  : Option (Unit × am_I × am_G) := rb (R_X7_refresh_53 I G ) (fun r1 I1 G1 => (if (I1 53 15) = 0 then rb (R_X4_find_60_58 I1 G1 (I1 7 9) (I1 7 10)) (fun r2 I2 G2 => rg (((1 : Int32) = 0 ∨ (1 : Int32) = 1)) (some ((), (am_up I2 53 15 (1 : Int32)), G2))) else some ((), I1, G1)))
set_option maxRecDepth 20000 in
set_option maxHeartbeats 4000000 in
theorem c_X7_group_53 (rd : Nat) (I : am_I) (G : am_G)  {out : Unit × am_I × am_G} (h : R_X7_group_53 I G  = some out) : am_Ct mX7_group 8 gS [.ref 53] I G (gP rd) (pV out.2.1 out.2.2 (gP rd)) := by
  refine am_ofF (by decide +kernel) rfl (by decide) (by omega) (Nat.le_of_ble_eq_true rfl) (fun X ad hX hi => ?_)
  have hi : am_info X 5 cX7_group 1 false none 8 := hi
  show am_V X 0 0 _ _ ad (0, [(0, .ref 53)], [], I, G, (gP rd))
  unfold R_X7_group_53 at h
  refine am_blk 0 [(.aload_n 0, 1, 0, 0, .null)] (1, [(0, .ref 53)], [.ref 53], I, G, (gP rd)) (True) hX hi (by decide +kernel) rfl trivial ?_
  obtain ⟨r1, I1, G1, hc, h⟩ := rb_some h
  refine am_callV hX hi (M := mX7_refresh) (idx := 127) (d' := 7) (b := 53) (ci := 5) (As := []) (rest := []) mkX7_refresh miX7_refresh mvX7_refresh (by decide +kernel) (by decide +kernel) rfl (by decide +kernel) rfl ⟨by omega, by decide, Nat.le_of_ble_eq_true rfl⟩ rfl (c_X7_refresh_53 _ I G  hc) ?_
  rintro r9 I9 G9 P9 ⟨e0, e1, e2, e3⟩
  rw [e0, e1, e2, e3]
  show am_V X 0 0 _ _ ad (4, [(0, .ref 53)], [], I1, G1, (gP rd))
  refine am_blk 4 [(.aload_n 0, 1, 0, 0, .null), (.getfield 101, 3, 5, 15, .null)] (8, [(0, .ref 53)], [.int (I1 53 15)], I1, G1, (gP rd)) (True) hX hi (by decide +kernel) rfl trivial ?_
  refine am_if_ne (tgt := 41) hX hi (off := (33)) (by decide +kernel) (by decide) (fun c8 => ?_) (fun c8 => ?_)
  · rw [if_neg c8] at h
    cases h
    refine am_vret hX hi rfl (by decide +kernel) ?_
    exact ⟨rfl, rfl, rfl, rfl⟩
  · rw [if_pos c8] at h
    refine am_blk 11 [(.aload_n 0, 1, 0, 0, .null), (.getfield 33, 3, 5, 8, .null), (.aload_n 0, 1, 0, 0, .null), (.getfield 24, 3, 5, 6, .null), (.aload_n 0, 1, 0, 0, .null), (.getfield 44, 3, 5, 0, .null), (.getfield 104, 3, 3, 9, .null), (.aload_n 0, 1, 0, 0, .null), (.getfield 44, 3, 5, 0, .null), (.getfield 111, 3, 3, 10, .null)] (33, [(0, .ref 53)], [.int (I1 7 10), .int (I1 7 9), .ref 58, .ref 60], I1, G1, (gP rd)) (True) hX hi (by decide +kernel) rfl trivial ?_
    obtain ⟨r2, I2, G2, hc, h⟩ := rb_some h
    refine am_callV hX hi (M := mX4_find) (idx := 252) (d' := 5) (b := 60) (ci := 2) (As := [.ref 58, .int (I1 7 9), .int (I1 7 10)]) (rest := []) mkX4_find miX4_find mvX4_find (by decide +kernel) (by decide +kernel) rfl (by decide +kernel) rfl ⟨by omega, by decide, Nat.le_of_ble_eq_true rfl⟩ rfl (c_X4_find_60_58 _ I1 G1 (I1 7 9) (I1 7 10) hc) ?_
    rintro r9 I9 G9 P9 ⟨e0, e1, e2, e3⟩
    rw [e0, e1, e2, e3]
    show am_V X 0 0 _ _ ad (36, [(0, .ref 53)], [], I2, G2, (gP rd))
    obtain ⟨g0, h⟩ := rg_some h
    refine am_blk 36 [(.aload_n 0, 1, 0, 0, .null), (.iconst (1), 1, 0, 0, .int (1 : Int32)), (.putfield 101, 3, 5, 15, .null)] (41, [(0, .ref 53)], [], (am_up I2 53 15 (1 : Int32)), G2, (gP rd)) (((1 : Int32) = 0 ∨ (1 : Int32) = 1) ∧ True) hX hi (by decide +kernel) rfl ⟨g0, trivial⟩ ?_
    cases h
    refine am_vret hX hi rfl (by decide +kernel) ?_
    exact ⟨rfl, rfl, rfl, rfl⟩
noncomputable def R_X7_group_66 (I : am_I) (G : am_G)  : Option (Unit × am_I × am_G) := rb (R_X7_refresh_66 I G ) (fun r1 I1 G1 => (if (I1 66 15) = 0 then rb (R_X4_find_73_71 I1 G1 (I1 7 9) (I1 7 10)) (fun r2 I2 G2 => rg (((1 : Int32) = 0 ∨ (1 : Int32) = 1)) (some ((), (am_up I2 66 15 (1 : Int32)), G2))) else some ((), I1, G1)))
set_option maxRecDepth 20000 in
set_option maxHeartbeats 4000000 in
theorem c_X7_group_66 (rd : Nat) (I : am_I) (G : am_G)  {out : Unit × am_I × am_G} (h : R_X7_group_66 I G  = some out) : am_Ct mX7_group 8 gS [.ref 66] I G (gP rd) (pV out.2.1 out.2.2 (gP rd)) := by
  refine am_ofF (by decide +kernel) rfl (by decide) (by omega) (Nat.le_of_ble_eq_true rfl) (fun X ad hX hi => ?_)
  have hi : am_info X 5 cX7_group 1 false none 8 := hi
  show am_V X 0 0 _ _ ad (0, [(0, .ref 66)], [], I, G, (gP rd))
  unfold R_X7_group_66 at h
  refine am_blk 0 [(.aload_n 0, 1, 0, 0, .null)] (1, [(0, .ref 66)], [.ref 66], I, G, (gP rd)) (True) hX hi (by decide +kernel) rfl trivial ?_
  obtain ⟨r1, I1, G1, hc, h⟩ := rb_some h
  refine am_callV hX hi (M := mX7_refresh) (idx := 127) (d' := 7) (b := 66) (ci := 5) (As := []) (rest := []) mkX7_refresh miX7_refresh mvX7_refresh (by decide +kernel) (by decide +kernel) rfl (by decide +kernel) rfl ⟨by omega, by decide, Nat.le_of_ble_eq_true rfl⟩ rfl (c_X7_refresh_66 _ I G  hc) ?_
  rintro r9 I9 G9 P9 ⟨e0, e1, e2, e3⟩
  rw [e0, e1, e2, e3]
  show am_V X 0 0 _ _ ad (4, [(0, .ref 66)], [], I1, G1, (gP rd))
  refine am_blk 4 [(.aload_n 0, 1, 0, 0, .null), (.getfield 101, 3, 5, 15, .null)] (8, [(0, .ref 66)], [.int (I1 66 15)], I1, G1, (gP rd)) (True) hX hi (by decide +kernel) rfl trivial ?_
  refine am_if_ne (tgt := 41) hX hi (off := (33)) (by decide +kernel) (by decide) (fun c8 => ?_) (fun c8 => ?_)
  · rw [if_neg c8] at h
    cases h
    refine am_vret hX hi rfl (by decide +kernel) ?_
    exact ⟨rfl, rfl, rfl, rfl⟩
  · rw [if_pos c8] at h
    refine am_blk 11 [(.aload_n 0, 1, 0, 0, .null), (.getfield 33, 3, 5, 8, .null), (.aload_n 0, 1, 0, 0, .null), (.getfield 24, 3, 5, 6, .null), (.aload_n 0, 1, 0, 0, .null), (.getfield 44, 3, 5, 0, .null), (.getfield 104, 3, 3, 9, .null), (.aload_n 0, 1, 0, 0, .null), (.getfield 44, 3, 5, 0, .null), (.getfield 111, 3, 3, 10, .null)] (33, [(0, .ref 66)], [.int (I1 7 10), .int (I1 7 9), .ref 71, .ref 73], I1, G1, (gP rd)) (True) hX hi (by decide +kernel) rfl trivial ?_
    obtain ⟨r2, I2, G2, hc, h⟩ := rb_some h
    refine am_callV hX hi (M := mX4_find) (idx := 252) (d' := 5) (b := 73) (ci := 2) (As := [.ref 71, .int (I1 7 9), .int (I1 7 10)]) (rest := []) mkX4_find miX4_find mvX4_find (by decide +kernel) (by decide +kernel) rfl (by decide +kernel) rfl ⟨by omega, by decide, Nat.le_of_ble_eq_true rfl⟩ rfl (c_X4_find_73_71 _ I1 G1 (I1 7 9) (I1 7 10) hc) ?_
    rintro r9 I9 G9 P9 ⟨e0, e1, e2, e3⟩
    rw [e0, e1, e2, e3]
    show am_V X 0 0 _ _ ad (36, [(0, .ref 66)], [], I2, G2, (gP rd))
    obtain ⟨g0, h⟩ := rg_some h
    refine am_blk 36 [(.aload_n 0, 1, 0, 0, .null), (.iconst (1), 1, 0, 0, .int (1 : Int32)), (.putfield 101, 3, 5, 15, .null)] (41, [(0, .ref 66)], [], (am_up I2 66 15 (1 : Int32)), G2, (gP rd)) (((1 : Int32) = 0 ∨ (1 : Int32) = 1) ∧ True) hX hi (by decide +kernel) rfl ⟨g0, trivial⟩ ?_
    cases h
    refine am_vret hX hi rfl (by decide +kernel) ?_
    exact ⟨rfl, rfl, rfl, rfl⟩
noncomputable def R_X7_tell_53 (I : am_I) (G : am_G) (x1 : Int32) : Option (Int32 × am_I × am_G) := (if x1 = (0 : Int32) then some ((I 53 12), I, G) else if x1 = (1 : Int32) then some ((I 7 9), I, G) else if x1 = (2 : Int32) then some ((I 7 10), I, G) else if x1 = (3 : Int32) then some ((I 7 11), I, G) else if x1 = (4 : Int32) then some ((I 7 12), I, G) else if x1 = (5 : Int32) then some ((I 7 13), I, G) else if x1 = (6 : Int32) then some ((I 16 8), I, G) else if x1 = (7 : Int32) then some ((I 60 4), I, G) else if x1 = (8 : Int32) then some ((I 60 5), I, G) else if x1 = (9 : Int32) then rb (R_X7_smallestHeight_53 I G ) (fun r1 I1 G1 => some (r1, I1, G1)) else if x1 = (10 : Int32) then rb (R_X7_greatestHeight_53 I G ) (fun r2 I2 G2 => some (r2, I2, G2)) else if x1 = (11 : Int32) then some ((I 53 10), I, G) else if x1 = (12 : Int32) then some ((I 53 11), I, G) else some ((I 53 13), I, G))
set_option maxRecDepth 20000 in
set_option maxHeartbeats 4000000 in
theorem c_X7_tell_53 (rd : Nat) (I : am_I) (G : am_G) (x1 : Int32) {out : Int32 × am_I × am_G} (h : R_X7_tell_53 I G x1 = some out) : am_Ct mX7_tell 3 gS [.ref 53, .int x1] I G (gP rd) (pI out.1 out.2.1 out.2.2 (gP rd)) := by
  refine am_ofF (by decide +kernel) rfl (by decide) (by omega) (Nat.le_of_ble_eq_true rfl) (fun X ad hX hi => ?_)
  have hi : am_info X 5 cX7_tell 2 false (Option.some Jvm.ClassFile.FieldType.int) 3 := hi
  show am_V X 0 0 _ _ ad (0, [(0, .ref 53), (1, .int x1)], [], I, G, (gP rd))
  unfold R_X7_tell_53 at h
  refine am_blk 0 [(.iload_n 1, 1, 1, 0, .null)] (1, [(0, .ref 53), (1, .int x1)], [.int x1], I, G, (gP rd)) (True) hX hi (by decide +kernel) rfl trivial ?_
  by_cases s1_0 : x1 = (0 : Int32)
  · rw [if_pos s1_0] at h
    refine am_tsi hX hi (dflt := (159)) (lo := (0)) (hi' := (12)) (offs := #[(67), (72), (80), (88), (96), (104), (112), (123), (131), (139), (144), (149), (154)]) (len := 67) (off := (67)) (tgt := 68) (by decide +kernel) (by rw [s1_0]; decide) (by rw [s1_0]; decide) (by rw [s1_0]; rfl) (by decide) ?_
    refine am_blk 68 [(.aload_n 0, 1, 0, 0, .null), (.getfield 59, 3, 5, 12, .null)] (72, [(0, .ref 53), (1, .int x1)], [.int (I 53 12)], I, G, (gP rd)) (True) hX hi (by decide +kernel) rfl trivial ?_
    cases h
    refine am_iret hX hi rfl rfl (by decide +kernel) ?_
    exact ⟨rfl, rfl, rfl, rfl⟩
  rw [if_neg s1_0] at h
  by_cases s1_1 : x1 = (1 : Int32)
  · rw [if_pos s1_1] at h
    refine am_tsi hX hi (dflt := (159)) (lo := (0)) (hi' := (12)) (offs := #[(67), (72), (80), (88), (96), (104), (112), (123), (131), (139), (144), (149), (154)]) (len := 67) (off := (72)) (tgt := 73) (by decide +kernel) (by rw [s1_1]; decide) (by rw [s1_1]; decide) (by rw [s1_1]; rfl) (by decide) ?_
    refine am_blk 73 [(.aload_n 0, 1, 0, 0, .null), (.getfield 44, 3, 5, 0, .null), (.getfield 104, 3, 3, 9, .null)] (80, [(0, .ref 53), (1, .int x1)], [.int (I 7 9)], I, G, (gP rd)) (True) hX hi (by decide +kernel) rfl trivial ?_
    cases h
    refine am_iret hX hi rfl rfl (by decide +kernel) ?_
    exact ⟨rfl, rfl, rfl, rfl⟩
  rw [if_neg s1_1] at h
  by_cases s1_2 : x1 = (2 : Int32)
  · rw [if_pos s1_2] at h
    refine am_tsi hX hi (dflt := (159)) (lo := (0)) (hi' := (12)) (offs := #[(67), (72), (80), (88), (96), (104), (112), (123), (131), (139), (144), (149), (154)]) (len := 67) (off := (80)) (tgt := 81) (by decide +kernel) (by rw [s1_2]; decide) (by rw [s1_2]; decide) (by rw [s1_2]; rfl) (by decide) ?_
    refine am_blk 81 [(.aload_n 0, 1, 0, 0, .null), (.getfield 44, 3, 5, 0, .null), (.getfield 111, 3, 3, 10, .null)] (88, [(0, .ref 53), (1, .int x1)], [.int (I 7 10)], I, G, (gP rd)) (True) hX hi (by decide +kernel) rfl trivial ?_
    cases h
    refine am_iret hX hi rfl rfl (by decide +kernel) ?_
    exact ⟨rfl, rfl, rfl, rfl⟩
  rw [if_neg s1_2] at h
  by_cases s1_3 : x1 = (3 : Int32)
  · rw [if_pos s1_3] at h
    refine am_tsi hX hi (dflt := (159)) (lo := (0)) (hi' := (12)) (offs := #[(67), (72), (80), (88), (96), (104), (112), (123), (131), (139), (144), (149), (154)]) (len := 67) (off := (88)) (tgt := 89) (by decide +kernel) (by rw [s1_3]; decide) (by rw [s1_3]; decide) (by rw [s1_3]; rfl) (by decide) ?_
    refine am_blk 89 [(.aload_n 0, 1, 0, 0, .null), (.getfield 44, 3, 5, 0, .null), (.getfield 229, 3, 3, 11, .null)] (96, [(0, .ref 53), (1, .int x1)], [.int (I 7 11)], I, G, (gP rd)) (True) hX hi (by decide +kernel) rfl trivial ?_
    cases h
    refine am_iret hX hi rfl rfl (by decide +kernel) ?_
    exact ⟨rfl, rfl, rfl, rfl⟩
  rw [if_neg s1_3] at h
  by_cases s1_4 : x1 = (4 : Int32)
  · rw [if_pos s1_4] at h
    refine am_tsi hX hi (dflt := (159)) (lo := (0)) (hi' := (12)) (offs := #[(67), (72), (80), (88), (96), (104), (112), (123), (131), (139), (144), (149), (154)]) (len := 67) (off := (96)) (tgt := 97) (by decide +kernel) (by rw [s1_4]; decide) (by rw [s1_4]; decide) (by rw [s1_4]; rfl) (by decide) ?_
    refine am_blk 97 [(.aload_n 0, 1, 0, 0, .null), (.getfield 44, 3, 5, 0, .null), (.getfield 82, 3, 3, 12, .null)] (104, [(0, .ref 53), (1, .int x1)], [.int (I 7 12)], I, G, (gP rd)) (True) hX hi (by decide +kernel) rfl trivial ?_
    cases h
    refine am_iret hX hi rfl rfl (by decide +kernel) ?_
    exact ⟨rfl, rfl, rfl, rfl⟩
  rw [if_neg s1_4] at h
  by_cases s1_5 : x1 = (5 : Int32)
  · rw [if_pos s1_5] at h
    refine am_tsi hX hi (dflt := (159)) (lo := (0)) (hi' := (12)) (offs := #[(67), (72), (80), (88), (96), (104), (112), (123), (131), (139), (144), (149), (154)]) (len := 67) (off := (104)) (tgt := 105) (by decide +kernel) (by rw [s1_5]; decide) (by rw [s1_5]; decide) (by rw [s1_5]; rfl) (by decide) ?_
    refine am_blk 105 [(.aload_n 0, 1, 0, 0, .null), (.getfield 44, 3, 5, 0, .null), (.getfield 255, 3, 3, 13, .null)] (112, [(0, .ref 53), (1, .int x1)], [.int (I 7 13)], I, G, (gP rd)) (True) hX hi (by decide +kernel) rfl trivial ?_
    cases h
    refine am_iret hX hi rfl rfl (by decide +kernel) ?_
    exact ⟨rfl, rfl, rfl, rfl⟩
  rw [if_neg s1_5] at h
  by_cases s1_6 : x1 = (6 : Int32)
  · rw [if_pos s1_6] at h
    refine am_tsi hX hi (dflt := (159)) (lo := (0)) (hi' := (12)) (offs := #[(67), (72), (80), (88), (96), (104), (112), (123), (131), (139), (144), (149), (154)]) (len := 67) (off := (112)) (tgt := 113) (by decide +kernel) (by rw [s1_6]; decide) (by rw [s1_6]; decide) (by rw [s1_6]; rfl) (by decide) ?_
    refine am_blk 113 [(.aload_n 0, 1, 0, 0, .null), (.getfield 44, 3, 5, 0, .null), (.getfield 114, 3, 3, 8, .null), (.getfield 118, 3, 1, 8, .null)] (123, [(0, .ref 53), (1, .int x1)], [.int (I 16 8)], I, G, (gP rd)) (True) hX hi (by decide +kernel) rfl trivial ?_
    cases h
    refine am_iret hX hi rfl rfl (by decide +kernel) ?_
    exact ⟨rfl, rfl, rfl, rfl⟩
  rw [if_neg s1_6] at h
  by_cases s1_7 : x1 = (7 : Int32)
  · rw [if_pos s1_7] at h
    refine am_tsi hX hi (dflt := (159)) (lo := (0)) (hi' := (12)) (offs := #[(67), (72), (80), (88), (96), (104), (112), (123), (131), (139), (144), (149), (154)]) (len := 67) (off := (123)) (tgt := 124) (by decide +kernel) (by rw [s1_7]; decide) (by rw [s1_7]; decide) (by rw [s1_7]; rfl) (by decide) ?_
    refine am_blk 124 [(.aload_n 0, 1, 0, 0, .null), (.getfield 33, 3, 5, 8, .null), (.getfield 257, 3, 2, 4, .null)] (131, [(0, .ref 53), (1, .int x1)], [.int (I 60 4)], I, G, (gP rd)) (True) hX hi (by decide +kernel) rfl trivial ?_
    cases h
    refine am_iret hX hi rfl rfl (by decide +kernel) ?_
    exact ⟨rfl, rfl, rfl, rfl⟩
  rw [if_neg s1_7] at h
  by_cases s1_8 : x1 = (8 : Int32)
  · rw [if_pos s1_8] at h
    refine am_tsi hX hi (dflt := (159)) (lo := (0)) (hi' := (12)) (offs := #[(67), (72), (80), (88), (96), (104), (112), (123), (131), (139), (144), (149), (154)]) (len := 67) (off := (131)) (tgt := 132) (by decide +kernel) (by rw [s1_8]; decide) (by rw [s1_8]; decide) (by rw [s1_8]; rfl) (by decide) ?_
    refine am_blk 132 [(.aload_n 0, 1, 0, 0, .null), (.getfield 33, 3, 5, 8, .null), (.getfield 258, 3, 2, 5, .null)] (139, [(0, .ref 53), (1, .int x1)], [.int (I 60 5)], I, G, (gP rd)) (True) hX hi (by decide +kernel) rfl trivial ?_
    cases h
    refine am_iret hX hi rfl rfl (by decide +kernel) ?_
    exact ⟨rfl, rfl, rfl, rfl⟩
  rw [if_neg s1_8] at h
  by_cases s1_9 : x1 = (9 : Int32)
  · rw [if_pos s1_9] at h
    refine am_tsi hX hi (dflt := (159)) (lo := (0)) (hi' := (12)) (offs := #[(67), (72), (80), (88), (96), (104), (112), (123), (131), (139), (144), (149), (154)]) (len := 67) (off := (139)) (tgt := 140) (by decide +kernel) (by rw [s1_9]; decide) (by rw [s1_9]; decide) (by rw [s1_9]; rfl) (by decide) ?_
    refine am_blk 140 [(.aload_n 0, 1, 0, 0, .null)] (141, [(0, .ref 53), (1, .int x1)], [.ref 53], I, G, (gP rd)) (True) hX hi (by decide +kernel) rfl trivial ?_
    obtain ⟨r1, I1, G1, hc, h⟩ := rb_some h
    refine am_callV hX hi (M := mX7_smallestHeight) (idx := 261) (d' := 2) (b := 53) (ci := 5) (As := []) (rest := []) mkX7_smallestHeight miX7_smallestHeight mvX7_smallestHeight (by decide +kernel) (by decide +kernel) rfl (by decide +kernel) rfl ⟨by omega, by decide, Nat.le_of_ble_eq_true rfl⟩ rfl (c_X7_smallestHeight_53 _ I G  hc) ?_
    rintro r9 I9 G9 P9 ⟨e0, e1, e2, e3⟩
    rw [e0, e1, e2, e3]
    show am_V X 0 0 _ _ ad (144, [(0, .ref 53), (1, .int x1)], [.int r1], I1, G1, (gP rd))
    cases h
    refine am_iret hX hi rfl rfl (by decide +kernel) ?_
    exact ⟨rfl, rfl, rfl, rfl⟩
  rw [if_neg s1_9] at h
  by_cases s1_10 : x1 = (10 : Int32)
  · rw [if_pos s1_10] at h
    refine am_tsi hX hi (dflt := (159)) (lo := (0)) (hi' := (12)) (offs := #[(67), (72), (80), (88), (96), (104), (112), (123), (131), (139), (144), (149), (154)]) (len := 67) (off := (144)) (tgt := 145) (by decide +kernel) (by rw [s1_10]; decide) (by rw [s1_10]; decide) (by rw [s1_10]; rfl) (by decide) ?_
    refine am_blk 145 [(.aload_n 0, 1, 0, 0, .null)] (146, [(0, .ref 53), (1, .int x1)], [.ref 53], I, G, (gP rd)) (True) hX hi (by decide +kernel) rfl trivial ?_
    obtain ⟨r2, I2, G2, hc, h⟩ := rb_some h
    refine am_callV hX hi (M := mX7_greatestHeight) (idx := 264) (d' := 2) (b := 53) (ci := 5) (As := []) (rest := []) mkX7_greatestHeight miX7_greatestHeight mvX7_greatestHeight (by decide +kernel) (by decide +kernel) rfl (by decide +kernel) rfl ⟨by omega, by decide, Nat.le_of_ble_eq_true rfl⟩ rfl (c_X7_greatestHeight_53 _ I G  hc) ?_
    rintro r9 I9 G9 P9 ⟨e0, e1, e2, e3⟩
    rw [e0, e1, e2, e3]
    show am_V X 0 0 _ _ ad (149, [(0, .ref 53), (1, .int x1)], [.int r2], I2, G2, (gP rd))
    cases h
    refine am_iret hX hi rfl rfl (by decide +kernel) ?_
    exact ⟨rfl, rfl, rfl, rfl⟩
  rw [if_neg s1_10] at h
  by_cases s1_11 : x1 = (11 : Int32)
  · rw [if_pos s1_11] at h
    refine am_tsi hX hi (dflt := (159)) (lo := (0)) (hi' := (12)) (offs := #[(67), (72), (80), (88), (96), (104), (112), (123), (131), (139), (144), (149), (154)]) (len := 67) (off := (149)) (tgt := 150) (by decide +kernel) (by rw [s1_11]; decide) (by rw [s1_11]; decide) (by rw [s1_11]; rfl) (by decide) ?_
    refine am_blk 150 [(.aload_n 0, 1, 0, 0, .null), (.getfield 52, 3, 5, 10, .null)] (154, [(0, .ref 53), (1, .int x1)], [.int (I 53 10)], I, G, (gP rd)) (True) hX hi (by decide +kernel) rfl trivial ?_
    cases h
    refine am_iret hX hi rfl rfl (by decide +kernel) ?_
    exact ⟨rfl, rfl, rfl, rfl⟩
  rw [if_neg s1_11] at h
  by_cases s1_12 : x1 = (12 : Int32)
  · rw [if_pos s1_12] at h
    refine am_tsi hX hi (dflt := (159)) (lo := (0)) (hi' := (12)) (offs := #[(67), (72), (80), (88), (96), (104), (112), (123), (131), (139), (144), (149), (154)]) (len := 67) (off := (154)) (tgt := 155) (by decide +kernel) (by rw [s1_12]; decide) (by rw [s1_12]; decide) (by rw [s1_12]; rfl) (by decide) ?_
    refine am_blk 155 [(.aload_n 0, 1, 0, 0, .null), (.getfield 56, 3, 5, 11, .null)] (159, [(0, .ref 53), (1, .int x1)], [.int (I 53 11)], I, G, (gP rd)) (True) hX hi (by decide +kernel) rfl trivial ?_
    cases h
    refine am_iret hX hi rfl rfl (by decide +kernel) ?_
    exact ⟨rfl, rfl, rfl, rfl⟩
  rw [if_neg s1_12] at h
  refine am_tso hX hi (dflt := (159)) (lo := (0)) (hi' := (12)) (offs := #[(67), (72), (80), (88), (96), (104), (112), (123), (131), (139), (144), (149), (154)]) (len := 67) (tgt := 160) (by decide +kernel) ?_ (by decide) ?_
  · have eF : ∀ v : Int32, ¬ x1 = v → ¬ (x1).toInt = v.toInt := fun v q z => q ((i_eq _ _).mpr z)
    have e0 := eF (0 : Int32) s1_0
    have e1 := eF (1 : Int32) s1_1
    have e2 := eF (2 : Int32) s1_2
    have e3 := eF (3 : Int32) s1_3
    have e4 := eF (4 : Int32) s1_4
    have e5 := eF (5 : Int32) s1_5
    have e6 := eF (6 : Int32) s1_6
    have e7 := eF (7 : Int32) s1_7
    have e8 := eF (8 : Int32) s1_8
    have e9 := eF (9 : Int32) s1_9
    have e10 := eF (10 : Int32) s1_10
    have e11 := eF (11 : Int32) s1_11
    have e12 := eF (12 : Int32) s1_12
    simp only [show ((0 : Int32) : Int32).toInt = 0 from rfl, show ((1 : Int32) : Int32).toInt = 1 from rfl, show ((2 : Int32) : Int32).toInt = 2 from rfl, show ((3 : Int32) : Int32).toInt = 3 from rfl, show ((4 : Int32) : Int32).toInt = 4 from rfl, show ((5 : Int32) : Int32).toInt = 5 from rfl, show ((6 : Int32) : Int32).toInt = 6 from rfl, show ((7 : Int32) : Int32).toInt = 7 from rfl, show ((8 : Int32) : Int32).toInt = 8 from rfl, show ((9 : Int32) : Int32).toInt = 9 from rfl, show ((10 : Int32) : Int32).toInt = 10 from rfl, show ((11 : Int32) : Int32).toInt = 11 from rfl, show ((12 : Int32) : Int32).toInt = 12 from rfl] at e0 e1 e2 e3 e4 e5 e6 e7 e8 e9 e10 e11 e12
    omega
  refine am_blk 160 [(.aload_n 0, 1, 0, 0, .null), (.getfield 62, 3, 5, 13, .null)] (164, [(0, .ref 53), (1, .int x1)], [.int (I 53 13)], I, G, (gP rd)) (True) hX hi (by decide +kernel) rfl trivial ?_
  cases h
  refine am_iret hX hi rfl rfl (by decide +kernel) ?_
  exact ⟨rfl, rfl, rfl, rfl⟩
