theorem am_hd133 : (1 : Nat) = 1 := rfl  -- methods with loops, and those that call them, further on
noncomputable def L_X6_readValue_28 (cal : Nat → am_I → am_G → Int32 → Int32 → Option (Unit × am_I × am_G)) (n0 : Nat) (hd : Nat) (I : am_I) (G : am_G) (v1 : Int32) (v2 : Int32) : Option (Unit × am_I × am_G) := match n0 with
  | 0 => none
  | n + 1 => match hd with
    | _ => some ((), (g_X6_refuse_28 I G ), G)
theorem L_X6_readValue_28_0 (cal : Nat → am_I → am_G → Int32 → Int32 → Option (Unit × am_I × am_G)) (n : Nat) (I : am_I) (G : am_G) (v1 : Int32) (v2 : Int32) : L_X6_readValue_28 cal (n + 1) 0 I G v1 v2 = some ((), (g_X6_refuse_28 I G ), G) := rfl
theorem L_X6_readValue_28_z (cal : Nat → am_I → am_G → Int32 → Int32 → Option (Unit × am_I × am_G)) (h : Nat) (I : am_I) (G : am_G) (v1 : Int32) (v2 : Int32) : L_X6_readValue_28 cal 0 h I G v1 v2 = none := rfl
noncomputable def R_X6_readValue_28 (cal : Nat → am_I → am_G → Int32 → Int32 → Option (Unit × am_I × am_G)) (I : am_I) (G : am_G) (x1 : Int32) : Option (Unit × am_I × am_G) := (if (I 28 6) = (31 : Int32) then (if x1 < (8 : Int32) then (if (I 28 6) = (6 : Int32) then rb (R_X6_readKnownName_28_47 (g_X6_advance_28 I G ) G ) (fun r1 I1 G1 => some ((), (g_X3_add_38 I1 G1 (I 28 6) r1), G1)) else if (I 28 6) = (9 : Int32) then rb (R_X6_readKnownName_28_49 (g_X6_advance_28 I G ) G ) (fun r2 I2 G2 => some ((), (g_X3_add_38 I2 G2 (I 28 6) r2), G2)) else if (I 28 6) = (15 : Int32) then some ((), (g_X3_add_38 (g_X6_advance_28 I G ) G (I 28 6) (0 : Int32)), G) else if (I 28 6) = (16 : Int32) then rb (R_X6_readKnownName_28_51 (g_X6_advance_28 I G ) G ) (fun r3 I3 G3 => some ((), (g_X3_add_38 I3 G3 (I 28 6) r3), G3)) else if (I 28 6) = (17 : Int32) then rb (cal 6 (g_X6_advance_28 I G ) G x1 (0 : Int32)) (fun r4 I4 G4 => some ((), (g_X3_add_38 I4 G4 (I 28 6) (0 : Int32)), G4)) else if (I 28 6) = (22 : Int32) then rb (cal 6 (g_X6_advance_28 I G ) G x1 (0 : Int32)) (fun r5 I5 G5 => some ((), (g_X3_add_38 I5 G5 (I 28 6) (0 : Int32)), G5)) else if (I 28 6) = (23 : Int32) then rb (cal 6 (g_X6_advance_28 I G ) G x1 (0 : Int32)) (fun r6 I6 G6 => some ((), (g_X3_add_38 I6 G6 (I 28 6) (0 : Int32)), G6)) else if (I 28 6) = (24 : Int32) then rb (cal 3 (g_X6_advance_28 I G ) G (x1 + (1 : Int32)) (0 : Int32)) (fun r7 I7 G7 => some ((), (g_X6_expect_28 I7 G7 (25 : Int32)), G7)) else if (I 28 6) = (31 : Int32) then rb (cal 5 (g_X6_advance_28 I G ) G (x1 + (1 : Int32)) (0 : Int32)) (fun r8 I8 G8 => some ((), (g_X3_add_38 I8 G8 (43 : Int32) (0 : Int32)), G8)) else if (I 28 6) = (40 : Int32) then some ((), (g_X6_advance_28 (g_X3_add_38 I G (I 28 6) (f_X9_contentAt_1 I G (I 28 5)).toInt32) G ), G) else L_X6_readValue_28 cal FU 0 I G x1 (I 28 6)) else some ((), (g_X6_refuse_28 I G ), G)) else (if (I 28 6) = (24 : Int32) then (if x1 < (8 : Int32) then (if (I 28 6) = (6 : Int32) then rb (R_X6_readKnownName_28_47 (g_X6_advance_28 I G ) G ) (fun r17 I17 G17 => some ((), (g_X3_add_38 I17 G17 (I 28 6) r17), G17)) else if (I 28 6) = (9 : Int32) then rb (R_X6_readKnownName_28_49 (g_X6_advance_28 I G ) G ) (fun r18 I18 G18 => some ((), (g_X3_add_38 I18 G18 (I 28 6) r18), G18)) else if (I 28 6) = (15 : Int32) then some ((), (g_X3_add_38 (g_X6_advance_28 I G ) G (I 28 6) (0 : Int32)), G) else if (I 28 6) = (16 : Int32) then rb (R_X6_readKnownName_28_51 (g_X6_advance_28 I G ) G ) (fun r19 I19 G19 => some ((), (g_X3_add_38 I19 G19 (I 28 6) r19), G19)) else if (I 28 6) = (17 : Int32) then rb (cal 6 (g_X6_advance_28 I G ) G x1 (0 : Int32)) (fun r20 I20 G20 => some ((), (g_X3_add_38 I20 G20 (I 28 6) (0 : Int32)), G20)) else if (I 28 6) = (22 : Int32) then rb (cal 6 (g_X6_advance_28 I G ) G x1 (0 : Int32)) (fun r21 I21 G21 => some ((), (g_X3_add_38 I21 G21 (I 28 6) (0 : Int32)), G21)) else if (I 28 6) = (23 : Int32) then rb (cal 6 (g_X6_advance_28 I G ) G x1 (0 : Int32)) (fun r22 I22 G22 => some ((), (g_X3_add_38 I22 G22 (I 28 6) (0 : Int32)), G22)) else if (I 28 6) = (24 : Int32) then rb (cal 3 (g_X6_advance_28 I G ) G (x1 + (1 : Int32)) (0 : Int32)) (fun r23 I23 G23 => some ((), (g_X6_expect_28 I23 G23 (25 : Int32)), G23)) else if (I 28 6) = (31 : Int32) then rb (cal 5 (g_X6_advance_28 I G ) G (x1 + (1 : Int32)) (0 : Int32)) (fun r24 I24 G24 => some ((), (g_X3_add_38 I24 G24 (43 : Int32) (0 : Int32)), G24)) else if (I 28 6) = (40 : Int32) then some ((), (g_X6_advance_28 (g_X3_add_38 I G (I 28 6) (f_X9_contentAt_1 I G (I 28 5)).toInt32) G ), G) else L_X6_readValue_28 cal FU 0 I G x1 (I 28 6)) else some ((), (g_X6_refuse_28 I G ), G)) else (if (I 28 6) = (6 : Int32) then rb (R_X6_readKnownName_28_47 (g_X6_advance_28 I G ) G ) (fun r9 I9 G9 => some ((), (g_X3_add_38 I9 G9 (I 28 6) r9), G9)) else if (I 28 6) = (9 : Int32) then rb (R_X6_readKnownName_28_49 (g_X6_advance_28 I G ) G ) (fun r10 I10 G10 => some ((), (g_X3_add_38 I10 G10 (I 28 6) r10), G10)) else if (I 28 6) = (15 : Int32) then some ((), (g_X3_add_38 (g_X6_advance_28 I G ) G (I 28 6) (0 : Int32)), G) else if (I 28 6) = (16 : Int32) then rb (R_X6_readKnownName_28_51 (g_X6_advance_28 I G ) G ) (fun r11 I11 G11 => some ((), (g_X3_add_38 I11 G11 (I 28 6) r11), G11)) else if (I 28 6) = (17 : Int32) then rb (cal 6 (g_X6_advance_28 I G ) G x1 (0 : Int32)) (fun r12 I12 G12 => some ((), (g_X3_add_38 I12 G12 (I 28 6) (0 : Int32)), G12)) else if (I 28 6) = (22 : Int32) then rb (cal 6 (g_X6_advance_28 I G ) G x1 (0 : Int32)) (fun r13 I13 G13 => some ((), (g_X3_add_38 I13 G13 (I 28 6) (0 : Int32)), G13)) else if (I 28 6) = (23 : Int32) then rb (cal 6 (g_X6_advance_28 I G ) G x1 (0 : Int32)) (fun r14 I14 G14 => some ((), (g_X3_add_38 I14 G14 (I 28 6) (0 : Int32)), G14)) else if (I 28 6) = (24 : Int32) then rb (cal 3 (g_X6_advance_28 I G ) G (x1 + (1 : Int32)) (0 : Int32)) (fun r15 I15 G15 => some ((), (g_X6_expect_28 I15 G15 (25 : Int32)), G15)) else if (I 28 6) = (31 : Int32) then rb (cal 5 (g_X6_advance_28 I G ) G (x1 + (1 : Int32)) (0 : Int32)) (fun r16 I16 G16 => some ((), (g_X3_add_38 I16 G16 (43 : Int32) (0 : Int32)), G16)) else if (I 28 6) = (40 : Int32) then some ((), (g_X6_advance_28 (g_X3_add_38 I G (I 28 6) (f_X9_contentAt_1 I G (I 28 5)).toInt32) G ), G) else L_X6_readValue_28 cal FU 0 I G x1 (I 28 6))))
theorem l_X6_readValue_28 {cal : Nat → am_I → am_G → Int32 → Int32 → Option (Unit × am_I × am_G)} {n9 : Nat} (h0 : ∀ (rd : Nat) (I : am_I) (G : am_G) (a : Int32) (out : Unit × am_I × am_G), cal 0 I G a (0 : Int32) = some out → am_Ct mX6_readTest (8 + n9) gS [.ref 28, .int a] I G (gP rd) (pV out.2.1 out.2.2 (gP rd))) (h1 : ∀ (rd : Nat) (I : am_I) (G : am_G) (a : Int32) (out : Unit × am_I × am_G), cal 1 I G a (0 : Int32) = some out → am_Ct mX6_readBoth (8 + n9) gS [.ref 28, .int a] I G (gP rd) (pV out.2.1 out.2.2 (gP rd))) (h2 : ∀ (rd : Nat) (I : am_I) (G : am_G) (a : Int32) (out : Unit × am_I × am_G), cal 2 I G a (0 : Int32) = some out → am_Ct mX6_readSingle (8 + n9) gS [.ref 28, .int a] I G (gP rd) (pV out.2.1 out.2.2 (gP rd))) (h3 : ∀ (rd : Nat) (I : am_I) (G : am_G) (a : Int32) (out : Unit × am_I × am_G), cal 3 I G a (0 : Int32) = some out → am_Ct mX6_readSum (8 + n9) gS [.ref 28, .int a] I G (gP rd) (pV out.2.1 out.2.2 (gP rd))) (h4 : ∀ (rd : Nat) (I : am_I) (G : am_G) (a : Int32) (out : Unit × am_I × am_G), cal 4 I G a (0 : Int32) = some out → am_Ct mX6_readProduct (8 + n9) gS [.ref 28, .int a] I G (gP rd) (pV out.2.1 out.2.2 (gP rd))) (h5 : ∀ (rd : Nat) (I : am_I) (G : am_G) (a : Int32) (out : Unit × am_I × am_G), cal 5 I G a (0 : Int32) = some out → am_Ct mX6_readValue (8 + n9) gS [.ref 28, .int a] I G (gP rd) (pV out.2.1 out.2.2 (gP rd))) (h6 : ∀ (rd : Nat) (I : am_I) (G : am_G) (a : Int32) (out : Unit × am_I × am_G), cal 6 I G a (0 : Int32) = some out → am_Ct mX6_readPair (8 + n9) gS [.ref 28, .int a] I G (gP rd) (pV out.2.1 out.2.2 (gP rd))) (rd : Nat) {X : am_X} {ad : Nat → Nat} (hX : am_okz X ad) (hi : am_info X 4 cX6_readValue 3 false none (8 + n9 + 1)) (n : Nat) : (∀ (I : am_I) (G : am_G) (v1 : Int32) (v2 : Int32) (out : Unit × am_I × am_G), L_X6_readValue_28 cal n 0 I G v1 v2 = some out → am_V X 0 0 (am_Rt X gS ad (pV out.2.1 out.2.2 (gP rd))) gS ad (331, [(0, .ref 28), (1, .int v1), (2, .int v2)], [], I, G, (gP rd))) := by
  sorry
theorem c_X6_readValue_28 {cal : Nat → am_I → am_G → Int32 → Int32 → Option (Unit × am_I × am_G)} {n9 : Nat} (h0 : ∀ (rd : Nat) (I : am_I) (G : am_G) (a : Int32) (out : Unit × am_I × am_G), cal 0 I G a (0 : Int32) = some out → am_Ct mX6_readTest (8 + n9) gS [.ref 28, .int a] I G (gP rd) (pV out.2.1 out.2.2 (gP rd))) (h1 : ∀ (rd : Nat) (I : am_I) (G : am_G) (a : Int32) (out : Unit × am_I × am_G), cal 1 I G a (0 : Int32) = some out → am_Ct mX6_readBoth (8 + n9) gS [.ref 28, .int a] I G (gP rd) (pV out.2.1 out.2.2 (gP rd))) (h2 : ∀ (rd : Nat) (I : am_I) (G : am_G) (a : Int32) (out : Unit × am_I × am_G), cal 2 I G a (0 : Int32) = some out → am_Ct mX6_readSingle (8 + n9) gS [.ref 28, .int a] I G (gP rd) (pV out.2.1 out.2.2 (gP rd))) (h3 : ∀ (rd : Nat) (I : am_I) (G : am_G) (a : Int32) (out : Unit × am_I × am_G), cal 3 I G a (0 : Int32) = some out → am_Ct mX6_readSum (8 + n9) gS [.ref 28, .int a] I G (gP rd) (pV out.2.1 out.2.2 (gP rd))) (h4 : ∀ (rd : Nat) (I : am_I) (G : am_G) (a : Int32) (out : Unit × am_I × am_G), cal 4 I G a (0 : Int32) = some out → am_Ct mX6_readProduct (8 + n9) gS [.ref 28, .int a] I G (gP rd) (pV out.2.1 out.2.2 (gP rd))) (h5 : ∀ (rd : Nat) (I : am_I) (G : am_G) (a : Int32) (out : Unit × am_I × am_G), cal 5 I G a (0 : Int32) = some out → am_Ct mX6_readValue (8 + n9) gS [.ref 28, .int a] I G (gP rd) (pV out.2.1 out.2.2 (gP rd))) (h6 : ∀ (rd : Nat) (I : am_I) (G : am_G) (a : Int32) (out : Unit × am_I × am_G), cal 6 I G a (0 : Int32) = some out → am_Ct mX6_readPair (8 + n9) gS [.ref 28, .int a] I G (gP rd) (pV out.2.1 out.2.2 (gP rd))) (rd : Nat) (I : am_I) (G : am_G) (x1 : Int32) {out : Unit × am_I × am_G} (h : R_X6_readValue_28 cal I G x1 = some out) : am_Ct mX6_readValue (8 + n9 + 1) gS [.ref 28, .int x1] I G (gP rd) (pV out.2.1 out.2.2 (gP rd)) := by
  sorry
noncomputable def R_X6_readPair_28 (cal : Nat → am_I → am_G → Int32 → Int32 → Option (Unit × am_I × am_G)) (I : am_I) (G : am_G) (x1 : Int32) : Option (Unit × am_I × am_G) := (if (I 28 6) = (24 : Int32) then (if x1 < (8 : Int32) then rb (cal 3 (g_X6_advance_28 I G ) G (x1 + (1 : Int32)) (0 : Int32)) (fun r1 I1 G1 => rb (cal 3 (g_X6_expect_28 I1 G1 (29 : Int32)) G1 (x1 + (1 : Int32)) (0 : Int32)) (fun r2 I2 G2 => some ((), (g_X6_expect_28 I2 G2 (25 : Int32)), G2))) else some ((), (g_X6_refuse_28 I G ), G)) else some ((), (g_X6_refuse_28 I G ), G))
set_option maxRecDepth 20000 in
set_option maxHeartbeats 4000000 in
theorem c_X6_readPair_28 {cal : Nat → am_I → am_G → Int32 → Int32 → Option (Unit × am_I × am_G)} {n9 : Nat} (h0 : ∀ (rd : Nat) (I : am_I) (G : am_G) (a : Int32) (out : Unit × am_I × am_G), cal 0 I G a (0 : Int32) = some out → am_Ct mX6_readTest (8 + n9) gS [.ref 28, .int a] I G (gP rd) (pV out.2.1 out.2.2 (gP rd))) (h1 : ∀ (rd : Nat) (I : am_I) (G : am_G) (a : Int32) (out : Unit × am_I × am_G), cal 1 I G a (0 : Int32) = some out → am_Ct mX6_readBoth (8 + n9) gS [.ref 28, .int a] I G (gP rd) (pV out.2.1 out.2.2 (gP rd))) (h2 : ∀ (rd : Nat) (I : am_I) (G : am_G) (a : Int32) (out : Unit × am_I × am_G), cal 2 I G a (0 : Int32) = some out → am_Ct mX6_readSingle (8 + n9) gS [.ref 28, .int a] I G (gP rd) (pV out.2.1 out.2.2 (gP rd))) (h3 : ∀ (rd : Nat) (I : am_I) (G : am_G) (a : Int32) (out : Unit × am_I × am_G), cal 3 I G a (0 : Int32) = some out → am_Ct mX6_readSum (8 + n9) gS [.ref 28, .int a] I G (gP rd) (pV out.2.1 out.2.2 (gP rd))) (h4 : ∀ (rd : Nat) (I : am_I) (G : am_G) (a : Int32) (out : Unit × am_I × am_G), cal 4 I G a (0 : Int32) = some out → am_Ct mX6_readProduct (8 + n9) gS [.ref 28, .int a] I G (gP rd) (pV out.2.1 out.2.2 (gP rd))) (h5 : ∀ (rd : Nat) (I : am_I) (G : am_G) (a : Int32) (out : Unit × am_I × am_G), cal 5 I G a (0 : Int32) = some out → am_Ct mX6_readValue (8 + n9) gS [.ref 28, .int a] I G (gP rd) (pV out.2.1 out.2.2 (gP rd))) (h6 : ∀ (rd : Nat) (I : am_I) (G : am_G) (a : Int32) (out : Unit × am_I × am_G), cal 6 I G a (0 : Int32) = some out → am_Ct mX6_readPair (8 + n9) gS [.ref 28, .int a] I G (gP rd) (pV out.2.1 out.2.2 (gP rd))) (rd : Nat) (I : am_I) (G : am_G) (x1 : Int32) {out : Unit × am_I × am_G} (h : R_X6_readPair_28 cal I G x1 = some out) : am_Ct mX6_readPair (8 + n9 + 1) gS [.ref 28, .int x1] I G (gP rd) (pV out.2.1 out.2.2 (gP rd)) := by
  refine am_ofF (by decide +kernel) rfl (by decide) (by omega) (Nat.le_of_ble_eq_true rfl) (fun X ad hX hi => ?_)
  have hi : am_info X 4 cX6_readPair 2 false none (8 + n9 + 1) := hi
  show am_V X 0 0 _ _ ad (0, [(0, .ref 28), (1, .int x1)], [], I, G, (gP rd))
  unfold R_X6_readPair_28 at h
  refine am_blk 0 [(.aload_n 0, 1, 0, 0, .null), (.getfield 62, 3, 4, 6, .null), (.bipush (24), 2, 0, 0, .int (24 : Int32))] (6, [(0, .ref 28), (1, .int x1)], [.int (24 : Int32), .int (I 28 6)], I, G, (gP rd)) (True) hX hi (by decide +kernel) rfl trivial ?_
  refine am_icmp_ne (tgt := 15) hX hi (off := (9)) (by decide +kernel) (by decide) (fun c6 => ?_) (fun c6 => ?_)
  · rw [if_neg c6] at h
    refine am_blk 15 [(.aload_n 0, 1, 0, 0, .null)] (16, [(0, .ref 28), (1, .int x1)], [.ref 28], I, G, (gP rd)) (True) hX hi (by decide +kernel) rfl trivial ?_
    refine am_callV hX hi (M := mX6_refuse) (idx := 70) (d' := 3) (b := 28) (ci := 4) (As := []) (rest := []) mkX6_refuse miX6_refuse mvX6_refuse (by decide +kernel) (by decide +kernel) rfl (by decide +kernel) rfl ⟨by omega, by decide, Nat.le_of_ble_eq_true rfl⟩ rfl (c_X6_refuse_28 _ I G ) ?_
    rintro r9 I9 G9 P9 ⟨e0, e1, e2, e3⟩
    rw [e0, e1, e2, e3]
    show am_V X 0 0 _ _ ad (19, [(0, .ref 28), (1, .int x1)], [], (g_X6_refuse_28 I G ), G, (gP rd))
    cases h
    refine am_vret hX hi rfl (by decide +kernel) ?_
    exact ⟨rfl, rfl, rfl, rfl⟩
  · rw [if_pos c6] at h
    refine am_blk 9 [(.iload_n 1, 1, 1, 0, .null), (.bipush (8), 2, 0, 0, .int (8 : Int32))] (12, [(0, .ref 28), (1, .int x1)], [.int (8 : Int32), .int x1], I, G, (gP rd)) (True) hX hi (by decide +kernel) rfl trivial ?_
    refine am_icmp_lt (tgt := 20) hX hi (off := (8)) (by decide +kernel) (by decide) (fun c12 => ?_) (fun c12 => ?_)
    · rw [if_pos c12] at h
      refine am_blk 20 [(.aload_n 0, 1, 0, 0, .null)] (21, [(0, .ref 28), (1, .int x1)], [.ref 28], I, G, (gP rd)) (True) hX hi (by decide +kernel) rfl trivial ?_
      refine am_callV hX hi (M := mX6_advance) (idx := 100) (d' := 2) (b := 28) (ci := 4) (As := []) (rest := []) mkX6_advance miX6_advance mvX6_advance (by decide +kernel) (by decide +kernel) rfl (by decide +kernel) rfl ⟨by omega, by decide, Nat.le_of_ble_eq_true rfl⟩ rfl (c_X6_advance_28 _ I G ) ?_
      rintro r9 I9 G9 P9 ⟨e0, e1, e2, e3⟩
      rw [e0, e1, e2, e3]
      show am_V X 0 0 _ _ ad (24, [(0, .ref 28), (1, .int x1)], [], (g_X6_advance_28 I G ), G, (gP rd))
      refine am_blk 24 [(.aload_n 0, 1, 0, 0, .null), (.iload_n 1, 1, 1, 0, .null), (.iconst (1), 1, 0, 0, .int (1 : Int32)), (.iadd, 1, 0, 0, .null)] (28, [(0, .ref 28), (1, .int x1)], [.int (x1 + (1 : Int32)), .ref 28], (g_X6_advance_28 I G ), G, (gP rd)) (True) hX hi (by decide +kernel) rfl trivial ?_
      obtain ⟨r1, I1, G1, hc, h⟩ := rb_some h
      refine am_callV hX hi (M := mX6_readSum) (idx := 88) (d' := (8 + n9)) (b := 28) (ci := 4) (As := [.int (x1 + (1 : Int32))]) (rest := []) mkX6_readSum miX6_readSum mvX6_readSum (by decide +kernel) (by decide +kernel) rfl (by decide +kernel) rfl ⟨by omega, by decide, Nat.le_of_ble_eq_true rfl⟩ rfl (h3 _ (g_X6_advance_28 I G ) G (x1 + (1 : Int32)) _ hc) ?_
      rintro r9 I9 G9 P9 ⟨e0, e1, e2, e3⟩
      rw [e0, e1, e2, e3]
      show am_V X 0 0 _ _ ad (31, [(0, .ref 28), (1, .int x1)], [], I1, G1, (gP rd))
      refine am_blk 31 [(.aload_n 0, 1, 0, 0, .null), (.bipush (29), 2, 0, 0, .int (29 : Int32))] (34, [(0, .ref 28), (1, .int x1)], [.int (29 : Int32), .ref 28], I1, G1, (gP rd)) (True) hX hi (by decide +kernel) rfl trivial ?_
      refine am_callV hX hi (M := mX6_expect) (idx := 109) (d' := 4) (b := 28) (ci := 4) (As := [.int (29 : Int32)]) (rest := []) mkX6_expect miX6_expect mvX6_expect (by decide +kernel) (by decide +kernel) rfl (by decide +kernel) rfl ⟨by omega, by decide, Nat.le_of_ble_eq_true rfl⟩ rfl (c_X6_expect_28 _ I1 G1 (29 : Int32)) ?_
      rintro r9 I9 G9 P9 ⟨e0, e1, e2, e3⟩
      rw [e0, e1, e2, e3]
      show am_V X 0 0 _ _ ad (37, [(0, .ref 28), (1, .int x1)], [], (g_X6_expect_28 I1 G1 (29 : Int32)), G1, (gP rd))
      refine am_blk 37 [(.aload_n 0, 1, 0, 0, .null), (.iload_n 1, 1, 1, 0, .null), (.iconst (1), 1, 0, 0, .int (1 : Int32)), (.iadd, 1, 0, 0, .null)] (41, [(0, .ref 28), (1, .int x1)], [.int (x1 + (1 : Int32)), .ref 28], (g_X6_expect_28 I1 G1 (29 : Int32)), G1, (gP rd)) (True) hX hi (by decide +kernel) rfl trivial ?_
      obtain ⟨r2, I2, G2, hc, h⟩ := rb_some h
      refine am_callV hX hi (M := mX6_readSum) (idx := 88) (d' := (8 + n9)) (b := 28) (ci := 4) (As := [.int (x1 + (1 : Int32))]) (rest := []) mkX6_readSum miX6_readSum mvX6_readSum (by decide +kernel) (by decide +kernel) rfl (by decide +kernel) rfl ⟨by omega, by decide, Nat.le_of_ble_eq_true rfl⟩ rfl (h3 _ (g_X6_expect_28 I1 G1 (29 : Int32)) G1 (x1 + (1 : Int32)) _ hc) ?_
      rintro r9 I9 G9 P9 ⟨e0, e1, e2, e3⟩
      rw [e0, e1, e2, e3]
      show am_V X 0 0 _ _ ad (44, [(0, .ref 28), (1, .int x1)], [], I2, G2, (gP rd))
      refine am_blk 44 [(.aload_n 0, 1, 0, 0, .null), (.bipush (25), 2, 0, 0, .int (25 : Int32))] (47, [(0, .ref 28), (1, .int x1)], [.int (25 : Int32), .ref 28], I2, G2, (gP rd)) (True) hX hi (by decide +kernel) rfl trivial ?_
      refine am_callV hX hi (M := mX6_expect) (idx := 109) (d' := 4) (b := 28) (ci := 4) (As := [.int (25 : Int32)]) (rest := []) mkX6_expect miX6_expect mvX6_expect (by decide +kernel) (by decide +kernel) rfl (by decide +kernel) rfl ⟨by omega, by decide, Nat.le_of_ble_eq_true rfl⟩ rfl (c_X6_expect_28 _ I2 G2 (25 : Int32)) ?_
      rintro r9 I9 G9 P9 ⟨e0, e1, e2, e3⟩
      rw [e0, e1, e2, e3]
      show am_V X 0 0 _ _ ad (50, [(0, .ref 28), (1, .int x1)], [], (g_X6_expect_28 I2 G2 (25 : Int32)), G2, (gP rd))
      cases h
      refine am_vret hX hi rfl (by decide +kernel) ?_
      exact ⟨rfl, rfl, rfl, rfl⟩
    · rw [if_neg c12] at h
      refine am_blk 15 [(.aload_n 0, 1, 0, 0, .null)] (16, [(0, .ref 28), (1, .int x1)], [.ref 28], I, G, (gP rd)) (True) hX hi (by decide +kernel) rfl trivial ?_
      refine am_callV hX hi (M := mX6_refuse) (idx := 70) (d' := 3) (b := 28) (ci := 4) (As := []) (rest := []) mkX6_refuse miX6_refuse mvX6_refuse (by decide +kernel) (by decide +kernel) rfl (by decide +kernel) rfl ⟨by omega, by decide, Nat.le_of_ble_eq_true rfl⟩ rfl (c_X6_refuse_28 _ I G ) ?_
      rintro r9 I9 G9 P9 ⟨e0, e1, e2, e3⟩
      rw [e0, e1, e2, e3]
      show am_V X 0 0 _ _ ad (19, [(0, .ref 28), (1, .int x1)], [], (g_X6_refuse_28 I G ), G, (gP rd))
      cases h
      refine am_vret hX hi rfl (by decide +kernel) ?_
      exact ⟨rfl, rfl, rfl, rfl⟩
noncomputable def PG_X6_readTest : Nat → Nat → am_I → am_G → Int32 → Int32 → Option (Unit × am_I × am_G)
  | 0 => fun _ _ _ _ _ => none
  | n + 1 => fun k I G a b => if k = 0 then R_X6_readTest_28 (PG_X6_readTest n) I G a else if k = 1 then R_X6_readBoth_28 (PG_X6_readTest n) I G a else if k = 2 then R_X6_readSingle_28 (PG_X6_readTest n) I G a else if k = 3 then R_X6_readSum_28 (PG_X6_readTest n) I G a else if k = 4 then R_X6_readProduct_28 (PG_X6_readTest n) I G a else if k = 5 then R_X6_readValue_28 (PG_X6_readTest n) I G a else if k = 6 then R_X6_readPair_28 (PG_X6_readTest n) I G a else none
theorem PG_X6_readTest_0 (n : Nat) (I : am_I) (G : am_G) (a b : Int32) : PG_X6_readTest (n + 1) 0 I G a b = R_X6_readTest_28 (PG_X6_readTest n) I G a := rfl
theorem PG_X6_readTest_1 (n : Nat) (I : am_I) (G : am_G) (a b : Int32) : PG_X6_readTest (n + 1) 1 I G a b = R_X6_readBoth_28 (PG_X6_readTest n) I G a := rfl
theorem PG_X6_readTest_2 (n : Nat) (I : am_I) (G : am_G) (a b : Int32) : PG_X6_readTest (n + 1) 2 I G a b = R_X6_readSingle_28 (PG_X6_readTest n) I G a := rfl
theorem PG_X6_readTest_3 (n : Nat) (I : am_I) (G : am_G) (a b : Int32) : PG_X6_readTest (n + 1) 3 I G a b = R_X6_readSum_28 (PG_X6_readTest n) I G a := rfl
theorem PG_X6_readTest_4 (n : Nat) (I : am_I) (G : am_G) (a b : Int32) : PG_X6_readTest (n + 1) 4 I G a b = R_X6_readProduct_28 (PG_X6_readTest n) I G a := rfl
theorem PG_X6_readTest_5 (n : Nat) (I : am_I) (G : am_G) (a b : Int32) : PG_X6_readTest (n + 1) 5 I G a b = R_X6_readValue_28 (PG_X6_readTest n) I G a := rfl
theorem PG_X6_readTest_6 (n : Nat) (I : am_I) (G : am_G) (a b : Int32) : PG_X6_readTest (n + 1) 6 I G a b = R_X6_readPair_28 (PG_X6_readTest n) I G a := rfl
set_option maxHeartbeats 4000000 in
theorem cg_X6_readTest (n : Nat) : (∀ (rd : Nat) (I : am_I) (G : am_G) (a : Int32) (out : Unit × am_I × am_G), PG_X6_readTest n 0 I G a (0 : Int32) = some out → am_Ct mX6_readTest (8 + n) gS [.ref 28, .int a] I G (gP rd) (pV out.2.1 out.2.2 (gP rd))) ∧ (∀ (rd : Nat) (I : am_I) (G : am_G) (a : Int32) (out : Unit × am_I × am_G), PG_X6_readTest n 1 I G a (0 : Int32) = some out → am_Ct mX6_readBoth (8 + n) gS [.ref 28, .int a] I G (gP rd) (pV out.2.1 out.2.2 (gP rd))) ∧ (∀ (rd : Nat) (I : am_I) (G : am_G) (a : Int32) (out : Unit × am_I × am_G), PG_X6_readTest n 2 I G a (0 : Int32) = some out → am_Ct mX6_readSingle (8 + n) gS [.ref 28, .int a] I G (gP rd) (pV out.2.1 out.2.2 (gP rd))) ∧ (∀ (rd : Nat) (I : am_I) (G : am_G) (a : Int32) (out : Unit × am_I × am_G), PG_X6_readTest n 3 I G a (0 : Int32) = some out → am_Ct mX6_readSum (8 + n) gS [.ref 28, .int a] I G (gP rd) (pV out.2.1 out.2.2 (gP rd))) ∧ (∀ (rd : Nat) (I : am_I) (G : am_G) (a : Int32) (out : Unit × am_I × am_G), PG_X6_readTest n 4 I G a (0 : Int32) = some out → am_Ct mX6_readProduct (8 + n) gS [.ref 28, .int a] I G (gP rd) (pV out.2.1 out.2.2 (gP rd))) ∧ (∀ (rd : Nat) (I : am_I) (G : am_G) (a : Int32) (out : Unit × am_I × am_G), PG_X6_readTest n 5 I G a (0 : Int32) = some out → am_Ct mX6_readValue (8 + n) gS [.ref 28, .int a] I G (gP rd) (pV out.2.1 out.2.2 (gP rd))) ∧ (∀ (rd : Nat) (I : am_I) (G : am_G) (a : Int32) (out : Unit × am_I × am_G), PG_X6_readTest n 6 I G a (0 : Int32) = some out → am_Ct mX6_readPair (8 + n) gS [.ref 28, .int a] I G (gP rd) (pV out.2.1 out.2.2 (gP rd))) := by
  induction n with
  | zero => refine ⟨?_, ?_, ?_, ?_, ?_, ?_, ?_⟩ <;> (intros; rename_i h; cases h)
  | succ n ih =>
    obtain ⟨h0, h1, h2, h3, h4, h5, h6⟩ := ih
    refine ⟨?_, ?_, ?_, ?_, ?_, ?_, ?_⟩
    · intro rd I G a out h; rw [PG_X6_readTest_0] at h; exact c_X6_readTest_28 h0 h1 h2 h3 h4 h5 h6  rd I G a h
    · intro rd I G a out h; rw [PG_X6_readTest_1] at h; exact c_X6_readBoth_28 h0 h1 h2 h3 h4 h5 h6  rd I G a h
    · intro rd I G a out h; rw [PG_X6_readTest_2] at h; exact c_X6_readSingle_28 h0 h1 h2 h3 h4 h5 h6  rd I G a h
    · intro rd I G a out h; rw [PG_X6_readTest_3] at h; exact c_X6_readSum_28 h0 h1 h2 h3 h4 h5 h6  rd I G a h
    · intro rd I G a out h; rw [PG_X6_readTest_4] at h; exact c_X6_readProduct_28 h0 h1 h2 h3 h4 h5 h6  rd I G a h
    · intro rd I G a out h; rw [PG_X6_readTest_5] at h; exact c_X6_readValue_28 h0 h1 h2 h3 h4 h5 h6  rd I G a h
    · intro rd I G a out h; rw [PG_X6_readTest_6] at h; exact c_X6_readPair_28 h0 h1 h2 h3 h4 h5 h6  rd I G a h

noncomputable def L_X14_isTest_79 (cal : Nat → am_I → am_G → Int32 → Int32 → Option (Int32 × am_I × am_G)) (n0 : Nat) (hd : Nat) (I : am_I) (G : am_G)  : Option (Int32 × am_I × am_G) := match n0 with
  | 0 => none
  | n + 1 => match hd with
    | _ => rg (q_X14_eat_79 I G (21 : Int32)) ((if (f_X14_eat_79 I G (21 : Int32)) = 0 then some ((1 : Int32), (g_X14_eat_79 I G (21 : Int32)), G) else rb (cal 1 (g_X14_eat_79 I G (21 : Int32)) G (0 : Int32) (0 : Int32)) (fun r101 I101 G101 => (if r101 = 0 then some ((0 : Int32), I101, G101) else rg (q_X14_put_79 I101 G101 (21 : Int32)) (L_X14_isTest_79 cal n 0 (g_X14_put_79 I101 G101 (21 : Int32)) G101 )))))
theorem L_X14_isTest_79_0 (cal : Nat → am_I → am_G → Int32 → Int32 → Option (Int32 × am_I × am_G)) (n : Nat) (I : am_I) (G : am_G)  : L_X14_isTest_79 cal (n + 1) 0 I G  = rg (q_X14_eat_79 I G (21 : Int32)) ((if (f_X14_eat_79 I G (21 : Int32)) = 0 then some ((1 : Int32), (g_X14_eat_79 I G (21 : Int32)), G) else rb (cal 1 (g_X14_eat_79 I G (21 : Int32)) G (0 : Int32) (0 : Int32)) (fun r101 I101 G101 => (if r101 = 0 then some ((0 : Int32), I101, G101) else rg (q_X14_put_79 I101 G101 (21 : Int32)) (L_X14_isTest_79 cal n 0 (g_X14_put_79 I101 G101 (21 : Int32)) G101 ))))) := rfl
theorem L_X14_isTest_79_z (cal : Nat → am_I → am_G → Int32 → Int32 → Option (Int32 × am_I × am_G)) (h : Nat) (I : am_I) (G : am_G)  : L_X14_isTest_79 cal 0 h I G  = none := rfl
noncomputable def R_X14_isTest_79 (cal : Nat → am_I → am_G → Int32 → Int32 → Option (Int32 × am_I × am_G)) (I : am_I) (G : am_G)  : Option (Int32 × am_I × am_G) := rb (cal 1 I G (0 : Int32) (0 : Int32)) (fun r1 I1 G1 => (if r1 = 0 then some ((0 : Int32), I1, G1) else L_X14_isTest_79 cal FU 0 I1 G1 ))
set_option maxRecDepth 20000 in
set_option maxHeartbeats 4000000 in
theorem l_X14_isTest_79 {cal : Nat → am_I → am_G → Int32 → Int32 → Option (Int32 × am_I × am_G)} {n9 : Nat} (h0 : ∀ (I : am_I) (G : am_G) (out : Int32 × am_I × am_G), cal 0 I G (0 : Int32) (0 : Int32) = some out → am_Ct mX14_isTest (8 + n9) gS2 [.ref 79] I G (gP 123) (pI out.1 out.2.1 out.2.2 (gP 123))) (h1 : ∀ (I : am_I) (G : am_G) (out : Int32 × am_I × am_G), cal 1 I G (0 : Int32) (0 : Int32) = some out → am_Ct mX14_isBoth (8 + n9) gS2 [.ref 79] I G (gP 123) (pI out.1 out.2.1 out.2.2 (gP 123))) (h2 : ∀ (I : am_I) (G : am_G) (out : Int32 × am_I × am_G), cal 2 I G (0 : Int32) (0 : Int32) = some out → am_Ct mX14_isSingle (8 + n9) gS2 [.ref 79] I G (gP 123) (pI out.1 out.2.1 out.2.2 (gP 123))) (h3 : ∀ (I : am_I) (G : am_G) (out : Int32 × am_I × am_G), cal 3 I G (0 : Int32) (0 : Int32) = some out → am_Ct mX14_isSum (8 + n9) gS2 [.ref 79] I G (gP 123) (pI out.1 out.2.1 out.2.2 (gP 123))) (h4 : ∀ (I : am_I) (G : am_G) (out : Int32 × am_I × am_G), cal 4 I G (0 : Int32) (0 : Int32) = some out → am_Ct mX14_isProduct (8 + n9) gS2 [.ref 79] I G (gP 123) (pI out.1 out.2.1 out.2.2 (gP 123))) (h5 : ∀ (I : am_I) (G : am_G) (a : Int32) (b : Int32) (out : Int32 × am_I × am_G), cal 5 I G a b = some out → am_Ct mX14_isInside (8 + n9) gS2 [.ref 79, .int a, .int b] I G (gP 123) (pI out.1 out.2.1 out.2.2 (gP 123))) (h6 : ∀ (I : am_I) (G : am_G) (out : Int32 × am_I × am_G), cal 6 I G (0 : Int32) (0 : Int32) = some out → am_Ct mX14_isValue (8 + n9) gS2 [.ref 79] I G (gP 123) (pI out.1 out.2.1 out.2.2 (gP 123))) {X : am_X} {ad : Nat → Nat} (hX : am_okz X ad) (hi : am_info X 12 cX14_isTest 1 false (Option.some Jvm.ClassFile.FieldType.boolean) (8 + n9 + 1)) (n : Nat) : (∀ (I : am_I) (G : am_G)  (out : Int32 × am_I × am_G), L_X14_isTest_79 cal n 0 I G  = some out → am_V X 0 0 (am_Rt X gS2 ad (pI out.1 out.2.1 out.2.2 (gP 123))) gS2 ad (9, [(0, .ref 79)], [], I, G, (gP 123))) := by
  induction n with
  | zero => exact fun I G  out h => by rw [L_X14_isTest_79_z] at h; cases h
  | succ n ih =>
    · intro I G  out h
      rw [L_X14_isTest_79_0] at h
      refine am_blk 9 [(.aload_n 0, 1, 0, 0, .null), (.bipush (21), 2, 0, 0, .int (21 : Int32))] (12, [(0, .ref 79)], [.int (21 : Int32), .ref 79], I, G, (gP 123)) (True) hX hi (by decide +kernel) rfl trivial ?_
      obtain ⟨hq1, h⟩ := rg_some h
      refine am_callV hX hi (M := mX14_eat) (idx := 128) (d' := 2) (b := 79) (ci := 12) (As := [.int (21 : Int32)]) (rest := []) mkX14_eat miX14_eat mvX14_eat (by decide +kernel) (by decide +kernel) rfl (by decide +kernel) rfl ⟨by omega, by decide, Nat.le_of_ble_eq_true rfl⟩ rfl (c_X14_eat_79 I G (21 : Int32) hq1) ?_
      rintro r9 I9 G9 P9 ⟨e0, e1, e2, e3⟩
      rw [e0, e1, e2, e3]
      show am_V X 0 0 _ _ ad (15, [(0, .ref 79)], [.int (f_X14_eat_79 I G (21 : Int32))], (g_X14_eat_79 I G (21 : Int32)), G, (gP 123))
      refine am_if_eq (tgt := 36) hX hi (off := (21)) (by decide +kernel) (by decide) (fun c15 => ?_) (fun c15 => ?_)
      · rw [if_pos c15] at h
        refine am_blk 36 [(.iconst (1), 1, 0, 0, .int (1 : Int32))] (37, [(0, .ref 79)], [.int (1 : Int32)], (g_X14_eat_79 I G (21 : Int32)), G, (gP 123)) (True) hX hi (by decide +kernel) rfl trivial ?_
        cases h
        refine am_iret hX hi rfl (by first | rfl | decide | (simp [narrow]; done)) (by decide +kernel) ?_
        exact ⟨rfl, rfl, rfl, rfl⟩
      · rw [if_neg c15] at h
        refine am_blk 18 [(.aload_n 0, 1, 0, 0, .null)] (19, [(0, .ref 79)], [.ref 79], (g_X14_eat_79 I G (21 : Int32)), G, (gP 123)) (True) hX hi (by decide +kernel) rfl trivial ?_
        obtain ⟨r101, I101, G101, hc, h⟩ := rb_some h
        refine am_callV hX hi (M := mX14_isBoth) (idx := 180) (d' := (8 + n9)) (b := 79) (ci := 12) (As := []) (rest := []) mkX14_isBoth miX14_isBoth mvX14_isBoth (by decide +kernel) (by decide +kernel) rfl (by decide +kernel) rfl ⟨by omega, by decide, Nat.le_of_ble_eq_true rfl⟩ rfl (h1 (g_X14_eat_79 I G (21 : Int32)) G  _ hc) ?_
        rintro r9 I9 G9 P9 ⟨e0, e1, e2, e3⟩
        rw [e0, e1, e2, e3]
        show am_V X 0 0 _ _ ad (22, [(0, .ref 79)], [.int r101], I101, G101, (gP 123))
        refine am_if_ne (tgt := 27) hX hi (off := (5)) (by decide +kernel) (by decide) (fun c22 => ?_) (fun c22 => ?_)
        · rw [if_neg c22] at h
          refine am_blk 27 [(.aload_n 0, 1, 0, 0, .null), (.bipush (21), 2, 0, 0, .int (21 : Int32))] (30, [(0, .ref 79)], [.int (21 : Int32), .ref 79], I101, G101, (gP 123)) (True) hX hi (by decide +kernel) rfl trivial ?_
          obtain ⟨hq1, h⟩ := rg_some h
          refine am_callV hX hi (M := mX14_put) (idx := 183) (d' := 1) (b := 79) (ci := 12) (As := [.int (21 : Int32)]) (rest := []) mkX14_put miX14_put mvX14_put (by decide +kernel) (by decide +kernel) rfl (by decide +kernel) rfl ⟨by omega, by decide, Nat.le_of_ble_eq_true rfl⟩ rfl (c_X14_put_79 I101 G101 (21 : Int32) hq1) ?_
          rintro r9 I9 G9 P9 ⟨e0, e1, e2, e3⟩
          rw [e0, e1, e2, e3]
          show am_V X 0 0 _ _ ad (33, [(0, .ref 79)], [], (g_X14_put_79 I101 G101 (21 : Int32)), G101, (gP 123))
          refine am_blk 33 [(.goto (-24), 3, 0, 9, .null)] (9, [(0, .ref 79)], [], (g_X14_put_79 I101 G101 (21 : Int32)), G101, (gP 123)) (True) hX hi (by decide +kernel) rfl trivial ?_
          exact ih _ _  _ h
        · rw [if_pos c22] at h
          refine am_blk 25 [(.iconst (0), 1, 0, 0, .int (0 : Int32))] (26, [(0, .ref 79)], [.int (0 : Int32)], I101, G101, (gP 123)) (True) hX hi (by decide +kernel) rfl trivial ?_
          cases h
          refine am_iret hX hi rfl (by first | rfl | decide | (simp [narrow]; done)) (by decide +kernel) ?_
          exact ⟨rfl, rfl, rfl, rfl⟩
set_option maxRecDepth 20000 in
set_option maxHeartbeats 4000000 in
theorem c_X14_isTest_79 {cal : Nat → am_I → am_G → Int32 → Int32 → Option (Int32 × am_I × am_G)} {n9 : Nat} (h0 : ∀ (I : am_I) (G : am_G) (out : Int32 × am_I × am_G), cal 0 I G (0 : Int32) (0 : Int32) = some out → am_Ct mX14_isTest (8 + n9) gS2 [.ref 79] I G (gP 123) (pI out.1 out.2.1 out.2.2 (gP 123))) (h1 : ∀ (I : am_I) (G : am_G) (out : Int32 × am_I × am_G), cal 1 I G (0 : Int32) (0 : Int32) = some out → am_Ct mX14_isBoth (8 + n9) gS2 [.ref 79] I G (gP 123) (pI out.1 out.2.1 out.2.2 (gP 123))) (h2 : ∀ (I : am_I) (G : am_G) (out : Int32 × am_I × am_G), cal 2 I G (0 : Int32) (0 : Int32) = some out → am_Ct mX14_isSingle (8 + n9) gS2 [.ref 79] I G (gP 123) (pI out.1 out.2.1 out.2.2 (gP 123))) (h3 : ∀ (I : am_I) (G : am_G) (out : Int32 × am_I × am_G), cal 3 I G (0 : Int32) (0 : Int32) = some out → am_Ct mX14_isSum (8 + n9) gS2 [.ref 79] I G (gP 123) (pI out.1 out.2.1 out.2.2 (gP 123))) (h4 : ∀ (I : am_I) (G : am_G) (out : Int32 × am_I × am_G), cal 4 I G (0 : Int32) (0 : Int32) = some out → am_Ct mX14_isProduct (8 + n9) gS2 [.ref 79] I G (gP 123) (pI out.1 out.2.1 out.2.2 (gP 123))) (h5 : ∀ (I : am_I) (G : am_G) (a : Int32) (b : Int32) (out : Int32 × am_I × am_G), cal 5 I G a b = some out → am_Ct mX14_isInside (8 + n9) gS2 [.ref 79, .int a, .int b] I G (gP 123) (pI out.1 out.2.1 out.2.2 (gP 123))) (h6 : ∀ (I : am_I) (G : am_G) (out : Int32 × am_I × am_G), cal 6 I G (0 : Int32) (0 : Int32) = some out → am_Ct mX14_isValue (8 + n9) gS2 [.ref 79] I G (gP 123) (pI out.1 out.2.1 out.2.2 (gP 123))) (I : am_I) (G : am_G)  {out : Int32 × am_I × am_G} (h : R_X14_isTest_79 cal I G  = some out) : am_Ct mX14_isTest (8 + n9 + 1) gS2 [.ref 79] I G (gP 123) (pI out.1 out.2.1 out.2.2 (gP 123)) := by
  refine am_ofF (by decide +kernel) rfl (by decide) (by omega) (Nat.le_of_ble_eq_true rfl) (fun X ad hX hi => ?_)
  have hi : am_info X 12 cX14_isTest 1 false (Option.some Jvm.ClassFile.FieldType.boolean) (8 + n9 + 1) := hi
  show am_V X 0 0 _ _ ad (0, [(0, .ref 79)], [], I, G, (gP 123))
  unfold R_X14_isTest_79 at h
  refine am_blk 0 [(.aload_n 0, 1, 0, 0, .null)] (1, [(0, .ref 79)], [.ref 79], I, G, (gP 123)) (True) hX hi (by decide +kernel) rfl trivial ?_
  obtain ⟨r1, I1, G1, hc, h⟩ := rb_some h
  refine am_callV hX hi (M := mX14_isBoth) (idx := 180) (d' := (8 + n9)) (b := 79) (ci := 12) (As := []) (rest := []) mkX14_isBoth miX14_isBoth mvX14_isBoth (by decide +kernel) (by decide +kernel) rfl (by decide +kernel) rfl ⟨by omega, by decide, Nat.le_of_ble_eq_true rfl⟩ rfl (h1 I G  _ hc) ?_
  rintro r9 I9 G9 P9 ⟨e0, e1, e2, e3⟩
  rw [e0, e1, e2, e3]
  show am_V X 0 0 _ _ ad (4, [(0, .ref 79)], [.int r1], I1, G1, (gP 123))
  refine am_if_ne (tgt := 9) hX hi (off := (5)) (by decide +kernel) (by decide) (fun c4 => ?_) (fun c4 => ?_)
  · rw [if_neg c4] at h
    exact (l_X14_isTest_79 h0 h1 h2 h3 h4 h5 h6 hX hi FU) _ _  _ h
  · rw [if_pos c4] at h
    refine am_blk 7 [(.iconst (0), 1, 0, 0, .int (0 : Int32))] (8, [(0, .ref 79)], [.int (0 : Int32)], I1, G1, (gP 123)) (True) hX hi (by decide +kernel) rfl trivial ?_
    cases h
    refine am_iret hX hi rfl (by first | rfl | decide | (simp [narrow]; done)) (by decide +kernel) ?_
    exact ⟨rfl, rfl, rfl, rfl⟩
noncomputable def L_X14_isBoth_79 (cal : Nat → am_I → am_G → Int32 → Int32 → Option (Int32 × am_I × am_G)) (n0 : Nat) (hd : Nat) (I : am_I) (G : am_G)  : Option (Int32 × am_I × am_G) := match n0 with
  | 0 => none
  | n + 1 => match hd with
    | _ => rg (q_X14_eat_79 I G (20 : Int32)) ((if (f_X14_eat_79 I G (20 : Int32)) = 0 then some ((1 : Int32), (g_X14_eat_79 I G (20 : Int32)), G) else rb (cal 2 (g_X14_eat_79 I G (20 : Int32)) G (0 : Int32) (0 : Int32)) (fun r101 I101 G101 => (if r101 = 0 then some ((0 : Int32), I101, G101) else rg (q_X14_put_79 I101 G101 (20 : Int32)) (L_X14_isBoth_79 cal n 0 (g_X14_put_79 I101 G101 (20 : Int32)) G101 )))))
theorem L_X14_isBoth_79_0 (cal : Nat → am_I → am_G → Int32 → Int32 → Option (Int32 × am_I × am_G)) (n : Nat) (I : am_I) (G : am_G)  : L_X14_isBoth_79 cal (n + 1) 0 I G  = rg (q_X14_eat_79 I G (20 : Int32)) ((if (f_X14_eat_79 I G (20 : Int32)) = 0 then some ((1 : Int32), (g_X14_eat_79 I G (20 : Int32)), G) else rb (cal 2 (g_X14_eat_79 I G (20 : Int32)) G (0 : Int32) (0 : Int32)) (fun r101 I101 G101 => (if r101 = 0 then some ((0 : Int32), I101, G101) else rg (q_X14_put_79 I101 G101 (20 : Int32)) (L_X14_isBoth_79 cal n 0 (g_X14_put_79 I101 G101 (20 : Int32)) G101 ))))) := rfl
theorem L_X14_isBoth_79_z (cal : Nat → am_I → am_G → Int32 → Int32 → Option (Int32 × am_I × am_G)) (h : Nat) (I : am_I) (G : am_G)  : L_X14_isBoth_79 cal 0 h I G  = none := rfl
noncomputable def R_X14_isBoth_79 (cal : Nat → am_I → am_G → Int32 → Int32 → Option (Int32 × am_I × am_G)) (I : am_I) (G : am_G)  : Option (Int32 × am_I × am_G) := rb (cal 2 I G (0 : Int32) (0 : Int32)) (fun r1 I1 G1 => (if r1 = 0 then some ((0 : Int32), I1, G1) else L_X14_isBoth_79 cal FU 0 I1 G1 ))
set_option maxRecDepth 20000 in
set_option maxHeartbeats 4000000 in
theorem l_X14_isBoth_79 {cal : Nat → am_I → am_G → Int32 → Int32 → Option (Int32 × am_I × am_G)} {n9 : Nat} (h0 : ∀ (I : am_I) (G : am_G) (out : Int32 × am_I × am_G), cal 0 I G (0 : Int32) (0 : Int32) = some out → am_Ct mX14_isTest (8 + n9) gS2 [.ref 79] I G (gP 123) (pI out.1 out.2.1 out.2.2 (gP 123))) (h1 : ∀ (I : am_I) (G : am_G) (out : Int32 × am_I × am_G), cal 1 I G (0 : Int32) (0 : Int32) = some out → am_Ct mX14_isBoth (8 + n9) gS2 [.ref 79] I G (gP 123) (pI out.1 out.2.1 out.2.2 (gP 123))) (h2 : ∀ (I : am_I) (G : am_G) (out : Int32 × am_I × am_G), cal 2 I G (0 : Int32) (0 : Int32) = some out → am_Ct mX14_isSingle (8 + n9) gS2 [.ref 79] I G (gP 123) (pI out.1 out.2.1 out.2.2 (gP 123))) (h3 : ∀ (I : am_I) (G : am_G) (out : Int32 × am_I × am_G), cal 3 I G (0 : Int32) (0 : Int32) = some out → am_Ct mX14_isSum (8 + n9) gS2 [.ref 79] I G (gP 123) (pI out.1 out.2.1 out.2.2 (gP 123))) (h4 : ∀ (I : am_I) (G : am_G) (out : Int32 × am_I × am_G), cal 4 I G (0 : Int32) (0 : Int32) = some out → am_Ct mX14_isProduct (8 + n9) gS2 [.ref 79] I G (gP 123) (pI out.1 out.2.1 out.2.2 (gP 123))) (h5 : ∀ (I : am_I) (G : am_G) (a : Int32) (b : Int32) (out : Int32 × am_I × am_G), cal 5 I G a b = some out → am_Ct mX14_isInside (8 + n9) gS2 [.ref 79, .int a, .int b] I G (gP 123) (pI out.1 out.2.1 out.2.2 (gP 123))) (h6 : ∀ (I : am_I) (G : am_G) (out : Int32 × am_I × am_G), cal 6 I G (0 : Int32) (0 : Int32) = some out → am_Ct mX14_isValue (8 + n9) gS2 [.ref 79] I G (gP 123) (pI out.1 out.2.1 out.2.2 (gP 123))) {X : am_X} {ad : Nat → Nat} (hX : am_okz X ad) (hi : am_info X 12 cX14_isBoth 1 false (Option.some Jvm.ClassFile.FieldType.boolean) (8 + n9 + 1)) (n : Nat) : (∀ (I : am_I) (G : am_G)  (out : Int32 × am_I × am_G), L_X14_isBoth_79 cal n 0 I G  = some out → am_V X 0 0 (am_Rt X gS2 ad (pI out.1 out.2.1 out.2.2 (gP 123))) gS2 ad (9, [(0, .ref 79)], [], I, G, (gP 123))) := by
  induction n with
  | zero => exact fun I G  out h => by rw [L_X14_isBoth_79_z] at h; cases h
  | succ n ih =>
    · intro I G  out h
      rw [L_X14_isBoth_79_0] at h
      refine am_blk 9 [(.aload_n 0, 1, 0, 0, .null), (.bipush (20), 2, 0, 0, .int (20 : Int32))] (12, [(0, .ref 79)], [.int (20 : Int32), .ref 79], I, G, (gP 123)) (True) hX hi (by decide +kernel) rfl trivial ?_
      obtain ⟨hq1, h⟩ := rg_some h
      refine am_callV hX hi (M := mX14_eat) (idx := 128) (d' := 2) (b := 79) (ci := 12) (As := [.int (20 : Int32)]) (rest := []) mkX14_eat miX14_eat mvX14_eat (by decide +kernel) (by decide +kernel) rfl (by decide +kernel) rfl ⟨by omega, by decide, Nat.le_of_ble_eq_true rfl⟩ rfl (c_X14_eat_79 I G (20 : Int32) hq1) ?_
      rintro r9 I9 G9 P9 ⟨e0, e1, e2, e3⟩
      rw [e0, e1, e2, e3]
      show am_V X 0 0 _ _ ad (15, [(0, .ref 79)], [.int (f_X14_eat_79 I G (20 : Int32))], (g_X14_eat_79 I G (20 : Int32)), G, (gP 123))
      refine am_if_eq (tgt := 36) hX hi (off := (21)) (by decide +kernel) (by decide) (fun c15 => ?_) (fun c15 => ?_)
      · rw [if_pos c15] at h
        refine am_blk 36 [(.iconst (1), 1, 0, 0, .int (1 : Int32))] (37, [(0, .ref 79)], [.int (1 : Int32)], (g_X14_eat_79 I G (20 : Int32)), G, (gP 123)) (True) hX hi (by decide +kernel) rfl trivial ?_
        cases h
        refine am_iret hX hi rfl (by first | rfl | decide | (simp [narrow]; done)) (by decide +kernel) ?_
        exact ⟨rfl, rfl, rfl, rfl⟩
      · rw [if_neg c15] at h
        refine am_blk 18 [(.aload_n 0, 1, 0, 0, .null)] (19, [(0, .ref 79)], [.ref 79], (g_X14_eat_79 I G (20 : Int32)), G, (gP 123)) (True) hX hi (by decide +kernel) rfl trivial ?_
        obtain ⟨r101, I101, G101, hc, h⟩ := rb_some h
        refine am_callV hX hi (M := mX14_isSingle) (idx := 187) (d' := (8 + n9)) (b := 79) (ci := 12) (As := []) (rest := []) mkX14_isSingle miX14_isSingle mvX14_isSingle (by decide +kernel) (by decide +kernel) rfl (by decide +kernel) rfl ⟨by omega, by decide, Nat.le_of_ble_eq_true rfl⟩ rfl (h2 (g_X14_eat_79 I G (20 : Int32)) G  _ hc) ?_
        rintro r9 I9 G9 P9 ⟨e0, e1, e2, e3⟩
        rw [e0, e1, e2, e3]
        show am_V X 0 0 _ _ ad (22, [(0, .ref 79)], [.int r101], I101, G101, (gP 123))
        refine am_if_ne (tgt := 27) hX hi (off := (5)) (by decide +kernel) (by decide) (fun c22 => ?_) (fun c22 => ?_)
        · rw [if_neg c22] at h
          refine am_blk 27 [(.aload_n 0, 1, 0, 0, .null), (.bipush (20), 2, 0, 0, .int (20 : Int32))] (30, [(0, .ref 79)], [.int (20 : Int32), .ref 79], I101, G101, (gP 123)) (True) hX hi (by decide +kernel) rfl trivial ?_
          obtain ⟨hq1, h⟩ := rg_some h
          refine am_callV hX hi (M := mX14_put) (idx := 183) (d' := 1) (b := 79) (ci := 12) (As := [.int (20 : Int32)]) (rest := []) mkX14_put miX14_put mvX14_put (by decide +kernel) (by decide +kernel) rfl (by decide +kernel) rfl ⟨by omega, by decide, Nat.le_of_ble_eq_true rfl⟩ rfl (c_X14_put_79 I101 G101 (20 : Int32) hq1) ?_
          rintro r9 I9 G9 P9 ⟨e0, e1, e2, e3⟩
          rw [e0, e1, e2, e3]
          show am_V X 0 0 _ _ ad (33, [(0, .ref 79)], [], (g_X14_put_79 I101 G101 (20 : Int32)), G101, (gP 123))
          refine am_blk 33 [(.goto (-24), 3, 0, 9, .null)] (9, [(0, .ref 79)], [], (g_X14_put_79 I101 G101 (20 : Int32)), G101, (gP 123)) (True) hX hi (by decide +kernel) rfl trivial ?_
          exact ih _ _  _ h
        · rw [if_pos c22] at h
          refine am_blk 25 [(.iconst (0), 1, 0, 0, .int (0 : Int32))] (26, [(0, .ref 79)], [.int (0 : Int32)], I101, G101, (gP 123)) (True) hX hi (by decide +kernel) rfl trivial ?_
          cases h
          refine am_iret hX hi rfl (by first | rfl | decide | (simp [narrow]; done)) (by decide +kernel) ?_
          exact ⟨rfl, rfl, rfl, rfl⟩
set_option maxRecDepth 20000 in
set_option maxHeartbeats 4000000 in
theorem c_X14_isBoth_79 {cal : Nat → am_I → am_G → Int32 → Int32 → Option (Int32 × am_I × am_G)} {n9 : Nat} (h0 : ∀ (I : am_I) (G : am_G) (out : Int32 × am_I × am_G), cal 0 I G (0 : Int32) (0 : Int32) = some out → am_Ct mX14_isTest (8 + n9) gS2 [.ref 79] I G (gP 123) (pI out.1 out.2.1 out.2.2 (gP 123))) (h1 : ∀ (I : am_I) (G : am_G) (out : Int32 × am_I × am_G), cal 1 I G (0 : Int32) (0 : Int32) = some out → am_Ct mX14_isBoth (8 + n9) gS2 [.ref 79] I G (gP 123) (pI out.1 out.2.1 out.2.2 (gP 123))) (h2 : ∀ (I : am_I) (G : am_G) (out : Int32 × am_I × am_G), cal 2 I G (0 : Int32) (0 : Int32) = some out → am_Ct mX14_isSingle (8 + n9) gS2 [.ref 79] I G (gP 123) (pI out.1 out.2.1 out.2.2 (gP 123))) (h3 : ∀ (I : am_I) (G : am_G) (out : Int32 × am_I × am_G), cal 3 I G (0 : Int32) (0 : Int32) = some out → am_Ct mX14_isSum (8 + n9) gS2 [.ref 79] I G (gP 123) (pI out.1 out.2.1 out.2.2 (gP 123))) (h4 : ∀ (I : am_I) (G : am_G) (out : Int32 × am_I × am_G), cal 4 I G (0 : Int32) (0 : Int32) = some out → am_Ct mX14_isProduct (8 + n9) gS2 [.ref 79] I G (gP 123) (pI out.1 out.2.1 out.2.2 (gP 123))) (h5 : ∀ (I : am_I) (G : am_G) (a : Int32) (b : Int32) (out : Int32 × am_I × am_G), cal 5 I G a b = some out → am_Ct mX14_isInside (8 + n9) gS2 [.ref 79, .int a, .int b] I G (gP 123) (pI out.1 out.2.1 out.2.2 (gP 123))) (h6 : ∀ (I : am_I) (G : am_G) (out : Int32 × am_I × am_G), cal 6 I G (0 : Int32) (0 : Int32) = some out → am_Ct mX14_isValue (8 + n9) gS2 [.ref 79] I G (gP 123) (pI out.1 out.2.1 out.2.2 (gP 123))) (I : am_I) (G : am_G)  {out : Int32 × am_I × am_G} (h : R_X14_isBoth_79 cal I G  = some out) : am_Ct mX14_isBoth (8 + n9 + 1) gS2 [.ref 79] I G (gP 123) (pI out.1 out.2.1 out.2.2 (gP 123)) := by
  refine am_ofF (by decide +kernel) rfl (by decide) (by omega) (Nat.le_of_ble_eq_true rfl) (fun X ad hX hi => ?_)
  have hi : am_info X 12 cX14_isBoth 1 false (Option.some Jvm.ClassFile.FieldType.boolean) (8 + n9 + 1) := hi
  show am_V X 0 0 _ _ ad (0, [(0, .ref 79)], [], I, G, (gP 123))
  unfold R_X14_isBoth_79 at h
  refine am_blk 0 [(.aload_n 0, 1, 0, 0, .null)] (1, [(0, .ref 79)], [.ref 79], I, G, (gP 123)) (True) hX hi (by decide +kernel) rfl trivial ?_
  obtain ⟨r1, I1, G1, hc, h⟩ := rb_some h
  refine am_callV hX hi (M := mX14_isSingle) (idx := 187) (d' := (8 + n9)) (b := 79) (ci := 12) (As := []) (rest := []) mkX14_isSingle miX14_isSingle mvX14_isSingle (by decide +kernel) (by decide +kernel) rfl (by decide +kernel) rfl ⟨by omega, by decide, Nat.le_of_ble_eq_true rfl⟩ rfl (h2 I G  _ hc) ?_
  rintro r9 I9 G9 P9 ⟨e0, e1, e2, e3⟩
  rw [e0, e1, e2, e3]
  show am_V X 0 0 _ _ ad (4, [(0, .ref 79)], [.int r1], I1, G1, (gP 123))
  refine am_if_ne (tgt := 9) hX hi (off := (5)) (by decide +kernel) (by decide) (fun c4 => ?_) (fun c4 => ?_)
  · rw [if_neg c4] at h
    exact (l_X14_isBoth_79 h0 h1 h2 h3 h4 h5 h6 hX hi FU) _ _  _ h
  · rw [if_pos c4] at h
    refine am_blk 7 [(.iconst (0), 1, 0, 0, .int (0 : Int32))] (8, [(0, .ref 79)], [.int (0 : Int32)], I1, G1, (gP 123)) (True) hX hi (by decide +kernel) rfl trivial ?_
    cases h
    refine am_iret hX hi rfl (by first | rfl | decide | (simp [narrow]; done)) (by decide +kernel) ?_
    exact ⟨rfl, rfl, rfl, rfl⟩
noncomputable def R_X14_isSingle_79 (cal : Nat → am_I → am_G → Int32 → Int32 → Option (Int32 × am_I × am_G)) (I : am_I) (G : am_G)  : Option (Int32 × am_I × am_G) := rg (q_X14_is_79 I G (19 : Int32)) ((if (f_X14_is_79 I G (19 : Int32)) = 0 then rg (q_X14_isSign_79 I G (91 : Int32)) ((if (f_X14_isSign_79 I G (91 : Int32)) = 0 then rg (q_X14_is_79 I G (18 : Int32)) ((if (f_X14_is_79 I G (18 : Int32)) = 0 then rb (cal 3 I G (0 : Int32) (0 : Int32)) (fun r1 I1 G1 => (if r1 = 0 then some ((0 : Int32), I1, G1) else rg (q_X14_isSign_79 I1 G1 (60 : Int32)) ((if (f_X14_isSign_79 I1 G1 (60 : Int32)) = 0 then rg (q_X14_isSign_79 I1 G1 (62 : Int32)) ((if (f_X14_isSign_79 I1 G1 (62 : Int32)) = 0 then rg (q_X14_isSign_79 I1 G1 (61 : Int32)) ((if (f_X14_isSign_79 I1 G1 (61 : Int32)) = 0 then rg (q_X14_is_79 I1 G1 (300 : Int32)) ((if (f_X14_is_79 I1 G1 (300 : Int32)) = 0 then rg (q_X14_is_79 I1 G1 (301 : Int32)) ((if (f_X14_is_79 I1 G1 (301 : Int32)) = 0 then (if (-1 : Int32) = (-1 : Int32) then some ((0 : Int32), I1, G1) else rb (cal 3 (am_up I1 79 9 ((I1 79 9) + (1 : Int32))) G1 (0 : Int32) (0 : Int32)) (fun r2 I2 G2 => (if r2 = 0 then some ((0 : Int32), I2, G2) else rg (q_X14_put_79 I2 G2 (-1 : Int32)) (some ((1 : Int32), (g_X14_put_79 I2 G2 (-1 : Int32)), G2))))) else (if (44 : Int32) = (-1 : Int32) then some ((0 : Int32), I1, G1) else rb (cal 3 (am_up I1 79 9 ((I1 79 9) + (1 : Int32))) G1 (0 : Int32) (0 : Int32)) (fun r3 I3 G3 => (if r3 = 0 then some ((0 : Int32), I3, G3) else rg (q_X14_put_79 I3 G3 (44 : Int32)) (some ((1 : Int32), (g_X14_put_79 I3 G3 (44 : Int32)), G3))))))) else (if (43 : Int32) = (-1 : Int32) then some ((0 : Int32), I1, G1) else rb (cal 3 (am_up I1 79 9 ((I1 79 9) + (1 : Int32))) G1 (0 : Int32) (0 : Int32)) (fun r4 I4 G4 => (if r4 = 0 then some ((0 : Int32), I4, G4) else rg (q_X14_put_79 I4 G4 (43 : Int32)) (some ((1 : Int32), (g_X14_put_79 I4 G4 (43 : Int32)), G4))))))) else (if (42 : Int32) = (-1 : Int32) then some ((0 : Int32), I1, G1) else rb (cal 3 (am_up I1 79 9 ((I1 79 9) + (1 : Int32))) G1 (0 : Int32) (0 : Int32)) (fun r5 I5 G5 => (if r5 = 0 then some ((0 : Int32), I5, G5) else rg (q_X14_put_79 I5 G5 (42 : Int32)) (some ((1 : Int32), (g_X14_put_79 I5 G5 (42 : Int32)), G5))))))) else (if (39 : Int32) = (-1 : Int32) then some ((0 : Int32), I1, G1) else rb (cal 3 (am_up I1 79 9 ((I1 79 9) + (1 : Int32))) G1 (0 : Int32) (0 : Int32)) (fun r6 I6 G6 => (if r6 = 0 then some ((0 : Int32), I6, G6) else rg (q_X14_put_79 I6 G6 (39 : Int32)) (some ((1 : Int32), (g_X14_put_79 I6 G6 (39 : Int32)), G6))))))) else (if (38 : Int32) = (-1 : Int32) then some ((0 : Int32), I1, G1) else rb (cal 3 (am_up I1 79 9 ((I1 79 9) + (1 : Int32))) G1 (0 : Int32) (0 : Int32)) (fun r7 I7 G7 => (if r7 = 0 then some ((0 : Int32), I7, G7) else rg (q_X14_put_79 I7 G7 (38 : Int32)) (some ((1 : Int32), (g_X14_put_79 I7 G7 (38 : Int32)), G7))))))))) else rb (R_X14_isNamed_79 I G (19 : Int32)) (fun r8 I8 G8 => rg (r8 = 0 ∨ r8 = 1) (some (r8, I8, G8))))) else (if (f_X14_isDeeper_79 I G ) = 0 then some ((0 : Int32), (g_X14_isDeeper_79 I G ), G) else rb (cal 0 (g_X14_isDeeper_79 I G ) G (0 : Int32) (0 : Int32)) (fun r9 I9 G9 => (if r9 = 0 then some ((0 : Int32), I9, G9) else rb (R_X14_eatSign_79 (am_up I9 79 10 ((I9 79 10) - (1 : Int32))) G9 (93 : Int32)) (fun r10 I10 G10 => rg (r10 = 0 ∨ r10 = 1) (some (r10, I10, G10)))))))) else (if (f_X14_isDeeper_79 I G ) = 0 then some ((0 : Int32), (g_X14_isDeeper_79 I G ), G) else rb (cal 2 (g_X14_isDeeper_79 I G ) G (0 : Int32) (0 : Int32)) (fun r11 I11 G11 => (if r11 = 0 then some ((0 : Int32), I11, G11) else rg (q_X14_put_79 (am_up I11 79 10 ((I11 79 10) - (1 : Int32))) G11 (19 : Int32)) (some ((1 : Int32), (g_X14_put_79 (am_up I11 79 10 ((I11 79 10) - (1 : Int32))) G11 (19 : Int32)), G11)))))))
theorem c_X14_isSingle_79 {cal : Nat → am_I → am_G → Int32 → Int32 → Option (Int32 × am_I × am_G)} {n9 : Nat} (h0 : ∀ (I : am_I) (G : am_G) (out : Int32 × am_I × am_G), cal 0 I G (0 : Int32) (0 : Int32) = some out → am_Ct mX14_isTest (8 + n9) gS2 [.ref 79] I G (gP 123) (pI out.1 out.2.1 out.2.2 (gP 123))) (h1 : ∀ (I : am_I) (G : am_G) (out : Int32 × am_I × am_G), cal 1 I G (0 : Int32) (0 : Int32) = some out → am_Ct mX14_isBoth (8 + n9) gS2 [.ref 79] I G (gP 123) (pI out.1 out.2.1 out.2.2 (gP 123))) (h2 : ∀ (I : am_I) (G : am_G) (out : Int32 × am_I × am_G), cal 2 I G (0 : Int32) (0 : Int32) = some out → am_Ct mX14_isSingle (8 + n9) gS2 [.ref 79] I G (gP 123) (pI out.1 out.2.1 out.2.2 (gP 123))) (h3 : ∀ (I : am_I) (G : am_G) (out : Int32 × am_I × am_G), cal 3 I G (0 : Int32) (0 : Int32) = some out → am_Ct mX14_isSum (8 + n9) gS2 [.ref 79] I G (gP 123) (pI out.1 out.2.1 out.2.2 (gP 123))) (h4 : ∀ (I : am_I) (G : am_G) (out : Int32 × am_I × am_G), cal 4 I G (0 : Int32) (0 : Int32) = some out → am_Ct mX14_isProduct (8 + n9) gS2 [.ref 79] I G (gP 123) (pI out.1 out.2.1 out.2.2 (gP 123))) (h5 : ∀ (I : am_I) (G : am_G) (a : Int32) (b : Int32) (out : Int32 × am_I × am_G), cal 5 I G a b = some out → am_Ct mX14_isInside (8 + n9) gS2 [.ref 79, .int a, .int b] I G (gP 123) (pI out.1 out.2.1 out.2.2 (gP 123))) (h6 : ∀ (I : am_I) (G : am_G) (out : Int32 × am_I × am_G), cal 6 I G (0 : Int32) (0 : Int32) = some out → am_Ct mX14_isValue (8 + n9) gS2 [.ref 79] I G (gP 123) (pI out.1 out.2.1 out.2.2 (gP 123))) (I : am_I) (G : am_G)  {out : Int32 × am_I × am_G} (h : R_X14_isSingle_79 cal I G  = some out) : am_Ct mX14_isSingle (8 + n9 + 1) gS2 [.ref 79] I G (gP 123) (pI out.1 out.2.1 out.2.2 (gP 123)) := by
  sorry
noncomputable def L_X14_isSum_79 (cal : Nat → am_I → am_G → Int32 → Int32 → Option (Int32 × am_I × am_G)) (n0 : Nat) (hd : Nat) (I : am_I) (G : am_G)  : Option (Int32 × am_I × am_G) := match n0 with
  | 0 => none
  | n + 1 => match hd with
    | _ => rg (q_X14_isSign_79 I G (43 : Int32)) ((if (f_X14_isSign_79 I G (43 : Int32)) = 0 then rg (q_X14_isSign_79 I G (45 : Int32)) ((if (f_X14_isSign_79 I G (45 : Int32)) = 0 then some ((1 : Int32), I, G) else rg (q_X14_isSign_79 I G (43 : Int32)) ((if (f_X14_isSign_79 I G (43 : Int32)) = 0 then rb (cal 4 (am_up I 79 9 ((I 79 9) + (1 : Int32))) G (0 : Int32) (0 : Int32)) (fun r103 I103 G103 => (if r103 = 0 then some ((0 : Int32), I103, G103) else rg (q_X14_put_79 I103 G103 (35 : Int32)) (L_X14_isSum_79 cal n 0 (g_X14_put_79 I103 G103 (35 : Int32)) G103 ))) else rb (cal 4 (am_up I 79 9 ((I 79 9) + (1 : Int32))) G (0 : Int32) (0 : Int32)) (fun r104 I104 G104 => (if r104 = 0 then some ((0 : Int32), I104, G104) else rg (q_X14_put_79 I104 G104 (34 : Int32)) (L_X14_isSum_79 cal n 0 (g_X14_put_79 I104 G104 (34 : Int32)) G104 ))))))) else rg (q_X14_isSign_79 I G (43 : Int32)) ((if (f_X14_isSign_79 I G (43 : Int32)) = 0 then rb (cal 4 (am_up I 79 9 ((I 79 9) + (1 : Int32))) G (0 : Int32) (0 : Int32)) (fun r101 I101 G101 => (if r101 = 0 then some ((0 : Int32), I101, G101) else rg (q_X14_put_79 I101 G101 (35 : Int32)) (L_X14_isSum_79 cal n 0 (g_X14_put_79 I101 G101 (35 : Int32)) G101 ))) else rb (cal 4 (am_up I 79 9 ((I 79 9) + (1 : Int32))) G (0 : Int32) (0 : Int32)) (fun r102 I102 G102 => (if r102 = 0 then some ((0 : Int32), I102, G102) else rg (q_X14_put_79 I102 G102 (34 : Int32)) (L_X14_isSum_79 cal n 0 (g_X14_put_79 I102 G102 (34 : Int32)) G102 )))))))
theorem L_X14_isSum_79_0 (cal : Nat → am_I → am_G → Int32 → Int32 → Option (Int32 × am_I × am_G)) (n : Nat) (I : am_I) (G : am_G)  : L_X14_isSum_79 cal (n + 1) 0 I G  = rg (q_X14_isSign_79 I G (43 : Int32)) ((if (f_X14_isSign_79 I G (43 : Int32)) = 0 then rg (q_X14_isSign_79 I G (45 : Int32)) ((if (f_X14_isSign_79 I G (45 : Int32)) = 0 then some ((1 : Int32), I, G) else rg (q_X14_isSign_79 I G (43 : Int32)) ((if (f_X14_isSign_79 I G (43 : Int32)) = 0 then rb (cal 4 (am_up I 79 9 ((I 79 9) + (1 : Int32))) G (0 : Int32) (0 : Int32)) (fun r103 I103 G103 => (if r103 = 0 then some ((0 : Int32), I103, G103) else rg (q_X14_put_79 I103 G103 (35 : Int32)) (L_X14_isSum_79 cal n 0 (g_X14_put_79 I103 G103 (35 : Int32)) G103 ))) else rb (cal 4 (am_up I 79 9 ((I 79 9) + (1 : Int32))) G (0 : Int32) (0 : Int32)) (fun r104 I104 G104 => (if r104 = 0 then some ((0 : Int32), I104, G104) else rg (q_X14_put_79 I104 G104 (34 : Int32)) (L_X14_isSum_79 cal n 0 (g_X14_put_79 I104 G104 (34 : Int32)) G104 ))))))) else rg (q_X14_isSign_79 I G (43 : Int32)) ((if (f_X14_isSign_79 I G (43 : Int32)) = 0 then rb (cal 4 (am_up I 79 9 ((I 79 9) + (1 : Int32))) G (0 : Int32) (0 : Int32)) (fun r101 I101 G101 => (if r101 = 0 then some ((0 : Int32), I101, G101) else rg (q_X14_put_79 I101 G101 (35 : Int32)) (L_X14_isSum_79 cal n 0 (g_X14_put_79 I101 G101 (35 : Int32)) G101 ))) else rb (cal 4 (am_up I 79 9 ((I 79 9) + (1 : Int32))) G (0 : Int32) (0 : Int32)) (fun r102 I102 G102 => (if r102 = 0 then some ((0 : Int32), I102, G102) else rg (q_X14_put_79 I102 G102 (34 : Int32)) (L_X14_isSum_79 cal n 0 (g_X14_put_79 I102 G102 (34 : Int32)) G102 ))))))) := rfl
theorem L_X14_isSum_79_z (cal : Nat → am_I → am_G → Int32 → Int32 → Option (Int32 × am_I × am_G)) (h : Nat) (I : am_I) (G : am_G)  : L_X14_isSum_79 cal 0 h I G  = none := rfl
noncomputable def R_X14_isSum_79 (cal : Nat → am_I → am_G → Int32 → Int32 → Option (Int32 × am_I × am_G)) (I : am_I) (G : am_G)  : Option (Int32 × am_I × am_G) := rb (cal 4 I G (0 : Int32) (0 : Int32)) (fun r1 I1 G1 => (if r1 = 0 then some ((0 : Int32), I1, G1) else L_X14_isSum_79 cal FU 0 I1 G1 ))
set_option maxRecDepth 20000 in
set_option maxHeartbeats 4000000 in
theorem l_X14_isSum_79 {cal : Nat → am_I → am_G → Int32 → Int32 → Option (Int32 × am_I × am_G)} {n9 : Nat} (h0 : ∀ (I : am_I) (G : am_G) (out : Int32 × am_I × am_G), cal 0 I G (0 : Int32) (0 : Int32) = some out → am_Ct mX14_isTest (8 + n9) gS2 [.ref 79] I G (gP 123) (pI out.1 out.2.1 out.2.2 (gP 123))) (h1 : ∀ (I : am_I) (G : am_G) (out : Int32 × am_I × am_G), cal 1 I G (0 : Int32) (0 : Int32) = some out → am_Ct mX14_isBoth (8 + n9) gS2 [.ref 79] I G (gP 123) (pI out.1 out.2.1 out.2.2 (gP 123))) (h2 : ∀ (I : am_I) (G : am_G) (out : Int32 × am_I × am_G), cal 2 I G (0 : Int32) (0 : Int32) = some out → am_Ct mX14_isSingle (8 + n9) gS2 [.ref 79] I G (gP 123) (pI out.1 out.2.1 out.2.2 (gP 123))) (h3 : ∀ (I : am_I) (G : am_G) (out : Int32 × am_I × am_G), cal 3 I G (0 : Int32) (0 : Int32) = some out → am_Ct mX14_isSum (8 + n9) gS2 [.ref 79] I G (gP 123) (pI out.1 out.2.1 out.2.2 (gP 123))) (h4 : ∀ (I : am_I) (G : am_G) (out : Int32 × am_I × am_G), cal 4 I G (0 : Int32) (0 : Int32) = some out → am_Ct mX14_isProduct (8 + n9) gS2 [.ref 79] I G (gP 123) (pI out.1 out.2.1 out.2.2 (gP 123))) (h5 : ∀ (I : am_I) (G : am_G) (a : Int32) (b : Int32) (out : Int32 × am_I × am_G), cal 5 I G a b = some out → am_Ct mX14_isInside (8 + n9) gS2 [.ref 79, .int a, .int b] I G (gP 123) (pI out.1 out.2.1 out.2.2 (gP 123))) (h6 : ∀ (I : am_I) (G : am_G) (out : Int32 × am_I × am_G), cal 6 I G (0 : Int32) (0 : Int32) = some out → am_Ct mX14_isValue (8 + n9) gS2 [.ref 79] I G (gP 123) (pI out.1 out.2.1 out.2.2 (gP 123))) {X : am_X} {ad : Nat → Nat} (hX : am_okz X ad) (hi : am_info X 12 cX14_isSum 2 false (Option.some Jvm.ClassFile.FieldType.boolean) (8 + n9 + 1)) (n : Nat) : (∀ (I : am_I) (G : am_G)  (out : Int32 × am_I × am_G), L_X14_isSum_79 cal n 0 I G  = some out → am_V X 0 0 (am_Rt X gS2 ad (pI out.1 out.2.1 out.2.2 (gP 123))) gS2 ad (9, [(0, .ref 79)], [], I, G, (gP 123))) := by
  induction n with
  | zero => exact fun I G  out h => by rw [L_X14_isSum_79_z] at h; cases h
  | succ n ih =>
    · intro I G  out h
      rw [L_X14_isSum_79_0] at h
      refine am_blk 9 [(.aload_n 0, 1, 0, 0, .null), (.bipush (43), 2, 0, 0, .int (43 : Int32))] (12, [(0, .ref 79)], [.int (43 : Int32), .ref 79], I, G, (gP 123)) (True) hX hi (by decide +kernel) rfl trivial ?_
      obtain ⟨hq1, h⟩ := rg_some h
      refine am_callV hX hi (M := mX14_isSign) (idx := 205) (d' := 1) (b := 79) (ci := 12) (As := [.int (43 : Int32)]) (rest := []) mkX14_isSign miX14_isSign mvX14_isSign (by decide +kernel) (by decide +kernel) rfl (by decide +kernel) rfl ⟨by omega, by decide, Nat.le_of_ble_eq_true rfl⟩ rfl (c_X14_isSign_79 I G (43 : Int32) hq1) ?_
      rintro r9 I9 G9 P9 ⟨e0, e1, e2, e3⟩
      rw [e0, e1, e2, e3]
      show am_V X 0 0 _ _ ad (15, [(0, .ref 79)], [.int (f_X14_isSign_79 I G (43 : Int32))], I, G, (gP 123))
      refine am_if_ne (tgt := 27) hX hi (off := (12)) (by decide +kernel) (by decide) (fun c15 => ?_) (fun c15 => ?_)
      · rw [if_neg c15] at h
        refine am_blk 27 [(.aload_n 0, 1, 0, 0, .null), (.bipush (43), 2, 0, 0, .int (43 : Int32))] (30, [(0, .ref 79)], [.int (43 : Int32), .ref 79], I, G, (gP 123)) (True) hX hi (by decide +kernel) rfl trivial ?_
        obtain ⟨hq1, h⟩ := rg_some h
        refine am_callV hX hi (M := mX14_isSign) (idx := 205) (d' := 1) (b := 79) (ci := 12) (As := [.int (43 : Int32)]) (rest := []) mkX14_isSign miX14_isSign mvX14_isSign (by decide +kernel) (by decide +kernel) rfl (by decide +kernel) rfl ⟨by omega, by decide, Nat.le_of_ble_eq_true rfl⟩ rfl (c_X14_isSign_79 I G (43 : Int32) hq1) ?_
        rintro r9 I9 G9 P9 ⟨e0, e1, e2, e3⟩
        rw [e0, e1, e2, e3]
        show am_V X 0 0 _ _ ad (33, [(0, .ref 79)], [.int (f_X14_isSign_79 I G (43 : Int32))], I, G, (gP 123))
        refine am_if_eq (tgt := 41) hX hi (off := (8)) (by decide +kernel) (by decide) (fun c33 => ?_) (fun c33 => ?_)
        · rw [if_pos c33] at h
          refine am_blk 41 [(.bipush (35), 2, 0, 0, .int (35 : Int32)), (.istore_n 1, 1, 1, 0, .null), (.aload_n 0, 1, 0, 0, .null), (.dup, 1, 0, 0, .null), (.getfield 122, 3, 12, 9, .null), (.iconst (1), 1, 0, 0, .int (1 : Int32)), (.iadd, 1, 0, 0, .null), (.putfield 122, 3, 12, 9, .null), (.aload_n 0, 1, 0, 0, .null)] (55, [(0, .ref 79), (1, .int (35 : Int32))], [.ref 79], (am_up I 79 9 ((I 79 9) + (1 : Int32))), G, (gP 123)) (True) hX hi (by decide +kernel) rfl trivial ?_
          obtain ⟨r101, I101, G101, hc, h⟩ := rb_some h
          refine am_callV hX hi (M := mX14_isProduct) (idx := 211) (d' := (8 + n9)) (b := 79) (ci := 12) (As := []) (rest := []) mkX14_isProduct miX14_isProduct mvX14_isProduct (by decide +kernel) (by decide +kernel) rfl (by decide +kernel) rfl ⟨by omega, by decide, Nat.le_of_ble_eq_true rfl⟩ rfl (h4 (am_up I 79 9 ((I 79 9) + (1 : Int32))) G  _ hc) ?_
          rintro r9 I9 G9 P9 ⟨e0, e1, e2, e3⟩
          rw [e0, e1, e2, e3]
          show am_V X 0 0 _ _ ad (58, [(0, .ref 79), (1, .int (35 : Int32))], [.int r101], I101, G101, (gP 123))
          refine am_if_ne (tgt := 63) hX hi (off := (5)) (by decide +kernel) (by decide) (fun c58 => ?_) (fun c58 => ?_)
          · rw [if_neg c58] at h
            refine am_blk 63 [(.aload_n 0, 1, 0, 0, .null), (.iload_n 1, 1, 1, 0, .null)] (65, [(0, .ref 79), (1, .int (35 : Int32))], [.int (35 : Int32), .ref 79], I101, G101, (gP 123)) (True) hX hi (by decide +kernel) rfl trivial ?_
            obtain ⟨hq1, h⟩ := rg_some h
            refine am_callV hX hi (M := mX14_put) (idx := 183) (d' := 1) (b := 79) (ci := 12) (As := [.int (35 : Int32)]) (rest := []) mkX14_put miX14_put mvX14_put (by decide +kernel) (by decide +kernel) rfl (by decide +kernel) rfl ⟨by omega, by decide, Nat.le_of_ble_eq_true rfl⟩ rfl (c_X14_put_79 I101 G101 (35 : Int32) hq1) ?_
            rintro r9 I9 G9 P9 ⟨e0, e1, e2, e3⟩
            rw [e0, e1, e2, e3]
            show am_V X 0 0 _ _ ad (68, [(0, .ref 79), (1, .int (35 : Int32))], [], (g_X14_put_79 I101 G101 (35 : Int32)), G101, (gP 123))
            refine am_blk 68 [(.goto (-59), 3, 0, 9, .null)] (9, [(0, .ref 79), (1, .int (35 : Int32))], [], (g_X14_put_79 I101 G101 (35 : Int32)), G101, (gP 123)) (True) hX hi (by decide +kernel) rfl trivial ?_
            refine am_sub (L' := [(0, .ref 79)]) (by simp) ?_
            exact ih _ _  _ h
          · rw [if_pos c58] at h
            refine am_blk 61 [(.iconst (0), 1, 0, 0, .int (0 : Int32))] (62, [(0, .ref 79), (1, .int (35 : Int32))], [.int (0 : Int32)], I101, G101, (gP 123)) (True) hX hi (by decide +kernel) rfl trivial ?_
            cases h
            refine am_iret hX hi rfl (by first | rfl | decide | (simp [narrow]; done)) (by decide +kernel) ?_
            exact ⟨rfl, rfl, rfl, rfl⟩
        · rw [if_neg c33] at h
          refine am_blk 36 [(.bipush (34), 2, 0, 0, .int (34 : Int32)), (.goto (5), 3, 0, 43, .null), (.istore_n 1, 1, 1, 0, .null), (.aload_n 0, 1, 0, 0, .null), (.dup, 1, 0, 0, .null), (.getfield 122, 3, 12, 9, .null), (.iconst (1), 1, 0, 0, .int (1 : Int32)), (.iadd, 1, 0, 0, .null), (.putfield 122, 3, 12, 9, .null), (.aload_n 0, 1, 0, 0, .null)] (55, [(0, .ref 79), (1, .int (34 : Int32))], [.ref 79], (am_up I 79 9 ((I 79 9) + (1 : Int32))), G, (gP 123)) (True) hX hi (by decide +kernel) rfl trivial ?_
          obtain ⟨r102, I102, G102, hc, h⟩ := rb_some h
          refine am_callV hX hi (M := mX14_isProduct) (idx := 211) (d' := (8 + n9)) (b := 79) (ci := 12) (As := []) (rest := []) mkX14_isProduct miX14_isProduct mvX14_isProduct (by decide +kernel) (by decide +kernel) rfl (by decide +kernel) rfl ⟨by omega, by decide, Nat.le_of_ble_eq_true rfl⟩ rfl (h4 (am_up I 79 9 ((I 79 9) + (1 : Int32))) G  _ hc) ?_
          rintro r9 I9 G9 P9 ⟨e0, e1, e2, e3⟩
          rw [e0, e1, e2, e3]
          show am_V X 0 0 _ _ ad (58, [(0, .ref 79), (1, .int (34 : Int32))], [.int r102], I102, G102, (gP 123))
          refine am_if_ne (tgt := 63) hX hi (off := (5)) (by decide +kernel) (by decide) (fun c58 => ?_) (fun c58 => ?_)
          · rw [if_neg c58] at h
            refine am_blk 63 [(.aload_n 0, 1, 0, 0, .null), (.iload_n 1, 1, 1, 0, .null)] (65, [(0, .ref 79), (1, .int (34 : Int32))], [.int (34 : Int32), .ref 79], I102, G102, (gP 123)) (True) hX hi (by decide +kernel) rfl trivial ?_
            obtain ⟨hq1, h⟩ := rg_some h
            refine am_callV hX hi (M := mX14_put) (idx := 183) (d' := 1) (b := 79) (ci := 12) (As := [.int (34 : Int32)]) (rest := []) mkX14_put miX14_put mvX14_put (by decide +kernel) (by decide +kernel) rfl (by decide +kernel) rfl ⟨by omega, by decide, Nat.le_of_ble_eq_true rfl⟩ rfl (c_X14_put_79 I102 G102 (34 : Int32) hq1) ?_
            rintro r9 I9 G9 P9 ⟨e0, e1, e2, e3⟩
            rw [e0, e1, e2, e3]
            show am_V X 0 0 _ _ ad (68, [(0, .ref 79), (1, .int (34 : Int32))], [], (g_X14_put_79 I102 G102 (34 : Int32)), G102, (gP 123))
            refine am_blk 68 [(.goto (-59), 3, 0, 9, .null)] (9, [(0, .ref 79), (1, .int (34 : Int32))], [], (g_X14_put_79 I102 G102 (34 : Int32)), G102, (gP 123)) (True) hX hi (by decide +kernel) rfl trivial ?_
            refine am_sub (L' := [(0, .ref 79)]) (by simp) ?_
            exact ih _ _  _ h
          · rw [if_pos c58] at h
            refine am_blk 61 [(.iconst (0), 1, 0, 0, .int (0 : Int32))] (62, [(0, .ref 79), (1, .int (34 : Int32))], [.int (0 : Int32)], I102, G102, (gP 123)) (True) hX hi (by decide +kernel) rfl trivial ?_
            cases h
            refine am_iret hX hi rfl (by first | rfl | decide | (simp [narrow]; done)) (by decide +kernel) ?_
            exact ⟨rfl, rfl, rfl, rfl⟩
      · rw [if_pos c15] at h
        refine am_blk 18 [(.aload_n 0, 1, 0, 0, .null), (.bipush (45), 2, 0, 0, .int (45 : Int32))] (21, [(0, .ref 79)], [.int (45 : Int32), .ref 79], I, G, (gP 123)) (True) hX hi (by decide +kernel) rfl trivial ?_
        obtain ⟨hq1, h⟩ := rg_some h
        refine am_callV hX hi (M := mX14_isSign) (idx := 205) (d' := 1) (b := 79) (ci := 12) (As := [.int (45 : Int32)]) (rest := []) mkX14_isSign miX14_isSign mvX14_isSign (by decide +kernel) (by decide +kernel) rfl (by decide +kernel) rfl ⟨by omega, by decide, Nat.le_of_ble_eq_true rfl⟩ rfl (c_X14_isSign_79 I G (45 : Int32) hq1) ?_
        rintro r9 I9 G9 P9 ⟨e0, e1, e2, e3⟩
        rw [e0, e1, e2, e3]
        show am_V X 0 0 _ _ ad (24, [(0, .ref 79)], [.int (f_X14_isSign_79 I G (45 : Int32))], I, G, (gP 123))
        refine am_if_eq (tgt := 71) hX hi (off := (47)) (by decide +kernel) (by decide) (fun c24 => ?_) (fun c24 => ?_)
        · rw [if_pos c24] at h
          refine am_blk 71 [(.iconst (1), 1, 0, 0, .int (1 : Int32))] (72, [(0, .ref 79)], [.int (1 : Int32)], I, G, (gP 123)) (True) hX hi (by decide +kernel) rfl trivial ?_
          cases h
          refine am_iret hX hi rfl (by first | rfl | decide | (simp [narrow]; done)) (by decide +kernel) ?_
          exact ⟨rfl, rfl, rfl, rfl⟩
        · rw [if_neg c24] at h
          refine am_blk 27 [(.aload_n 0, 1, 0, 0, .null), (.bipush (43), 2, 0, 0, .int (43 : Int32))] (30, [(0, .ref 79)], [.int (43 : Int32), .ref 79], I, G, (gP 123)) (True) hX hi (by decide +kernel) rfl trivial ?_
          obtain ⟨hq1, h⟩ := rg_some h
          refine am_callV hX hi (M := mX14_isSign) (idx := 205) (d' := 1) (b := 79) (ci := 12) (As := [.int (43 : Int32)]) (rest := []) mkX14_isSign miX14_isSign mvX14_isSign (by decide +kernel) (by decide +kernel) rfl (by decide +kernel) rfl ⟨by omega, by decide, Nat.le_of_ble_eq_true rfl⟩ rfl (c_X14_isSign_79 I G (43 : Int32) hq1) ?_
          rintro r9 I9 G9 P9 ⟨e0, e1, e2, e3⟩
          rw [e0, e1, e2, e3]
          show am_V X 0 0 _ _ ad (33, [(0, .ref 79)], [.int (f_X14_isSign_79 I G (43 : Int32))], I, G, (gP 123))
          refine am_if_eq (tgt := 41) hX hi (off := (8)) (by decide +kernel) (by decide) (fun c33 => ?_) (fun c33 => ?_)
          · rw [if_pos c33] at h
            refine am_blk 41 [(.bipush (35), 2, 0, 0, .int (35 : Int32)), (.istore_n 1, 1, 1, 0, .null), (.aload_n 0, 1, 0, 0, .null), (.dup, 1, 0, 0, .null), (.getfield 122, 3, 12, 9, .null), (.iconst (1), 1, 0, 0, .int (1 : Int32)), (.iadd, 1, 0, 0, .null), (.putfield 122, 3, 12, 9, .null), (.aload_n 0, 1, 0, 0, .null)] (55, [(0, .ref 79), (1, .int (35 : Int32))], [.ref 79], (am_up I 79 9 ((I 79 9) + (1 : Int32))), G, (gP 123)) (True) hX hi (by decide +kernel) rfl trivial ?_
            obtain ⟨r103, I103, G103, hc, h⟩ := rb_some h
            refine am_callV hX hi (M := mX14_isProduct) (idx := 211) (d' := (8 + n9)) (b := 79) (ci := 12) (As := []) (rest := []) mkX14_isProduct miX14_isProduct mvX14_isProduct (by decide +kernel) (by decide +kernel) rfl (by decide +kernel) rfl ⟨by omega, by decide, Nat.le_of_ble_eq_true rfl⟩ rfl (h4 (am_up I 79 9 ((I 79 9) + (1 : Int32))) G  _ hc) ?_
            rintro r9 I9 G9 P9 ⟨e0, e1, e2, e3⟩
            rw [e0, e1, e2, e3]
            show am_V X 0 0 _ _ ad (58, [(0, .ref 79), (1, .int (35 : Int32))], [.int r103], I103, G103, (gP 123))
            refine am_if_ne (tgt := 63) hX hi (off := (5)) (by decide +kernel) (by decide) (fun c58 => ?_) (fun c58 => ?_)
            · rw [if_neg c58] at h
              refine am_blk 63 [(.aload_n 0, 1, 0, 0, .null), (.iload_n 1, 1, 1, 0, .null)] (65, [(0, .ref 79), (1, .int (35 : Int32))], [.int (35 : Int32), .ref 79], I103, G103, (gP 123)) (True) hX hi (by decide +kernel) rfl trivial ?_
              obtain ⟨hq1, h⟩ := rg_some h
              refine am_callV hX hi (M := mX14_put) (idx := 183) (d' := 1) (b := 79) (ci := 12) (As := [.int (35 : Int32)]) (rest := []) mkX14_put miX14_put mvX14_put (by decide +kernel) (by decide +kernel) rfl (by decide +kernel) rfl ⟨by omega, by decide, Nat.le_of_ble_eq_true rfl⟩ rfl (c_X14_put_79 I103 G103 (35 : Int32) hq1) ?_
              rintro r9 I9 G9 P9 ⟨e0, e1, e2, e3⟩
              rw [e0, e1, e2, e3]
              show am_V X 0 0 _ _ ad (68, [(0, .ref 79), (1, .int (35 : Int32))], [], (g_X14_put_79 I103 G103 (35 : Int32)), G103, (gP 123))
              refine am_blk 68 [(.goto (-59), 3, 0, 9, .null)] (9, [(0, .ref 79), (1, .int (35 : Int32))], [], (g_X14_put_79 I103 G103 (35 : Int32)), G103, (gP 123)) (True) hX hi (by decide +kernel) rfl trivial ?_
              refine am_sub (L' := [(0, .ref 79)]) (by simp) ?_
              exact ih _ _  _ h
            · rw [if_pos c58] at h
              refine am_blk 61 [(.iconst (0), 1, 0, 0, .int (0 : Int32))] (62, [(0, .ref 79), (1, .int (35 : Int32))], [.int (0 : Int32)], I103, G103, (gP 123)) (True) hX hi (by decide +kernel) rfl trivial ?_
              cases h
              refine am_iret hX hi rfl (by first | rfl | decide | (simp [narrow]; done)) (by decide +kernel) ?_
              exact ⟨rfl, rfl, rfl, rfl⟩
          · rw [if_neg c33] at h
            refine am_blk 36 [(.bipush (34), 2, 0, 0, .int (34 : Int32)), (.goto (5), 3, 0, 43, .null), (.istore_n 1, 1, 1, 0, .null), (.aload_n 0, 1, 0, 0, .null), (.dup, 1, 0, 0, .null), (.getfield 122, 3, 12, 9, .null), (.iconst (1), 1, 0, 0, .int (1 : Int32)), (.iadd, 1, 0, 0, .null), (.putfield 122, 3, 12, 9, .null), (.aload_n 0, 1, 0, 0, .null)] (55, [(0, .ref 79), (1, .int (34 : Int32))], [.ref 79], (am_up I 79 9 ((I 79 9) + (1 : Int32))), G, (gP 123)) (True) hX hi (by decide +kernel) rfl trivial ?_
            obtain ⟨r104, I104, G104, hc, h⟩ := rb_some h
            refine am_callV hX hi (M := mX14_isProduct) (idx := 211) (d' := (8 + n9)) (b := 79) (ci := 12) (As := []) (rest := []) mkX14_isProduct miX14_isProduct mvX14_isProduct (by decide +kernel) (by decide +kernel) rfl (by decide +kernel) rfl ⟨by omega, by decide, Nat.le_of_ble_eq_true rfl⟩ rfl (h4 (am_up I 79 9 ((I 79 9) + (1 : Int32))) G  _ hc) ?_
            rintro r9 I9 G9 P9 ⟨e0, e1, e2, e3⟩
            rw [e0, e1, e2, e3]
            show am_V X 0 0 _ _ ad (58, [(0, .ref 79), (1, .int (34 : Int32))], [.int r104], I104, G104, (gP 123))
            refine am_if_ne (tgt := 63) hX hi (off := (5)) (by decide +kernel) (by decide) (fun c58 => ?_) (fun c58 => ?_)
            · rw [if_neg c58] at h
              refine am_blk 63 [(.aload_n 0, 1, 0, 0, .null), (.iload_n 1, 1, 1, 0, .null)] (65, [(0, .ref 79), (1, .int (34 : Int32))], [.int (34 : Int32), .ref 79], I104, G104, (gP 123)) (True) hX hi (by decide +kernel) rfl trivial ?_
              obtain ⟨hq1, h⟩ := rg_some h
              refine am_callV hX hi (M := mX14_put) (idx := 183) (d' := 1) (b := 79) (ci := 12) (As := [.int (34 : Int32)]) (rest := []) mkX14_put miX14_put mvX14_put (by decide +kernel) (by decide +kernel) rfl (by decide +kernel) rfl ⟨by omega, by decide, Nat.le_of_ble_eq_true rfl⟩ rfl (c_X14_put_79 I104 G104 (34 : Int32) hq1) ?_
              rintro r9 I9 G9 P9 ⟨e0, e1, e2, e3⟩
              rw [e0, e1, e2, e3]
              show am_V X 0 0 _ _ ad (68, [(0, .ref 79), (1, .int (34 : Int32))], [], (g_X14_put_79 I104 G104 (34 : Int32)), G104, (gP 123))
              refine am_blk 68 [(.goto (-59), 3, 0, 9, .null)] (9, [(0, .ref 79), (1, .int (34 : Int32))], [], (g_X14_put_79 I104 G104 (34 : Int32)), G104, (gP 123)) (True) hX hi (by decide +kernel) rfl trivial ?_
              refine am_sub (L' := [(0, .ref 79)]) (by simp) ?_
              exact ih _ _  _ h
            · rw [if_pos c58] at h
              refine am_blk 61 [(.iconst (0), 1, 0, 0, .int (0 : Int32))] (62, [(0, .ref 79), (1, .int (34 : Int32))], [.int (0 : Int32)], I104, G104, (gP 123)) (True) hX hi (by decide +kernel) rfl trivial ?_
              cases h
              refine am_iret hX hi rfl (by first | rfl | decide | (simp [narrow]; done)) (by decide +kernel) ?_
              exact ⟨rfl, rfl, rfl, rfl⟩
set_option maxRecDepth 20000 in
set_option maxHeartbeats 4000000 in
theorem c_X14_isSum_79 {cal : Nat → am_I → am_G → Int32 → Int32 → Option (Int32 × am_I × am_G)} {n9 : Nat} (h0 : ∀ (I : am_I) (G : am_G) (out : Int32 × am_I × am_G), cal 0 I G (0 : Int32) (0 : Int32) = some out → am_Ct mX14_isTest (8 + n9) gS2 [.ref 79] I G (gP 123) (pI out.1 out.2.1 out.2.2 (gP 123))) (h1 : ∀ (I : am_I) (G : am_G) (out : Int32 × am_I × am_G), cal 1 I G (0 : Int32) (0 : Int32) = some out → am_Ct mX14_isBoth (8 + n9) gS2 [.ref 79] I G (gP 123) (pI out.1 out.2.1 out.2.2 (gP 123))) (h2 : ∀ (I : am_I) (G : am_G) (out : Int32 × am_I × am_G), cal 2 I G (0 : Int32) (0 : Int32) = some out → am_Ct mX14_isSingle (8 + n9) gS2 [.ref 79] I G (gP 123) (pI out.1 out.2.1 out.2.2 (gP 123))) (h3 : ∀ (I : am_I) (G : am_G) (out : Int32 × am_I × am_G), cal 3 I G (0 : Int32) (0 : Int32) = some out → am_Ct mX14_isSum (8 + n9) gS2 [.ref 79] I G (gP 123) (pI out.1 out.2.1 out.2.2 (gP 123))) (h4 : ∀ (I : am_I) (G : am_G) (out : Int32 × am_I × am_G), cal 4 I G (0 : Int32) (0 : Int32) = some out → am_Ct mX14_isProduct (8 + n9) gS2 [.ref 79] I G (gP 123) (pI out.1 out.2.1 out.2.2 (gP 123))) (h5 : ∀ (I : am_I) (G : am_G) (a : Int32) (b : Int32) (out : Int32 × am_I × am_G), cal 5 I G a b = some out → am_Ct mX14_isInside (8 + n9) gS2 [.ref 79, .int a, .int b] I G (gP 123) (pI out.1 out.2.1 out.2.2 (gP 123))) (h6 : ∀ (I : am_I) (G : am_G) (out : Int32 × am_I × am_G), cal 6 I G (0 : Int32) (0 : Int32) = some out → am_Ct mX14_isValue (8 + n9) gS2 [.ref 79] I G (gP 123) (pI out.1 out.2.1 out.2.2 (gP 123))) (I : am_I) (G : am_G)  {out : Int32 × am_I × am_G} (h : R_X14_isSum_79 cal I G  = some out) : am_Ct mX14_isSum (8 + n9 + 1) gS2 [.ref 79] I G (gP 123) (pI out.1 out.2.1 out.2.2 (gP 123)) := by
  refine am_ofF (by decide +kernel) rfl (by decide) (by omega) (Nat.le_of_ble_eq_true rfl) (fun X ad hX hi => ?_)
  have hi : am_info X 12 cX14_isSum 2 false (Option.some Jvm.ClassFile.FieldType.boolean) (8 + n9 + 1) := hi
  show am_V X 0 0 _ _ ad (0, [(0, .ref 79)], [], I, G, (gP 123))
  unfold R_X14_isSum_79 at h
  refine am_blk 0 [(.aload_n 0, 1, 0, 0, .null)] (1, [(0, .ref 79)], [.ref 79], I, G, (gP 123)) (True) hX hi (by decide +kernel) rfl trivial ?_
  obtain ⟨r1, I1, G1, hc, h⟩ := rb_some h
  refine am_callV hX hi (M := mX14_isProduct) (idx := 211) (d' := (8 + n9)) (b := 79) (ci := 12) (As := []) (rest := []) mkX14_isProduct miX14_isProduct mvX14_isProduct (by decide +kernel) (by decide +kernel) rfl (by decide +kernel) rfl ⟨by omega, by decide, Nat.le_of_ble_eq_true rfl⟩ rfl (h4 I G  _ hc) ?_
  rintro r9 I9 G9 P9 ⟨e0, e1, e2, e3⟩
  rw [e0, e1, e2, e3]
  show am_V X 0 0 _ _ ad (4, [(0, .ref 79)], [.int r1], I1, G1, (gP 123))
  refine am_if_ne (tgt := 9) hX hi (off := (5)) (by decide +kernel) (by decide) (fun c4 => ?_) (fun c4 => ?_)
  · rw [if_neg c4] at h
    exact (l_X14_isSum_79 h0 h1 h2 h3 h4 h5 h6 hX hi FU) _ _  _ h
  · rw [if_pos c4] at h
    refine am_blk 7 [(.iconst (0), 1, 0, 0, .int (0 : Int32))] (8, [(0, .ref 79)], [.int (0 : Int32)], I1, G1, (gP 123)) (True) hX hi (by decide +kernel) rfl trivial ?_
    cases h
    refine am_iret hX hi rfl (by first | rfl | decide | (simp [narrow]; done)) (by decide +kernel) ?_
    exact ⟨rfl, rfl, rfl, rfl⟩
noncomputable def L_X14_isProduct_79 (cal : Nat → am_I → am_G → Int32 → Int32 → Option (Int32 × am_I × am_G)) (n0 : Nat) (hd : Nat) (I : am_I) (G : am_G)  : Option (Int32 × am_I × am_G) := match n0 with
  | 0 => none
  | n + 1 => match hd with
    | _ => rg (q_X14_isSign_79 I G (42 : Int32)) ((if (f_X14_isSign_79 I G (42 : Int32)) = 0 then rg (q_X14_isSign_79 I G (47 : Int32)) ((if (f_X14_isSign_79 I G (47 : Int32)) = 0 then some ((1 : Int32), I, G) else rg (q_X14_isSign_79 I G (42 : Int32)) ((if (f_X14_isSign_79 I G (42 : Int32)) = 0 then rb (cal 6 (am_up I 79 9 ((I 79 9) + (1 : Int32))) G (0 : Int32) (0 : Int32)) (fun r103 I103 G103 => (if r103 = 0 then some ((0 : Int32), I103, G103) else rg (q_X14_put_79 I103 G103 (37 : Int32)) (L_X14_isProduct_79 cal n 0 (g_X14_put_79 I103 G103 (37 : Int32)) G103 ))) else rb (cal 6 (am_up I 79 9 ((I 79 9) + (1 : Int32))) G (0 : Int32) (0 : Int32)) (fun r104 I104 G104 => (if r104 = 0 then some ((0 : Int32), I104, G104) else rg (q_X14_put_79 I104 G104 (36 : Int32)) (L_X14_isProduct_79 cal n 0 (g_X14_put_79 I104 G104 (36 : Int32)) G104 ))))))) else rg (q_X14_isSign_79 I G (42 : Int32)) ((if (f_X14_isSign_79 I G (42 : Int32)) = 0 then rb (cal 6 (am_up I 79 9 ((I 79 9) + (1 : Int32))) G (0 : Int32) (0 : Int32)) (fun r101 I101 G101 => (if r101 = 0 then some ((0 : Int32), I101, G101) else rg (q_X14_put_79 I101 G101 (37 : Int32)) (L_X14_isProduct_79 cal n 0 (g_X14_put_79 I101 G101 (37 : Int32)) G101 ))) else rb (cal 6 (am_up I 79 9 ((I 79 9) + (1 : Int32))) G (0 : Int32) (0 : Int32)) (fun r102 I102 G102 => (if r102 = 0 then some ((0 : Int32), I102, G102) else rg (q_X14_put_79 I102 G102 (36 : Int32)) (L_X14_isProduct_79 cal n 0 (g_X14_put_79 I102 G102 (36 : Int32)) G102 )))))))
theorem L_X14_isProduct_79_0 (cal : Nat → am_I → am_G → Int32 → Int32 → Option (Int32 × am_I × am_G)) (n : Nat) (I : am_I) (G : am_G)  : L_X14_isProduct_79 cal (n + 1) 0 I G  = rg (q_X14_isSign_79 I G (42 : Int32)) ((if (f_X14_isSign_79 I G (42 : Int32)) = 0 then rg (q_X14_isSign_79 I G (47 : Int32)) ((if (f_X14_isSign_79 I G (47 : Int32)) = 0 then some ((1 : Int32), I, G) else rg (q_X14_isSign_79 I G (42 : Int32)) ((if (f_X14_isSign_79 I G (42 : Int32)) = 0 then rb (cal 6 (am_up I 79 9 ((I 79 9) + (1 : Int32))) G (0 : Int32) (0 : Int32)) (fun r103 I103 G103 => (if r103 = 0 then some ((0 : Int32), I103, G103) else rg (q_X14_put_79 I103 G103 (37 : Int32)) (L_X14_isProduct_79 cal n 0 (g_X14_put_79 I103 G103 (37 : Int32)) G103 ))) else rb (cal 6 (am_up I 79 9 ((I 79 9) + (1 : Int32))) G (0 : Int32) (0 : Int32)) (fun r104 I104 G104 => (if r104 = 0 then some ((0 : Int32), I104, G104) else rg (q_X14_put_79 I104 G104 (36 : Int32)) (L_X14_isProduct_79 cal n 0 (g_X14_put_79 I104 G104 (36 : Int32)) G104 ))))))) else rg (q_X14_isSign_79 I G (42 : Int32)) ((if (f_X14_isSign_79 I G (42 : Int32)) = 0 then rb (cal 6 (am_up I 79 9 ((I 79 9) + (1 : Int32))) G (0 : Int32) (0 : Int32)) (fun r101 I101 G101 => (if r101 = 0 then some ((0 : Int32), I101, G101) else rg (q_X14_put_79 I101 G101 (37 : Int32)) (L_X14_isProduct_79 cal n 0 (g_X14_put_79 I101 G101 (37 : Int32)) G101 ))) else rb (cal 6 (am_up I 79 9 ((I 79 9) + (1 : Int32))) G (0 : Int32) (0 : Int32)) (fun r102 I102 G102 => (if r102 = 0 then some ((0 : Int32), I102, G102) else rg (q_X14_put_79 I102 G102 (36 : Int32)) (L_X14_isProduct_79 cal n 0 (g_X14_put_79 I102 G102 (36 : Int32)) G102 ))))))) := rfl
theorem L_X14_isProduct_79_z (cal : Nat → am_I → am_G → Int32 → Int32 → Option (Int32 × am_I × am_G)) (h : Nat) (I : am_I) (G : am_G)  : L_X14_isProduct_79 cal 0 h I G  = none := rfl
noncomputable def R_X14_isProduct_79 (cal : Nat → am_I → am_G → Int32 → Int32 → Option (Int32 × am_I × am_G)) (I : am_I) (G : am_G)  : Option (Int32 × am_I × am_G) := rb (cal 6 I G (0 : Int32) (0 : Int32)) (fun r1 I1 G1 => (if r1 = 0 then some ((0 : Int32), I1, G1) else L_X14_isProduct_79 cal FU 0 I1 G1 ))
set_option maxRecDepth 20000 in
set_option maxHeartbeats 4000000 in
theorem l_X14_isProduct_79 {cal : Nat → am_I → am_G → Int32 → Int32 → Option (Int32 × am_I × am_G)} {n9 : Nat} (h0 : ∀ (I : am_I) (G : am_G) (out : Int32 × am_I × am_G), cal 0 I G (0 : Int32) (0 : Int32) = some out → am_Ct mX14_isTest (8 + n9) gS2 [.ref 79] I G (gP 123) (pI out.1 out.2.1 out.2.2 (gP 123))) (h1 : ∀ (I : am_I) (G : am_G) (out : Int32 × am_I × am_G), cal 1 I G (0 : Int32) (0 : Int32) = some out → am_Ct mX14_isBoth (8 + n9) gS2 [.ref 79] I G (gP 123) (pI out.1 out.2.1 out.2.2 (gP 123))) (h2 : ∀ (I : am_I) (G : am_G) (out : Int32 × am_I × am_G), cal 2 I G (0 : Int32) (0 : Int32) = some out → am_Ct mX14_isSingle (8 + n9) gS2 [.ref 79] I G (gP 123) (pI out.1 out.2.1 out.2.2 (gP 123))) (h3 : ∀ (I : am_I) (G : am_G) (out : Int32 × am_I × am_G), cal 3 I G (0 : Int32) (0 : Int32) = some out → am_Ct mX14_isSum (8 + n9) gS2 [.ref 79] I G (gP 123) (pI out.1 out.2.1 out.2.2 (gP 123))) (h4 : ∀ (I : am_I) (G : am_G) (out : Int32 × am_I × am_G), cal 4 I G (0 : Int32) (0 : Int32) = some out → am_Ct mX14_isProduct (8 + n9) gS2 [.ref 79] I G (gP 123) (pI out.1 out.2.1 out.2.2 (gP 123))) (h5 : ∀ (I : am_I) (G : am_G) (a : Int32) (b : Int32) (out : Int32 × am_I × am_G), cal 5 I G a b = some out → am_Ct mX14_isInside (8 + n9) gS2 [.ref 79, .int a, .int b] I G (gP 123) (pI out.1 out.2.1 out.2.2 (gP 123))) (h6 : ∀ (I : am_I) (G : am_G) (out : Int32 × am_I × am_G), cal 6 I G (0 : Int32) (0 : Int32) = some out → am_Ct mX14_isValue (8 + n9) gS2 [.ref 79] I G (gP 123) (pI out.1 out.2.1 out.2.2 (gP 123))) {X : am_X} {ad : Nat → Nat} (hX : am_okz X ad) (hi : am_info X 12 cX14_isProduct 2 false (Option.some Jvm.ClassFile.FieldType.boolean) (8 + n9 + 1)) (n : Nat) : (∀ (I : am_I) (G : am_G)  (out : Int32 × am_I × am_G), L_X14_isProduct_79 cal n 0 I G  = some out → am_V X 0 0 (am_Rt X gS2 ad (pI out.1 out.2.1 out.2.2 (gP 123))) gS2 ad (9, [(0, .ref 79)], [], I, G, (gP 123))) := by
  induction n with
  | zero => exact fun I G  out h => by rw [L_X14_isProduct_79_z] at h; cases h
  | succ n ih =>
    · intro I G  out h
      rw [L_X14_isProduct_79_0] at h
      refine am_blk 9 [(.aload_n 0, 1, 0, 0, .null), (.bipush (42), 2, 0, 0, .int (42 : Int32))] (12, [(0, .ref 79)], [.int (42 : Int32), .ref 79], I, G, (gP 123)) (True) hX hi (by decide +kernel) rfl trivial ?_
      obtain ⟨hq1, h⟩ := rg_some h
      refine am_callV hX hi (M := mX14_isSign) (idx := 205) (d' := 1) (b := 79) (ci := 12) (As := [.int (42 : Int32)]) (rest := []) mkX14_isSign miX14_isSign mvX14_isSign (by decide +kernel) (by decide +kernel) rfl (by decide +kernel) rfl ⟨by omega, by decide, Nat.le_of_ble_eq_true rfl⟩ rfl (c_X14_isSign_79 I G (42 : Int32) hq1) ?_
      rintro r9 I9 G9 P9 ⟨e0, e1, e2, e3⟩
      rw [e0, e1, e2, e3]
      show am_V X 0 0 _ _ ad (15, [(0, .ref 79)], [.int (f_X14_isSign_79 I G (42 : Int32))], I, G, (gP 123))
      refine am_if_ne (tgt := 27) hX hi (off := (12)) (by decide +kernel) (by decide) (fun c15 => ?_) (fun c15 => ?_)
      · rw [if_neg c15] at h
        refine am_blk 27 [(.aload_n 0, 1, 0, 0, .null), (.bipush (42), 2, 0, 0, .int (42 : Int32))] (30, [(0, .ref 79)], [.int (42 : Int32), .ref 79], I, G, (gP 123)) (True) hX hi (by decide +kernel) rfl trivial ?_
        obtain ⟨hq1, h⟩ := rg_some h
        refine am_callV hX hi (M := mX14_isSign) (idx := 205) (d' := 1) (b := 79) (ci := 12) (As := [.int (42 : Int32)]) (rest := []) mkX14_isSign miX14_isSign mvX14_isSign (by decide +kernel) (by decide +kernel) rfl (by decide +kernel) rfl ⟨by omega, by decide, Nat.le_of_ble_eq_true rfl⟩ rfl (c_X14_isSign_79 I G (42 : Int32) hq1) ?_
        rintro r9 I9 G9 P9 ⟨e0, e1, e2, e3⟩
        rw [e0, e1, e2, e3]
        show am_V X 0 0 _ _ ad (33, [(0, .ref 79)], [.int (f_X14_isSign_79 I G (42 : Int32))], I, G, (gP 123))
        refine am_if_eq (tgt := 41) hX hi (off := (8)) (by decide +kernel) (by decide) (fun c33 => ?_) (fun c33 => ?_)
        · rw [if_pos c33] at h
          refine am_blk 41 [(.bipush (37), 2, 0, 0, .int (37 : Int32)), (.istore_n 1, 1, 1, 0, .null), (.aload_n 0, 1, 0, 0, .null), (.dup, 1, 0, 0, .null), (.getfield 122, 3, 12, 9, .null), (.iconst (1), 1, 0, 0, .int (1 : Int32)), (.iadd, 1, 0, 0, .null), (.putfield 122, 3, 12, 9, .null), (.aload_n 0, 1, 0, 0, .null)] (55, [(0, .ref 79), (1, .int (37 : Int32))], [.ref 79], (am_up I 79 9 ((I 79 9) + (1 : Int32))), G, (gP 123)) (True) hX hi (by decide +kernel) rfl trivial ?_
          obtain ⟨r101, I101, G101, hc, h⟩ := rb_some h
          refine am_callV hX hi (M := mX14_isValue) (idx := 214) (d' := (8 + n9)) (b := 79) (ci := 12) (As := []) (rest := []) mkX14_isValue miX14_isValue mvX14_isValue (by decide +kernel) (by decide +kernel) rfl (by decide +kernel) rfl ⟨by omega, by decide, Nat.le_of_ble_eq_true rfl⟩ rfl (h6 (am_up I 79 9 ((I 79 9) + (1 : Int32))) G  _ hc) ?_
          rintro r9 I9 G9 P9 ⟨e0, e1, e2, e3⟩
          rw [e0, e1, e2, e3]
          show am_V X 0 0 _ _ ad (58, [(0, .ref 79), (1, .int (37 : Int32))], [.int r101], I101, G101, (gP 123))
          refine am_if_ne (tgt := 63) hX hi (off := (5)) (by decide +kernel) (by decide) (fun c58 => ?_) (fun c58 => ?_)
          · rw [if_neg c58] at h
            refine am_blk 63 [(.aload_n 0, 1, 0, 0, .null), (.iload_n 1, 1, 1, 0, .null)] (65, [(0, .ref 79), (1, .int (37 : Int32))], [.int (37 : Int32), .ref 79], I101, G101, (gP 123)) (True) hX hi (by decide +kernel) rfl trivial ?_
            obtain ⟨hq1, h⟩ := rg_some h
            refine am_callV hX hi (M := mX14_put) (idx := 183) (d' := 1) (b := 79) (ci := 12) (As := [.int (37 : Int32)]) (rest := []) mkX14_put miX14_put mvX14_put (by decide +kernel) (by decide +kernel) rfl (by decide +kernel) rfl ⟨by omega, by decide, Nat.le_of_ble_eq_true rfl⟩ rfl (c_X14_put_79 I101 G101 (37 : Int32) hq1) ?_
            rintro r9 I9 G9 P9 ⟨e0, e1, e2, e3⟩
            rw [e0, e1, e2, e3]
            show am_V X 0 0 _ _ ad (68, [(0, .ref 79), (1, .int (37 : Int32))], [], (g_X14_put_79 I101 G101 (37 : Int32)), G101, (gP 123))
            refine am_blk 68 [(.goto (-59), 3, 0, 9, .null)] (9, [(0, .ref 79), (1, .int (37 : Int32))], [], (g_X14_put_79 I101 G101 (37 : Int32)), G101, (gP 123)) (True) hX hi (by decide +kernel) rfl trivial ?_
            refine am_sub (L' := [(0, .ref 79)]) (by simp) ?_
            exact ih _ _  _ h
          · rw [if_pos c58] at h
            refine am_blk 61 [(.iconst (0), 1, 0, 0, .int (0 : Int32))] (62, [(0, .ref 79), (1, .int (37 : Int32))], [.int (0 : Int32)], I101, G101, (gP 123)) (True) hX hi (by decide +kernel) rfl trivial ?_
            cases h
            refine am_iret hX hi rfl (by first | rfl | decide | (simp [narrow]; done)) (by decide +kernel) ?_
            exact ⟨rfl, rfl, rfl, rfl⟩
        · rw [if_neg c33] at h
          refine am_blk 36 [(.bipush (36), 2, 0, 0, .int (36 : Int32)), (.goto (5), 3, 0, 43, .null), (.istore_n 1, 1, 1, 0, .null), (.aload_n 0, 1, 0, 0, .null), (.dup, 1, 0, 0, .null), (.getfield 122, 3, 12, 9, .null), (.iconst (1), 1, 0, 0, .int (1 : Int32)), (.iadd, 1, 0, 0, .null), (.putfield 122, 3, 12, 9, .null), (.aload_n 0, 1, 0, 0, .null)] (55, [(0, .ref 79), (1, .int (36 : Int32))], [.ref 79], (am_up I 79 9 ((I 79 9) + (1 : Int32))), G, (gP 123)) (True) hX hi (by decide +kernel) rfl trivial ?_
          obtain ⟨r102, I102, G102, hc, h⟩ := rb_some h
          refine am_callV hX hi (M := mX14_isValue) (idx := 214) (d' := (8 + n9)) (b := 79) (ci := 12) (As := []) (rest := []) mkX14_isValue miX14_isValue mvX14_isValue (by decide +kernel) (by decide +kernel) rfl (by decide +kernel) rfl ⟨by omega, by decide, Nat.le_of_ble_eq_true rfl⟩ rfl (h6 (am_up I 79 9 ((I 79 9) + (1 : Int32))) G  _ hc) ?_
          rintro r9 I9 G9 P9 ⟨e0, e1, e2, e3⟩
          rw [e0, e1, e2, e3]
          show am_V X 0 0 _ _ ad (58, [(0, .ref 79), (1, .int (36 : Int32))], [.int r102], I102, G102, (gP 123))
          refine am_if_ne (tgt := 63) hX hi (off := (5)) (by decide +kernel) (by decide) (fun c58 => ?_) (fun c58 => ?_)
          · rw [if_neg c58] at h
            refine am_blk 63 [(.aload_n 0, 1, 0, 0, .null), (.iload_n 1, 1, 1, 0, .null)] (65, [(0, .ref 79), (1, .int (36 : Int32))], [.int (36 : Int32), .ref 79], I102, G102, (gP 123)) (True) hX hi (by decide +kernel) rfl trivial ?_
            obtain ⟨hq1, h⟩ := rg_some h
            refine am_callV hX hi (M := mX14_put) (idx := 183) (d' := 1) (b := 79) (ci := 12) (As := [.int (36 : Int32)]) (rest := []) mkX14_put miX14_put mvX14_put (by decide +kernel) (by decide +kernel) rfl (by decide +kernel) rfl ⟨by omega, by decide, Nat.le_of_ble_eq_true rfl⟩ rfl (c_X14_put_79 I102 G102 (36 : Int32) hq1) ?_
            rintro r9 I9 G9 P9 ⟨e0, e1, e2, e3⟩
            rw [e0, e1, e2, e3]
            show am_V X 0 0 _ _ ad (68, [(0, .ref 79), (1, .int (36 : Int32))], [], (g_X14_put_79 I102 G102 (36 : Int32)), G102, (gP 123))
            refine am_blk 68 [(.goto (-59), 3, 0, 9, .null)] (9, [(0, .ref 79), (1, .int (36 : Int32))], [], (g_X14_put_79 I102 G102 (36 : Int32)), G102, (gP 123)) (True) hX hi (by decide +kernel) rfl trivial ?_
            refine am_sub (L' := [(0, .ref 79)]) (by simp) ?_
            exact ih _ _  _ h
          · rw [if_pos c58] at h
            refine am_blk 61 [(.iconst (0), 1, 0, 0, .int (0 : Int32))] (62, [(0, .ref 79), (1, .int (36 : Int32))], [.int (0 : Int32)], I102, G102, (gP 123)) (True) hX hi (by decide +kernel) rfl trivial ?_
            cases h
            refine am_iret hX hi rfl (by first | rfl | decide | (simp [narrow]; done)) (by decide +kernel) ?_
            exact ⟨rfl, rfl, rfl, rfl⟩
      · rw [if_pos c15] at h
        refine am_blk 18 [(.aload_n 0, 1, 0, 0, .null), (.bipush (47), 2, 0, 0, .int (47 : Int32))] (21, [(0, .ref 79)], [.int (47 : Int32), .ref 79], I, G, (gP 123)) (True) hX hi (by decide +kernel) rfl trivial ?_
        obtain ⟨hq1, h⟩ := rg_some h
        refine am_callV hX hi (M := mX14_isSign) (idx := 205) (d' := 1) (b := 79) (ci := 12) (As := [.int (47 : Int32)]) (rest := []) mkX14_isSign miX14_isSign mvX14_isSign (by decide +kernel) (by decide +kernel) rfl (by decide +kernel) rfl ⟨by omega, by decide, Nat.le_of_ble_eq_true rfl⟩ rfl (c_X14_isSign_79 I G (47 : Int32) hq1) ?_
        rintro r9 I9 G9 P9 ⟨e0, e1, e2, e3⟩
        rw [e0, e1, e2, e3]
        show am_V X 0 0 _ _ ad (24, [(0, .ref 79)], [.int (f_X14_isSign_79 I G (47 : Int32))], I, G, (gP 123))
        refine am_if_eq (tgt := 71) hX hi (off := (47)) (by decide +kernel) (by decide) (fun c24 => ?_) (fun c24 => ?_)
        · rw [if_pos c24] at h
          refine am_blk 71 [(.iconst (1), 1, 0, 0, .int (1 : Int32))] (72, [(0, .ref 79)], [.int (1 : Int32)], I, G, (gP 123)) (True) hX hi (by decide +kernel) rfl trivial ?_
          cases h
          refine am_iret hX hi rfl (by first | rfl | decide | (simp [narrow]; done)) (by decide +kernel) ?_
          exact ⟨rfl, rfl, rfl, rfl⟩
        · rw [if_neg c24] at h
          refine am_blk 27 [(.aload_n 0, 1, 0, 0, .null), (.bipush (42), 2, 0, 0, .int (42 : Int32))] (30, [(0, .ref 79)], [.int (42 : Int32), .ref 79], I, G, (gP 123)) (True) hX hi (by decide +kernel) rfl trivial ?_
          obtain ⟨hq1, h⟩ := rg_some h
          refine am_callV hX hi (M := mX14_isSign) (idx := 205) (d' := 1) (b := 79) (ci := 12) (As := [.int (42 : Int32)]) (rest := []) mkX14_isSign miX14_isSign mvX14_isSign (by decide +kernel) (by decide +kernel) rfl (by decide +kernel) rfl ⟨by omega, by decide, Nat.le_of_ble_eq_true rfl⟩ rfl (c_X14_isSign_79 I G (42 : Int32) hq1) ?_
          rintro r9 I9 G9 P9 ⟨e0, e1, e2, e3⟩
          rw [e0, e1, e2, e3]
          show am_V X 0 0 _ _ ad (33, [(0, .ref 79)], [.int (f_X14_isSign_79 I G (42 : Int32))], I, G, (gP 123))
          refine am_if_eq (tgt := 41) hX hi (off := (8)) (by decide +kernel) (by decide) (fun c33 => ?_) (fun c33 => ?_)
          · rw [if_pos c33] at h
            refine am_blk 41 [(.bipush (37), 2, 0, 0, .int (37 : Int32)), (.istore_n 1, 1, 1, 0, .null), (.aload_n 0, 1, 0, 0, .null), (.dup, 1, 0, 0, .null), (.getfield 122, 3, 12, 9, .null), (.iconst (1), 1, 0, 0, .int (1 : Int32)), (.iadd, 1, 0, 0, .null), (.putfield 122, 3, 12, 9, .null), (.aload_n 0, 1, 0, 0, .null)] (55, [(0, .ref 79), (1, .int (37 : Int32))], [.ref 79], (am_up I 79 9 ((I 79 9) + (1 : Int32))), G, (gP 123)) (True) hX hi (by decide +kernel) rfl trivial ?_
            obtain ⟨r103, I103, G103, hc, h⟩ := rb_some h
            refine am_callV hX hi (M := mX14_isValue) (idx := 214) (d' := (8 + n9)) (b := 79) (ci := 12) (As := []) (rest := []) mkX14_isValue miX14_isValue mvX14_isValue (by decide +kernel) (by decide +kernel) rfl (by decide +kernel) rfl ⟨by omega, by decide, Nat.le_of_ble_eq_true rfl⟩ rfl (h6 (am_up I 79 9 ((I 79 9) + (1 : Int32))) G  _ hc) ?_
            rintro r9 I9 G9 P9 ⟨e0, e1, e2, e3⟩
            rw [e0, e1, e2, e3]
            show am_V X 0 0 _ _ ad (58, [(0, .ref 79), (1, .int (37 : Int32))], [.int r103], I103, G103, (gP 123))
            refine am_if_ne (tgt := 63) hX hi (off := (5)) (by decide +kernel) (by decide) (fun c58 => ?_) (fun c58 => ?_)
            · rw [if_neg c58] at h
              refine am_blk 63 [(.aload_n 0, 1, 0, 0, .null), (.iload_n 1, 1, 1, 0, .null)] (65, [(0, .ref 79), (1, .int (37 : Int32))], [.int (37 : Int32), .ref 79], I103, G103, (gP 123)) (True) hX hi (by decide +kernel) rfl trivial ?_
              obtain ⟨hq1, h⟩ := rg_some h
              refine am_callV hX hi (M := mX14_put) (idx := 183) (d' := 1) (b := 79) (ci := 12) (As := [.int (37 : Int32)]) (rest := []) mkX14_put miX14_put mvX14_put (by decide +kernel) (by decide +kernel) rfl (by decide +kernel) rfl ⟨by omega, by decide, Nat.le_of_ble_eq_true rfl⟩ rfl (c_X14_put_79 I103 G103 (37 : Int32) hq1) ?_
              rintro r9 I9 G9 P9 ⟨e0, e1, e2, e3⟩
              rw [e0, e1, e2, e3]
              show am_V X 0 0 _ _ ad (68, [(0, .ref 79), (1, .int (37 : Int32))], [], (g_X14_put_79 I103 G103 (37 : Int32)), G103, (gP 123))
              refine am_blk 68 [(.goto (-59), 3, 0, 9, .null)] (9, [(0, .ref 79), (1, .int (37 : Int32))], [], (g_X14_put_79 I103 G103 (37 : Int32)), G103, (gP 123)) (True) hX hi (by decide +kernel) rfl trivial ?_
              refine am_sub (L' := [(0, .ref 79)]) (by simp) ?_
              exact ih _ _  _ h
            · rw [if_pos c58] at h
              refine am_blk 61 [(.iconst (0), 1, 0, 0, .int (0 : Int32))] (62, [(0, .ref 79), (1, .int (37 : Int32))], [.int (0 : Int32)], I103, G103, (gP 123)) (True) hX hi (by decide +kernel) rfl trivial ?_
              cases h
              refine am_iret hX hi rfl (by first | rfl | decide | (simp [narrow]; done)) (by decide +kernel) ?_
              exact ⟨rfl, rfl, rfl, rfl⟩
          · rw [if_neg c33] at h
            refine am_blk 36 [(.bipush (36), 2, 0, 0, .int (36 : Int32)), (.goto (5), 3, 0, 43, .null), (.istore_n 1, 1, 1, 0, .null), (.aload_n 0, 1, 0, 0, .null), (.dup, 1, 0, 0, .null), (.getfield 122, 3, 12, 9, .null), (.iconst (1), 1, 0, 0, .int (1 : Int32)), (.iadd, 1, 0, 0, .null), (.putfield 122, 3, 12, 9, .null), (.aload_n 0, 1, 0, 0, .null)] (55, [(0, .ref 79), (1, .int (36 : Int32))], [.ref 79], (am_up I 79 9 ((I 79 9) + (1 : Int32))), G, (gP 123)) (True) hX hi (by decide +kernel) rfl trivial ?_
            obtain ⟨r104, I104, G104, hc, h⟩ := rb_some h
            refine am_callV hX hi (M := mX14_isValue) (idx := 214) (d' := (8 + n9)) (b := 79) (ci := 12) (As := []) (rest := []) mkX14_isValue miX14_isValue mvX14_isValue (by decide +kernel) (by decide +kernel) rfl (by decide +kernel) rfl ⟨by omega, by decide, Nat.le_of_ble_eq_true rfl⟩ rfl (h6 (am_up I 79 9 ((I 79 9) + (1 : Int32))) G  _ hc) ?_
            rintro r9 I9 G9 P9 ⟨e0, e1, e2, e3⟩
            rw [e0, e1, e2, e3]
            show am_V X 0 0 _ _ ad (58, [(0, .ref 79), (1, .int (36 : Int32))], [.int r104], I104, G104, (gP 123))
            refine am_if_ne (tgt := 63) hX hi (off := (5)) (by decide +kernel) (by decide) (fun c58 => ?_) (fun c58 => ?_)
            · rw [if_neg c58] at h
              refine am_blk 63 [(.aload_n 0, 1, 0, 0, .null), (.iload_n 1, 1, 1, 0, .null)] (65, [(0, .ref 79), (1, .int (36 : Int32))], [.int (36 : Int32), .ref 79], I104, G104, (gP 123)) (True) hX hi (by decide +kernel) rfl trivial ?_
              obtain ⟨hq1, h⟩ := rg_some h
              refine am_callV hX hi (M := mX14_put) (idx := 183) (d' := 1) (b := 79) (ci := 12) (As := [.int (36 : Int32)]) (rest := []) mkX14_put miX14_put mvX14_put (by decide +kernel) (by decide +kernel) rfl (by decide +kernel) rfl ⟨by omega, by decide, Nat.le_of_ble_eq_true rfl⟩ rfl (c_X14_put_79 I104 G104 (36 : Int32) hq1) ?_
              rintro r9 I9 G9 P9 ⟨e0, e1, e2, e3⟩
              rw [e0, e1, e2, e3]
              show am_V X 0 0 _ _ ad (68, [(0, .ref 79), (1, .int (36 : Int32))], [], (g_X14_put_79 I104 G104 (36 : Int32)), G104, (gP 123))
              refine am_blk 68 [(.goto (-59), 3, 0, 9, .null)] (9, [(0, .ref 79), (1, .int (36 : Int32))], [], (g_X14_put_79 I104 G104 (36 : Int32)), G104, (gP 123)) (True) hX hi (by decide +kernel) rfl trivial ?_
              refine am_sub (L' := [(0, .ref 79)]) (by simp) ?_
              exact ih _ _  _ h
            · rw [if_pos c58] at h
              refine am_blk 61 [(.iconst (0), 1, 0, 0, .int (0 : Int32))] (62, [(0, .ref 79), (1, .int (36 : Int32))], [.int (0 : Int32)], I104, G104, (gP 123)) (True) hX hi (by decide +kernel) rfl trivial ?_
              cases h
              refine am_iret hX hi rfl (by first | rfl | decide | (simp [narrow]; done)) (by decide +kernel) ?_
              exact ⟨rfl, rfl, rfl, rfl⟩
set_option maxRecDepth 20000 in
set_option maxHeartbeats 4000000 in
theorem c_X14_isProduct_79 {cal : Nat → am_I → am_G → Int32 → Int32 → Option (Int32 × am_I × am_G)} {n9 : Nat} (h0 : ∀ (I : am_I) (G : am_G) (out : Int32 × am_I × am_G), cal 0 I G (0 : Int32) (0 : Int32) = some out → am_Ct mX14_isTest (8 + n9) gS2 [.ref 79] I G (gP 123) (pI out.1 out.2.1 out.2.2 (gP 123))) (h1 : ∀ (I : am_I) (G : am_G) (out : Int32 × am_I × am_G), cal 1 I G (0 : Int32) (0 : Int32) = some out → am_Ct mX14_isBoth (8 + n9) gS2 [.ref 79] I G (gP 123) (pI out.1 out.2.1 out.2.2 (gP 123))) (h2 : ∀ (I : am_I) (G : am_G) (out : Int32 × am_I × am_G), cal 2 I G (0 : Int32) (0 : Int32) = some out → am_Ct mX14_isSingle (8 + n9) gS2 [.ref 79] I G (gP 123) (pI out.1 out.2.1 out.2.2 (gP 123))) (h3 : ∀ (I : am_I) (G : am_G) (out : Int32 × am_I × am_G), cal 3 I G (0 : Int32) (0 : Int32) = some out → am_Ct mX14_isSum (8 + n9) gS2 [.ref 79] I G (gP 123) (pI out.1 out.2.1 out.2.2 (gP 123))) (h4 : ∀ (I : am_I) (G : am_G) (out : Int32 × am_I × am_G), cal 4 I G (0 : Int32) (0 : Int32) = some out → am_Ct mX14_isProduct (8 + n9) gS2 [.ref 79] I G (gP 123) (pI out.1 out.2.1 out.2.2 (gP 123))) (h5 : ∀ (I : am_I) (G : am_G) (a : Int32) (b : Int32) (out : Int32 × am_I × am_G), cal 5 I G a b = some out → am_Ct mX14_isInside (8 + n9) gS2 [.ref 79, .int a, .int b] I G (gP 123) (pI out.1 out.2.1 out.2.2 (gP 123))) (h6 : ∀ (I : am_I) (G : am_G) (out : Int32 × am_I × am_G), cal 6 I G (0 : Int32) (0 : Int32) = some out → am_Ct mX14_isValue (8 + n9) gS2 [.ref 79] I G (gP 123) (pI out.1 out.2.1 out.2.2 (gP 123))) (I : am_I) (G : am_G)  {out : Int32 × am_I × am_G} (h : R_X14_isProduct_79 cal I G  = some out) : am_Ct mX14_isProduct (8 + n9 + 1) gS2 [.ref 79] I G (gP 123) (pI out.1 out.2.1 out.2.2 (gP 123)) := by
  refine am_ofF (by decide +kernel) rfl (by decide) (by omega) (Nat.le_of_ble_eq_true rfl) (fun X ad hX hi => ?_)
  have hi : am_info X 12 cX14_isProduct 2 false (Option.some Jvm.ClassFile.FieldType.boolean) (8 + n9 + 1) := hi
  show am_V X 0 0 _ _ ad (0, [(0, .ref 79)], [], I, G, (gP 123))
  unfold R_X14_isProduct_79 at h
  refine am_blk 0 [(.aload_n 0, 1, 0, 0, .null)] (1, [(0, .ref 79)], [.ref 79], I, G, (gP 123)) (True) hX hi (by decide +kernel) rfl trivial ?_
  obtain ⟨r1, I1, G1, hc, h⟩ := rb_some h
  refine am_callV hX hi (M := mX14_isValue) (idx := 214) (d' := (8 + n9)) (b := 79) (ci := 12) (As := []) (rest := []) mkX14_isValue miX14_isValue mvX14_isValue (by decide +kernel) (by decide +kernel) rfl (by decide +kernel) rfl ⟨by omega, by decide, Nat.le_of_ble_eq_true rfl⟩ rfl (h6 I G  _ hc) ?_
  rintro r9 I9 G9 P9 ⟨e0, e1, e2, e3⟩
  rw [e0, e1, e2, e3]
  show am_V X 0 0 _ _ ad (4, [(0, .ref 79)], [.int r1], I1, G1, (gP 123))
  refine am_if_ne (tgt := 9) hX hi (off := (5)) (by decide +kernel) (by decide) (fun c4 => ?_) (fun c4 => ?_)
  · rw [if_neg c4] at h
    exact (l_X14_isProduct_79 h0 h1 h2 h3 h4 h5 h6 hX hi FU) _ _  _ h
  · rw [if_pos c4] at h
    refine am_blk 7 [(.iconst (0), 1, 0, 0, .int (0 : Int32))] (8, [(0, .ref 79)], [.int (0 : Int32)], I1, G1, (gP 123)) (True) hX hi (by decide +kernel) rfl trivial ?_
    cases h
    refine am_iret hX hi rfl (by first | rfl | decide | (simp [narrow]; done)) (by decide +kernel) ?_
    exact ⟨rfl, rfl, rfl, rfl⟩
noncomputable def R_X14_isInside_79 (cal : Nat → am_I → am_G → Int32 → Int32 → Option (Int32 × am_I × am_G)) (I : am_I) (G : am_G) (x1 : Int32) (x2 : Int32) : Option (Int32 × am_I × am_G) := rg (q_X14_isSign_79 I G (40 : Int32)) ((if (f_X14_isSign_79 I G (40 : Int32)) = 0 then some ((0 : Int32), I, G) else (if (f_X14_isDeeper_79 I G ) = 0 then some ((0 : Int32), (g_X14_isDeeper_79 I G ), G) else rb (cal 3 (g_X14_isDeeper_79 I G ) G (0 : Int32) (0 : Int32)) (fun r1 I1 G1 => (if r1 = 0 then some ((0 : Int32), I1, G1) else (if x2 = 0 then (if x2 = 0 then rb (R_X14_eatSign_79 (am_up I1 79 10 ((I1 79 10) - (1 : Int32))) G1 (41 : Int32)) (fun r2 I2 G2 => rg (r2 = 0 ∨ r2 = 1) (some (r2, I2, G2))) else rg (q_X14_put_79 (am_up I1 79 10 ((I1 79 10) - (1 : Int32))) G1 x1) (rb (R_X14_eatSign_79 (g_X14_put_79 (am_up I1 79 10 ((I1 79 10) - (1 : Int32))) G1 x1) G1 (41 : Int32)) (fun r3 I3 G3 => rg (r3 = 0 ∨ r3 = 1) (some (r3, I3, G3))))) else rb (R_X14_eatSign_79 I1 G1 (44 : Int32)) (fun r4 I4 G4 => (if r4 = 0 then some ((0 : Int32), I4, G4) else rb (cal 3 I4 G4 (0 : Int32) (0 : Int32)) (fun r5 I5 G5 => (if r5 = 0 then some ((0 : Int32), I5, G5) else (if x2 = 0 then rb (R_X14_eatSign_79 (am_up I5 79 10 ((I5 79 10) - (1 : Int32))) G5 (41 : Int32)) (fun r6 I6 G6 => rg (r6 = 0 ∨ r6 = 1) (some (r6, I6, G6))) else rg (q_X14_put_79 (am_up I5 79 10 ((I5 79 10) - (1 : Int32))) G5 x1) (rb (R_X14_eatSign_79 (g_X14_put_79 (am_up I5 79 10 ((I5 79 10) - (1 : Int32))) G5 x1) G5 (41 : Int32)) (fun r7 I7 G7 => rg (r7 = 0 ∨ r7 = 1) (some (r7, I7, G7)))))))))))))))
set_option maxRecDepth 20000 in
set_option maxHeartbeats 4000000 in
theorem c_X14_isInside_79 {cal : Nat → am_I → am_G → Int32 → Int32 → Option (Int32 × am_I × am_G)} {n9 : Nat} (h0 : ∀ (I : am_I) (G : am_G) (out : Int32 × am_I × am_G), cal 0 I G (0 : Int32) (0 : Int32) = some out → am_Ct mX14_isTest (8 + n9) gS2 [.ref 79] I G (gP 123) (pI out.1 out.2.1 out.2.2 (gP 123))) (h1 : ∀ (I : am_I) (G : am_G) (out : Int32 × am_I × am_G), cal 1 I G (0 : Int32) (0 : Int32) = some out → am_Ct mX14_isBoth (8 + n9) gS2 [.ref 79] I G (gP 123) (pI out.1 out.2.1 out.2.2 (gP 123))) (h2 : ∀ (I : am_I) (G : am_G) (out : Int32 × am_I × am_G), cal 2 I G (0 : Int32) (0 : Int32) = some out → am_Ct mX14_isSingle (8 + n9) gS2 [.ref 79] I G (gP 123) (pI out.1 out.2.1 out.2.2 (gP 123))) (h3 : ∀ (I : am_I) (G : am_G) (out : Int32 × am_I × am_G), cal 3 I G (0 : Int32) (0 : Int32) = some out → am_Ct mX14_isSum (8 + n9) gS2 [.ref 79] I G (gP 123) (pI out.1 out.2.1 out.2.2 (gP 123))) (h4 : ∀ (I : am_I) (G : am_G) (out : Int32 × am_I × am_G), cal 4 I G (0 : Int32) (0 : Int32) = some out → am_Ct mX14_isProduct (8 + n9) gS2 [.ref 79] I G (gP 123) (pI out.1 out.2.1 out.2.2 (gP 123))) (h5 : ∀ (I : am_I) (G : am_G) (a : Int32) (b : Int32) (out : Int32 × am_I × am_G), cal 5 I G a b = some out → am_Ct mX14_isInside (8 + n9) gS2 [.ref 79, .int a, .int b] I G (gP 123) (pI out.1 out.2.1 out.2.2 (gP 123))) (h6 : ∀ (I : am_I) (G : am_G) (out : Int32 × am_I × am_G), cal 6 I G (0 : Int32) (0 : Int32) = some out → am_Ct mX14_isValue (8 + n9) gS2 [.ref 79] I G (gP 123) (pI out.1 out.2.1 out.2.2 (gP 123))) (I : am_I) (G : am_G) (x1 : Int32) (x2 : Int32) {out : Int32 × am_I × am_G} (h : R_X14_isInside_79 cal I G x1 x2 = some out) : am_Ct mX14_isInside (8 + n9 + 1) gS2 [.ref 79, .int x1, .int x2] I G (gP 123) (pI out.1 out.2.1 out.2.2 (gP 123)) := by
  refine am_ofF (by decide +kernel) rfl (by decide) (by omega) (Nat.le_of_ble_eq_true rfl) (fun X ad hX hi => ?_)
  have hi : am_info X 12 cX14_isInside 3 false (Option.some Jvm.ClassFile.FieldType.boolean) (8 + n9 + 1) := hi
  show am_V X 0 0 _ _ ad (0, [(0, .ref 79), (1, .int x1), (2, .int x2)], [], I, G, (gP 123))
  unfold R_X14_isInside_79 at h
  refine am_blk 0 [(.aload_n 0, 1, 0, 0, .null), (.bipush (40), 2, 0, 0, .int (40 : Int32))] (3, [(0, .ref 79), (1, .int x1), (2, .int x2)], [.int (40 : Int32), .ref 79], I, G, (gP 123)) (True) hX hi (by decide +kernel) rfl trivial ?_
  obtain ⟨hq1, h⟩ := rg_some h
  refine am_callV hX hi (M := mX14_isSign) (idx := 205) (d' := 1) (b := 79) (ci := 12) (As := [.int (40 : Int32)]) (rest := []) mkX14_isSign miX14_isSign mvX14_isSign (by decide +kernel) (by decide +kernel) rfl (by decide +kernel) rfl ⟨by omega, by decide, Nat.le_of_ble_eq_true rfl⟩ rfl (c_X14_isSign_79 I G (40 : Int32) hq1) ?_
  rintro r9 I9 G9 P9 ⟨e0, e1, e2, e3⟩
  rw [e0, e1, e2, e3]
  show am_V X 0 0 _ _ ad (6, [(0, .ref 79), (1, .int x1), (2, .int x2)], [.int (f_X14_isSign_79 I G (40 : Int32))], I, G, (gP 123))
  refine am_if_eq (tgt := 43) hX hi (off := (37)) (by decide +kernel) (by decide) (fun c6 => ?_) (fun c6 => ?_)
  · rw [if_pos c6] at h
    refine am_blk 43 [(.iconst (0), 1, 0, 0, .int (0 : Int32))] (44, [(0, .ref 79), (1, .int x1), (2, .int x2)], [.int (0 : Int32)], I, G, (gP 123)) (True) hX hi (by decide +kernel) rfl trivial ?_
    cases h
    refine am_iret hX hi rfl (by first | rfl | decide | (simp [narrow]; done)) (by decide +kernel) ?_
    exact ⟨rfl, rfl, rfl, rfl⟩
  · rw [if_neg c6] at h
    refine am_blk 9 [(.aload_n 0, 1, 0, 0, .null)] (10, [(0, .ref 79), (1, .int x1), (2, .int x2)], [.ref 79], I, G, (gP 123)) (True) hX hi (by decide +kernel) rfl trivial ?_
    refine am_callV hX hi (M := mX14_isDeeper) (idx := 202) (d' := 1) (b := 79) (ci := 12) (As := []) (rest := []) mkX14_isDeeper miX14_isDeeper mvX14_isDeeper (by decide +kernel) (by decide +kernel) rfl (by decide +kernel) rfl ⟨by omega, by decide, Nat.le_of_ble_eq_true rfl⟩ rfl (c_X14_isDeeper_79 I G ) ?_
    rintro r9 I9 G9 P9 ⟨e0, e1, e2, e3⟩
    rw [e0, e1, e2, e3]
    show am_V X 0 0 _ _ ad (13, [(0, .ref 79), (1, .int x1), (2, .int x2)], [.int (f_X14_isDeeper_79 I G )], (g_X14_isDeeper_79 I G ), G, (gP 123))
    refine am_if_eq (tgt := 43) hX hi (off := (30)) (by decide +kernel) (by decide) (fun c13 => ?_) (fun c13 => ?_)
    · rw [if_pos c13] at h
      refine am_blk 43 [(.iconst (0), 1, 0, 0, .int (0 : Int32))] (44, [(0, .ref 79), (1, .int x1), (2, .int x2)], [.int (0 : Int32)], (g_X14_isDeeper_79 I G ), G, (gP 123)) (True) hX hi (by decide +kernel) rfl trivial ?_
      cases h
      refine am_iret hX hi rfl (by first | rfl | decide | (simp [narrow]; done)) (by decide +kernel) ?_
      exact ⟨rfl, rfl, rfl, rfl⟩
    · rw [if_neg c13] at h
      refine am_blk 16 [(.aload_n 0, 1, 0, 0, .null)] (17, [(0, .ref 79), (1, .int x1), (2, .int x2)], [.ref 79], (g_X14_isDeeper_79 I G ), G, (gP 123)) (True) hX hi (by decide +kernel) rfl trivial ?_
      obtain ⟨r1, I1, G1, hc, h⟩ := rb_some h
      refine am_callV hX hi (M := mX14_isSum) (idx := 168) (d' := (8 + n9)) (b := 79) (ci := 12) (As := []) (rest := []) mkX14_isSum miX14_isSum mvX14_isSum (by decide +kernel) (by decide +kernel) rfl (by decide +kernel) rfl ⟨by omega, by decide, Nat.le_of_ble_eq_true rfl⟩ rfl (h3 (g_X14_isDeeper_79 I G ) G  _ hc) ?_
      rintro r9 I9 G9 P9 ⟨e0, e1, e2, e3⟩
      rw [e0, e1, e2, e3]
      show am_V X 0 0 _ _ ad (20, [(0, .ref 79), (1, .int x1), (2, .int x2)], [.int r1], I1, G1, (gP 123))
      refine am_if_eq (tgt := 43) hX hi (off := (23)) (by decide +kernel) (by decide) (fun c20 => ?_) (fun c20 => ?_)
      · rw [if_pos c20] at h
        refine am_blk 43 [(.iconst (0), 1, 0, 0, .int (0 : Int32))] (44, [(0, .ref 79), (1, .int x1), (2, .int x2)], [.int (0 : Int32)], I1, G1, (gP 123)) (True) hX hi (by decide +kernel) rfl trivial ?_
        cases h
        refine am_iret hX hi rfl (by first | rfl | decide | (simp [narrow]; done)) (by decide +kernel) ?_
        exact ⟨rfl, rfl, rfl, rfl⟩
      · rw [if_neg c20] at h
        refine am_blk 23 [(.iload_n 2, 1, 2, 0, .null)] (24, [(0, .ref 79), (1, .int x1), (2, .int x2)], [.int x2], I1, G1, (gP 123)) (True) hX hi (by decide +kernel) rfl trivial ?_
        refine am_if_eq (tgt := 45) hX hi (off := (21)) (by decide +kernel) (by decide) (fun c24 => ?_) (fun c24 => ?_)
        · rw [if_pos c24] at h
          refine am_blk 45 [(.aload_n 0, 1, 0, 0, .null), (.dup, 1, 0, 0, .null), (.getfield 190, 3, 12, 10, .null), (.iconst (1), 1, 0, 0, .int (1 : Int32)), (.isub, 1, 0, 0, .null), (.putfield 190, 3, 12, 10, .null), (.iload_n 2, 1, 2, 0, .null)] (56, [(0, .ref 79), (1, .int x1), (2, .int x2)], [.int x2], (am_up I1 79 10 ((I1 79 10) - (1 : Int32))), G1, (gP 123)) (True) hX hi (by decide +kernel) rfl trivial ?_
          refine am_if_eq (tgt := 64) hX hi (off := (8)) (by decide +kernel) (by decide) (fun c56 => ?_) (fun c56 => ?_)
          · rw [if_pos c56] at h
            refine am_blk 64 [(.aload_n 0, 1, 0, 0, .null), (.bipush (41), 2, 0, 0, .int (41 : Int32))] (67, [(0, .ref 79), (1, .int x1), (2, .int x2)], [.int (41 : Int32), .ref 79], (am_up I1 79 10 ((I1 79 10) - (1 : Int32))), G1, (gP 123)) (True) hX hi (by decide +kernel) rfl trivial ?_
            obtain ⟨r2, I2, G2, hc, h⟩ := rb_some h
            refine am_callV hX hi (M := mX14_eatSign) (idx := 151) (d' := 3) (b := 79) (ci := 12) (As := [.int (41 : Int32)]) (rest := []) mkX14_eatSign miX14_eatSign mvX14_eatSign (by decide +kernel) (by decide +kernel) rfl (by decide +kernel) rfl ⟨by omega, by decide, Nat.le_of_ble_eq_true rfl⟩ rfl (c_X14_eatSign_79 (am_up I1 79 10 ((I1 79 10) - (1 : Int32))) G1 (41 : Int32) hc) ?_
            rintro r9 I9 G9 P9 ⟨e0, e1, e2, e3⟩
            rw [e0, e1, e2, e3]
            show am_V X 0 0 _ _ ad (70, [(0, .ref 79), (1, .int x1), (2, .int x2)], [.int r2], I2, G2, (gP 123))
            obtain ⟨gb, h⟩ := rg_some h
            cases h
            refine am_iret hX hi rfl (by rcases gb with gb | gb <;> rw [gb] <;> rfl) (by decide +kernel) ?_
            exact ⟨rfl, rfl, rfl, rfl⟩
          · rw [if_neg c56] at h
            refine am_blk 59 [(.aload_n 0, 1, 0, 0, .null), (.iload_n 1, 1, 1, 0, .null)] (61, [(0, .ref 79), (1, .int x1), (2, .int x2)], [.int x1, .ref 79], (am_up I1 79 10 ((I1 79 10) - (1 : Int32))), G1, (gP 123)) (True) hX hi (by decide +kernel) rfl trivial ?_
            obtain ⟨hq1, h⟩ := rg_some h
            refine am_callV hX hi (M := mX14_put) (idx := 183) (d' := 1) (b := 79) (ci := 12) (As := [.int x1]) (rest := []) mkX14_put miX14_put mvX14_put (by decide +kernel) (by decide +kernel) rfl (by decide +kernel) rfl ⟨by omega, by decide, Nat.le_of_ble_eq_true rfl⟩ rfl (c_X14_put_79 (am_up I1 79 10 ((I1 79 10) - (1 : Int32))) G1 x1 hq1) ?_
            rintro r9 I9 G9 P9 ⟨e0, e1, e2, e3⟩
            rw [e0, e1, e2, e3]
            show am_V X 0 0 _ _ ad (64, [(0, .ref 79), (1, .int x1), (2, .int x2)], [], (g_X14_put_79 (am_up I1 79 10 ((I1 79 10) - (1 : Int32))) G1 x1), G1, (gP 123))
            refine am_blk 64 [(.aload_n 0, 1, 0, 0, .null), (.bipush (41), 2, 0, 0, .int (41 : Int32))] (67, [(0, .ref 79), (1, .int x1), (2, .int x2)], [.int (41 : Int32), .ref 79], (g_X14_put_79 (am_up I1 79 10 ((I1 79 10) - (1 : Int32))) G1 x1), G1, (gP 123)) (True) hX hi (by decide +kernel) rfl trivial ?_
            obtain ⟨r3, I3, G3, hc, h⟩ := rb_some h
            refine am_callV hX hi (M := mX14_eatSign) (idx := 151) (d' := 3) (b := 79) (ci := 12) (As := [.int (41 : Int32)]) (rest := []) mkX14_eatSign miX14_eatSign mvX14_eatSign (by decide +kernel) (by decide +kernel) rfl (by decide +kernel) rfl ⟨by omega, by decide, Nat.le_of_ble_eq_true rfl⟩ rfl (c_X14_eatSign_79 (g_X14_put_79 (am_up I1 79 10 ((I1 79 10) - (1 : Int32))) G1 x1) G1 (41 : Int32) hc) ?_
            rintro r9 I9 G9 P9 ⟨e0, e1, e2, e3⟩
            rw [e0, e1, e2, e3]
            show am_V X 0 0 _ _ ad (70, [(0, .ref 79), (1, .int x1), (2, .int x2)], [.int r3], I3, G3, (gP 123))
            obtain ⟨gb, h⟩ := rg_some h
            cases h
            refine am_iret hX hi rfl (by rcases gb with gb | gb <;> rw [gb] <;> rfl) (by decide +kernel) ?_
            exact ⟨rfl, rfl, rfl, rfl⟩
        · rw [if_neg c24] at h
          refine am_blk 27 [(.aload_n 0, 1, 0, 0, .null), (.bipush (44), 2, 0, 0, .int (44 : Int32))] (30, [(0, .ref 79), (1, .int x1), (2, .int x2)], [.int (44 : Int32), .ref 79], I1, G1, (gP 123)) (True) hX hi (by decide +kernel) rfl trivial ?_
          obtain ⟨r4, I4, G4, hc, h⟩ := rb_some h
          refine am_callV hX hi (M := mX14_eatSign) (idx := 151) (d' := 3) (b := 79) (ci := 12) (As := [.int (44 : Int32)]) (rest := []) mkX14_eatSign miX14_eatSign mvX14_eatSign (by decide +kernel) (by decide +kernel) rfl (by decide +kernel) rfl ⟨by omega, by decide, Nat.le_of_ble_eq_true rfl⟩ rfl (c_X14_eatSign_79 I1 G1 (44 : Int32) hc) ?_
          rintro r9 I9 G9 P9 ⟨e0, e1, e2, e3⟩
          rw [e0, e1, e2, e3]
          show am_V X 0 0 _ _ ad (33, [(0, .ref 79), (1, .int x1), (2, .int x2)], [.int r4], I4, G4, (gP 123))
          refine am_if_eq (tgt := 43) hX hi (off := (10)) (by decide +kernel) (by decide) (fun c33 => ?_) (fun c33 => ?_)
          · rw [if_pos c33] at h
            refine am_blk 43 [(.iconst (0), 1, 0, 0, .int (0 : Int32))] (44, [(0, .ref 79), (1, .int x1), (2, .int x2)], [.int (0 : Int32)], I4, G4, (gP 123)) (True) hX hi (by decide +kernel) rfl trivial ?_
            cases h
            refine am_iret hX hi rfl (by first | rfl | decide | (simp [narrow]; done)) (by decide +kernel) ?_
            exact ⟨rfl, rfl, rfl, rfl⟩
          · rw [if_neg c33] at h
            refine am_blk 36 [(.aload_n 0, 1, 0, 0, .null)] (37, [(0, .ref 79), (1, .int x1), (2, .int x2)], [.ref 79], I4, G4, (gP 123)) (True) hX hi (by decide +kernel) rfl trivial ?_
            obtain ⟨r5, I5, G5, hc, h⟩ := rb_some h
            refine am_callV hX hi (M := mX14_isSum) (idx := 168) (d' := (8 + n9)) (b := 79) (ci := 12) (As := []) (rest := []) mkX14_isSum miX14_isSum mvX14_isSum (by decide +kernel) (by decide +kernel) rfl (by decide +kernel) rfl ⟨by omega, by decide, Nat.le_of_ble_eq_true rfl⟩ rfl (h3 I4 G4  _ hc) ?_
            rintro r9 I9 G9 P9 ⟨e0, e1, e2, e3⟩
            rw [e0, e1, e2, e3]
            show am_V X 0 0 _ _ ad (40, [(0, .ref 79), (1, .int x1), (2, .int x2)], [.int r5], I5, G5, (gP 123))
            refine am_if_ne (tgt := 45) hX hi (off := (5)) (by decide +kernel) (by decide) (fun c40 => ?_) (fun c40 => ?_)
            · rw [if_neg c40] at h
              refine am_blk 45 [(.aload_n 0, 1, 0, 0, .null), (.dup, 1, 0, 0, .null), (.getfield 190, 3, 12, 10, .null), (.iconst (1), 1, 0, 0, .int (1 : Int32)), (.isub, 1, 0, 0, .null), (.putfield 190, 3, 12, 10, .null), (.iload_n 2, 1, 2, 0, .null)] (56, [(0, .ref 79), (1, .int x1), (2, .int x2)], [.int x2], (am_up I5 79 10 ((I5 79 10) - (1 : Int32))), G5, (gP 123)) (True) hX hi (by decide +kernel) rfl trivial ?_
              refine am_if_eq (tgt := 64) hX hi (off := (8)) (by decide +kernel) (by decide) (fun c56 => ?_) (fun c56 => ?_)
              · rw [if_pos c56] at h
                refine am_blk 64 [(.aload_n 0, 1, 0, 0, .null), (.bipush (41), 2, 0, 0, .int (41 : Int32))] (67, [(0, .ref 79), (1, .int x1), (2, .int x2)], [.int (41 : Int32), .ref 79], (am_up I5 79 10 ((I5 79 10) - (1 : Int32))), G5, (gP 123)) (True) hX hi (by decide +kernel) rfl trivial ?_
                obtain ⟨r6, I6, G6, hc, h⟩ := rb_some h
                refine am_callV hX hi (M := mX14_eatSign) (idx := 151) (d' := 3) (b := 79) (ci := 12) (As := [.int (41 : Int32)]) (rest := []) mkX14_eatSign miX14_eatSign mvX14_eatSign (by decide +kernel) (by decide +kernel) rfl (by decide +kernel) rfl ⟨by omega, by decide, Nat.le_of_ble_eq_true rfl⟩ rfl (c_X14_eatSign_79 (am_up I5 79 10 ((I5 79 10) - (1 : Int32))) G5 (41 : Int32) hc) ?_
                rintro r9 I9 G9 P9 ⟨e0, e1, e2, e3⟩
                rw [e0, e1, e2, e3]
                show am_V X 0 0 _ _ ad (70, [(0, .ref 79), (1, .int x1), (2, .int x2)], [.int r6], I6, G6, (gP 123))
                obtain ⟨gb, h⟩ := rg_some h
                cases h
                refine am_iret hX hi rfl (by rcases gb with gb | gb <;> rw [gb] <;> rfl) (by decide +kernel) ?_
                exact ⟨rfl, rfl, rfl, rfl⟩
              · rw [if_neg c56] at h
                refine am_blk 59 [(.aload_n 0, 1, 0, 0, .null), (.iload_n 1, 1, 1, 0, .null)] (61, [(0, .ref 79), (1, .int x1), (2, .int x2)], [.int x1, .ref 79], (am_up I5 79 10 ((I5 79 10) - (1 : Int32))), G5, (gP 123)) (True) hX hi (by decide +kernel) rfl trivial ?_
                obtain ⟨hq1, h⟩ := rg_some h
                refine am_callV hX hi (M := mX14_put) (idx := 183) (d' := 1) (b := 79) (ci := 12) (As := [.int x1]) (rest := []) mkX14_put miX14_put mvX14_put (by decide +kernel) (by decide +kernel) rfl (by decide +kernel) rfl ⟨by omega, by decide, Nat.le_of_ble_eq_true rfl⟩ rfl (c_X14_put_79 (am_up I5 79 10 ((I5 79 10) - (1 : Int32))) G5 x1 hq1) ?_
                rintro r9 I9 G9 P9 ⟨e0, e1, e2, e3⟩
                rw [e0, e1, e2, e3]
                show am_V X 0 0 _ _ ad (64, [(0, .ref 79), (1, .int x1), (2, .int x2)], [], (g_X14_put_79 (am_up I5 79 10 ((I5 79 10) - (1 : Int32))) G5 x1), G5, (gP 123))
                refine am_blk 64 [(.aload_n 0, 1, 0, 0, .null), (.bipush (41), 2, 0, 0, .int (41 : Int32))] (67, [(0, .ref 79), (1, .int x1), (2, .int x2)], [.int (41 : Int32), .ref 79], (g_X14_put_79 (am_up I5 79 10 ((I5 79 10) - (1 : Int32))) G5 x1), G5, (gP 123)) (True) hX hi (by decide +kernel) rfl trivial ?_
                obtain ⟨r7, I7, G7, hc, h⟩ := rb_some h
                refine am_callV hX hi (M := mX14_eatSign) (idx := 151) (d' := 3) (b := 79) (ci := 12) (As := [.int (41 : Int32)]) (rest := []) mkX14_eatSign miX14_eatSign mvX14_eatSign (by decide +kernel) (by decide +kernel) rfl (by decide +kernel) rfl ⟨by omega, by decide, Nat.le_of_ble_eq_true rfl⟩ rfl (c_X14_eatSign_79 (g_X14_put_79 (am_up I5 79 10 ((I5 79 10) - (1 : Int32))) G5 x1) G5 (41 : Int32) hc) ?_
                rintro r9 I9 G9 P9 ⟨e0, e1, e2, e3⟩
                rw [e0, e1, e2, e3]
                show am_V X 0 0 _ _ ad (70, [(0, .ref 79), (1, .int x1), (2, .int x2)], [.int r7], I7, G7, (gP 123))
                obtain ⟨gb, h⟩ := rg_some h
                cases h
                refine am_iret hX hi rfl (by rcases gb with gb | gb <;> rw [gb] <;> rfl) (by decide +kernel) ?_
                exact ⟨rfl, rfl, rfl, rfl⟩
            · rw [if_pos c40] at h
              refine am_blk 43 [(.iconst (0), 1, 0, 0, .int (0 : Int32))] (44, [(0, .ref 79), (1, .int x1), (2, .int x2)], [.int (0 : Int32)], I5, G5, (gP 123)) (True) hX hi (by decide +kernel) rfl trivial ?_
              cases h
              refine am_iret hX hi rfl (by first | rfl | decide | (simp [narrow]; done)) (by decide +kernel) ?_
              exact ⟨rfl, rfl, rfl, rfl⟩
