theorem am_hd133 : (1 : Nat) = 1 := rfl  -- methods with loops, and those that call them, further on
noncomputable def L_X6_readValue_28 (cal : Nat → am_I → am_G → Int32 → Int32 → Option (Unit × am_I × am_G)) (n0 : Nat) (hd : Nat) (I : am_I) (G : am_G) (v1 : Int32) (v2 : Int32) : Option (Unit × am_I × am_G) := match n0 with
  | 0 => none
  | n + 1 => match hd with
    | _ => some ((), (g_X6_refuse_28 I G ), G)
theorem L_X6_readValue_28_0 (cal : Nat → am_I → am_G → Int32 → Int32 → Option (Unit × am_I × am_G)) (n : Nat) (I : am_I) (G : am_G) (v1 : Int32) (v2 : Int32) : L_X6_readValue_28 cal (n + 1) 0 I G v1 v2 = some ((), (g_X6_refuse_28 I G ), G) := rfl
theorem L_X6_readValue_28_z (cal : Nat → am_I → am_G → Int32 → Int32 → Option (Unit × am_I × am_G)) (h : Nat) (I : am_I) (G : am_G) (v1 : Int32) (v2 : Int32) : L_X6_readValue_28 cal 0 h I G v1 v2 = none := rfl
noncomputable def R_X6_readValue_28 (cal : Nat → am_I → am_G → Int32 → Int32 → Option (Unit × am_I × am_G)) (I : am_I) (G : am_G) (x1 : Int32) : Option (Unit × am_I × am_G) := (if (I 28 6) = (31 : Int32) then (if x1 < (8 : Int32) then (if (I 28 6) = (6 : Int32) then rb (R_X6_readKnownName_28_47 (g_X6_advance_28 I G ) G ) (fun r1 I1 G1 => some ((), (g_X3_add_38 I1 G1 (I 28 6) r1), G1)) else if (I 28 6) = (9 : Int32) then rb (R_X6_readKnownName_28_49 (g_X6_advance_28 I G ) G ) (fun r2 I2 G2 => some ((), (g_X3_add_38 I2 G2 (I 28 6) r2), G2)) else if (I 28 6) = (15 : Int32) then some ((), (g_X3_add_38 (g_X6_advance_28 I G ) G (I 28 6) (0 : Int32)), G) else if (I 28 6) = (16 : Int32) then rb (R_X6_readKnownName_28_51 (g_X6_advance_28 I G ) G ) (fun r3 I3 G3 => some ((), (g_X3_add_38 I3 G3 (I 28 6) r3), G3)) else if (I 28 6) = (17 : Int32) then rb (cal 6 (g_X6_advance_28 I G ) G x1 (0 : Int32)) (fun r4 I4 G4 => some ((), (g_X3_add_38 I4 G4 (I 28 6) (0 : Int32)), G4)) else if (I 28 6) = (22 : Int32) then rb (cal 6 (g_X6_advance_28 I G ) G x1 (0 : Int32)) (fun r5 I5 G5 => some ((), (g_X3_add_38 I5 G5 (I 28 6) (0 : Int32)), G5)) else if (I 28 6) = (23 : Int32) then rb (cal 6 (g_X6_advance_28 I G ) G x1 (0 : Int32)) (fun r6 I6 G6 => some ((), (g_X3_add_38 I6 G6 (I 28 6) (0 : Int32)), G6)) else if (I 28 6) = (24 : Int32) then rb (cal 3 (g_X6_advance_28 I G ) G (x1 + (1 : Int32)) (0 : Int32)) (fun r7 I7 G7 => some ((), (g_X6_expect_28 I7 G7 (25 : Int32)), G7)) else if (I 28 6) = (31 : Int32) then rb (cal 5 (g_X6_advance_28 I G ) G (x1 + (1 : Int32)) (0 : Int32)) (fun r8 I8 G8 => some ((), (g_X3_add_38 I8 G8 (43 : Int32) (0 : Int32)), G8)) else if (I 28 6) = (40 : Int32) then some ((), (g_X6_advance_28 (g_X3_add_38 I G (I 28 6) (f_X9_contentAt_1 I G (I 28 5)).toInt32) G ), G) else L_X6_readValue_28 cal FU 0 I G x1 (I 28 6)) else some ((), (g_X6_refuse_28 I G ), G)) else (if (I 28 6) = (24 : Int32) then (if x1 < (8 : Int32) then (if (I 28 6) = (6 : Int32) then rb (R_X6_readKnownName_28_47 (g_X6_advance_28 I G ) G ) (fun r17 I17 G17 => some ((), (g_X3_add_38 I17 G17 (I 28 6) r17), G17)) else if (I 28 6) = (9 : Int32) then rb (R_X6_readKnownName_28_49 (g_X6_advance_28 I G ) G ) (fun r18 I18 G18 => some ((), (g_X3_add_38 I18 G18 (I 28 6) r18), G18)) else if (I 28 6) = (15 : Int32) then some ((), (g_X3_add_38 (g_X6_advance_28 I G ) G (I 28 6) (0 : Int32)), G) else if (I 28 6) = (16 : Int32) then rb (R_X6_readKnownName_28_51 (g_X6_advance_28 I G ) G ) (fun r19 I19 G19 => some ((), (g_X3_add_38 I19 G19 (I 28 6) r19), G19)) else if (I 28 6) = (17 : Int32) then rb (cal 6 (g_X6_advance_28 I G ) G x1 (0 : Int32)) (fun r20 I20 G20 => some ((), (g_X3_add_38 I20 G20 (I 28 6) (0 : Int32)), G20)) else if (I 28 6) = (22 : Int32) then rb (cal 6 (g_X6_advance_28 I G ) G x1 (0 : Int32)) (fun r21 I21 G21 => some ((), (g_X3_add_38 I21 G21 (I 28 6) (0 : Int32)), G21)) else if (I 28 6) = (23 : Int32) then rb (cal 6 (g_X6_advance_28 I G ) G x1 (0 : Int32)) (fun r22 I22 G22 => some ((), (g_X3_add_38 I22 G22 (I 28 6) (0 : Int32)), G22)) else if (I 28 6) = (24 : Int32) then rb (cal 3 (g_X6_advance_28 I G ) G (x1 + (1 : Int32)) (0 : Int32)) (fun r23 I23 G23 => some ((), (g_X6_expect_28 I23 G23 (25 : Int32)), G23)) else if (I 28 6) = (31 : Int32) then rb (cal 5 (g_X6_advance_28 I G ) G (x1 + (1 : Int32)) (0 : Int32)) (fun r24 I24 G24 => some ((), (g_X3_add_38 I24 G24 (43 : Int32) (0 : Int32)), G24)) else if (I 28 6) = (40 : Int32) then some ((), (g_X6_advance_28 (g_X3_add_38 I G (I 28 6) (f_X9_contentAt_1 I G (I 28 5)).toInt32) G ), G) else L_X6_readValue_28 cal FU 0 I G x1 (I 28 6)) else some ((), (g_X6_refuse_28 I G ), G)) else (if (I 28 6) = (6 : Int32) then rb (R_X6_readKnownName_28_47 (g_X6_advance_28 I G ) G ) (fun r9 I9 G9 => some ((), (g_X3_add_38 I9 G9 (I 28 6) r9), G9)) else if (I 28 6) = (9 : Int32) then rb (R_X6_readKnownName_28_49 (g_X6_advance_28 I G ) G ) (fun r10 I10 G10 => some ((), (g_X3_add_38 I10 G10 (I 28 6) r10), G10)) else if (I 28 6) = (15 : Int32) then some ((), (g_X3_add_38 (g_X6_advance_28 I G ) G (I 28 6) (0 : Int32)), G) else if (I 28 6) = (16 : Int32) then rb (R_X6_readKnownName_28_51 (g_X6_advance_28 I G ) G ) (fun r11 I11 G11 => some ((), (g_X3_add_38 I11 G11 (I 28 6) r11), G11)) else if (I 28 6) = (17 : Int32) then rb (cal 6 (g_X6_advance_28 I G ) G x1 (0 : Int32)) (fun r12 I12 G12 => some ((), (g_X3_add_38 I12 G12 (I 28 6) (0 : Int32)), G12)) else if (I 28 6) = (22 : Int32) then rb (cal 6 (g_X6_advance_28 I G ) G x1 (0 : Int32)) (fun r13 I13 G13 => some ((), (g_X3_add_38 I13 G13 (I 28 6) (0 : Int32)), G13)) else if (I 28 6) = (23 : Int32) then rb (cal 6 (g_X6_advance_28 I G ) G x1 (0 : Int32)) (fun r14 I14 G14 => some ((), (g_X3_add_38 I14 G14 (I 28 6) (0 : Int32)), G14)) else if (I 28 6) = (24 : Int32) then rb (cal 3 (g_X6_advance_28 I G ) G (x1 + (1 : Int32)) (0 : Int32)) (fun r15 I15 G15 => some ((), (g_X6_expect_28 I15 G15 (25 : Int32)), G15)) else if (I 28 6) = (31 : Int32) then rb (cal 5 (g_X6_advance_28 I G ) G (x1 + (1 : Int32)) (0 : Int32)) (fun r16 I16 G16 => some ((), (g_X3_add_38 I16 G16 (43 : Int32) (0 : Int32)), G16)) else if (I 28 6) = (40 : Int32) then some ((), (g_X6_advance_28 (g_X3_add_38 I G (I 28 6) (f_X9_contentAt_1 I G (I 28 5)).toInt32) G ), G) else L_X6_readValue_28 cal FU 0 I G x1 (I 28 6))))
set_option maxRecDepth 20000 in
set_option maxHeartbeats 4000000 in
theorem l_X6_readValue_28 {cal : Nat → am_I → am_G → Int32 → Int32 → Option (Unit × am_I × am_G)} {n9 : Nat} (h0 : ∀ (rd : Nat) (I : am_I) (G : am_G) (a : Int32) (out : Unit × am_I × am_G), cal 0 I G a (0 : Int32) = some out → am_Ct mX6_readTest (8 + n9) gS [.ref 28, .int a] I G (gP rd) (pV out.2.1 out.2.2 (gP rd))) (h1 : ∀ (rd : Nat) (I : am_I) (G : am_G) (a : Int32) (out : Unit × am_I × am_G), cal 1 I G a (0 : Int32) = some out → am_Ct mX6_readBoth (8 + n9) gS [.ref 28, .int a] I G (gP rd) (pV out.2.1 out.2.2 (gP rd))) (h2 : ∀ (rd : Nat) (I : am_I) (G : am_G) (a : Int32) (out : Unit × am_I × am_G), cal 2 I G a (0 : Int32) = some out → am_Ct mX6_readSingle (8 + n9) gS [.ref 28, .int a] I G (gP rd) (pV out.2.1 out.2.2 (gP rd))) (h3 : ∀ (rd : Nat) (I : am_I) (G : am_G) (a : Int32) (out : Unit × am_I × am_G), cal 3 I G a (0 : Int32) = some out → am_Ct mX6_readSum (8 + n9) gS [.ref 28, .int a] I G (gP rd) (pV out.2.1 out.2.2 (gP rd))) (h4 : ∀ (rd : Nat) (I : am_I) (G : am_G) (a : Int32) (out : Unit × am_I × am_G), cal 4 I G a (0 : Int32) = some out → am_Ct mX6_readProduct (8 + n9) gS [.ref 28, .int a] I G (gP rd) (pV out.2.1 out.2.2 (gP rd))) (h5 : ∀ (rd : Nat) (I : am_I) (G : am_G) (a : Int32) (out : Unit × am_I × am_G), cal 5 I G a (0 : Int32) = some out → am_Ct mX6_readValue (8 + n9) gS [.ref 28, .int a] I G (gP rd) (pV out.2.1 out.2.2 (gP rd))) (h6 : ∀ (rd : Nat) (I : am_I) (G : am_G) (a : Int32) (out : Unit × am_I × am_G), cal 6 I G a (0 : Int32) = some out → am_Ct mX6_readPair (8 + n9) gS [.ref 28, .int a] I G (gP rd) (pV out.2.1 out.2.2 (gP rd))) (rd : Nat) {X : am_X} {ad : Nat → Nat} (hX : am_okz X ad) (hi : am_info X 4 cX6_readValue 3 false none (8 + n9 + 1)) (n : Nat) : (∀ (I : am_I) (G : am_G) (v1 : Int32) (v2 : Int32) (out : Unit × am_I × am_G), L_X6_readValue_28 cal n 0 I G v1 v2 = some out → am_V X 0 0 (am_Rt X gS ad (pV out.2.1 out.2.2 (gP rd))) gS ad (331, [(0, .ref 28), (1, .int v1), (2, .int v2)], [], I, G, (gP rd))) := by
  induction n with
  | zero => exact fun I G v1 v2 out h => by rw [L_X6_readValue_28_z] at h; cases h
  | succ n ih =>
    · intro I G v1 v2 out h
      rw [L_X6_readValue_28_0] at h
      refine am_blk 331 [(.aload_n 0, 1, 0, 0, .null)] (332, [(0, .ref 28), (1, .int v1), (2, .int v2)], [.ref 28], I, G, (gP rd)) (True) hX hi (by decide +kernel) rfl trivial ?_
      refine am_callV hX hi (M := mX6_refuse) (idx := 70) (d' := 2) (b := 28) (ci := 4) (As := []) (rest := []) mkX6_refuse miX6_refuse mvX6_refuse (by decide +kernel) (by decide +kernel) rfl (by decide +kernel) rfl ⟨by omega, by decide, Nat.le_of_ble_eq_true rfl⟩ rfl (c_X6_refuse_28 _ I G ) ?_
      rintro rz Iz Gz Pz ⟨e0, e1, e2, e3⟩
      rw [e0, e1, e2, e3]
      show am_V X 0 0 _ _ ad (335, [(0, .ref 28), (1, .int v1), (2, .int v2)], [], (g_X6_refuse_28 I G ), G, (gP rd))
      cases h
      refine am_vret hX hi rfl (by decide +kernel) ?_
      exact ⟨rfl, rfl, rfl, rfl⟩
set_option maxRecDepth 20000 in
set_option maxHeartbeats 4000000 in
theorem c_X6_readValue_28 {cal : Nat → am_I → am_G → Int32 → Int32 → Option (Unit × am_I × am_G)} {n9 : Nat} (h0 : ∀ (rd : Nat) (I : am_I) (G : am_G) (a : Int32) (out : Unit × am_I × am_G), cal 0 I G a (0 : Int32) = some out → am_Ct mX6_readTest (8 + n9) gS [.ref 28, .int a] I G (gP rd) (pV out.2.1 out.2.2 (gP rd))) (h1 : ∀ (rd : Nat) (I : am_I) (G : am_G) (a : Int32) (out : Unit × am_I × am_G), cal 1 I G a (0 : Int32) = some out → am_Ct mX6_readBoth (8 + n9) gS [.ref 28, .int a] I G (gP rd) (pV out.2.1 out.2.2 (gP rd))) (h2 : ∀ (rd : Nat) (I : am_I) (G : am_G) (a : Int32) (out : Unit × am_I × am_G), cal 2 I G a (0 : Int32) = some out → am_Ct mX6_readSingle (8 + n9) gS [.ref 28, .int a] I G (gP rd) (pV out.2.1 out.2.2 (gP rd))) (h3 : ∀ (rd : Nat) (I : am_I) (G : am_G) (a : Int32) (out : Unit × am_I × am_G), cal 3 I G a (0 : Int32) = some out → am_Ct mX6_readSum (8 + n9) gS [.ref 28, .int a] I G (gP rd) (pV out.2.1 out.2.2 (gP rd))) (h4 : ∀ (rd : Nat) (I : am_I) (G : am_G) (a : Int32) (out : Unit × am_I × am_G), cal 4 I G a (0 : Int32) = some out → am_Ct mX6_readProduct (8 + n9) gS [.ref 28, .int a] I G (gP rd) (pV out.2.1 out.2.2 (gP rd))) (h5 : ∀ (rd : Nat) (I : am_I) (G : am_G) (a : Int32) (out : Unit × am_I × am_G), cal 5 I G a (0 : Int32) = some out → am_Ct mX6_readValue (8 + n9) gS [.ref 28, .int a] I G (gP rd) (pV out.2.1 out.2.2 (gP rd))) (h6 : ∀ (rd : Nat) (I : am_I) (G : am_G) (a : Int32) (out : Unit × am_I × am_G), cal 6 I G a (0 : Int32) = some out → am_Ct mX6_readPair (8 + n9) gS [.ref 28, .int a] I G (gP rd) (pV out.2.1 out.2.2 (gP rd))) (rd : Nat) (I : am_I) (G : am_G) (x1 : Int32) {out : Unit × am_I × am_G} (h : R_X6_readValue_28 cal I G x1 = some out) : am_Ct mX6_readValue (8 + n9 + 1) gS [.ref 28, .int x1] I G (gP rd) (pV out.2.1 out.2.2 (gP rd)) := by
  refine am_ofF (by decide +kernel) rfl (by decide) (by omega) (Nat.le_of_ble_eq_true rfl) (fun X ad hX hi => ?_)
  have hi : am_info X 4 cX6_readValue 3 false none (8 + n9 + 1) := hi
  show am_V X 0 0 _ _ ad (0, [(0, .ref 28), (1, .int x1)], [], I, G, (gP rd))
  unfold R_X6_readValue_28 at h
  refine am_blk 0 [(.aload_n 0, 1, 0, 0, .null), (.getfield 62, 3, 4, 6, .null), (.istore_n 2, 1, 2, 0, .null), (.iload_n 2, 1, 2, 0, .null), (.bipush (31), 2, 0, 0, .int (31 : Int32))] (8, [(0, .ref 28), (1, .int x1), (2, .int (I 28 6))], [.int (31 : Int32), .int (I 28 6)], I, G, (gP rd)) (True) hX hi (by decide +kernel) rfl trivial ?_
  refine am_icmp_eq (tgt := 17) hX hi (off := (9)) (by decide +kernel) (by decide) (fun c8 => ?_) (fun c8 => ?_)
  · rw [if_pos c8] at h
    refine am_blk 17 [(.iload_n 1, 1, 1, 0, .null), (.bipush (8), 2, 0, 0, .int (8 : Int32))] (20, [(0, .ref 28), (1, .int x1), (2, .int (I 28 6))], [.int (8 : Int32), .int x1], I, G, (gP rd)) (True) hX hi (by decide +kernel) rfl trivial ?_
    refine am_icmp_lt (tgt := 28) hX hi (off := (8)) (by decide +kernel) (by decide) (fun c20 => ?_) (fun c20 => ?_)
    · rw [if_pos c20] at h
      refine am_blk 28 [(.iload_n 2, 1, 2, 0, .null)] (29, [(0, .ref 28), (1, .int x1), (2, .int (I 28 6))], [.int (I 28 6)], I, G, (gP rd)) (True) hX hi (by decide +kernel) rfl trivial ?_
      by_cases s29_6 : (I 28 6) = (6 : Int32)
      · rw [if_pos s29_6] at h
        refine am_tsi hX hi (dflt := (302)) (lo := (6)) (hi' := (40)) (offs := #[(204), (302), (302), (204), (302), (302), (302), (302), (302), (185), (204), (231), (302), (302), (302), (302), (231), (231), (282), (302), (302), (302), (302), (302), (302), (255), (302), (302), (302), (302), (302), (302), (302), (302), (155)]) (len := 155) (off := (204)) (tgt := 233) (by decide +kernel) (by rw [s29_6]; decide) (by rw [s29_6]; decide) (by rw [s29_6]; rfl) (by decide) ?_
        refine am_blk 233 [(.aload_n 0, 1, 0, 0, .null)] (234, [(0, .ref 28), (1, .int x1), (2, .int (I 28 6))], [.ref 28], I, G, (gP rd)) (True) hX hi (by decide +kernel) rfl trivial ?_
        refine am_callV hX hi (M := mX6_advance) (idx := 100) (d' := 2) (b := 28) (ci := 4) (As := []) (rest := []) mkX6_advance miX6_advance mvX6_advance (by decide +kernel) (by decide +kernel) rfl (by decide +kernel) rfl ⟨by omega, by decide, Nat.le_of_ble_eq_true rfl⟩ rfl (c_X6_advance_28 _ I G ) ?_
        rintro rz Iz Gz Pz ⟨e0, e1, e2, e3⟩
        rw [e0, e1, e2, e3]
        show am_V X 0 0 _ _ ad (237, [(0, .ref 28), (1, .int x1), (2, .int (I 28 6))], [], (g_X6_advance_28 I G ), G, (gP rd))
        refine am_blk 237 [(.aload_n 0, 1, 0, 0, .null), (.getfield 12, 3, 4, 1, .null), (.getfield 91, 3, 3, 8, .null), (.iload_n 2, 1, 2, 0, .null), (.aload_n 0, 1, 0, 0, .null), (.aload_n 0, 1, 0, 0, .null), (.iload_n 2, 1, 2, 0, .null)] (248, [(0, .ref 28), (1, .int x1), (2, .int (I 28 6))], [.int (I 28 6), .ref 28, .ref 28, .int (I 28 6), .ref 38], (g_X6_advance_28 I G ), G, (gP rd)) (True) hX hi (by decide +kernel) rfl trivial ?_
        refine am_callV hX hi (M := mX6_namesBehind) (idx := 180) (d' := 1) (b := 28) (ci := 4) (As := [.int (I 28 6)]) (rest := [.ref 28, .int (I 28 6), .ref 38]) mkX6_namesBehind miX6_namesBehind mvX6_namesBehind (by decide +kernel) (by decide +kernel) rfl (by decide +kernel) rfl ⟨by omega, by decide, Nat.le_of_ble_eq_true rfl⟩ rfl ((c_namesBehind _ (g_X6_advance_28 I G ) G (I 28 6)).mono (fun r I9 G9 P9 q => by rw [s29_6] at q; exact q)) ?_
        rintro rz Iz Gz Pz ⟨e0, e1, e2, e3⟩
        rw [e0, e1, e2, e3]
        show am_V X 0 0 _ _ ad (251, [(0, .ref 28), (1, .int x1), (2, .int (I 28 6))], [.ref 47, .ref 28, .int (I 28 6), .ref 38], (g_X6_advance_28 I G ), G, (gP rd))
        obtain ⟨r1, I1, G1, hc, h⟩ := rb_some h
        refine am_callV hX hi (M := mX6_readKnownName) (idx := 150) (d' := 3) (b := 28) (ci := 4) (As := [.ref 47]) (rest := [.int (I 28 6), .ref 38]) mkX6_readKnownName miX6_readKnownName mvX6_readKnownName (by decide +kernel) (by decide +kernel) rfl (by decide +kernel) rfl ⟨by omega, by decide, Nat.le_of_ble_eq_true rfl⟩ rfl (c_X6_readKnownName_28_47 _ (g_X6_advance_28 I G ) G  hc) ?_
        rintro rz Iz Gz Pz ⟨e0, e1, e2, e3⟩
        rw [e0, e1, e2, e3]
        show am_V X 0 0 _ _ ad (254, [(0, .ref 28), (1, .int x1), (2, .int (I 28 6))], [.int r1, .int (I 28 6), .ref 38], I1, G1, (gP rd))
        refine am_callV hX hi (M := mX3_add) (idx := 161) (d' := 2) (b := 38) (ci := 1) (As := [.int (I 28 6), .int r1]) (rest := []) mkX3_add miX3_add mvX3_add (by decide +kernel) (by decide +kernel) rfl (by decide +kernel) rfl ⟨by omega, by decide, Nat.le_of_ble_eq_true rfl⟩ rfl (c_X3_add_38 _ I1 G1 (I 28 6) r1) ?_
        rintro rz Iz Gz Pz ⟨e0, e1, e2, e3⟩
        rw [e0, e1, e2, e3]
        show am_V X 0 0 _ _ ad (257, [(0, .ref 28), (1, .int x1), (2, .int (I 28 6))], [], (g_X3_add_38 I1 G1 (I 28 6) r1), G1, (gP rd))
        refine am_blk 257 [(.goto (78), 3, 0, 335, .null)] (335, [(0, .ref 28), (1, .int x1), (2, .int (I 28 6))], [], (g_X3_add_38 I1 G1 (I 28 6) r1), G1, (gP rd)) (True) hX hi (by decide +kernel) rfl trivial ?_
        cases h
        refine am_vret hX hi rfl (by decide +kernel) ?_
        exact ⟨rfl, rfl, rfl, rfl⟩
      rw [if_neg s29_6] at h
      by_cases s29_9 : (I 28 6) = (9 : Int32)
      · rw [if_pos s29_9] at h
        refine am_tsi hX hi (dflt := (302)) (lo := (6)) (hi' := (40)) (offs := #[(204), (302), (302), (204), (302), (302), (302), (302), (302), (185), (204), (231), (302), (302), (302), (302), (231), (231), (282), (302), (302), (302), (302), (302), (302), (255), (302), (302), (302), (302), (302), (302), (302), (302), (155)]) (len := 155) (off := (204)) (tgt := 233) (by decide +kernel) (by rw [s29_9]; decide) (by rw [s29_9]; decide) (by rw [s29_9]; rfl) (by decide) ?_
        refine am_blk 233 [(.aload_n 0, 1, 0, 0, .null)] (234, [(0, .ref 28), (1, .int x1), (2, .int (I 28 6))], [.ref 28], I, G, (gP rd)) (True) hX hi (by decide +kernel) rfl trivial ?_
        refine am_callV hX hi (M := mX6_advance) (idx := 100) (d' := 2) (b := 28) (ci := 4) (As := []) (rest := []) mkX6_advance miX6_advance mvX6_advance (by decide +kernel) (by decide +kernel) rfl (by decide +kernel) rfl ⟨by omega, by decide, Nat.le_of_ble_eq_true rfl⟩ rfl (c_X6_advance_28 _ I G ) ?_
        rintro rz Iz Gz Pz ⟨e0, e1, e2, e3⟩
        rw [e0, e1, e2, e3]
        show am_V X 0 0 _ _ ad (237, [(0, .ref 28), (1, .int x1), (2, .int (I 28 6))], [], (g_X6_advance_28 I G ), G, (gP rd))
        refine am_blk 237 [(.aload_n 0, 1, 0, 0, .null), (.getfield 12, 3, 4, 1, .null), (.getfield 91, 3, 3, 8, .null), (.iload_n 2, 1, 2, 0, .null), (.aload_n 0, 1, 0, 0, .null), (.aload_n 0, 1, 0, 0, .null), (.iload_n 2, 1, 2, 0, .null)] (248, [(0, .ref 28), (1, .int x1), (2, .int (I 28 6))], [.int (I 28 6), .ref 28, .ref 28, .int (I 28 6), .ref 38], (g_X6_advance_28 I G ), G, (gP rd)) (True) hX hi (by decide +kernel) rfl trivial ?_
        refine am_callV hX hi (M := mX6_namesBehind) (idx := 180) (d' := 1) (b := 28) (ci := 4) (As := [.int (I 28 6)]) (rest := [.ref 28, .int (I 28 6), .ref 38]) mkX6_namesBehind miX6_namesBehind mvX6_namesBehind (by decide +kernel) (by decide +kernel) rfl (by decide +kernel) rfl ⟨by omega, by decide, Nat.le_of_ble_eq_true rfl⟩ rfl ((c_namesBehind _ (g_X6_advance_28 I G ) G (I 28 6)).mono (fun r I9 G9 P9 q => by rw [s29_9] at q; exact q)) ?_
        rintro rz Iz Gz Pz ⟨e0, e1, e2, e3⟩
        rw [e0, e1, e2, e3]
        show am_V X 0 0 _ _ ad (251, [(0, .ref 28), (1, .int x1), (2, .int (I 28 6))], [.ref 49, .ref 28, .int (I 28 6), .ref 38], (g_X6_advance_28 I G ), G, (gP rd))
        obtain ⟨r2, I2, G2, hc, h⟩ := rb_some h
        refine am_callV hX hi (M := mX6_readKnownName) (idx := 150) (d' := 3) (b := 28) (ci := 4) (As := [.ref 49]) (rest := [.int (I 28 6), .ref 38]) mkX6_readKnownName miX6_readKnownName mvX6_readKnownName (by decide +kernel) (by decide +kernel) rfl (by decide +kernel) rfl ⟨by omega, by decide, Nat.le_of_ble_eq_true rfl⟩ rfl (c_X6_readKnownName_28_49 _ (g_X6_advance_28 I G ) G  hc) ?_
        rintro rz Iz Gz Pz ⟨e0, e1, e2, e3⟩
        rw [e0, e1, e2, e3]
        show am_V X 0 0 _ _ ad (254, [(0, .ref 28), (1, .int x1), (2, .int (I 28 6))], [.int r2, .int (I 28 6), .ref 38], I2, G2, (gP rd))
        refine am_callV hX hi (M := mX3_add) (idx := 161) (d' := 2) (b := 38) (ci := 1) (As := [.int (I 28 6), .int r2]) (rest := []) mkX3_add miX3_add mvX3_add (by decide +kernel) (by decide +kernel) rfl (by decide +kernel) rfl ⟨by omega, by decide, Nat.le_of_ble_eq_true rfl⟩ rfl (c_X3_add_38 _ I2 G2 (I 28 6) r2) ?_
        rintro rz Iz Gz Pz ⟨e0, e1, e2, e3⟩
        rw [e0, e1, e2, e3]
        show am_V X 0 0 _ _ ad (257, [(0, .ref 28), (1, .int x1), (2, .int (I 28 6))], [], (g_X3_add_38 I2 G2 (I 28 6) r2), G2, (gP rd))
        refine am_blk 257 [(.goto (78), 3, 0, 335, .null)] (335, [(0, .ref 28), (1, .int x1), (2, .int (I 28 6))], [], (g_X3_add_38 I2 G2 (I 28 6) r2), G2, (gP rd)) (True) hX hi (by decide +kernel) rfl trivial ?_
        cases h
        refine am_vret hX hi rfl (by decide +kernel) ?_
        exact ⟨rfl, rfl, rfl, rfl⟩
      rw [if_neg s29_9] at h
      by_cases s29_15 : (I 28 6) = (15 : Int32)
      · rw [if_pos s29_15] at h
        refine am_tsi hX hi (dflt := (302)) (lo := (6)) (hi' := (40)) (offs := #[(204), (302), (302), (204), (302), (302), (302), (302), (302), (185), (204), (231), (302), (302), (302), (302), (231), (231), (282), (302), (302), (302), (302), (302), (302), (255), (302), (302), (302), (302), (302), (302), (302), (302), (155)]) (len := 155) (off := (185)) (tgt := 214) (by decide +kernel) (by rw [s29_15]; decide) (by rw [s29_15]; decide) (by rw [s29_15]; rfl) (by decide) ?_
        refine am_blk 214 [(.aload_n 0, 1, 0, 0, .null)] (215, [(0, .ref 28), (1, .int x1), (2, .int (I 28 6))], [.ref 28], I, G, (gP rd)) (True) hX hi (by decide +kernel) rfl trivial ?_
        refine am_callV hX hi (M := mX6_advance) (idx := 100) (d' := 2) (b := 28) (ci := 4) (As := []) (rest := []) mkX6_advance miX6_advance mvX6_advance (by decide +kernel) (by decide +kernel) rfl (by decide +kernel) rfl ⟨by omega, by decide, Nat.le_of_ble_eq_true rfl⟩ rfl (c_X6_advance_28 _ I G ) ?_
        rintro rz Iz Gz Pz ⟨e0, e1, e2, e3⟩
        rw [e0, e1, e2, e3]
        show am_V X 0 0 _ _ ad (218, [(0, .ref 28), (1, .int x1), (2, .int (I 28 6))], [], (g_X6_advance_28 I G ), G, (gP rd))
        refine am_blk 218 [(.aload_n 0, 1, 0, 0, .null), (.getfield 12, 3, 4, 1, .null), (.getfield 91, 3, 3, 8, .null), (.iload_n 2, 1, 2, 0, .null), (.iconst (0), 1, 0, 0, .int (0 : Int32))] (227, [(0, .ref 28), (1, .int x1), (2, .int (I 28 6))], [.int (0 : Int32), .int (I 28 6), .ref 38], (g_X6_advance_28 I G ), G, (gP rd)) (True) hX hi (by decide +kernel) rfl trivial ?_
        refine am_callV hX hi (M := mX3_add) (idx := 161) (d' := 2) (b := 38) (ci := 1) (As := [.int (I 28 6), .int (0 : Int32)]) (rest := []) mkX3_add miX3_add mvX3_add (by decide +kernel) (by decide +kernel) rfl (by decide +kernel) rfl ⟨by omega, by decide, Nat.le_of_ble_eq_true rfl⟩ rfl (c_X3_add_38 _ (g_X6_advance_28 I G ) G (I 28 6) (0 : Int32)) ?_
        rintro rz Iz Gz Pz ⟨e0, e1, e2, e3⟩
        rw [e0, e1, e2, e3]
        show am_V X 0 0 _ _ ad (230, [(0, .ref 28), (1, .int x1), (2, .int (I 28 6))], [], (g_X3_add_38 (g_X6_advance_28 I G ) G (I 28 6) (0 : Int32)), G, (gP rd))
        refine am_blk 230 [(.goto (105), 3, 0, 335, .null)] (335, [(0, .ref 28), (1, .int x1), (2, .int (I 28 6))], [], (g_X3_add_38 (g_X6_advance_28 I G ) G (I 28 6) (0 : Int32)), G, (gP rd)) (True) hX hi (by decide +kernel) rfl trivial ?_
        cases h
        refine am_vret hX hi rfl (by decide +kernel) ?_
        exact ⟨rfl, rfl, rfl, rfl⟩
      rw [if_neg s29_15] at h
      by_cases s29_16 : (I 28 6) = (16 : Int32)
      · rw [if_pos s29_16] at h
        refine am_tsi hX hi (dflt := (302)) (lo := (6)) (hi' := (40)) (offs := #[(204), (302), (302), (204), (302), (302), (302), (302), (302), (185), (204), (231), (302), (302), (302), (302), (231), (231), (282), (302), (302), (302), (302), (302), (302), (255), (302), (302), (302), (302), (302), (302), (302), (302), (155)]) (len := 155) (off := (204)) (tgt := 233) (by decide +kernel) (by rw [s29_16]; decide) (by rw [s29_16]; decide) (by rw [s29_16]; rfl) (by decide) ?_
        refine am_blk 233 [(.aload_n 0, 1, 0, 0, .null)] (234, [(0, .ref 28), (1, .int x1), (2, .int (I 28 6))], [.ref 28], I, G, (gP rd)) (True) hX hi (by decide +kernel) rfl trivial ?_
        refine am_callV hX hi (M := mX6_advance) (idx := 100) (d' := 2) (b := 28) (ci := 4) (As := []) (rest := []) mkX6_advance miX6_advance mvX6_advance (by decide +kernel) (by decide +kernel) rfl (by decide +kernel) rfl ⟨by omega, by decide, Nat.le_of_ble_eq_true rfl⟩ rfl (c_X6_advance_28 _ I G ) ?_
        rintro rz Iz Gz Pz ⟨e0, e1, e2, e3⟩
        rw [e0, e1, e2, e3]
        show am_V X 0 0 _ _ ad (237, [(0, .ref 28), (1, .int x1), (2, .int (I 28 6))], [], (g_X6_advance_28 I G ), G, (gP rd))
        refine am_blk 237 [(.aload_n 0, 1, 0, 0, .null), (.getfield 12, 3, 4, 1, .null), (.getfield 91, 3, 3, 8, .null), (.iload_n 2, 1, 2, 0, .null), (.aload_n 0, 1, 0, 0, .null), (.aload_n 0, 1, 0, 0, .null), (.iload_n 2, 1, 2, 0, .null)] (248, [(0, .ref 28), (1, .int x1), (2, .int (I 28 6))], [.int (I 28 6), .ref 28, .ref 28, .int (I 28 6), .ref 38], (g_X6_advance_28 I G ), G, (gP rd)) (True) hX hi (by decide +kernel) rfl trivial ?_
        refine am_callV hX hi (M := mX6_namesBehind) (idx := 180) (d' := 1) (b := 28) (ci := 4) (As := [.int (I 28 6)]) (rest := [.ref 28, .int (I 28 6), .ref 38]) mkX6_namesBehind miX6_namesBehind mvX6_namesBehind (by decide +kernel) (by decide +kernel) rfl (by decide +kernel) rfl ⟨by omega, by decide, Nat.le_of_ble_eq_true rfl⟩ rfl ((c_namesBehind _ (g_X6_advance_28 I G ) G (I 28 6)).mono (fun r I9 G9 P9 q => by rw [s29_16] at q; exact q)) ?_
        rintro rz Iz Gz Pz ⟨e0, e1, e2, e3⟩
        rw [e0, e1, e2, e3]
        show am_V X 0 0 _ _ ad (251, [(0, .ref 28), (1, .int x1), (2, .int (I 28 6))], [.ref 51, .ref 28, .int (I 28 6), .ref 38], (g_X6_advance_28 I G ), G, (gP rd))
        obtain ⟨r3, I3, G3, hc, h⟩ := rb_some h
        refine am_callV hX hi (M := mX6_readKnownName) (idx := 150) (d' := 3) (b := 28) (ci := 4) (As := [.ref 51]) (rest := [.int (I 28 6), .ref 38]) mkX6_readKnownName miX6_readKnownName mvX6_readKnownName (by decide +kernel) (by decide +kernel) rfl (by decide +kernel) rfl ⟨by omega, by decide, Nat.le_of_ble_eq_true rfl⟩ rfl (c_X6_readKnownName_28_51 _ (g_X6_advance_28 I G ) G  hc) ?_
        rintro rz Iz Gz Pz ⟨e0, e1, e2, e3⟩
        rw [e0, e1, e2, e3]
        show am_V X 0 0 _ _ ad (254, [(0, .ref 28), (1, .int x1), (2, .int (I 28 6))], [.int r3, .int (I 28 6), .ref 38], I3, G3, (gP rd))
        refine am_callV hX hi (M := mX3_add) (idx := 161) (d' := 2) (b := 38) (ci := 1) (As := [.int (I 28 6), .int r3]) (rest := []) mkX3_add miX3_add mvX3_add (by decide +kernel) (by decide +kernel) rfl (by decide +kernel) rfl ⟨by omega, by decide, Nat.le_of_ble_eq_true rfl⟩ rfl (c_X3_add_38 _ I3 G3 (I 28 6) r3) ?_
        rintro rz Iz Gz Pz ⟨e0, e1, e2, e3⟩
        rw [e0, e1, e2, e3]
        show am_V X 0 0 _ _ ad (257, [(0, .ref 28), (1, .int x1), (2, .int (I 28 6))], [], (g_X3_add_38 I3 G3 (I 28 6) r3), G3, (gP rd))
        refine am_blk 257 [(.goto (78), 3, 0, 335, .null)] (335, [(0, .ref 28), (1, .int x1), (2, .int (I 28 6))], [], (g_X3_add_38 I3 G3 (I 28 6) r3), G3, (gP rd)) (True) hX hi (by decide +kernel) rfl trivial ?_
        cases h
        refine am_vret hX hi rfl (by decide +kernel) ?_
        exact ⟨rfl, rfl, rfl, rfl⟩
      rw [if_neg s29_16] at h
      by_cases s29_17 : (I 28 6) = (17 : Int32)
      · rw [if_pos s29_17] at h
        refine am_tsi hX hi (dflt := (302)) (lo := (6)) (hi' := (40)) (offs := #[(204), (302), (302), (204), (302), (302), (302), (302), (302), (185), (204), (231), (302), (302), (302), (302), (231), (231), (282), (302), (302), (302), (302), (302), (302), (255), (302), (302), (302), (302), (302), (302), (302), (302), (155)]) (len := 155) (off := (231)) (tgt := 260) (by decide +kernel) (by rw [s29_17]; decide) (by rw [s29_17]; decide) (by rw [s29_17]; rfl) (by decide) ?_
        refine am_blk 260 [(.aload_n 0, 1, 0, 0, .null)] (261, [(0, .ref 28), (1, .int x1), (2, .int (I 28 6))], [.ref 28], I, G, (gP rd)) (True) hX hi (by decide +kernel) rfl trivial ?_
        refine am_callV hX hi (M := mX6_advance) (idx := 100) (d' := 2) (b := 28) (ci := 4) (As := []) (rest := []) mkX6_advance miX6_advance mvX6_advance (by decide +kernel) (by decide +kernel) rfl (by decide +kernel) rfl ⟨by omega, by decide, Nat.le_of_ble_eq_true rfl⟩ rfl (c_X6_advance_28 _ I G ) ?_
        rintro rz Iz Gz Pz ⟨e0, e1, e2, e3⟩
        rw [e0, e1, e2, e3]
        show am_V X 0 0 _ _ ad (264, [(0, .ref 28), (1, .int x1), (2, .int (I 28 6))], [], (g_X6_advance_28 I G ), G, (gP rd))
        refine am_blk 264 [(.aload_n 0, 1, 0, 0, .null), (.iload_n 1, 1, 1, 0, .null)] (266, [(0, .ref 28), (1, .int x1), (2, .int (I 28 6))], [.int x1, .ref 28], (g_X6_advance_28 I G ), G, (gP rd)) (True) hX hi (by decide +kernel) rfl trivial ?_
        obtain ⟨r4, I4, G4, hc, h⟩ := rb_some h
        refine am_callV hX hi (M := mX6_readPair) (idx := 184) (d' := (8 + n9)) (b := 28) (ci := 4) (As := [.int x1]) (rest := []) mkX6_readPair miX6_readPair mvX6_readPair (by decide +kernel) (by decide +kernel) rfl (by decide +kernel) rfl ⟨by omega, by decide, Nat.le_of_ble_eq_true rfl⟩ rfl (h6 _ (g_X6_advance_28 I G ) G x1 _ hc) ?_
        rintro rz Iz Gz Pz ⟨e0, e1, e2, e3⟩
        rw [e0, e1, e2, e3]
        show am_V X 0 0 _ _ ad (269, [(0, .ref 28), (1, .int x1), (2, .int (I 28 6))], [], I4, G4, (gP rd))
        refine am_blk 269 [(.aload_n 0, 1, 0, 0, .null), (.getfield 12, 3, 4, 1, .null), (.getfield 91, 3, 3, 8, .null), (.iload_n 2, 1, 2, 0, .null), (.iconst (0), 1, 0, 0, .int (0 : Int32))] (278, [(0, .ref 28), (1, .int x1), (2, .int (I 28 6))], [.int (0 : Int32), .int (I 28 6), .ref 38], I4, G4, (gP rd)) (True) hX hi (by decide +kernel) rfl trivial ?_
        refine am_callV hX hi (M := mX3_add) (idx := 161) (d' := 2) (b := 38) (ci := 1) (As := [.int (I 28 6), .int (0 : Int32)]) (rest := []) mkX3_add miX3_add mvX3_add (by decide +kernel) (by decide +kernel) rfl (by decide +kernel) rfl ⟨by omega, by decide, Nat.le_of_ble_eq_true rfl⟩ rfl (c_X3_add_38 _ I4 G4 (I 28 6) (0 : Int32)) ?_
        rintro rz Iz Gz Pz ⟨e0, e1, e2, e3⟩
        rw [e0, e1, e2, e3]
        show am_V X 0 0 _ _ ad (281, [(0, .ref 28), (1, .int x1), (2, .int (I 28 6))], [], (g_X3_add_38 I4 G4 (I 28 6) (0 : Int32)), G4, (gP rd))
        refine am_blk 281 [(.goto (54), 3, 0, 335, .null)] (335, [(0, .ref 28), (1, .int x1), (2, .int (I 28 6))], [], (g_X3_add_38 I4 G4 (I 28 6) (0 : Int32)), G4, (gP rd)) (True) hX hi (by decide +kernel) rfl trivial ?_
        cases h
        refine am_vret hX hi rfl (by decide +kernel) ?_
        exact ⟨rfl, rfl, rfl, rfl⟩
      rw [if_neg s29_17] at h
      by_cases s29_22 : (I 28 6) = (22 : Int32)
      · rw [if_pos s29_22] at h
        refine am_tsi hX hi (dflt := (302)) (lo := (6)) (hi' := (40)) (offs := #[(204), (302), (302), (204), (302), (302), (302), (302), (302), (185), (204), (231), (302), (302), (302), (302), (231), (231), (282), (302), (302), (302), (302), (302), (302), (255), (302), (302), (302), (302), (302), (302), (302), (302), (155)]) (len := 155) (off := (231)) (tgt := 260) (by decide +kernel) (by rw [s29_22]; decide) (by rw [s29_22]; decide) (by rw [s29_22]; rfl) (by decide) ?_
        refine am_blk 260 [(.aload_n 0, 1, 0, 0, .null)] (261, [(0, .ref 28), (1, .int x1), (2, .int (I 28 6))], [.ref 28], I, G, (gP rd)) (True) hX hi (by decide +kernel) rfl trivial ?_
        refine am_callV hX hi (M := mX6_advance) (idx := 100) (d' := 2) (b := 28) (ci := 4) (As := []) (rest := []) mkX6_advance miX6_advance mvX6_advance (by decide +kernel) (by decide +kernel) rfl (by decide +kernel) rfl ⟨by omega, by decide, Nat.le_of_ble_eq_true rfl⟩ rfl (c_X6_advance_28 _ I G ) ?_
        rintro rz Iz Gz Pz ⟨e0, e1, e2, e3⟩
        rw [e0, e1, e2, e3]
        show am_V X 0 0 _ _ ad (264, [(0, .ref 28), (1, .int x1), (2, .int (I 28 6))], [], (g_X6_advance_28 I G ), G, (gP rd))
        refine am_blk 264 [(.aload_n 0, 1, 0, 0, .null), (.iload_n 1, 1, 1, 0, .null)] (266, [(0, .ref 28), (1, .int x1), (2, .int (I 28 6))], [.int x1, .ref 28], (g_X6_advance_28 I G ), G, (gP rd)) (True) hX hi (by decide +kernel) rfl trivial ?_
        obtain ⟨r5, I5, G5, hc, h⟩ := rb_some h
        refine am_callV hX hi (M := mX6_readPair) (idx := 184) (d' := (8 + n9)) (b := 28) (ci := 4) (As := [.int x1]) (rest := []) mkX6_readPair miX6_readPair mvX6_readPair (by decide +kernel) (by decide +kernel) rfl (by decide +kernel) rfl ⟨by omega, by decide, Nat.le_of_ble_eq_true rfl⟩ rfl (h6 _ (g_X6_advance_28 I G ) G x1 _ hc) ?_
        rintro rz Iz Gz Pz ⟨e0, e1, e2, e3⟩
        rw [e0, e1, e2, e3]
        show am_V X 0 0 _ _ ad (269, [(0, .ref 28), (1, .int x1), (2, .int (I 28 6))], [], I5, G5, (gP rd))
        refine am_blk 269 [(.aload_n 0, 1, 0, 0, .null), (.getfield 12, 3, 4, 1, .null), (.getfield 91, 3, 3, 8, .null), (.iload_n 2, 1, 2, 0, .null), (.iconst (0), 1, 0, 0, .int (0 : Int32))] (278, [(0, .ref 28), (1, .int x1), (2, .int (I 28 6))], [.int (0 : Int32), .int (I 28 6), .ref 38], I5, G5, (gP rd)) (True) hX hi (by decide +kernel) rfl trivial ?_
        refine am_callV hX hi (M := mX3_add) (idx := 161) (d' := 2) (b := 38) (ci := 1) (As := [.int (I 28 6), .int (0 : Int32)]) (rest := []) mkX3_add miX3_add mvX3_add (by decide +kernel) (by decide +kernel) rfl (by decide +kernel) rfl ⟨by omega, by decide, Nat.le_of_ble_eq_true rfl⟩ rfl (c_X3_add_38 _ I5 G5 (I 28 6) (0 : Int32)) ?_
        rintro rz Iz Gz Pz ⟨e0, e1, e2, e3⟩
        rw [e0, e1, e2, e3]
        show am_V X 0 0 _ _ ad (281, [(0, .ref 28), (1, .int x1), (2, .int (I 28 6))], [], (g_X3_add_38 I5 G5 (I 28 6) (0 : Int32)), G5, (gP rd))
        refine am_blk 281 [(.goto (54), 3, 0, 335, .null)] (335, [(0, .ref 28), (1, .int x1), (2, .int (I 28 6))], [], (g_X3_add_38 I5 G5 (I 28 6) (0 : Int32)), G5, (gP rd)) (True) hX hi (by decide +kernel) rfl trivial ?_
        cases h
        refine am_vret hX hi rfl (by decide +kernel) ?_
        exact ⟨rfl, rfl, rfl, rfl⟩
      rw [if_neg s29_22] at h
      by_cases s29_23 : (I 28 6) = (23 : Int32)
      · rw [if_pos s29_23] at h
        refine am_tsi hX hi (dflt := (302)) (lo := (6)) (hi' := (40)) (offs := #[(204), (302), (302), (204), (302), (302), (302), (302), (302), (185), (204), (231), (302), (302), (302), (302), (231), (231), (282), (302), (302), (302), (302), (302), (302), (255), (302), (302), (302), (302), (302), (302), (302), (302), (155)]) (len := 155) (off := (231)) (tgt := 260) (by decide +kernel) (by rw [s29_23]; decide) (by rw [s29_23]; decide) (by rw [s29_23]; rfl) (by decide) ?_
        refine am_blk 260 [(.aload_n 0, 1, 0, 0, .null)] (261, [(0, .ref 28), (1, .int x1), (2, .int (I 28 6))], [.ref 28], I, G, (gP rd)) (True) hX hi (by decide +kernel) rfl trivial ?_
        refine am_callV hX hi (M := mX6_advance) (idx := 100) (d' := 2) (b := 28) (ci := 4) (As := []) (rest := []) mkX6_advance miX6_advance mvX6_advance (by decide +kernel) (by decide +kernel) rfl (by decide +kernel) rfl ⟨by omega, by decide, Nat.le_of_ble_eq_true rfl⟩ rfl (c_X6_advance_28 _ I G ) ?_
        rintro rz Iz Gz Pz ⟨e0, e1, e2, e3⟩
        rw [e0, e1, e2, e3]
        show am_V X 0 0 _ _ ad (264, [(0, .ref 28), (1, .int x1), (2, .int (I 28 6))], [], (g_X6_advance_28 I G ), G, (gP rd))
        refine am_blk 264 [(.aload_n 0, 1, 0, 0, .null), (.iload_n 1, 1, 1, 0, .null)] (266, [(0, .ref 28), (1, .int x1), (2, .int (I 28 6))], [.int x1, .ref 28], (g_X6_advance_28 I G ), G, (gP rd)) (True) hX hi (by decide +kernel) rfl trivial ?_
        obtain ⟨r6, I6, G6, hc, h⟩ := rb_some h
        refine am_callV hX hi (M := mX6_readPair) (idx := 184) (d' := (8 + n9)) (b := 28) (ci := 4) (As := [.int x1]) (rest := []) mkX6_readPair miX6_readPair mvX6_readPair (by decide +kernel) (by decide +kernel) rfl (by decide +kernel) rfl ⟨by omega, by decide, Nat.le_of_ble_eq_true rfl⟩ rfl (h6 _ (g_X6_advance_28 I G ) G x1 _ hc) ?_
        rintro rz Iz Gz Pz ⟨e0, e1, e2, e3⟩
        rw [e0, e1, e2, e3]
        show am_V X 0 0 _ _ ad (269, [(0, .ref 28), (1, .int x1), (2, .int (I 28 6))], [], I6, G6, (gP rd))
        refine am_blk 269 [(.aload_n 0, 1, 0, 0, .null), (.getfield 12, 3, 4, 1, .null), (.getfield 91, 3, 3, 8, .null), (.iload_n 2, 1, 2, 0, .null), (.iconst (0), 1, 0, 0, .int (0 : Int32))] (278, [(0, .ref 28), (1, .int x1), (2, .int (I 28 6))], [.int (0 : Int32), .int (I 28 6), .ref 38], I6, G6, (gP rd)) (True) hX hi (by decide +kernel) rfl trivial ?_
        refine am_callV hX hi (M := mX3_add) (idx := 161) (d' := 2) (b := 38) (ci := 1) (As := [.int (I 28 6), .int (0 : Int32)]) (rest := []) mkX3_add miX3_add mvX3_add (by decide +kernel) (by decide +kernel) rfl (by decide +kernel) rfl ⟨by omega, by decide, Nat.le_of_ble_eq_true rfl⟩ rfl (c_X3_add_38 _ I6 G6 (I 28 6) (0 : Int32)) ?_
        rintro rz Iz Gz Pz ⟨e0, e1, e2, e3⟩
        rw [e0, e1, e2, e3]
        show am_V X 0 0 _ _ ad (281, [(0, .ref 28), (1, .int x1), (2, .int (I 28 6))], [], (g_X3_add_38 I6 G6 (I 28 6) (0 : Int32)), G6, (gP rd))
        refine am_blk 281 [(.goto (54), 3, 0, 335, .null)] (335, [(0, .ref 28), (1, .int x1), (2, .int (I 28 6))], [], (g_X3_add_38 I6 G6 (I 28 6) (0 : Int32)), G6, (gP rd)) (True) hX hi (by decide +kernel) rfl trivial ?_
        cases h
        refine am_vret hX hi rfl (by decide +kernel) ?_
        exact ⟨rfl, rfl, rfl, rfl⟩
      rw [if_neg s29_23] at h
      by_cases s29_24 : (I 28 6) = (24 : Int32)
      · rw [if_pos s29_24] at h
        refine am_tsi hX hi (dflt := (302)) (lo := (6)) (hi' := (40)) (offs := #[(204), (302), (302), (204), (302), (302), (302), (302), (302), (185), (204), (231), (302), (302), (302), (302), (231), (231), (282), (302), (302), (302), (302), (302), (302), (255), (302), (302), (302), (302), (302), (302), (302), (302), (155)]) (len := 155) (off := (282)) (tgt := 311) (by decide +kernel) (by rw [s29_24]; decide) (by rw [s29_24]; decide) (by rw [s29_24]; rfl) (by decide) ?_
        refine am_blk 311 [(.aload_n 0, 1, 0, 0, .null)] (312, [(0, .ref 28), (1, .int x1), (2, .int (I 28 6))], [.ref 28], I, G, (gP rd)) (True) hX hi (by decide +kernel) rfl trivial ?_
        refine am_callV hX hi (M := mX6_advance) (idx := 100) (d' := 2) (b := 28) (ci := 4) (As := []) (rest := []) mkX6_advance miX6_advance mvX6_advance (by decide +kernel) (by decide +kernel) rfl (by decide +kernel) rfl ⟨by omega, by decide, Nat.le_of_ble_eq_true rfl⟩ rfl (c_X6_advance_28 _ I G ) ?_
        rintro rz Iz Gz Pz ⟨e0, e1, e2, e3⟩
        rw [e0, e1, e2, e3]
        show am_V X 0 0 _ _ ad (315, [(0, .ref 28), (1, .int x1), (2, .int (I 28 6))], [], (g_X6_advance_28 I G ), G, (gP rd))
        refine am_blk 315 [(.aload_n 0, 1, 0, 0, .null), (.iload_n 1, 1, 1, 0, .null), (.iconst (1), 1, 0, 0, .int (1 : Int32)), (.iadd, 1, 0, 0, .null)] (319, [(0, .ref 28), (1, .int x1), (2, .int (I 28 6))], [.int (x1 + (1 : Int32)), .ref 28], (g_X6_advance_28 I G ), G, (gP rd)) (True) hX hi (by decide +kernel) rfl trivial ?_
        obtain ⟨r7, I7, G7, hc, h⟩ := rb_some h
        refine am_callV hX hi (M := mX6_readSum) (idx := 88) (d' := (8 + n9)) (b := 28) (ci := 4) (As := [.int (x1 + (1 : Int32))]) (rest := []) mkX6_readSum miX6_readSum mvX6_readSum (by decide +kernel) (by decide +kernel) rfl (by decide +kernel) rfl ⟨by omega, by decide, Nat.le_of_ble_eq_true rfl⟩ rfl (h3 _ (g_X6_advance_28 I G ) G (x1 + (1 : Int32)) _ hc) ?_
        rintro rz Iz Gz Pz ⟨e0, e1, e2, e3⟩
        rw [e0, e1, e2, e3]
        show am_V X 0 0 _ _ ad (322, [(0, .ref 28), (1, .int x1), (2, .int (I 28 6))], [], I7, G7, (gP rd))
        refine am_blk 322 [(.aload_n 0, 1, 0, 0, .null), (.bipush (25), 2, 0, 0, .int (25 : Int32))] (325, [(0, .ref 28), (1, .int x1), (2, .int (I 28 6))], [.int (25 : Int32), .ref 28], I7, G7, (gP rd)) (True) hX hi (by decide +kernel) rfl trivial ?_
        refine am_callV hX hi (M := mX6_expect) (idx := 109) (d' := 3) (b := 28) (ci := 4) (As := [.int (25 : Int32)]) (rest := []) mkX6_expect miX6_expect mvX6_expect (by decide +kernel) (by decide +kernel) rfl (by decide +kernel) rfl ⟨by omega, by decide, Nat.le_of_ble_eq_true rfl⟩ rfl (c_X6_expect_28 _ I7 G7 (25 : Int32)) ?_
        rintro rz Iz Gz Pz ⟨e0, e1, e2, e3⟩
        rw [e0, e1, e2, e3]
        show am_V X 0 0 _ _ ad (328, [(0, .ref 28), (1, .int x1), (2, .int (I 28 6))], [], (g_X6_expect_28 I7 G7 (25 : Int32)), G7, (gP rd))
        refine am_blk 328 [(.goto (7), 3, 0, 335, .null)] (335, [(0, .ref 28), (1, .int x1), (2, .int (I 28 6))], [], (g_X6_expect_28 I7 G7 (25 : Int32)), G7, (gP rd)) (True) hX hi (by decide +kernel) rfl trivial ?_
        cases h
        refine am_vret hX hi rfl (by decide +kernel) ?_
        exact ⟨rfl, rfl, rfl, rfl⟩
      rw [if_neg s29_24] at h
      by_cases s29_31 : (I 28 6) = (31 : Int32)
      · rw [if_pos s29_31] at h
        refine am_tsi hX hi (dflt := (302)) (lo := (6)) (hi' := (40)) (offs := #[(204), (302), (302), (204), (302), (302), (302), (302), (302), (185), (204), (231), (302), (302), (302), (302), (231), (231), (282), (302), (302), (302), (302), (302), (302), (255), (302), (302), (302), (302), (302), (302), (302), (302), (155)]) (len := 155) (off := (255)) (tgt := 284) (by decide +kernel) (by rw [s29_31]; decide) (by rw [s29_31]; decide) (by rw [s29_31]; rfl) (by decide) ?_
        refine am_blk 284 [(.aload_n 0, 1, 0, 0, .null)] (285, [(0, .ref 28), (1, .int x1), (2, .int (I 28 6))], [.ref 28], I, G, (gP rd)) (True) hX hi (by decide +kernel) rfl trivial ?_
        refine am_callV hX hi (M := mX6_advance) (idx := 100) (d' := 2) (b := 28) (ci := 4) (As := []) (rest := []) mkX6_advance miX6_advance mvX6_advance (by decide +kernel) (by decide +kernel) rfl (by decide +kernel) rfl ⟨by omega, by decide, Nat.le_of_ble_eq_true rfl⟩ rfl (c_X6_advance_28 _ I G ) ?_
        rintro rz Iz Gz Pz ⟨e0, e1, e2, e3⟩
        rw [e0, e1, e2, e3]
        show am_V X 0 0 _ _ ad (288, [(0, .ref 28), (1, .int x1), (2, .int (I 28 6))], [], (g_X6_advance_28 I G ), G, (gP rd))
        refine am_blk 288 [(.aload_n 0, 1, 0, 0, .null), (.iload_n 1, 1, 1, 0, .null), (.iconst (1), 1, 0, 0, .int (1 : Int32)), (.iadd, 1, 0, 0, .null)] (292, [(0, .ref 28), (1, .int x1), (2, .int (I 28 6))], [.int (x1 + (1 : Int32)), .ref 28], (g_X6_advance_28 I G ), G, (gP rd)) (True) hX hi (by decide +kernel) rfl trivial ?_
        obtain ⟨r8, I8, G8, hc, h⟩ := rb_some h
        refine am_callV hX hi (M := mX6_readValue) (idx := 173) (d' := (8 + n9)) (b := 28) (ci := 4) (As := [.int (x1 + (1 : Int32))]) (rest := []) mkX6_readValue miX6_readValue mvX6_readValue (by decide +kernel) (by decide +kernel) rfl (by decide +kernel) rfl ⟨by omega, by decide, Nat.le_of_ble_eq_true rfl⟩ rfl (h5 _ (g_X6_advance_28 I G ) G (x1 + (1 : Int32)) _ hc) ?_
        rintro rz Iz Gz Pz ⟨e0, e1, e2, e3⟩
        rw [e0, e1, e2, e3]
        show am_V X 0 0 _ _ ad (295, [(0, .ref 28), (1, .int x1), (2, .int (I 28 6))], [], I8, G8, (gP rd))
        refine am_blk 295 [(.aload_n 0, 1, 0, 0, .null), (.getfield 12, 3, 4, 1, .null), (.getfield 91, 3, 3, 8, .null), (.bipush (43), 2, 0, 0, .int (43 : Int32)), (.iconst (0), 1, 0, 0, .int (0 : Int32))] (305, [(0, .ref 28), (1, .int x1), (2, .int (I 28 6))], [.int (0 : Int32), .int (43 : Int32), .ref 38], I8, G8, (gP rd)) (True) hX hi (by decide +kernel) rfl trivial ?_
        refine am_callV hX hi (M := mX3_add) (idx := 161) (d' := 2) (b := 38) (ci := 1) (As := [.int (43 : Int32), .int (0 : Int32)]) (rest := []) mkX3_add miX3_add mvX3_add (by decide +kernel) (by decide +kernel) rfl (by decide +kernel) rfl ⟨by omega, by decide, Nat.le_of_ble_eq_true rfl⟩ rfl (c_X3_add_38 _ I8 G8 (43 : Int32) (0 : Int32)) ?_
        rintro rz Iz Gz Pz ⟨e0, e1, e2, e3⟩
        rw [e0, e1, e2, e3]
        show am_V X 0 0 _ _ ad (308, [(0, .ref 28), (1, .int x1), (2, .int (I 28 6))], [], (g_X3_add_38 I8 G8 (43 : Int32) (0 : Int32)), G8, (gP rd))
        refine am_blk 308 [(.goto (27), 3, 0, 335, .null)] (335, [(0, .ref 28), (1, .int x1), (2, .int (I 28 6))], [], (g_X3_add_38 I8 G8 (43 : Int32) (0 : Int32)), G8, (gP rd)) (True) hX hi (by decide +kernel) rfl trivial ?_
        cases h
        refine am_vret hX hi rfl (by decide +kernel) ?_
        exact ⟨rfl, rfl, rfl, rfl⟩
      rw [if_neg s29_31] at h
      by_cases s29_40 : (I 28 6) = (40 : Int32)
      · rw [if_pos s29_40] at h
        refine am_tsi hX hi (dflt := (302)) (lo := (6)) (hi' := (40)) (offs := #[(204), (302), (302), (204), (302), (302), (302), (302), (302), (185), (204), (231), (302), (302), (302), (302), (231), (231), (282), (302), (302), (302), (302), (302), (302), (255), (302), (302), (302), (302), (302), (302), (302), (302), (155)]) (len := 155) (off := (155)) (tgt := 184) (by decide +kernel) (by rw [s29_40]; decide) (by rw [s29_40]; decide) (by rw [s29_40]; rfl) (by decide) ?_
        refine am_blk 184 [(.aload_n 0, 1, 0, 0, .null), (.getfield 12, 3, 4, 1, .null), (.getfield 91, 3, 3, 8, .null), (.iload_n 2, 1, 2, 0, .null), (.aload_n 0, 1, 0, 0, .null), (.getfield 33, 3, 4, 0, .null), (.aload_n 0, 1, 0, 0, .null), (.getfield 55, 3, 4, 5, .null)] (200, [(0, .ref 28), (1, .int x1), (2, .int (I 28 6))], [.int (I 28 5), .ref 1, .int (I 28 6), .ref 38], I, G, (gP rd)) (True) hX hi (by decide +kernel) rfl trivial ?_
        refine am_callV hX hi (M := mX9_contentAt) (idx := 176) (d' := 1) (b := 1) (ci := 7) (As := [.int (I 28 5)]) (rest := [.int (I 28 6), .ref 38]) mkX9_contentAt miX9_contentAt mvX9_contentAt (by decide +kernel) (by decide +kernel) rfl (by decide +kernel) rfl ⟨by omega, by decide, Nat.le_of_ble_eq_true rfl⟩ rfl (c_X9_contentAt_1 _ I G (I 28 5)) ?_
        rintro rz Iz Gz Pz ⟨e0, e1, e2, e3⟩
        rw [e0, e1, e2, e3]
        show am_V X 0 0 _ _ ad (203, [(0, .ref 28), (1, .int x1), (2, .int (I 28 6))], [.long (f_X9_contentAt_1 I G (I 28 5)), .int (I 28 6), .ref 38], I, G, (gP rd))
        refine am_blk 203 [(.l2i, 1, 0, 0, .null)] (204, [(0, .ref 28), (1, .int x1), (2, .int (I 28 6))], [.int (f_X9_contentAt_1 I G (I 28 5)).toInt32, .int (I 28 6), .ref 38], I, G, (gP rd)) (True) hX hi (by decide +kernel) rfl trivial ?_
        refine am_callV hX hi (M := mX3_add) (idx := 161) (d' := 2) (b := 38) (ci := 1) (As := [.int (I 28 6), .int (f_X9_contentAt_1 I G (I 28 5)).toInt32]) (rest := []) mkX3_add miX3_add mvX3_add (by decide +kernel) (by decide +kernel) rfl (by decide +kernel) rfl ⟨by omega, by decide, Nat.le_of_ble_eq_true rfl⟩ rfl (c_X3_add_38 _ I G (I 28 6) (f_X9_contentAt_1 I G (I 28 5)).toInt32) ?_
        rintro rz Iz Gz Pz ⟨e0, e1, e2, e3⟩
        rw [e0, e1, e2, e3]
        show am_V X 0 0 _ _ ad (207, [(0, .ref 28), (1, .int x1), (2, .int (I 28 6))], [], (g_X3_add_38 I G (I 28 6) (f_X9_contentAt_1 I G (I 28 5)).toInt32), G, (gP rd))
        refine am_blk 207 [(.aload_n 0, 1, 0, 0, .null)] (208, [(0, .ref 28), (1, .int x1), (2, .int (I 28 6))], [.ref 28], (g_X3_add_38 I G (I 28 6) (f_X9_contentAt_1 I G (I 28 5)).toInt32), G, (gP rd)) (True) hX hi (by decide +kernel) rfl trivial ?_
        refine am_callV hX hi (M := mX6_advance) (idx := 100) (d' := 2) (b := 28) (ci := 4) (As := []) (rest := []) mkX6_advance miX6_advance mvX6_advance (by decide +kernel) (by decide +kernel) rfl (by decide +kernel) rfl ⟨by omega, by decide, Nat.le_of_ble_eq_true rfl⟩ rfl (c_X6_advance_28 _ (g_X3_add_38 I G (I 28 6) (f_X9_contentAt_1 I G (I 28 5)).toInt32) G ) ?_
        rintro rz Iz Gz Pz ⟨e0, e1, e2, e3⟩
        rw [e0, e1, e2, e3]
        show am_V X 0 0 _ _ ad (211, [(0, .ref 28), (1, .int x1), (2, .int (I 28 6))], [], (g_X6_advance_28 (g_X3_add_38 I G (I 28 6) (f_X9_contentAt_1 I G (I 28 5)).toInt32) G ), G, (gP rd))
        refine am_blk 211 [(.goto (124), 3, 0, 335, .null)] (335, [(0, .ref 28), (1, .int x1), (2, .int (I 28 6))], [], (g_X6_advance_28 (g_X3_add_38 I G (I 28 6) (f_X9_contentAt_1 I G (I 28 5)).toInt32) G ), G, (gP rd)) (True) hX hi (by decide +kernel) rfl trivial ?_
        cases h
        refine am_vret hX hi rfl (by decide +kernel) ?_
        exact ⟨rfl, rfl, rfl, rfl⟩
      rw [if_neg s29_40] at h
      by_cases s29_7 : (I 28 6) = (7 : Int32)
      · refine am_tsi hX hi (dflt := (302)) (lo := (6)) (hi' := (40)) (offs := #[(204), (302), (302), (204), (302), (302), (302), (302), (302), (185), (204), (231), (302), (302), (302), (302), (231), (231), (282), (302), (302), (302), (302), (302), (302), (255), (302), (302), (302), (302), (302), (302), (302), (302), (155)]) (len := 155) (off := (302)) (tgt := 331) (by decide +kernel) (by rw [s29_7]; decide) (by rw [s29_7]; decide) (by rw [s29_7]; rfl) (by decide) ?_
        exact (l_X6_readValue_28 h0 h1 h2 h3 h4 h5 h6 rd hX hi FU) _ _ _ _ _ h
      by_cases s29_8 : (I 28 6) = (8 : Int32)
      · refine am_tsi hX hi (dflt := (302)) (lo := (6)) (hi' := (40)) (offs := #[(204), (302), (302), (204), (302), (302), (302), (302), (302), (185), (204), (231), (302), (302), (302), (302), (231), (231), (282), (302), (302), (302), (302), (302), (302), (255), (302), (302), (302), (302), (302), (302), (302), (302), (155)]) (len := 155) (off := (302)) (tgt := 331) (by decide +kernel) (by rw [s29_8]; decide) (by rw [s29_8]; decide) (by rw [s29_8]; rfl) (by decide) ?_
        exact (l_X6_readValue_28 h0 h1 h2 h3 h4 h5 h6 rd hX hi FU) _ _ _ _ _ h
      by_cases s29_10 : (I 28 6) = (10 : Int32)
      · refine am_tsi hX hi (dflt := (302)) (lo := (6)) (hi' := (40)) (offs := #[(204), (302), (302), (204), (302), (302), (302), (302), (302), (185), (204), (231), (302), (302), (302), (302), (231), (231), (282), (302), (302), (302), (302), (302), (302), (255), (302), (302), (302), (302), (302), (302), (302), (302), (155)]) (len := 155) (off := (302)) (tgt := 331) (by decide +kernel) (by rw [s29_10]; decide) (by rw [s29_10]; decide) (by rw [s29_10]; rfl) (by decide) ?_
        exact (l_X6_readValue_28 h0 h1 h2 h3 h4 h5 h6 rd hX hi FU) _ _ _ _ _ h
      by_cases s29_11 : (I 28 6) = (11 : Int32)
      · refine am_tsi hX hi (dflt := (302)) (lo := (6)) (hi' := (40)) (offs := #[(204), (302), (302), (204), (302), (302), (302), (302), (302), (185), (204), (231), (302), (302), (302), (302), (231), (231), (282), (302), (302), (302), (302), (302), (302), (255), (302), (302), (302), (302), (302), (302), (302), (302), (155)]) (len := 155) (off := (302)) (tgt := 331) (by decide +kernel) (by rw [s29_11]; decide) (by rw [s29_11]; decide) (by rw [s29_11]; rfl) (by decide) ?_
        exact (l_X6_readValue_28 h0 h1 h2 h3 h4 h5 h6 rd hX hi FU) _ _ _ _ _ h
      by_cases s29_12 : (I 28 6) = (12 : Int32)
      · refine am_tsi hX hi (dflt := (302)) (lo := (6)) (hi' := (40)) (offs := #[(204), (302), (302), (204), (302), (302), (302), (302), (302), (185), (204), (231), (302), (302), (302), (302), (231), (231), (282), (302), (302), (302), (302), (302), (302), (255), (302), (302), (302), (302), (302), (302), (302), (302), (155)]) (len := 155) (off := (302)) (tgt := 331) (by decide +kernel) (by rw [s29_12]; decide) (by rw [s29_12]; decide) (by rw [s29_12]; rfl) (by decide) ?_
        exact (l_X6_readValue_28 h0 h1 h2 h3 h4 h5 h6 rd hX hi FU) _ _ _ _ _ h
      by_cases s29_13 : (I 28 6) = (13 : Int32)
      · refine am_tsi hX hi (dflt := (302)) (lo := (6)) (hi' := (40)) (offs := #[(204), (302), (302), (204), (302), (302), (302), (302), (302), (185), (204), (231), (302), (302), (302), (302), (231), (231), (282), (302), (302), (302), (302), (302), (302), (255), (302), (302), (302), (302), (302), (302), (302), (302), (155)]) (len := 155) (off := (302)) (tgt := 331) (by decide +kernel) (by rw [s29_13]; decide) (by rw [s29_13]; decide) (by rw [s29_13]; rfl) (by decide) ?_
        exact (l_X6_readValue_28 h0 h1 h2 h3 h4 h5 h6 rd hX hi FU) _ _ _ _ _ h
      by_cases s29_14 : (I 28 6) = (14 : Int32)
      · refine am_tsi hX hi (dflt := (302)) (lo := (6)) (hi' := (40)) (offs := #[(204), (302), (302), (204), (302), (302), (302), (302), (302), (185), (204), (231), (302), (302), (302), (302), (231), (231), (282), (302), (302), (302), (302), (302), (302), (255), (302), (302), (302), (302), (302), (302), (302), (302), (155)]) (len := 155) (off := (302)) (tgt := 331) (by decide +kernel) (by rw [s29_14]; decide) (by rw [s29_14]; decide) (by rw [s29_14]; rfl) (by decide) ?_
        exact (l_X6_readValue_28 h0 h1 h2 h3 h4 h5 h6 rd hX hi FU) _ _ _ _ _ h
      by_cases s29_18 : (I 28 6) = (18 : Int32)
      · refine am_tsi hX hi (dflt := (302)) (lo := (6)) (hi' := (40)) (offs := #[(204), (302), (302), (204), (302), (302), (302), (302), (302), (185), (204), (231), (302), (302), (302), (302), (231), (231), (282), (302), (302), (302), (302), (302), (302), (255), (302), (302), (302), (302), (302), (302), (302), (302), (155)]) (len := 155) (off := (302)) (tgt := 331) (by decide +kernel) (by rw [s29_18]; decide) (by rw [s29_18]; decide) (by rw [s29_18]; rfl) (by decide) ?_
        exact (l_X6_readValue_28 h0 h1 h2 h3 h4 h5 h6 rd hX hi FU) _ _ _ _ _ h
      by_cases s29_19 : (I 28 6) = (19 : Int32)
      · refine am_tsi hX hi (dflt := (302)) (lo := (6)) (hi' := (40)) (offs := #[(204), (302), (302), (204), (302), (302), (302), (302), (302), (185), (204), (231), (302), (302), (302), (302), (231), (231), (282), (302), (302), (302), (302), (302), (302), (255), (302), (302), (302), (302), (302), (302), (302), (302), (155)]) (len := 155) (off := (302)) (tgt := 331) (by decide +kernel) (by rw [s29_19]; decide) (by rw [s29_19]; decide) (by rw [s29_19]; rfl) (by decide) ?_
        exact (l_X6_readValue_28 h0 h1 h2 h3 h4 h5 h6 rd hX hi FU) _ _ _ _ _ h
      by_cases s29_20 : (I 28 6) = (20 : Int32)
      · refine am_tsi hX hi (dflt := (302)) (lo := (6)) (hi' := (40)) (offs := #[(204), (302), (302), (204), (302), (302), (302), (302), (302), (185), (204), (231), (302), (302), (302), (302), (231), (231), (282), (302), (302), (302), (302), (302), (302), (255), (302), (302), (302), (302), (302), (302), (302), (302), (155)]) (len := 155) (off := (302)) (tgt := 331) (by decide +kernel) (by rw [s29_20]; decide) (by rw [s29_20]; decide) (by rw [s29_20]; rfl) (by decide) ?_
        exact (l_X6_readValue_28 h0 h1 h2 h3 h4 h5 h6 rd hX hi FU) _ _ _ _ _ h
      by_cases s29_21 : (I 28 6) = (21 : Int32)
      · refine am_tsi hX hi (dflt := (302)) (lo := (6)) (hi' := (40)) (offs := #[(204), (302), (302), (204), (302), (302), (302), (302), (302), (185), (204), (231), (302), (302), (302), (302), (231), (231), (282), (302), (302), (302), (302), (302), (302), (255), (302), (302), (302), (302), (302), (302), (302), (302), (155)]) (len := 155) (off := (302)) (tgt := 331) (by decide +kernel) (by rw [s29_21]; decide) (by rw [s29_21]; decide) (by rw [s29_21]; rfl) (by decide) ?_
        exact (l_X6_readValue_28 h0 h1 h2 h3 h4 h5 h6 rd hX hi FU) _ _ _ _ _ h
      by_cases s29_25 : (I 28 6) = (25 : Int32)
      · refine am_tsi hX hi (dflt := (302)) (lo := (6)) (hi' := (40)) (offs := #[(204), (302), (302), (204), (302), (302), (302), (302), (302), (185), (204), (231), (302), (302), (302), (302), (231), (231), (282), (302), (302), (302), (302), (302), (302), (255), (302), (302), (302), (302), (302), (302), (302), (302), (155)]) (len := 155) (off := (302)) (tgt := 331) (by decide +kernel) (by rw [s29_25]; decide) (by rw [s29_25]; decide) (by rw [s29_25]; rfl) (by decide) ?_
        exact (l_X6_readValue_28 h0 h1 h2 h3 h4 h5 h6 rd hX hi FU) _ _ _ _ _ h
      by_cases s29_26 : (I 28 6) = (26 : Int32)
      · refine am_tsi hX hi (dflt := (302)) (lo := (6)) (hi' := (40)) (offs := #[(204), (302), (302), (204), (302), (302), (302), (302), (302), (185), (204), (231), (302), (302), (302), (302), (231), (231), (282), (302), (302), (302), (302), (302), (302), (255), (302), (302), (302), (302), (302), (302), (302), (302), (155)]) (len := 155) (off := (302)) (tgt := 331) (by decide +kernel) (by rw [s29_26]; decide) (by rw [s29_26]; decide) (by rw [s29_26]; rfl) (by decide) ?_
        exact (l_X6_readValue_28 h0 h1 h2 h3 h4 h5 h6 rd hX hi FU) _ _ _ _ _ h
      by_cases s29_27 : (I 28 6) = (27 : Int32)
      · refine am_tsi hX hi (dflt := (302)) (lo := (6)) (hi' := (40)) (offs := #[(204), (302), (302), (204), (302), (302), (302), (302), (302), (185), (204), (231), (302), (302), (302), (302), (231), (231), (282), (302), (302), (302), (302), (302), (302), (255), (302), (302), (302), (302), (302), (302), (302), (302), (155)]) (len := 155) (off := (302)) (tgt := 331) (by decide +kernel) (by rw [s29_27]; decide) (by rw [s29_27]; decide) (by rw [s29_27]; rfl) (by decide) ?_
        exact (l_X6_readValue_28 h0 h1 h2 h3 h4 h5 h6 rd hX hi FU) _ _ _ _ _ h
      by_cases s29_28 : (I 28 6) = (28 : Int32)
      · refine am_tsi hX hi (dflt := (302)) (lo := (6)) (hi' := (40)) (offs := #[(204), (302), (302), (204), (302), (302), (302), (302), (302), (185), (204), (231), (302), (302), (302), (302), (231), (231), (282), (302), (302), (302), (302), (302), (302), (255), (302), (302), (302), (302), (302), (302), (302), (302), (155)]) (len := 155) (off := (302)) (tgt := 331) (by decide +kernel) (by rw [s29_28]; decide) (by rw [s29_28]; decide) (by rw [s29_28]; rfl) (by decide) ?_
        exact (l_X6_readValue_28 h0 h1 h2 h3 h4 h5 h6 rd hX hi FU) _ _ _ _ _ h
      by_cases s29_29 : (I 28 6) = (29 : Int32)
      · refine am_tsi hX hi (dflt := (302)) (lo := (6)) (hi' := (40)) (offs := #[(204), (302), (302), (204), (302), (302), (302), (302), (302), (185), (204), (231), (302), (302), (302), (302), (231), (231), (282), (302), (302), (302), (302), (302), (302), (255), (302), (302), (302), (302), (302), (302), (302), (302), (155)]) (len := 155) (off := (302)) (tgt := 331) (by decide +kernel) (by rw [s29_29]; decide) (by rw [s29_29]; decide) (by rw [s29_29]; rfl) (by decide) ?_
        exact (l_X6_readValue_28 h0 h1 h2 h3 h4 h5 h6 rd hX hi FU) _ _ _ _ _ h
      by_cases s29_30 : (I 28 6) = (30 : Int32)
      · refine am_tsi hX hi (dflt := (302)) (lo := (6)) (hi' := (40)) (offs := #[(204), (302), (302), (204), (302), (302), (302), (302), (302), (185), (204), (231), (302), (302), (302), (302), (231), (231), (282), (302), (302), (302), (302), (302), (302), (255), (302), (302), (302), (302), (302), (302), (302), (302), (155)]) (len := 155) (off := (302)) (tgt := 331) (by decide +kernel) (by rw [s29_30]; decide) (by rw [s29_30]; decide) (by rw [s29_30]; rfl) (by decide) ?_
        exact (l_X6_readValue_28 h0 h1 h2 h3 h4 h5 h6 rd hX hi FU) _ _ _ _ _ h
      by_cases s29_32 : (I 28 6) = (32 : Int32)
      · refine am_tsi hX hi (dflt := (302)) (lo := (6)) (hi' := (40)) (offs := #[(204), (302), (302), (204), (302), (302), (302), (302), (302), (185), (204), (231), (302), (302), (302), (302), (231), (231), (282), (302), (302), (302), (302), (302), (302), (255), (302), (302), (302), (302), (302), (302), (302), (302), (155)]) (len := 155) (off := (302)) (tgt := 331) (by decide +kernel) (by rw [s29_32]; decide) (by rw [s29_32]; decide) (by rw [s29_32]; rfl) (by decide) ?_
        exact (l_X6_readValue_28 h0 h1 h2 h3 h4 h5 h6 rd hX hi FU) _ _ _ _ _ h
      by_cases s29_33 : (I 28 6) = (33 : Int32)
      · refine am_tsi hX hi (dflt := (302)) (lo := (6)) (hi' := (40)) (offs := #[(204), (302), (302), (204), (302), (302), (302), (302), (302), (185), (204), (231), (302), (302), (302), (302), (231), (231), (282), (302), (302), (302), (302), (302), (302), (255), (302), (302), (302), (302), (302), (302), (302), (302), (155)]) (len := 155) (off := (302)) (tgt := 331) (by decide +kernel) (by rw [s29_33]; decide) (by rw [s29_33]; decide) (by rw [s29_33]; rfl) (by decide) ?_
        exact (l_X6_readValue_28 h0 h1 h2 h3 h4 h5 h6 rd hX hi FU) _ _ _ _ _ h
      by_cases s29_34 : (I 28 6) = (34 : Int32)
      · refine am_tsi hX hi (dflt := (302)) (lo := (6)) (hi' := (40)) (offs := #[(204), (302), (302), (204), (302), (302), (302), (302), (302), (185), (204), (231), (302), (302), (302), (302), (231), (231), (282), (302), (302), (302), (302), (302), (302), (255), (302), (302), (302), (302), (302), (302), (302), (302), (155)]) (len := 155) (off := (302)) (tgt := 331) (by decide +kernel) (by rw [s29_34]; decide) (by rw [s29_34]; decide) (by rw [s29_34]; rfl) (by decide) ?_
        exact (l_X6_readValue_28 h0 h1 h2 h3 h4 h5 h6 rd hX hi FU) _ _ _ _ _ h
      by_cases s29_35 : (I 28 6) = (35 : Int32)
      · refine am_tsi hX hi (dflt := (302)) (lo := (6)) (hi' := (40)) (offs := #[(204), (302), (302), (204), (302), (302), (302), (302), (302), (185), (204), (231), (302), (302), (302), (302), (231), (231), (282), (302), (302), (302), (302), (302), (302), (255), (302), (302), (302), (302), (302), (302), (302), (302), (155)]) (len := 155) (off := (302)) (tgt := 331) (by decide +kernel) (by rw [s29_35]; decide) (by rw [s29_35]; decide) (by rw [s29_35]; rfl) (by decide) ?_
        exact (l_X6_readValue_28 h0 h1 h2 h3 h4 h5 h6 rd hX hi FU) _ _ _ _ _ h
      by_cases s29_36 : (I 28 6) = (36 : Int32)
      · refine am_tsi hX hi (dflt := (302)) (lo := (6)) (hi' := (40)) (offs := #[(204), (302), (302), (204), (302), (302), (302), (302), (302), (185), (204), (231), (302), (302), (302), (302), (231), (231), (282), (302), (302), (302), (302), (302), (302), (255), (302), (302), (302), (302), (302), (302), (302), (302), (155)]) (len := 155) (off := (302)) (tgt := 331) (by decide +kernel) (by rw [s29_36]; decide) (by rw [s29_36]; decide) (by rw [s29_36]; rfl) (by decide) ?_
        exact (l_X6_readValue_28 h0 h1 h2 h3 h4 h5 h6 rd hX hi FU) _ _ _ _ _ h
      by_cases s29_37 : (I 28 6) = (37 : Int32)
      · refine am_tsi hX hi (dflt := (302)) (lo := (6)) (hi' := (40)) (offs := #[(204), (302), (302), (204), (302), (302), (302), (302), (302), (185), (204), (231), (302), (302), (302), (302), (231), (231), (282), (302), (302), (302), (302), (302), (302), (255), (302), (302), (302), (302), (302), (302), (302), (302), (155)]) (len := 155) (off := (302)) (tgt := 331) (by decide +kernel) (by rw [s29_37]; decide) (by rw [s29_37]; decide) (by rw [s29_37]; rfl) (by decide) ?_
        exact (l_X6_readValue_28 h0 h1 h2 h3 h4 h5 h6 rd hX hi FU) _ _ _ _ _ h
      by_cases s29_38 : (I 28 6) = (38 : Int32)
      · refine am_tsi hX hi (dflt := (302)) (lo := (6)) (hi' := (40)) (offs := #[(204), (302), (302), (204), (302), (302), (302), (302), (302), (185), (204), (231), (302), (302), (302), (302), (231), (231), (282), (302), (302), (302), (302), (302), (302), (255), (302), (302), (302), (302), (302), (302), (302), (302), (155)]) (len := 155) (off := (302)) (tgt := 331) (by decide +kernel) (by rw [s29_38]; decide) (by rw [s29_38]; decide) (by rw [s29_38]; rfl) (by decide) ?_
        exact (l_X6_readValue_28 h0 h1 h2 h3 h4 h5 h6 rd hX hi FU) _ _ _ _ _ h
      by_cases s29_39 : (I 28 6) = (39 : Int32)
      · refine am_tsi hX hi (dflt := (302)) (lo := (6)) (hi' := (40)) (offs := #[(204), (302), (302), (204), (302), (302), (302), (302), (302), (185), (204), (231), (302), (302), (302), (302), (231), (231), (282), (302), (302), (302), (302), (302), (302), (255), (302), (302), (302), (302), (302), (302), (302), (302), (155)]) (len := 155) (off := (302)) (tgt := 331) (by decide +kernel) (by rw [s29_39]; decide) (by rw [s29_39]; decide) (by rw [s29_39]; rfl) (by decide) ?_
        exact (l_X6_readValue_28 h0 h1 h2 h3 h4 h5 h6 rd hX hi FU) _ _ _ _ _ h
      refine am_tso hX hi (dflt := (302)) (lo := (6)) (hi' := (40)) (offs := #[(204), (302), (302), (204), (302), (302), (302), (302), (302), (185), (204), (231), (302), (302), (302), (302), (231), (231), (282), (302), (302), (302), (302), (302), (302), (255), (302), (302), (302), (302), (302), (302), (302), (302), (155)]) (len := 155) (tgt := 331) (by decide +kernel) ?_ (by decide) ?_
      · have eF : ∀ v : Int32, ¬ (I 28 6) = v → ¬ ((I 28 6)).toInt = v.toInt := fun v q z => q ((i_eq _ _).mpr z)
        have e6 := eF (6 : Int32) s29_6
        have e9 := eF (9 : Int32) s29_9
        have e15 := eF (15 : Int32) s29_15
        have e16 := eF (16 : Int32) s29_16
        have e17 := eF (17 : Int32) s29_17
        have e22 := eF (22 : Int32) s29_22
        have e23 := eF (23 : Int32) s29_23
        have e24 := eF (24 : Int32) s29_24
        have e31 := eF (31 : Int32) s29_31
        have e40 := eF (40 : Int32) s29_40
        have e7 := eF (7 : Int32) s29_7
        have e8 := eF (8 : Int32) s29_8
        have e10 := eF (10 : Int32) s29_10
        have e11 := eF (11 : Int32) s29_11
        have e12 := eF (12 : Int32) s29_12
        have e13 := eF (13 : Int32) s29_13
        have e14 := eF (14 : Int32) s29_14
        have e18 := eF (18 : Int32) s29_18
        have e19 := eF (19 : Int32) s29_19
        have e20 := eF (20 : Int32) s29_20
        have e21 := eF (21 : Int32) s29_21
        have e25 := eF (25 : Int32) s29_25
        have e26 := eF (26 : Int32) s29_26
        have e27 := eF (27 : Int32) s29_27
        have e28 := eF (28 : Int32) s29_28
        have e29 := eF (29 : Int32) s29_29
        have e30 := eF (30 : Int32) s29_30
        have e32 := eF (32 : Int32) s29_32
        have e33 := eF (33 : Int32) s29_33
        have e34 := eF (34 : Int32) s29_34
        have e35 := eF (35 : Int32) s29_35
        have e36 := eF (36 : Int32) s29_36
        have e37 := eF (37 : Int32) s29_37
        have e38 := eF (38 : Int32) s29_38
        have e39 := eF (39 : Int32) s29_39
        simp only [show ((6 : Int32) : Int32).toInt = 6 from rfl, show ((9 : Int32) : Int32).toInt = 9 from rfl, show ((15 : Int32) : Int32).toInt = 15 from rfl, show ((16 : Int32) : Int32).toInt = 16 from rfl, show ((17 : Int32) : Int32).toInt = 17 from rfl, show ((22 : Int32) : Int32).toInt = 22 from rfl, show ((23 : Int32) : Int32).toInt = 23 from rfl, show ((24 : Int32) : Int32).toInt = 24 from rfl, show ((31 : Int32) : Int32).toInt = 31 from rfl, show ((40 : Int32) : Int32).toInt = 40 from rfl, show ((7 : Int32) : Int32).toInt = 7 from rfl, show ((8 : Int32) : Int32).toInt = 8 from rfl, show ((10 : Int32) : Int32).toInt = 10 from rfl, show ((11 : Int32) : Int32).toInt = 11 from rfl, show ((12 : Int32) : Int32).toInt = 12 from rfl, show ((13 : Int32) : Int32).toInt = 13 from rfl, show ((14 : Int32) : Int32).toInt = 14 from rfl, show ((18 : Int32) : Int32).toInt = 18 from rfl, show ((19 : Int32) : Int32).toInt = 19 from rfl, show ((20 : Int32) : Int32).toInt = 20 from rfl, show ((21 : Int32) : Int32).toInt = 21 from rfl, show ((25 : Int32) : Int32).toInt = 25 from rfl, show ((26 : Int32) : Int32).toInt = 26 from rfl, show ((27 : Int32) : Int32).toInt = 27 from rfl, show ((28 : Int32) : Int32).toInt = 28 from rfl, show ((29 : Int32) : Int32).toInt = 29 from rfl, show ((30 : Int32) : Int32).toInt = 30 from rfl, show ((32 : Int32) : Int32).toInt = 32 from rfl, show ((33 : Int32) : Int32).toInt = 33 from rfl, show ((34 : Int32) : Int32).toInt = 34 from rfl, show ((35 : Int32) : Int32).toInt = 35 from rfl, show ((36 : Int32) : Int32).toInt = 36 from rfl, show ((37 : Int32) : Int32).toInt = 37 from rfl, show ((38 : Int32) : Int32).toInt = 38 from rfl, show ((39 : Int32) : Int32).toInt = 39 from rfl] at e6 e9 e15 e16 e17 e22 e23 e24 e31 e40 e7 e8 e10 e11 e12 e13 e14 e18 e19 e20 e21 e25 e26 e27 e28 e29 e30 e32 e33 e34 e35 e36 e37 e38 e39
        omega
      exact (l_X6_readValue_28 h0 h1 h2 h3 h4 h5 h6 rd hX hi FU) _ _ _ _ _ h
    · rw [if_neg c20] at h
      refine am_blk 23 [(.aload_n 0, 1, 0, 0, .null)] (24, [(0, .ref 28), (1, .int x1), (2, .int (I 28 6))], [.ref 28], I, G, (gP rd)) (True) hX hi (by decide +kernel) rfl trivial ?_
      refine am_callV hX hi (M := mX6_refuse) (idx := 70) (d' := 2) (b := 28) (ci := 4) (As := []) (rest := []) mkX6_refuse miX6_refuse mvX6_refuse (by decide +kernel) (by decide +kernel) rfl (by decide +kernel) rfl ⟨by omega, by decide, Nat.le_of_ble_eq_true rfl⟩ rfl (c_X6_refuse_28 _ I G ) ?_
      rintro rz Iz Gz Pz ⟨e0, e1, e2, e3⟩
      rw [e0, e1, e2, e3]
      show am_V X 0 0 _ _ ad (27, [(0, .ref 28), (1, .int x1), (2, .int (I 28 6))], [], (g_X6_refuse_28 I G ), G, (gP rd))
      cases h
      refine am_vret hX hi rfl (by decide +kernel) ?_
      exact ⟨rfl, rfl, rfl, rfl⟩
  · rw [if_neg c8] at h
    refine am_blk 11 [(.iload_n 2, 1, 2, 0, .null), (.bipush (24), 2, 0, 0, .int (24 : Int32))] (14, [(0, .ref 28), (1, .int x1), (2, .int (I 28 6))], [.int (24 : Int32), .int (I 28 6)], I, G, (gP rd)) (True) hX hi (by decide +kernel) rfl trivial ?_
    refine am_icmp_ne (tgt := 28) hX hi (off := (14)) (by decide +kernel) (by decide) (fun c14 => ?_) (fun c14 => ?_)
    · rw [if_neg c14] at h
      refine am_blk 28 [(.iload_n 2, 1, 2, 0, .null)] (29, [(0, .ref 28), (1, .int x1), (2, .int (I 28 6))], [.int (I 28 6)], I, G, (gP rd)) (True) hX hi (by decide +kernel) rfl trivial ?_
      by_cases s29_6 : (I 28 6) = (6 : Int32)
      · rw [if_pos s29_6] at h
        refine am_tsi hX hi (dflt := (302)) (lo := (6)) (hi' := (40)) (offs := #[(204), (302), (302), (204), (302), (302), (302), (302), (302), (185), (204), (231), (302), (302), (302), (302), (231), (231), (282), (302), (302), (302), (302), (302), (302), (255), (302), (302), (302), (302), (302), (302), (302), (302), (155)]) (len := 155) (off := (204)) (tgt := 233) (by decide +kernel) (by rw [s29_6]; decide) (by rw [s29_6]; decide) (by rw [s29_6]; rfl) (by decide) ?_
        refine am_blk 233 [(.aload_n 0, 1, 0, 0, .null)] (234, [(0, .ref 28), (1, .int x1), (2, .int (I 28 6))], [.ref 28], I, G, (gP rd)) (True) hX hi (by decide +kernel) rfl trivial ?_
        refine am_callV hX hi (M := mX6_advance) (idx := 100) (d' := 2) (b := 28) (ci := 4) (As := []) (rest := []) mkX6_advance miX6_advance mvX6_advance (by decide +kernel) (by decide +kernel) rfl (by decide +kernel) rfl ⟨by omega, by decide, Nat.le_of_ble_eq_true rfl⟩ rfl (c_X6_advance_28 _ I G ) ?_
        rintro rz Iz Gz Pz ⟨e0, e1, e2, e3⟩
        rw [e0, e1, e2, e3]
        show am_V X 0 0 _ _ ad (237, [(0, .ref 28), (1, .int x1), (2, .int (I 28 6))], [], (g_X6_advance_28 I G ), G, (gP rd))
        refine am_blk 237 [(.aload_n 0, 1, 0, 0, .null), (.getfield 12, 3, 4, 1, .null), (.getfield 91, 3, 3, 8, .null), (.iload_n 2, 1, 2, 0, .null), (.aload_n 0, 1, 0, 0, .null), (.aload_n 0, 1, 0, 0, .null), (.iload_n 2, 1, 2, 0, .null)] (248, [(0, .ref 28), (1, .int x1), (2, .int (I 28 6))], [.int (I 28 6), .ref 28, .ref 28, .int (I 28 6), .ref 38], (g_X6_advance_28 I G ), G, (gP rd)) (True) hX hi (by decide +kernel) rfl trivial ?_
        refine am_callV hX hi (M := mX6_namesBehind) (idx := 180) (d' := 1) (b := 28) (ci := 4) (As := [.int (I 28 6)]) (rest := [.ref 28, .int (I 28 6), .ref 38]) mkX6_namesBehind miX6_namesBehind mvX6_namesBehind (by decide +kernel) (by decide +kernel) rfl (by decide +kernel) rfl ⟨by omega, by decide, Nat.le_of_ble_eq_true rfl⟩ rfl ((c_namesBehind _ (g_X6_advance_28 I G ) G (I 28 6)).mono (fun r I9 G9 P9 q => by rw [s29_6] at q; exact q)) ?_
        rintro rz Iz Gz Pz ⟨e0, e1, e2, e3⟩
        rw [e0, e1, e2, e3]
        show am_V X 0 0 _ _ ad (251, [(0, .ref 28), (1, .int x1), (2, .int (I 28 6))], [.ref 47, .ref 28, .int (I 28 6), .ref 38], (g_X6_advance_28 I G ), G, (gP rd))
        obtain ⟨r9, I9, G9, hc, h⟩ := rb_some h
        refine am_callV hX hi (M := mX6_readKnownName) (idx := 150) (d' := 3) (b := 28) (ci := 4) (As := [.ref 47]) (rest := [.int (I 28 6), .ref 38]) mkX6_readKnownName miX6_readKnownName mvX6_readKnownName (by decide +kernel) (by decide +kernel) rfl (by decide +kernel) rfl ⟨by omega, by decide, Nat.le_of_ble_eq_true rfl⟩ rfl (c_X6_readKnownName_28_47 _ (g_X6_advance_28 I G ) G  hc) ?_
        rintro rz Iz Gz Pz ⟨e0, e1, e2, e3⟩
        rw [e0, e1, e2, e3]
        show am_V X 0 0 _ _ ad (254, [(0, .ref 28), (1, .int x1), (2, .int (I 28 6))], [.int r9, .int (I 28 6), .ref 38], I9, G9, (gP rd))
        refine am_callV hX hi (M := mX3_add) (idx := 161) (d' := 2) (b := 38) (ci := 1) (As := [.int (I 28 6), .int r9]) (rest := []) mkX3_add miX3_add mvX3_add (by decide +kernel) (by decide +kernel) rfl (by decide +kernel) rfl ⟨by omega, by decide, Nat.le_of_ble_eq_true rfl⟩ rfl (c_X3_add_38 _ I9 G9 (I 28 6) r9) ?_
        rintro rz Iz Gz Pz ⟨e0, e1, e2, e3⟩
        rw [e0, e1, e2, e3]
        show am_V X 0 0 _ _ ad (257, [(0, .ref 28), (1, .int x1), (2, .int (I 28 6))], [], (g_X3_add_38 I9 G9 (I 28 6) r9), G9, (gP rd))
        refine am_blk 257 [(.goto (78), 3, 0, 335, .null)] (335, [(0, .ref 28), (1, .int x1), (2, .int (I 28 6))], [], (g_X3_add_38 I9 G9 (I 28 6) r9), G9, (gP rd)) (True) hX hi (by decide +kernel) rfl trivial ?_
        cases h
        refine am_vret hX hi rfl (by decide +kernel) ?_
        exact ⟨rfl, rfl, rfl, rfl⟩
      rw [if_neg s29_6] at h
      by_cases s29_9 : (I 28 6) = (9 : Int32)
      · rw [if_pos s29_9] at h
        refine am_tsi hX hi (dflt := (302)) (lo := (6)) (hi' := (40)) (offs := #[(204), (302), (302), (204), (302), (302), (302), (302), (302), (185), (204), (231), (302), (302), (302), (302), (231), (231), (282), (302), (302), (302), (302), (302), (302), (255), (302), (302), (302), (302), (302), (302), (302), (302), (155)]) (len := 155) (off := (204)) (tgt := 233) (by decide +kernel) (by rw [s29_9]; decide) (by rw [s29_9]; decide) (by rw [s29_9]; rfl) (by decide) ?_
        refine am_blk 233 [(.aload_n 0, 1, 0, 0, .null)] (234, [(0, .ref 28), (1, .int x1), (2, .int (I 28 6))], [.ref 28], I, G, (gP rd)) (True) hX hi (by decide +kernel) rfl trivial ?_
        refine am_callV hX hi (M := mX6_advance) (idx := 100) (d' := 2) (b := 28) (ci := 4) (As := []) (rest := []) mkX6_advance miX6_advance mvX6_advance (by decide +kernel) (by decide +kernel) rfl (by decide +kernel) rfl ⟨by omega, by decide, Nat.le_of_ble_eq_true rfl⟩ rfl (c_X6_advance_28 _ I G ) ?_
        rintro rz Iz Gz Pz ⟨e0, e1, e2, e3⟩
        rw [e0, e1, e2, e3]
        show am_V X 0 0 _ _ ad (237, [(0, .ref 28), (1, .int x1), (2, .int (I 28 6))], [], (g_X6_advance_28 I G ), G, (gP rd))
        refine am_blk 237 [(.aload_n 0, 1, 0, 0, .null), (.getfield 12, 3, 4, 1, .null), (.getfield 91, 3, 3, 8, .null), (.iload_n 2, 1, 2, 0, .null), (.aload_n 0, 1, 0, 0, .null), (.aload_n 0, 1, 0, 0, .null), (.iload_n 2, 1, 2, 0, .null)] (248, [(0, .ref 28), (1, .int x1), (2, .int (I 28 6))], [.int (I 28 6), .ref 28, .ref 28, .int (I 28 6), .ref 38], (g_X6_advance_28 I G ), G, (gP rd)) (True) hX hi (by decide +kernel) rfl trivial ?_
        refine am_callV hX hi (M := mX6_namesBehind) (idx := 180) (d' := 1) (b := 28) (ci := 4) (As := [.int (I 28 6)]) (rest := [.ref 28, .int (I 28 6), .ref 38]) mkX6_namesBehind miX6_namesBehind mvX6_namesBehind (by decide +kernel) (by decide +kernel) rfl (by decide +kernel) rfl ⟨by omega, by decide, Nat.le_of_ble_eq_true rfl⟩ rfl ((c_namesBehind _ (g_X6_advance_28 I G ) G (I 28 6)).mono (fun r I9 G9 P9 q => by rw [s29_9] at q; exact q)) ?_
        rintro rz Iz Gz Pz ⟨e0, e1, e2, e3⟩
        rw [e0, e1, e2, e3]
        show am_V X 0 0 _ _ ad (251, [(0, .ref 28), (1, .int x1), (2, .int (I 28 6))], [.ref 49, .ref 28, .int (I 28 6), .ref 38], (g_X6_advance_28 I G ), G, (gP rd))
        obtain ⟨r10, I10, G10, hc, h⟩ := rb_some h
        refine am_callV hX hi (M := mX6_readKnownName) (idx := 150) (d' := 3) (b := 28) (ci := 4) (As := [.ref 49]) (rest := [.int (I 28 6), .ref 38]) mkX6_readKnownName miX6_readKnownName mvX6_readKnownName (by decide +kernel) (by decide +kernel) rfl (by decide +kernel) rfl ⟨by omega, by decide, Nat.le_of_ble_eq_true rfl⟩ rfl (c_X6_readKnownName_28_49 _ (g_X6_advance_28 I G ) G  hc) ?_
        rintro rz Iz Gz Pz ⟨e0, e1, e2, e3⟩
        rw [e0, e1, e2, e3]
        show am_V X 0 0 _ _ ad (254, [(0, .ref 28), (1, .int x1), (2, .int (I 28 6))], [.int r10, .int (I 28 6), .ref 38], I10, G10, (gP rd))
        refine am_callV hX hi (M := mX3_add) (idx := 161) (d' := 2) (b := 38) (ci := 1) (As := [.int (I 28 6), .int r10]) (rest := []) mkX3_add miX3_add mvX3_add (by decide +kernel) (by decide +kernel) rfl (by decide +kernel) rfl ⟨by omega, by decide, Nat.le_of_ble_eq_true rfl⟩ rfl (c_X3_add_38 _ I10 G10 (I 28 6) r10) ?_
        rintro rz Iz Gz Pz ⟨e0, e1, e2, e3⟩
        rw [e0, e1, e2, e3]
        show am_V X 0 0 _ _ ad (257, [(0, .ref 28), (1, .int x1), (2, .int (I 28 6))], [], (g_X3_add_38 I10 G10 (I 28 6) r10), G10, (gP rd))
        refine am_blk 257 [(.goto (78), 3, 0, 335, .null)] (335, [(0, .ref 28), (1, .int x1), (2, .int (I 28 6))], [], (g_X3_add_38 I10 G10 (I 28 6) r10), G10, (gP rd)) (True) hX hi (by decide +kernel) rfl trivial ?_
        cases h
        refine am_vret hX hi rfl (by decide +kernel) ?_
        exact ⟨rfl, rfl, rfl, rfl⟩
      rw [if_neg s29_9] at h
      by_cases s29_15 : (I 28 6) = (15 : Int32)
      · rw [if_pos s29_15] at h
        refine am_tsi hX hi (dflt := (302)) (lo := (6)) (hi' := (40)) (offs := #[(204), (302), (302), (204), (302), (302), (302), (302), (302), (185), (204), (231), (302), (302), (302), (302), (231), (231), (282), (302), (302), (302), (302), (302), (302), (255), (302), (302), (302), (302), (302), (302), (302), (302), (155)]) (len := 155) (off := (185)) (tgt := 214) (by decide +kernel) (by rw [s29_15]; decide) (by rw [s29_15]; decide) (by rw [s29_15]; rfl) (by decide) ?_
        refine am_blk 214 [(.aload_n 0, 1, 0, 0, .null)] (215, [(0, .ref 28), (1, .int x1), (2, .int (I 28 6))], [.ref 28], I, G, (gP rd)) (True) hX hi (by decide +kernel) rfl trivial ?_
        refine am_callV hX hi (M := mX6_advance) (idx := 100) (d' := 2) (b := 28) (ci := 4) (As := []) (rest := []) mkX6_advance miX6_advance mvX6_advance (by decide +kernel) (by decide +kernel) rfl (by decide +kernel) rfl ⟨by omega, by decide, Nat.le_of_ble_eq_true rfl⟩ rfl (c_X6_advance_28 _ I G ) ?_
        rintro rz Iz Gz Pz ⟨e0, e1, e2, e3⟩
        rw [e0, e1, e2, e3]
        show am_V X 0 0 _ _ ad (218, [(0, .ref 28), (1, .int x1), (2, .int (I 28 6))], [], (g_X6_advance_28 I G ), G, (gP rd))
        refine am_blk 218 [(.aload_n 0, 1, 0, 0, .null), (.getfield 12, 3, 4, 1, .null), (.getfield 91, 3, 3, 8, .null), (.iload_n 2, 1, 2, 0, .null), (.iconst (0), 1, 0, 0, .int (0 : Int32))] (227, [(0, .ref 28), (1, .int x1), (2, .int (I 28 6))], [.int (0 : Int32), .int (I 28 6), .ref 38], (g_X6_advance_28 I G ), G, (gP rd)) (True) hX hi (by decide +kernel) rfl trivial ?_
        refine am_callV hX hi (M := mX3_add) (idx := 161) (d' := 2) (b := 38) (ci := 1) (As := [.int (I 28 6), .int (0 : Int32)]) (rest := []) mkX3_add miX3_add mvX3_add (by decide +kernel) (by decide +kernel) rfl (by decide +kernel) rfl ⟨by omega, by decide, Nat.le_of_ble_eq_true rfl⟩ rfl (c_X3_add_38 _ (g_X6_advance_28 I G ) G (I 28 6) (0 : Int32)) ?_
        rintro rz Iz Gz Pz ⟨e0, e1, e2, e3⟩
        rw [e0, e1, e2, e3]
        show am_V X 0 0 _ _ ad (230, [(0, .ref 28), (1, .int x1), (2, .int (I 28 6))], [], (g_X3_add_38 (g_X6_advance_28 I G ) G (I 28 6) (0 : Int32)), G, (gP rd))
        refine am_blk 230 [(.goto (105), 3, 0, 335, .null)] (335, [(0, .ref 28), (1, .int x1), (2, .int (I 28 6))], [], (g_X3_add_38 (g_X6_advance_28 I G ) G (I 28 6) (0 : Int32)), G, (gP rd)) (True) hX hi (by decide +kernel) rfl trivial ?_
        cases h
        refine am_vret hX hi rfl (by decide +kernel) ?_
        exact ⟨rfl, rfl, rfl, rfl⟩
      rw [if_neg s29_15] at h
      by_cases s29_16 : (I 28 6) = (16 : Int32)
      · rw [if_pos s29_16] at h
        refine am_tsi hX hi (dflt := (302)) (lo := (6)) (hi' := (40)) (offs := #[(204), (302), (302), (204), (302), (302), (302), (302), (302), (185), (204), (231), (302), (302), (302), (302), (231), (231), (282), (302), (302), (302), (302), (302), (302), (255), (302), (302), (302), (302), (302), (302), (302), (302), (155)]) (len := 155) (off := (204)) (tgt := 233) (by decide +kernel) (by rw [s29_16]; decide) (by rw [s29_16]; decide) (by rw [s29_16]; rfl) (by decide) ?_
        refine am_blk 233 [(.aload_n 0, 1, 0, 0, .null)] (234, [(0, .ref 28), (1, .int x1), (2, .int (I 28 6))], [.ref 28], I, G, (gP rd)) (True) hX hi (by decide +kernel) rfl trivial ?_
        refine am_callV hX hi (M := mX6_advance) (idx := 100) (d' := 2) (b := 28) (ci := 4) (As := []) (rest := []) mkX6_advance miX6_advance mvX6_advance (by decide +kernel) (by decide +kernel) rfl (by decide +kernel) rfl ⟨by omega, by decide, Nat.le_of_ble_eq_true rfl⟩ rfl (c_X6_advance_28 _ I G ) ?_
        rintro rz Iz Gz Pz ⟨e0, e1, e2, e3⟩
        rw [e0, e1, e2, e3]
        show am_V X 0 0 _ _ ad (237, [(0, .ref 28), (1, .int x1), (2, .int (I 28 6))], [], (g_X6_advance_28 I G ), G, (gP rd))
        refine am_blk 237 [(.aload_n 0, 1, 0, 0, .null), (.getfield 12, 3, 4, 1, .null), (.getfield 91, 3, 3, 8, .null), (.iload_n 2, 1, 2, 0, .null), (.aload_n 0, 1, 0, 0, .null), (.aload_n 0, 1, 0, 0, .null), (.iload_n 2, 1, 2, 0, .null)] (248, [(0, .ref 28), (1, .int x1), (2, .int (I 28 6))], [.int (I 28 6), .ref 28, .ref 28, .int (I 28 6), .ref 38], (g_X6_advance_28 I G ), G, (gP rd)) (True) hX hi (by decide +kernel) rfl trivial ?_
        refine am_callV hX hi (M := mX6_namesBehind) (idx := 180) (d' := 1) (b := 28) (ci := 4) (As := [.int (I 28 6)]) (rest := [.ref 28, .int (I 28 6), .ref 38]) mkX6_namesBehind miX6_namesBehind mvX6_namesBehind (by decide +kernel) (by decide +kernel) rfl (by decide +kernel) rfl ⟨by omega, by decide, Nat.le_of_ble_eq_true rfl⟩ rfl ((c_namesBehind _ (g_X6_advance_28 I G ) G (I 28 6)).mono (fun r I9 G9 P9 q => by rw [s29_16] at q; exact q)) ?_
        rintro rz Iz Gz Pz ⟨e0, e1, e2, e3⟩
        rw [e0, e1, e2, e3]
        show am_V X 0 0 _ _ ad (251, [(0, .ref 28), (1, .int x1), (2, .int (I 28 6))], [.ref 51, .ref 28, .int (I 28 6), .ref 38], (g_X6_advance_28 I G ), G, (gP rd))
        obtain ⟨r11, I11, G11, hc, h⟩ := rb_some h
        refine am_callV hX hi (M := mX6_readKnownName) (idx := 150) (d' := 3) (b := 28) (ci := 4) (As := [.ref 51]) (rest := [.int (I 28 6), .ref 38]) mkX6_readKnownName miX6_readKnownName mvX6_readKnownName (by decide +kernel) (by decide +kernel) rfl (by decide +kernel) rfl ⟨by omega, by decide, Nat.le_of_ble_eq_true rfl⟩ rfl (c_X6_readKnownName_28_51 _ (g_X6_advance_28 I G ) G  hc) ?_
        rintro rz Iz Gz Pz ⟨e0, e1, e2, e3⟩
        rw [e0, e1, e2, e3]
        show am_V X 0 0 _ _ ad (254, [(0, .ref 28), (1, .int x1), (2, .int (I 28 6))], [.int r11, .int (I 28 6), .ref 38], I11, G11, (gP rd))
        refine am_callV hX hi (M := mX3_add) (idx := 161) (d' := 2) (b := 38) (ci := 1) (As := [.int (I 28 6), .int r11]) (rest := []) mkX3_add miX3_add mvX3_add (by decide +kernel) (by decide +kernel) rfl (by decide +kernel) rfl ⟨by omega, by decide, Nat.le_of_ble_eq_true rfl⟩ rfl (c_X3_add_38 _ I11 G11 (I 28 6) r11) ?_
        rintro rz Iz Gz Pz ⟨e0, e1, e2, e3⟩
        rw [e0, e1, e2, e3]
        show am_V X 0 0 _ _ ad (257, [(0, .ref 28), (1, .int x1), (2, .int (I 28 6))], [], (g_X3_add_38 I11 G11 (I 28 6) r11), G11, (gP rd))
        refine am_blk 257 [(.goto (78), 3, 0, 335, .null)] (335, [(0, .ref 28), (1, .int x1), (2, .int (I 28 6))], [], (g_X3_add_38 I11 G11 (I 28 6) r11), G11, (gP rd)) (True) hX hi (by decide +kernel) rfl trivial ?_
        cases h
        refine am_vret hX hi rfl (by decide +kernel) ?_
        exact ⟨rfl, rfl, rfl, rfl⟩
      rw [if_neg s29_16] at h
      by_cases s29_17 : (I 28 6) = (17 : Int32)
      · rw [if_pos s29_17] at h
        refine am_tsi hX hi (dflt := (302)) (lo := (6)) (hi' := (40)) (offs := #[(204), (302), (302), (204), (302), (302), (302), (302), (302), (185), (204), (231), (302), (302), (302), (302), (231), (231), (282), (302), (302), (302), (302), (302), (302), (255), (302), (302), (302), (302), (302), (302), (302), (302), (155)]) (len := 155) (off := (231)) (tgt := 260) (by decide +kernel) (by rw [s29_17]; decide) (by rw [s29_17]; decide) (by rw [s29_17]; rfl) (by decide) ?_
        refine am_blk 260 [(.aload_n 0, 1, 0, 0, .null)] (261, [(0, .ref 28), (1, .int x1), (2, .int (I 28 6))], [.ref 28], I, G, (gP rd)) (True) hX hi (by decide +kernel) rfl trivial ?_
        refine am_callV hX hi (M := mX6_advance) (idx := 100) (d' := 2) (b := 28) (ci := 4) (As := []) (rest := []) mkX6_advance miX6_advance mvX6_advance (by decide +kernel) (by decide +kernel) rfl (by decide +kernel) rfl ⟨by omega, by decide, Nat.le_of_ble_eq_true rfl⟩ rfl (c_X6_advance_28 _ I G ) ?_
        rintro rz Iz Gz Pz ⟨e0, e1, e2, e3⟩
        rw [e0, e1, e2, e3]
        show am_V X 0 0 _ _ ad (264, [(0, .ref 28), (1, .int x1), (2, .int (I 28 6))], [], (g_X6_advance_28 I G ), G, (gP rd))
        refine am_blk 264 [(.aload_n 0, 1, 0, 0, .null), (.iload_n 1, 1, 1, 0, .null)] (266, [(0, .ref 28), (1, .int x1), (2, .int (I 28 6))], [.int x1, .ref 28], (g_X6_advance_28 I G ), G, (gP rd)) (True) hX hi (by decide +kernel) rfl trivial ?_
        obtain ⟨r12, I12, G12, hc, h⟩ := rb_some h
        refine am_callV hX hi (M := mX6_readPair) (idx := 184) (d' := (8 + n9)) (b := 28) (ci := 4) (As := [.int x1]) (rest := []) mkX6_readPair miX6_readPair mvX6_readPair (by decide +kernel) (by decide +kernel) rfl (by decide +kernel) rfl ⟨by omega, by decide, Nat.le_of_ble_eq_true rfl⟩ rfl (h6 _ (g_X6_advance_28 I G ) G x1 _ hc) ?_
        rintro rz Iz Gz Pz ⟨e0, e1, e2, e3⟩
        rw [e0, e1, e2, e3]
        show am_V X 0 0 _ _ ad (269, [(0, .ref 28), (1, .int x1), (2, .int (I 28 6))], [], I12, G12, (gP rd))
        refine am_blk 269 [(.aload_n 0, 1, 0, 0, .null), (.getfield 12, 3, 4, 1, .null), (.getfield 91, 3, 3, 8, .null), (.iload_n 2, 1, 2, 0, .null), (.iconst (0), 1, 0, 0, .int (0 : Int32))] (278, [(0, .ref 28), (1, .int x1), (2, .int (I 28 6))], [.int (0 : Int32), .int (I 28 6), .ref 38], I12, G12, (gP rd)) (True) hX hi (by decide +kernel) rfl trivial ?_
        refine am_callV hX hi (M := mX3_add) (idx := 161) (d' := 2) (b := 38) (ci := 1) (As := [.int (I 28 6), .int (0 : Int32)]) (rest := []) mkX3_add miX3_add mvX3_add (by decide +kernel) (by decide +kernel) rfl (by decide +kernel) rfl ⟨by omega, by decide, Nat.le_of_ble_eq_true rfl⟩ rfl (c_X3_add_38 _ I12 G12 (I 28 6) (0 : Int32)) ?_
        rintro rz Iz Gz Pz ⟨e0, e1, e2, e3⟩
        rw [e0, e1, e2, e3]
        show am_V X 0 0 _ _ ad (281, [(0, .ref 28), (1, .int x1), (2, .int (I 28 6))], [], (g_X3_add_38 I12 G12 (I 28 6) (0 : Int32)), G12, (gP rd))
        refine am_blk 281 [(.goto (54), 3, 0, 335, .null)] (335, [(0, .ref 28), (1, .int x1), (2, .int (I 28 6))], [], (g_X3_add_38 I12 G12 (I 28 6) (0 : Int32)), G12, (gP rd)) (True) hX hi (by decide +kernel) rfl trivial ?_
        cases h
        refine am_vret hX hi rfl (by decide +kernel) ?_
        exact ⟨rfl, rfl, rfl, rfl⟩
      rw [if_neg s29_17] at h
      by_cases s29_22 : (I 28 6) = (22 : Int32)
      · rw [if_pos s29_22] at h
        refine am_tsi hX hi (dflt := (302)) (lo := (6)) (hi' := (40)) (offs := #[(204), (302), (302), (204), (302), (302), (302), (302), (302), (185), (204), (231), (302), (302), (302), (302), (231), (231), (282), (302), (302), (302), (302), (302), (302), (255), (302), (302), (302), (302), (302), (302), (302), (302), (155)]) (len := 155) (off := (231)) (tgt := 260) (by decide +kernel) (by rw [s29_22]; decide) (by rw [s29_22]; decide) (by rw [s29_22]; rfl) (by decide) ?_
        refine am_blk 260 [(.aload_n 0, 1, 0, 0, .null)] (261, [(0, .ref 28), (1, .int x1), (2, .int (I 28 6))], [.ref 28], I, G, (gP rd)) (True) hX hi (by decide +kernel) rfl trivial ?_
        refine am_callV hX hi (M := mX6_advance) (idx := 100) (d' := 2) (b := 28) (ci := 4) (As := []) (rest := []) mkX6_advance miX6_advance mvX6_advance (by decide +kernel) (by decide +kernel) rfl (by decide +kernel) rfl ⟨by omega, by decide, Nat.le_of_ble_eq_true rfl⟩ rfl (c_X6_advance_28 _ I G ) ?_
        rintro rz Iz Gz Pz ⟨e0, e1, e2, e3⟩
        rw [e0, e1, e2, e3]
        show am_V X 0 0 _ _ ad (264, [(0, .ref 28), (1, .int x1), (2, .int (I 28 6))], [], (g_X6_advance_28 I G ), G, (gP rd))
        refine am_blk 264 [(.aload_n 0, 1, 0, 0, .null), (.iload_n 1, 1, 1, 0, .null)] (266, [(0, .ref 28), (1, .int x1), (2, .int (I 28 6))], [.int x1, .ref 28], (g_X6_advance_28 I G ), G, (gP rd)) (True) hX hi (by decide +kernel) rfl trivial ?_
        obtain ⟨r13, I13, G13, hc, h⟩ := rb_some h
        refine am_callV hX hi (M := mX6_readPair) (idx := 184) (d' := (8 + n9)) (b := 28) (ci := 4) (As := [.int x1]) (rest := []) mkX6_readPair miX6_readPair mvX6_readPair (by decide +kernel) (by decide +kernel) rfl (by decide +kernel) rfl ⟨by omega, by decide, Nat.le_of_ble_eq_true rfl⟩ rfl (h6 _ (g_X6_advance_28 I G ) G x1 _ hc) ?_
        rintro rz Iz Gz Pz ⟨e0, e1, e2, e3⟩
        rw [e0, e1, e2, e3]
        show am_V X 0 0 _ _ ad (269, [(0, .ref 28), (1, .int x1), (2, .int (I 28 6))], [], I13, G13, (gP rd))
        refine am_blk 269 [(.aload_n 0, 1, 0, 0, .null), (.getfield 12, 3, 4, 1, .null), (.getfield 91, 3, 3, 8, .null), (.iload_n 2, 1, 2, 0, .null), (.iconst (0), 1, 0, 0, .int (0 : Int32))] (278, [(0, .ref 28), (1, .int x1), (2, .int (I 28 6))], [.int (0 : Int32), .int (I 28 6), .ref 38], I13, G13, (gP rd)) (True) hX hi (by decide +kernel) rfl trivial ?_
        refine am_callV hX hi (M := mX3_add) (idx := 161) (d' := 2) (b := 38) (ci := 1) (As := [.int (I 28 6), .int (0 : Int32)]) (rest := []) mkX3_add miX3_add mvX3_add (by decide +kernel) (by decide +kernel) rfl (by decide +kernel) rfl ⟨by omega, by decide, Nat.le_of_ble_eq_true rfl⟩ rfl (c_X3_add_38 _ I13 G13 (I 28 6) (0 : Int32)) ?_
        rintro rz Iz Gz Pz ⟨e0, e1, e2, e3⟩
        rw [e0, e1, e2, e3]
        show am_V X 0 0 _ _ ad (281, [(0, .ref 28), (1, .int x1), (2, .int (I 28 6))], [], (g_X3_add_38 I13 G13 (I 28 6) (0 : Int32)), G13, (gP rd))
        refine am_blk 281 [(.goto (54), 3, 0, 335, .null)] (335, [(0, .ref 28), (1, .int x1), (2, .int (I 28 6))], [], (g_X3_add_38 I13 G13 (I 28 6) (0 : Int32)), G13, (gP rd)) (True) hX hi (by decide +kernel) rfl trivial ?_
        cases h
        refine am_vret hX hi rfl (by decide +kernel) ?_
        exact ⟨rfl, rfl, rfl, rfl⟩
      rw [if_neg s29_22] at h
      by_cases s29_23 : (I 28 6) = (23 : Int32)
      · rw [if_pos s29_23] at h
        refine am_tsi hX hi (dflt := (302)) (lo := (6)) (hi' := (40)) (offs := #[(204), (302), (302), (204), (302), (302), (302), (302), (302), (185), (204), (231), (302), (302), (302), (302), (231), (231), (282), (302), (302), (302), (302), (302), (302), (255), (302), (302), (302), (302), (302), (302), (302), (302), (155)]) (len := 155) (off := (231)) (tgt := 260) (by decide +kernel) (by rw [s29_23]; decide) (by rw [s29_23]; decide) (by rw [s29_23]; rfl) (by decide) ?_
        refine am_blk 260 [(.aload_n 0, 1, 0, 0, .null)] (261, [(0, .ref 28), (1, .int x1), (2, .int (I 28 6))], [.ref 28], I, G, (gP rd)) (True) hX hi (by decide +kernel) rfl trivial ?_
        refine am_callV hX hi (M := mX6_advance) (idx := 100) (d' := 2) (b := 28) (ci := 4) (As := []) (rest := []) mkX6_advance miX6_advance mvX6_advance (by decide +kernel) (by decide +kernel) rfl (by decide +kernel) rfl ⟨by omega, by decide, Nat.le_of_ble_eq_true rfl⟩ rfl (c_X6_advance_28 _ I G ) ?_
        rintro rz Iz Gz Pz ⟨e0, e1, e2, e3⟩
        rw [e0, e1, e2, e3]
        show am_V X 0 0 _ _ ad (264, [(0, .ref 28), (1, .int x1), (2, .int (I 28 6))], [], (g_X6_advance_28 I G ), G, (gP rd))
        refine am_blk 264 [(.aload_n 0, 1, 0, 0, .null), (.iload_n 1, 1, 1, 0, .null)] (266, [(0, .ref 28), (1, .int x1), (2, .int (I 28 6))], [.int x1, .ref 28], (g_X6_advance_28 I G ), G, (gP rd)) (True) hX hi (by decide +kernel) rfl trivial ?_
        obtain ⟨r14, I14, G14, hc, h⟩ := rb_some h
        refine am_callV hX hi (M := mX6_readPair) (idx := 184) (d' := (8 + n9)) (b := 28) (ci := 4) (As := [.int x1]) (rest := []) mkX6_readPair miX6_readPair mvX6_readPair (by decide +kernel) (by decide +kernel) rfl (by decide +kernel) rfl ⟨by omega, by decide, Nat.le_of_ble_eq_true rfl⟩ rfl (h6 _ (g_X6_advance_28 I G ) G x1 _ hc) ?_
        rintro rz Iz Gz Pz ⟨e0, e1, e2, e3⟩
        rw [e0, e1, e2, e3]
        show am_V X 0 0 _ _ ad (269, [(0, .ref 28), (1, .int x1), (2, .int (I 28 6))], [], I14, G14, (gP rd))
        refine am_blk 269 [(.aload_n 0, 1, 0, 0, .null), (.getfield 12, 3, 4, 1, .null), (.getfield 91, 3, 3, 8, .null), (.iload_n 2, 1, 2, 0, .null), (.iconst (0), 1, 0, 0, .int (0 : Int32))] (278, [(0, .ref 28), (1, .int x1), (2, .int (I 28 6))], [.int (0 : Int32), .int (I 28 6), .ref 38], I14, G14, (gP rd)) (True) hX hi (by decide +kernel) rfl trivial ?_
        refine am_callV hX hi (M := mX3_add) (idx := 161) (d' := 2) (b := 38) (ci := 1) (As := [.int (I 28 6), .int (0 : Int32)]) (rest := []) mkX3_add miX3_add mvX3_add (by decide +kernel) (by decide +kernel) rfl (by decide +kernel) rfl ⟨by omega, by decide, Nat.le_of_ble_eq_true rfl⟩ rfl (c_X3_add_38 _ I14 G14 (I 28 6) (0 : Int32)) ?_
        rintro rz Iz Gz Pz ⟨e0, e1, e2, e3⟩
        rw [e0, e1, e2, e3]
        show am_V X 0 0 _ _ ad (281, [(0, .ref 28), (1, .int x1), (2, .int (I 28 6))], [], (g_X3_add_38 I14 G14 (I 28 6) (0 : Int32)), G14, (gP rd))
        refine am_blk 281 [(.goto (54), 3, 0, 335, .null)] (335, [(0, .ref 28), (1, .int x1), (2, .int (I 28 6))], [], (g_X3_add_38 I14 G14 (I 28 6) (0 : Int32)), G14, (gP rd)) (True) hX hi (by decide +kernel) rfl trivial ?_
        cases h
        refine am_vret hX hi rfl (by decide +kernel) ?_
        exact ⟨rfl, rfl, rfl, rfl⟩
      rw [if_neg s29_23] at h
      by_cases s29_24 : (I 28 6) = (24 : Int32)
      · rw [if_pos s29_24] at h
        refine am_tsi hX hi (dflt := (302)) (lo := (6)) (hi' := (40)) (offs := #[(204), (302), (302), (204), (302), (302), (302), (302), (302), (185), (204), (231), (302), (302), (302), (302), (231), (231), (282), (302), (302), (302), (302), (302), (302), (255), (302), (302), (302), (302), (302), (302), (302), (302), (155)]) (len := 155) (off := (282)) (tgt := 311) (by decide +kernel) (by rw [s29_24]; decide) (by rw [s29_24]; decide) (by rw [s29_24]; rfl) (by decide) ?_
        refine am_blk 311 [(.aload_n 0, 1, 0, 0, .null)] (312, [(0, .ref 28), (1, .int x1), (2, .int (I 28 6))], [.ref 28], I, G, (gP rd)) (True) hX hi (by decide +kernel) rfl trivial ?_
        refine am_callV hX hi (M := mX6_advance) (idx := 100) (d' := 2) (b := 28) (ci := 4) (As := []) (rest := []) mkX6_advance miX6_advance mvX6_advance (by decide +kernel) (by decide +kernel) rfl (by decide +kernel) rfl ⟨by omega, by decide, Nat.le_of_ble_eq_true rfl⟩ rfl (c_X6_advance_28 _ I G ) ?_
        rintro rz Iz Gz Pz ⟨e0, e1, e2, e3⟩
        rw [e0, e1, e2, e3]
        show am_V X 0 0 _ _ ad (315, [(0, .ref 28), (1, .int x1), (2, .int (I 28 6))], [], (g_X6_advance_28 I G ), G, (gP rd))
        refine am_blk 315 [(.aload_n 0, 1, 0, 0, .null), (.iload_n 1, 1, 1, 0, .null), (.iconst (1), 1, 0, 0, .int (1 : Int32)), (.iadd, 1, 0, 0, .null)] (319, [(0, .ref 28), (1, .int x1), (2, .int (I 28 6))], [.int (x1 + (1 : Int32)), .ref 28], (g_X6_advance_28 I G ), G, (gP rd)) (True) hX hi (by decide +kernel) rfl trivial ?_
        obtain ⟨r15, I15, G15, hc, h⟩ := rb_some h
        refine am_callV hX hi (M := mX6_readSum) (idx := 88) (d' := (8 + n9)) (b := 28) (ci := 4) (As := [.int (x1 + (1 : Int32))]) (rest := []) mkX6_readSum miX6_readSum mvX6_readSum (by decide +kernel) (by decide +kernel) rfl (by decide +kernel) rfl ⟨by omega, by decide, Nat.le_of_ble_eq_true rfl⟩ rfl (h3 _ (g_X6_advance_28 I G ) G (x1 + (1 : Int32)) _ hc) ?_
        rintro rz Iz Gz Pz ⟨e0, e1, e2, e3⟩
        rw [e0, e1, e2, e3]
        show am_V X 0 0 _ _ ad (322, [(0, .ref 28), (1, .int x1), (2, .int (I 28 6))], [], I15, G15, (gP rd))
        refine am_blk 322 [(.aload_n 0, 1, 0, 0, .null), (.bipush (25), 2, 0, 0, .int (25 : Int32))] (325, [(0, .ref 28), (1, .int x1), (2, .int (I 28 6))], [.int (25 : Int32), .ref 28], I15, G15, (gP rd)) (True) hX hi (by decide +kernel) rfl trivial ?_
        refine am_callV hX hi (M := mX6_expect) (idx := 109) (d' := 3) (b := 28) (ci := 4) (As := [.int (25 : Int32)]) (rest := []) mkX6_expect miX6_expect mvX6_expect (by decide +kernel) (by decide +kernel) rfl (by decide +kernel) rfl ⟨by omega, by decide, Nat.le_of_ble_eq_true rfl⟩ rfl (c_X6_expect_28 _ I15 G15 (25 : Int32)) ?_
        rintro rz Iz Gz Pz ⟨e0, e1, e2, e3⟩
        rw [e0, e1, e2, e3]
        show am_V X 0 0 _ _ ad (328, [(0, .ref 28), (1, .int x1), (2, .int (I 28 6))], [], (g_X6_expect_28 I15 G15 (25 : Int32)), G15, (gP rd))
        refine am_blk 328 [(.goto (7), 3, 0, 335, .null)] (335, [(0, .ref 28), (1, .int x1), (2, .int (I 28 6))], [], (g_X6_expect_28 I15 G15 (25 : Int32)), G15, (gP rd)) (True) hX hi (by decide +kernel) rfl trivial ?_
        cases h
        refine am_vret hX hi rfl (by decide +kernel) ?_
        exact ⟨rfl, rfl, rfl, rfl⟩
      rw [if_neg s29_24] at h
      by_cases s29_31 : (I 28 6) = (31 : Int32)
      · rw [if_pos s29_31] at h
        refine am_tsi hX hi (dflt := (302)) (lo := (6)) (hi' := (40)) (offs := #[(204), (302), (302), (204), (302), (302), (302), (302), (302), (185), (204), (231), (302), (302), (302), (302), (231), (231), (282), (302), (302), (302), (302), (302), (302), (255), (302), (302), (302), (302), (302), (302), (302), (302), (155)]) (len := 155) (off := (255)) (tgt := 284) (by decide +kernel) (by rw [s29_31]; decide) (by rw [s29_31]; decide) (by rw [s29_31]; rfl) (by decide) ?_
        refine am_blk 284 [(.aload_n 0, 1, 0, 0, .null)] (285, [(0, .ref 28), (1, .int x1), (2, .int (I 28 6))], [.ref 28], I, G, (gP rd)) (True) hX hi (by decide +kernel) rfl trivial ?_
        refine am_callV hX hi (M := mX6_advance) (idx := 100) (d' := 2) (b := 28) (ci := 4) (As := []) (rest := []) mkX6_advance miX6_advance mvX6_advance (by decide +kernel) (by decide +kernel) rfl (by decide +kernel) rfl ⟨by omega, by decide, Nat.le_of_ble_eq_true rfl⟩ rfl (c_X6_advance_28 _ I G ) ?_
        rintro rz Iz Gz Pz ⟨e0, e1, e2, e3⟩
        rw [e0, e1, e2, e3]
        show am_V X 0 0 _ _ ad (288, [(0, .ref 28), (1, .int x1), (2, .int (I 28 6))], [], (g_X6_advance_28 I G ), G, (gP rd))
        refine am_blk 288 [(.aload_n 0, 1, 0, 0, .null), (.iload_n 1, 1, 1, 0, .null), (.iconst (1), 1, 0, 0, .int (1 : Int32)), (.iadd, 1, 0, 0, .null)] (292, [(0, .ref 28), (1, .int x1), (2, .int (I 28 6))], [.int (x1 + (1 : Int32)), .ref 28], (g_X6_advance_28 I G ), G, (gP rd)) (True) hX hi (by decide +kernel) rfl trivial ?_
        obtain ⟨r16, I16, G16, hc, h⟩ := rb_some h
        refine am_callV hX hi (M := mX6_readValue) (idx := 173) (d' := (8 + n9)) (b := 28) (ci := 4) (As := [.int (x1 + (1 : Int32))]) (rest := []) mkX6_readValue miX6_readValue mvX6_readValue (by decide +kernel) (by decide +kernel) rfl (by decide +kernel) rfl ⟨by omega, by decide, Nat.le_of_ble_eq_true rfl⟩ rfl (h5 _ (g_X6_advance_28 I G ) G (x1 + (1 : Int32)) _ hc) ?_
        rintro rz Iz Gz Pz ⟨e0, e1, e2, e3⟩
        rw [e0, e1, e2, e3]
        show am_V X 0 0 _ _ ad (295, [(0, .ref 28), (1, .int x1), (2, .int (I 28 6))], [], I16, G16, (gP rd))
        refine am_blk 295 [(.aload_n 0, 1, 0, 0, .null), (.getfield 12, 3, 4, 1, .null), (.getfield 91, 3, 3, 8, .null), (.bipush (43), 2, 0, 0, .int (43 : Int32)), (.iconst (0), 1, 0, 0, .int (0 : Int32))] (305, [(0, .ref 28), (1, .int x1), (2, .int (I 28 6))], [.int (0 : Int32), .int (43 : Int32), .ref 38], I16, G16, (gP rd)) (True) hX hi (by decide +kernel) rfl trivial ?_
        refine am_callV hX hi (M := mX3_add) (idx := 161) (d' := 2) (b := 38) (ci := 1) (As := [.int (43 : Int32), .int (0 : Int32)]) (rest := []) mkX3_add miX3_add mvX3_add (by decide +kernel) (by decide +kernel) rfl (by decide +kernel) rfl ⟨by omega, by decide, Nat.le_of_ble_eq_true rfl⟩ rfl (c_X3_add_38 _ I16 G16 (43 : Int32) (0 : Int32)) ?_
        rintro rz Iz Gz Pz ⟨e0, e1, e2, e3⟩
        rw [e0, e1, e2, e3]
        show am_V X 0 0 _ _ ad (308, [(0, .ref 28), (1, .int x1), (2, .int (I 28 6))], [], (g_X3_add_38 I16 G16 (43 : Int32) (0 : Int32)), G16, (gP rd))
        refine am_blk 308 [(.goto (27), 3, 0, 335, .null)] (335, [(0, .ref 28), (1, .int x1), (2, .int (I 28 6))], [], (g_X3_add_38 I16 G16 (43 : Int32) (0 : Int32)), G16, (gP rd)) (True) hX hi (by decide +kernel) rfl trivial ?_
        cases h
        refine am_vret hX hi rfl (by decide +kernel) ?_
        exact ⟨rfl, rfl, rfl, rfl⟩
      rw [if_neg s29_31] at h
      by_cases s29_40 : (I 28 6) = (40 : Int32)
      · rw [if_pos s29_40] at h
        refine am_tsi hX hi (dflt := (302)) (lo := (6)) (hi' := (40)) (offs := #[(204), (302), (302), (204), (302), (302), (302), (302), (302), (185), (204), (231), (302), (302), (302), (302), (231), (231), (282), (302), (302), (302), (302), (302), (302), (255), (302), (302), (302), (302), (302), (302), (302), (302), (155)]) (len := 155) (off := (155)) (tgt := 184) (by decide +kernel) (by rw [s29_40]; decide) (by rw [s29_40]; decide) (by rw [s29_40]; rfl) (by decide) ?_
        refine am_blk 184 [(.aload_n 0, 1, 0, 0, .null), (.getfield 12, 3, 4, 1, .null), (.getfield 91, 3, 3, 8, .null), (.iload_n 2, 1, 2, 0, .null), (.aload_n 0, 1, 0, 0, .null), (.getfield 33, 3, 4, 0, .null), (.aload_n 0, 1, 0, 0, .null), (.getfield 55, 3, 4, 5, .null)] (200, [(0, .ref 28), (1, .int x1), (2, .int (I 28 6))], [.int (I 28 5), .ref 1, .int (I 28 6), .ref 38], I, G, (gP rd)) (True) hX hi (by decide +kernel) rfl trivial ?_
        refine am_callV hX hi (M := mX9_contentAt) (idx := 176) (d' := 1) (b := 1) (ci := 7) (As := [.int (I 28 5)]) (rest := [.int (I 28 6), .ref 38]) mkX9_contentAt miX9_contentAt mvX9_contentAt (by decide +kernel) (by decide +kernel) rfl (by decide +kernel) rfl ⟨by omega, by decide, Nat.le_of_ble_eq_true rfl⟩ rfl (c_X9_contentAt_1 _ I G (I 28 5)) ?_
        rintro rz Iz Gz Pz ⟨e0, e1, e2, e3⟩
        rw [e0, e1, e2, e3]
        show am_V X 0 0 _ _ ad (203, [(0, .ref 28), (1, .int x1), (2, .int (I 28 6))], [.long (f_X9_contentAt_1 I G (I 28 5)), .int (I 28 6), .ref 38], I, G, (gP rd))
        refine am_blk 203 [(.l2i, 1, 0, 0, .null)] (204, [(0, .ref 28), (1, .int x1), (2, .int (I 28 6))], [.int (f_X9_contentAt_1 I G (I 28 5)).toInt32, .int (I 28 6), .ref 38], I, G, (gP rd)) (True) hX hi (by decide +kernel) rfl trivial ?_
        refine am_callV hX hi (M := mX3_add) (idx := 161) (d' := 2) (b := 38) (ci := 1) (As := [.int (I 28 6), .int (f_X9_contentAt_1 I G (I 28 5)).toInt32]) (rest := []) mkX3_add miX3_add mvX3_add (by decide +kernel) (by decide +kernel) rfl (by decide +kernel) rfl ⟨by omega, by decide, Nat.le_of_ble_eq_true rfl⟩ rfl (c_X3_add_38 _ I G (I 28 6) (f_X9_contentAt_1 I G (I 28 5)).toInt32) ?_
        rintro rz Iz Gz Pz ⟨e0, e1, e2, e3⟩
        rw [e0, e1, e2, e3]
        show am_V X 0 0 _ _ ad (207, [(0, .ref 28), (1, .int x1), (2, .int (I 28 6))], [], (g_X3_add_38 I G (I 28 6) (f_X9_contentAt_1 I G (I 28 5)).toInt32), G, (gP rd))
        refine am_blk 207 [(.aload_n 0, 1, 0, 0, .null)] (208, [(0, .ref 28), (1, .int x1), (2, .int (I 28 6))], [.ref 28], (g_X3_add_38 I G (I 28 6) (f_X9_contentAt_1 I G (I 28 5)).toInt32), G, (gP rd)) (True) hX hi (by decide +kernel) rfl trivial ?_
        refine am_callV hX hi (M := mX6_advance) (idx := 100) (d' := 2) (b := 28) (ci := 4) (As := []) (rest := []) mkX6_advance miX6_advance mvX6_advance (by decide +kernel) (by decide +kernel) rfl (by decide +kernel) rfl ⟨by omega, by decide, Nat.le_of_ble_eq_true rfl⟩ rfl (c_X6_advance_28 _ (g_X3_add_38 I G (I 28 6) (f_X9_contentAt_1 I G (I 28 5)).toInt32) G ) ?_
        rintro rz Iz Gz Pz ⟨e0, e1, e2, e3⟩
        rw [e0, e1, e2, e3]
        show am_V X 0 0 _ _ ad (211, [(0, .ref 28), (1, .int x1), (2, .int (I 28 6))], [], (g_X6_advance_28 (g_X3_add_38 I G (I 28 6) (f_X9_contentAt_1 I G (I 28 5)).toInt32) G ), G, (gP rd))
        refine am_blk 211 [(.goto (124), 3, 0, 335, .null)] (335, [(0, .ref 28), (1, .int x1), (2, .int (I 28 6))], [], (g_X6_advance_28 (g_X3_add_38 I G (I 28 6) (f_X9_contentAt_1 I G (I 28 5)).toInt32) G ), G, (gP rd)) (True) hX hi (by decide +kernel) rfl trivial ?_
        cases h
        refine am_vret hX hi rfl (by decide +kernel) ?_
        exact ⟨rfl, rfl, rfl, rfl⟩
      rw [if_neg s29_40] at h
      by_cases s29_7 : (I 28 6) = (7 : Int32)
      · refine am_tsi hX hi (dflt := (302)) (lo := (6)) (hi' := (40)) (offs := #[(204), (302), (302), (204), (302), (302), (302), (302), (302), (185), (204), (231), (302), (302), (302), (302), (231), (231), (282), (302), (302), (302), (302), (302), (302), (255), (302), (302), (302), (302), (302), (302), (302), (302), (155)]) (len := 155) (off := (302)) (tgt := 331) (by decide +kernel) (by rw [s29_7]; decide) (by rw [s29_7]; decide) (by rw [s29_7]; rfl) (by decide) ?_
        exact (l_X6_readValue_28 h0 h1 h2 h3 h4 h5 h6 rd hX hi FU) _ _ _ _ _ h
      by_cases s29_8 : (I 28 6) = (8 : Int32)
      · refine am_tsi hX hi (dflt := (302)) (lo := (6)) (hi' := (40)) (offs := #[(204), (302), (302), (204), (302), (302), (302), (302), (302), (185), (204), (231), (302), (302), (302), (302), (231), (231), (282), (302), (302), (302), (302), (302), (302), (255), (302), (302), (302), (302), (302), (302), (302), (302), (155)]) (len := 155) (off := (302)) (tgt := 331) (by decide +kernel) (by rw [s29_8]; decide) (by rw [s29_8]; decide) (by rw [s29_8]; rfl) (by decide) ?_
        exact (l_X6_readValue_28 h0 h1 h2 h3 h4 h5 h6 rd hX hi FU) _ _ _ _ _ h
      by_cases s29_10 : (I 28 6) = (10 : Int32)
      · refine am_tsi hX hi (dflt := (302)) (lo := (6)) (hi' := (40)) (offs := #[(204), (302), (302), (204), (302), (302), (302), (302), (302), (185), (204), (231), (302), (302), (302), (302), (231), (231), (282), (302), (302), (302), (302), (302), (302), (255), (302), (302), (302), (302), (302), (302), (302), (302), (155)]) (len := 155) (off := (302)) (tgt := 331) (by decide +kernel) (by rw [s29_10]; decide) (by rw [s29_10]; decide) (by rw [s29_10]; rfl) (by decide) ?_
        exact (l_X6_readValue_28 h0 h1 h2 h3 h4 h5 h6 rd hX hi FU) _ _ _ _ _ h
      by_cases s29_11 : (I 28 6) = (11 : Int32)
      · refine am_tsi hX hi (dflt := (302)) (lo := (6)) (hi' := (40)) (offs := #[(204), (302), (302), (204), (302), (302), (302), (302), (302), (185), (204), (231), (302), (302), (302), (302), (231), (231), (282), (302), (302), (302), (302), (302), (302), (255), (302), (302), (302), (302), (302), (302), (302), (302), (155)]) (len := 155) (off := (302)) (tgt := 331) (by decide +kernel) (by rw [s29_11]; decide) (by rw [s29_11]; decide) (by rw [s29_11]; rfl) (by decide) ?_
        exact (l_X6_readValue_28 h0 h1 h2 h3 h4 h5 h6 rd hX hi FU) _ _ _ _ _ h
      by_cases s29_12 : (I 28 6) = (12 : Int32)
      · refine am_tsi hX hi (dflt := (302)) (lo := (6)) (hi' := (40)) (offs := #[(204), (302), (302), (204), (302), (302), (302), (302), (302), (185), (204), (231), (302), (302), (302), (302), (231), (231), (282), (302), (302), (302), (302), (302), (302), (255), (302), (302), (302), (302), (302), (302), (302), (302), (155)]) (len := 155) (off := (302)) (tgt := 331) (by decide +kernel) (by rw [s29_12]; decide) (by rw [s29_12]; decide) (by rw [s29_12]; rfl) (by decide) ?_
        exact (l_X6_readValue_28 h0 h1 h2 h3 h4 h5 h6 rd hX hi FU) _ _ _ _ _ h
      by_cases s29_13 : (I 28 6) = (13 : Int32)
      · refine am_tsi hX hi (dflt := (302)) (lo := (6)) (hi' := (40)) (offs := #[(204), (302), (302), (204), (302), (302), (302), (302), (302), (185), (204), (231), (302), (302), (302), (302), (231), (231), (282), (302), (302), (302), (302), (302), (302), (255), (302), (302), (302), (302), (302), (302), (302), (302), (155)]) (len := 155) (off := (302)) (tgt := 331) (by decide +kernel) (by rw [s29_13]; decide) (by rw [s29_13]; decide) (by rw [s29_13]; rfl) (by decide) ?_
        exact (l_X6_readValue_28 h0 h1 h2 h3 h4 h5 h6 rd hX hi FU) _ _ _ _ _ h
      by_cases s29_14 : (I 28 6) = (14 : Int32)
      · refine am_tsi hX hi (dflt := (302)) (lo := (6)) (hi' := (40)) (offs := #[(204), (302), (302), (204), (302), (302), (302), (302), (302), (185), (204), (231), (302), (302), (302), (302), (231), (231), (282), (302), (302), (302), (302), (302), (302), (255), (302), (302), (302), (302), (302), (302), (302), (302), (155)]) (len := 155) (off := (302)) (tgt := 331) (by decide +kernel) (by rw [s29_14]; decide) (by rw [s29_14]; decide) (by rw [s29_14]; rfl) (by decide) ?_
        exact (l_X6_readValue_28 h0 h1 h2 h3 h4 h5 h6 rd hX hi FU) _ _ _ _ _ h
      by_cases s29_18 : (I 28 6) = (18 : Int32)
      · refine am_tsi hX hi (dflt := (302)) (lo := (6)) (hi' := (40)) (offs := #[(204), (302), (302), (204), (302), (302), (302), (302), (302), (185), (204), (231), (302), (302), (302), (302), (231), (231), (282), (302), (302), (302), (302), (302), (302), (255), (302), (302), (302), (302), (302), (302), (302), (302), (155)]) (len := 155) (off := (302)) (tgt := 331) (by decide +kernel) (by rw [s29_18]; decide) (by rw [s29_18]; decide) (by rw [s29_18]; rfl) (by decide) ?_
        exact (l_X6_readValue_28 h0 h1 h2 h3 h4 h5 h6 rd hX hi FU) _ _ _ _ _ h
      by_cases s29_19 : (I 28 6) = (19 : Int32)
      · refine am_tsi hX hi (dflt := (302)) (lo := (6)) (hi' := (40)) (offs := #[(204), (302), (302), (204), (302), (302), (302), (302), (302), (185), (204), (231), (302), (302), (302), (302), (231), (231), (282), (302), (302), (302), (302), (302), (302), (255), (302), (302), (302), (302), (302), (302), (302), (302), (155)]) (len := 155) (off := (302)) (tgt := 331) (by decide +kernel) (by rw [s29_19]; decide) (by rw [s29_19]; decide) (by rw [s29_19]; rfl) (by decide) ?_
        exact (l_X6_readValue_28 h0 h1 h2 h3 h4 h5 h6 rd hX hi FU) _ _ _ _ _ h
      by_cases s29_20 : (I 28 6) = (20 : Int32)
      · refine am_tsi hX hi (dflt := (302)) (lo := (6)) (hi' := (40)) (offs := #[(204), (302), (302), (204), (302), (302), (302), (302), (302), (185), (204), (231), (302), (302), (302), (302), (231), (231), (282), (302), (302), (302), (302), (302), (302), (255), (302), (302), (302), (302), (302), (302), (302), (302), (155)]) (len := 155) (off := (302)) (tgt := 331) (by decide +kernel) (by rw [s29_20]; decide) (by rw [s29_20]; decide) (by rw [s29_20]; rfl) (by decide) ?_
        exact (l_X6_readValue_28 h0 h1 h2 h3 h4 h5 h6 rd hX hi FU) _ _ _ _ _ h
      by_cases s29_21 : (I 28 6) = (21 : Int32)
      · refine am_tsi hX hi (dflt := (302)) (lo := (6)) (hi' := (40)) (offs := #[(204), (302), (302), (204), (302), (302), (302), (302), (302), (185), (204), (231), (302), (302), (302), (302), (231), (231), (282), (302), (302), (302), (302), (302), (302), (255), (302), (302), (302), (302), (302), (302), (302), (302), (155)]) (len := 155) (off := (302)) (tgt := 331) (by decide +kernel) (by rw [s29_21]; decide) (by rw [s29_21]; decide) (by rw [s29_21]; rfl) (by decide) ?_
        exact (l_X6_readValue_28 h0 h1 h2 h3 h4 h5 h6 rd hX hi FU) _ _ _ _ _ h
      by_cases s29_25 : (I 28 6) = (25 : Int32)
      · refine am_tsi hX hi (dflt := (302)) (lo := (6)) (hi' := (40)) (offs := #[(204), (302), (302), (204), (302), (302), (302), (302), (302), (185), (204), (231), (302), (302), (302), (302), (231), (231), (282), (302), (302), (302), (302), (302), (302), (255), (302), (302), (302), (302), (302), (302), (302), (302), (155)]) (len := 155) (off := (302)) (tgt := 331) (by decide +kernel) (by rw [s29_25]; decide) (by rw [s29_25]; decide) (by rw [s29_25]; rfl) (by decide) ?_
        exact (l_X6_readValue_28 h0 h1 h2 h3 h4 h5 h6 rd hX hi FU) _ _ _ _ _ h
      by_cases s29_26 : (I 28 6) = (26 : Int32)
      · refine am_tsi hX hi (dflt := (302)) (lo := (6)) (hi' := (40)) (offs := #[(204), (302), (302), (204), (302), (302), (302), (302), (302), (185), (204), (231), (302), (302), (302), (302), (231), (231), (282), (302), (302), (302), (302), (302), (302), (255), (302), (302), (302), (302), (302), (302), (302), (302), (155)]) (len := 155) (off := (302)) (tgt := 331) (by decide +kernel) (by rw [s29_26]; decide) (by rw [s29_26]; decide) (by rw [s29_26]; rfl) (by decide) ?_
        exact (l_X6_readValue_28 h0 h1 h2 h3 h4 h5 h6 rd hX hi FU) _ _ _ _ _ h
      by_cases s29_27 : (I 28 6) = (27 : Int32)
      · refine am_tsi hX hi (dflt := (302)) (lo := (6)) (hi' := (40)) (offs := #[(204), (302), (302), (204), (302), (302), (302), (302), (302), (185), (204), (231), (302), (302), (302), (302), (231), (231), (282), (302), (302), (302), (302), (302), (302), (255), (302), (302), (302), (302), (302), (302), (302), (302), (155)]) (len := 155) (off := (302)) (tgt := 331) (by decide +kernel) (by rw [s29_27]; decide) (by rw [s29_27]; decide) (by rw [s29_27]; rfl) (by decide) ?_
        exact (l_X6_readValue_28 h0 h1 h2 h3 h4 h5 h6 rd hX hi FU) _ _ _ _ _ h
      by_cases s29_28 : (I 28 6) = (28 : Int32)
      · refine am_tsi hX hi (dflt := (302)) (lo := (6)) (hi' := (40)) (offs := #[(204), (302), (302), (204), (302), (302), (302), (302), (302), (185), (204), (231), (302), (302), (302), (302), (231), (231), (282), (302), (302), (302), (302), (302), (302), (255), (302), (302), (302), (302), (302), (302), (302), (302), (155)]) (len := 155) (off := (302)) (tgt := 331) (by decide +kernel) (by rw [s29_28]; decide) (by rw [s29_28]; decide) (by rw [s29_28]; rfl) (by decide) ?_
        exact (l_X6_readValue_28 h0 h1 h2 h3 h4 h5 h6 rd hX hi FU) _ _ _ _ _ h
      by_cases s29_29 : (I 28 6) = (29 : Int32)
      · refine am_tsi hX hi (dflt := (302)) (lo := (6)) (hi' := (40)) (offs := #[(204), (302), (302), (204), (302), (302), (302), (302), (302), (185), (204), (231), (302), (302), (302), (302), (231), (231), (282), (302), (302), (302), (302), (302), (302), (255), (302), (302), (302), (302), (302), (302), (302), (302), (155)]) (len := 155) (off := (302)) (tgt := 331) (by decide +kernel) (by rw [s29_29]; decide) (by rw [s29_29]; decide) (by rw [s29_29]; rfl) (by decide) ?_
        exact (l_X6_readValue_28 h0 h1 h2 h3 h4 h5 h6 rd hX hi FU) _ _ _ _ _ h
      by_cases s29_30 : (I 28 6) = (30 : Int32)
      · refine am_tsi hX hi (dflt := (302)) (lo := (6)) (hi' := (40)) (offs := #[(204), (302), (302), (204), (302), (302), (302), (302), (302), (185), (204), (231), (302), (302), (302), (302), (231), (231), (282), (302), (302), (302), (302), (302), (302), (255), (302), (302), (302), (302), (302), (302), (302), (302), (155)]) (len := 155) (off := (302)) (tgt := 331) (by decide +kernel) (by rw [s29_30]; decide) (by rw [s29_30]; decide) (by rw [s29_30]; rfl) (by decide) ?_
        exact (l_X6_readValue_28 h0 h1 h2 h3 h4 h5 h6 rd hX hi FU) _ _ _ _ _ h
      by_cases s29_32 : (I 28 6) = (32 : Int32)
      · refine am_tsi hX hi (dflt := (302)) (lo := (6)) (hi' := (40)) (offs := #[(204), (302), (302), (204), (302), (302), (302), (302), (302), (185), (204), (231), (302), (302), (302), (302), (231), (231), (282), (302), (302), (302), (302), (302), (302), (255), (302), (302), (302), (302), (302), (302), (302), (302), (155)]) (len := 155) (off := (302)) (tgt := 331) (by decide +kernel) (by rw [s29_32]; decide) (by rw [s29_32]; decide) (by rw [s29_32]; rfl) (by decide) ?_
        exact (l_X6_readValue_28 h0 h1 h2 h3 h4 h5 h6 rd hX hi FU) _ _ _ _ _ h
      by_cases s29_33 : (I 28 6) = (33 : Int32)
      · refine am_tsi hX hi (dflt := (302)) (lo := (6)) (hi' := (40)) (offs := #[(204), (302), (302), (204), (302), (302), (302), (302), (302), (185), (204), (231), (302), (302), (302), (302), (231), (231), (282), (302), (302), (302), (302), (302), (302), (255), (302), (302), (302), (302), (302), (302), (302), (302), (155)]) (len := 155) (off := (302)) (tgt := 331) (by decide +kernel) (by rw [s29_33]; decide) (by rw [s29_33]; decide) (by rw [s29_33]; rfl) (by decide) ?_
        exact (l_X6_readValue_28 h0 h1 h2 h3 h4 h5 h6 rd hX hi FU) _ _ _ _ _ h
      by_cases s29_34 : (I 28 6) = (34 : Int32)
      · refine am_tsi hX hi (dflt := (302)) (lo := (6)) (hi' := (40)) (offs := #[(204), (302), (302), (204), (302), (302), (302), (302), (302), (185), (204), (231), (302), (302), (302), (302), (231), (231), (282), (302), (302), (302), (302), (302), (302), (255), (302), (302), (302), (302), (302), (302), (302), (302), (155)]) (len := 155) (off := (302)) (tgt := 331) (by decide +kernel) (by rw [s29_34]; decide) (by rw [s29_34]; decide) (by rw [s29_34]; rfl) (by decide) ?_
        exact (l_X6_readValue_28 h0 h1 h2 h3 h4 h5 h6 rd hX hi FU) _ _ _ _ _ h
      by_cases s29_35 : (I 28 6) = (35 : Int32)
      · refine am_tsi hX hi (dflt := (302)) (lo := (6)) (hi' := (40)) (offs := #[(204), (302), (302), (204), (302), (302), (302), (302), (302), (185), (204), (231), (302), (302), (302), (302), (231), (231), (282), (302), (302), (302), (302), (302), (302), (255), (302), (302), (302), (302), (302), (302), (302), (302), (155)]) (len := 155) (off := (302)) (tgt := 331) (by decide +kernel) (by rw [s29_35]; decide) (by rw [s29_35]; decide) (by rw [s29_35]; rfl) (by decide) ?_
        exact (l_X6_readValue_28 h0 h1 h2 h3 h4 h5 h6 rd hX hi FU) _ _ _ _ _ h
      by_cases s29_36 : (I 28 6) = (36 : Int32)
      · refine am_tsi hX hi (dflt := (302)) (lo := (6)) (hi' := (40)) (offs := #[(204), (302), (302), (204), (302), (302), (302), (302), (302), (185), (204), (231), (302), (302), (302), (302), (231), (231), (282), (302), (302), (302), (302), (302), (302), (255), (302), (302), (302), (302), (302), (302), (302), (302), (155)]) (len := 155) (off := (302)) (tgt := 331) (by decide +kernel) (by rw [s29_36]; decide) (by rw [s29_36]; decide) (by rw [s29_36]; rfl) (by decide) ?_
        exact (l_X6_readValue_28 h0 h1 h2 h3 h4 h5 h6 rd hX hi FU) _ _ _ _ _ h
      by_cases s29_37 : (I 28 6) = (37 : Int32)
      · refine am_tsi hX hi (dflt := (302)) (lo := (6)) (hi' := (40)) (offs := #[(204), (302), (302), (204), (302), (302), (302), (302), (302), (185), (204), (231), (302), (302), (302), (302), (231), (231), (282), (302), (302), (302), (302), (302), (302), (255), (302), (302), (302), (302), (302), (302), (302), (302), (155)]) (len := 155) (off := (302)) (tgt := 331) (by decide +kernel) (by rw [s29_37]; decide) (by rw [s29_37]; decide) (by rw [s29_37]; rfl) (by decide) ?_
        exact (l_X6_readValue_28 h0 h1 h2 h3 h4 h5 h6 rd hX hi FU) _ _ _ _ _ h
      by_cases s29_38 : (I 28 6) = (38 : Int32)
      · refine am_tsi hX hi (dflt := (302)) (lo := (6)) (hi' := (40)) (offs := #[(204), (302), (302), (204), (302), (302), (302), (302), (302), (185), (204), (231), (302), (302), (302), (302), (231), (231), (282), (302), (302), (302), (302), (302), (302), (255), (302), (302), (302), (302), (302), (302), (302), (302), (155)]) (len := 155) (off := (302)) (tgt := 331) (by decide +kernel) (by rw [s29_38]; decide) (by rw [s29_38]; decide) (by rw [s29_38]; rfl) (by decide) ?_
        exact (l_X6_readValue_28 h0 h1 h2 h3 h4 h5 h6 rd hX hi FU) _ _ _ _ _ h
      by_cases s29_39 : (I 28 6) = (39 : Int32)
      · refine am_tsi hX hi (dflt := (302)) (lo := (6)) (hi' := (40)) (offs := #[(204), (302), (302), (204), (302), (302), (302), (302), (302), (185), (204), (231), (302), (302), (302), (302), (231), (231), (282), (302), (302), (302), (302), (302), (302), (255), (302), (302), (302), (302), (302), (302), (302), (302), (155)]) (len := 155) (off := (302)) (tgt := 331) (by decide +kernel) (by rw [s29_39]; decide) (by rw [s29_39]; decide) (by rw [s29_39]; rfl) (by decide) ?_
        exact (l_X6_readValue_28 h0 h1 h2 h3 h4 h5 h6 rd hX hi FU) _ _ _ _ _ h
      refine am_tso hX hi (dflt := (302)) (lo := (6)) (hi' := (40)) (offs := #[(204), (302), (302), (204), (302), (302), (302), (302), (302), (185), (204), (231), (302), (302), (302), (302), (231), (231), (282), (302), (302), (302), (302), (302), (302), (255), (302), (302), (302), (302), (302), (302), (302), (302), (155)]) (len := 155) (tgt := 331) (by decide +kernel) ?_ (by decide) ?_
      · have eF : ∀ v : Int32, ¬ (I 28 6) = v → ¬ ((I 28 6)).toInt = v.toInt := fun v q z => q ((i_eq _ _).mpr z)
        have e6 := eF (6 : Int32) s29_6
        have e9 := eF (9 : Int32) s29_9
        have e15 := eF (15 : Int32) s29_15
        have e16 := eF (16 : Int32) s29_16
        have e17 := eF (17 : Int32) s29_17
        have e22 := eF (22 : Int32) s29_22
        have e23 := eF (23 : Int32) s29_23
        have e24 := eF (24 : Int32) s29_24
        have e31 := eF (31 : Int32) s29_31
        have e40 := eF (40 : Int32) s29_40
        have e7 := eF (7 : Int32) s29_7
        have e8 := eF (8 : Int32) s29_8
        have e10 := eF (10 : Int32) s29_10
        have e11 := eF (11 : Int32) s29_11
        have e12 := eF (12 : Int32) s29_12
        have e13 := eF (13 : Int32) s29_13
        have e14 := eF (14 : Int32) s29_14
        have e18 := eF (18 : Int32) s29_18
        have e19 := eF (19 : Int32) s29_19
        have e20 := eF (20 : Int32) s29_20
        have e21 := eF (21 : Int32) s29_21
        have e25 := eF (25 : Int32) s29_25
        have e26 := eF (26 : Int32) s29_26
        have e27 := eF (27 : Int32) s29_27
        have e28 := eF (28 : Int32) s29_28
        have e29 := eF (29 : Int32) s29_29
        have e30 := eF (30 : Int32) s29_30
        have e32 := eF (32 : Int32) s29_32
        have e33 := eF (33 : Int32) s29_33
        have e34 := eF (34 : Int32) s29_34
        have e35 := eF (35 : Int32) s29_35
        have e36 := eF (36 : Int32) s29_36
        have e37 := eF (37 : Int32) s29_37
        have e38 := eF (38 : Int32) s29_38
        have e39 := eF (39 : Int32) s29_39
        simp only [show ((6 : Int32) : Int32).toInt = 6 from rfl, show ((9 : Int32) : Int32).toInt = 9 from rfl, show ((15 : Int32) : Int32).toInt = 15 from rfl, show ((16 : Int32) : Int32).toInt = 16 from rfl, show ((17 : Int32) : Int32).toInt = 17 from rfl, show ((22 : Int32) : Int32).toInt = 22 from rfl, show ((23 : Int32) : Int32).toInt = 23 from rfl, show ((24 : Int32) : Int32).toInt = 24 from rfl, show ((31 : Int32) : Int32).toInt = 31 from rfl, show ((40 : Int32) : Int32).toInt = 40 from rfl, show ((7 : Int32) : Int32).toInt = 7 from rfl, show ((8 : Int32) : Int32).toInt = 8 from rfl, show ((10 : Int32) : Int32).toInt = 10 from rfl, show ((11 : Int32) : Int32).toInt = 11 from rfl, show ((12 : Int32) : Int32).toInt = 12 from rfl, show ((13 : Int32) : Int32).toInt = 13 from rfl, show ((14 : Int32) : Int32).toInt = 14 from rfl, show ((18 : Int32) : Int32).toInt = 18 from rfl, show ((19 : Int32) : Int32).toInt = 19 from rfl, show ((20 : Int32) : Int32).toInt = 20 from rfl, show ((21 : Int32) : Int32).toInt = 21 from rfl, show ((25 : Int32) : Int32).toInt = 25 from rfl, show ((26 : Int32) : Int32).toInt = 26 from rfl, show ((27 : Int32) : Int32).toInt = 27 from rfl, show ((28 : Int32) : Int32).toInt = 28 from rfl, show ((29 : Int32) : Int32).toInt = 29 from rfl, show ((30 : Int32) : Int32).toInt = 30 from rfl, show ((32 : Int32) : Int32).toInt = 32 from rfl, show ((33 : Int32) : Int32).toInt = 33 from rfl, show ((34 : Int32) : Int32).toInt = 34 from rfl, show ((35 : Int32) : Int32).toInt = 35 from rfl, show ((36 : Int32) : Int32).toInt = 36 from rfl, show ((37 : Int32) : Int32).toInt = 37 from rfl, show ((38 : Int32) : Int32).toInt = 38 from rfl, show ((39 : Int32) : Int32).toInt = 39 from rfl] at e6 e9 e15 e16 e17 e22 e23 e24 e31 e40 e7 e8 e10 e11 e12 e13 e14 e18 e19 e20 e21 e25 e26 e27 e28 e29 e30 e32 e33 e34 e35 e36 e37 e38 e39
        omega
      exact (l_X6_readValue_28 h0 h1 h2 h3 h4 h5 h6 rd hX hi FU) _ _ _ _ _ h
    · rw [if_pos c14] at h
      refine am_blk 17 [(.iload_n 1, 1, 1, 0, .null), (.bipush (8), 2, 0, 0, .int (8 : Int32))] (20, [(0, .ref 28), (1, .int x1), (2, .int (I 28 6))], [.int (8 : Int32), .int x1], I, G, (gP rd)) (True) hX hi (by decide +kernel) rfl trivial ?_
      refine am_icmp_lt (tgt := 28) hX hi (off := (8)) (by decide +kernel) (by decide) (fun c20 => ?_) (fun c20 => ?_)
      · rw [if_pos c20] at h
        refine am_blk 28 [(.iload_n 2, 1, 2, 0, .null)] (29, [(0, .ref 28), (1, .int x1), (2, .int (I 28 6))], [.int (I 28 6)], I, G, (gP rd)) (True) hX hi (by decide +kernel) rfl trivial ?_
        by_cases s29_6 : (I 28 6) = (6 : Int32)
        · rw [if_pos s29_6] at h
          refine am_tsi hX hi (dflt := (302)) (lo := (6)) (hi' := (40)) (offs := #[(204), (302), (302), (204), (302), (302), (302), (302), (302), (185), (204), (231), (302), (302), (302), (302), (231), (231), (282), (302), (302), (302), (302), (302), (302), (255), (302), (302), (302), (302), (302), (302), (302), (302), (155)]) (len := 155) (off := (204)) (tgt := 233) (by decide +kernel) (by rw [s29_6]; decide) (by rw [s29_6]; decide) (by rw [s29_6]; rfl) (by decide) ?_
          refine am_blk 233 [(.aload_n 0, 1, 0, 0, .null)] (234, [(0, .ref 28), (1, .int x1), (2, .int (I 28 6))], [.ref 28], I, G, (gP rd)) (True) hX hi (by decide +kernel) rfl trivial ?_
          refine am_callV hX hi (M := mX6_advance) (idx := 100) (d' := 2) (b := 28) (ci := 4) (As := []) (rest := []) mkX6_advance miX6_advance mvX6_advance (by decide +kernel) (by decide +kernel) rfl (by decide +kernel) rfl ⟨by omega, by decide, Nat.le_of_ble_eq_true rfl⟩ rfl (c_X6_advance_28 _ I G ) ?_
          rintro rz Iz Gz Pz ⟨e0, e1, e2, e3⟩
          rw [e0, e1, e2, e3]
          show am_V X 0 0 _ _ ad (237, [(0, .ref 28), (1, .int x1), (2, .int (I 28 6))], [], (g_X6_advance_28 I G ), G, (gP rd))
          refine am_blk 237 [(.aload_n 0, 1, 0, 0, .null), (.getfield 12, 3, 4, 1, .null), (.getfield 91, 3, 3, 8, .null), (.iload_n 2, 1, 2, 0, .null), (.aload_n 0, 1, 0, 0, .null), (.aload_n 0, 1, 0, 0, .null), (.iload_n 2, 1, 2, 0, .null)] (248, [(0, .ref 28), (1, .int x1), (2, .int (I 28 6))], [.int (I 28 6), .ref 28, .ref 28, .int (I 28 6), .ref 38], (g_X6_advance_28 I G ), G, (gP rd)) (True) hX hi (by decide +kernel) rfl trivial ?_
          refine am_callV hX hi (M := mX6_namesBehind) (idx := 180) (d' := 1) (b := 28) (ci := 4) (As := [.int (I 28 6)]) (rest := [.ref 28, .int (I 28 6), .ref 38]) mkX6_namesBehind miX6_namesBehind mvX6_namesBehind (by decide +kernel) (by decide +kernel) rfl (by decide +kernel) rfl ⟨by omega, by decide, Nat.le_of_ble_eq_true rfl⟩ rfl ((c_namesBehind _ (g_X6_advance_28 I G ) G (I 28 6)).mono (fun r I9 G9 P9 q => by rw [s29_6] at q; exact q)) ?_
          rintro rz Iz Gz Pz ⟨e0, e1, e2, e3⟩
          rw [e0, e1, e2, e3]
          show am_V X 0 0 _ _ ad (251, [(0, .ref 28), (1, .int x1), (2, .int (I 28 6))], [.ref 47, .ref 28, .int (I 28 6), .ref 38], (g_X6_advance_28 I G ), G, (gP rd))
          obtain ⟨r17, I17, G17, hc, h⟩ := rb_some h
          refine am_callV hX hi (M := mX6_readKnownName) (idx := 150) (d' := 3) (b := 28) (ci := 4) (As := [.ref 47]) (rest := [.int (I 28 6), .ref 38]) mkX6_readKnownName miX6_readKnownName mvX6_readKnownName (by decide +kernel) (by decide +kernel) rfl (by decide +kernel) rfl ⟨by omega, by decide, Nat.le_of_ble_eq_true rfl⟩ rfl (c_X6_readKnownName_28_47 _ (g_X6_advance_28 I G ) G  hc) ?_
          rintro rz Iz Gz Pz ⟨e0, e1, e2, e3⟩
          rw [e0, e1, e2, e3]
          show am_V X 0 0 _ _ ad (254, [(0, .ref 28), (1, .int x1), (2, .int (I 28 6))], [.int r17, .int (I 28 6), .ref 38], I17, G17, (gP rd))
          refine am_callV hX hi (M := mX3_add) (idx := 161) (d' := 2) (b := 38) (ci := 1) (As := [.int (I 28 6), .int r17]) (rest := []) mkX3_add miX3_add mvX3_add (by decide +kernel) (by decide +kernel) rfl (by decide +kernel) rfl ⟨by omega, by decide, Nat.le_of_ble_eq_true rfl⟩ rfl (c_X3_add_38 _ I17 G17 (I 28 6) r17) ?_
          rintro rz Iz Gz Pz ⟨e0, e1, e2, e3⟩
          rw [e0, e1, e2, e3]
          show am_V X 0 0 _ _ ad (257, [(0, .ref 28), (1, .int x1), (2, .int (I 28 6))], [], (g_X3_add_38 I17 G17 (I 28 6) r17), G17, (gP rd))
          refine am_blk 257 [(.goto (78), 3, 0, 335, .null)] (335, [(0, .ref 28), (1, .int x1), (2, .int (I 28 6))], [], (g_X3_add_38 I17 G17 (I 28 6) r17), G17, (gP rd)) (True) hX hi (by decide +kernel) rfl trivial ?_
          cases h
          refine am_vret hX hi rfl (by decide +kernel) ?_
          exact ⟨rfl, rfl, rfl, rfl⟩
        rw [if_neg s29_6] at h
        by_cases s29_9 : (I 28 6) = (9 : Int32)
        · rw [if_pos s29_9] at h
          refine am_tsi hX hi (dflt := (302)) (lo := (6)) (hi' := (40)) (offs := #[(204), (302), (302), (204), (302), (302), (302), (302), (302), (185), (204), (231), (302), (302), (302), (302), (231), (231), (282), (302), (302), (302), (302), (302), (302), (255), (302), (302), (302), (302), (302), (302), (302), (302), (155)]) (len := 155) (off := (204)) (tgt := 233) (by decide +kernel) (by rw [s29_9]; decide) (by rw [s29_9]; decide) (by rw [s29_9]; rfl) (by decide) ?_
          refine am_blk 233 [(.aload_n 0, 1, 0, 0, .null)] (234, [(0, .ref 28), (1, .int x1), (2, .int (I 28 6))], [.ref 28], I, G, (gP rd)) (True) hX hi (by decide +kernel) rfl trivial ?_
          refine am_callV hX hi (M := mX6_advance) (idx := 100) (d' := 2) (b := 28) (ci := 4) (As := []) (rest := []) mkX6_advance miX6_advance mvX6_advance (by decide +kernel) (by decide +kernel) rfl (by decide +kernel) rfl ⟨by omega, by decide, Nat.le_of_ble_eq_true rfl⟩ rfl (c_X6_advance_28 _ I G ) ?_
          rintro rz Iz Gz Pz ⟨e0, e1, e2, e3⟩
          rw [e0, e1, e2, e3]
          show am_V X 0 0 _ _ ad (237, [(0, .ref 28), (1, .int x1), (2, .int (I 28 6))], [], (g_X6_advance_28 I G ), G, (gP rd))
          refine am_blk 237 [(.aload_n 0, 1, 0, 0, .null), (.getfield 12, 3, 4, 1, .null), (.getfield 91, 3, 3, 8, .null), (.iload_n 2, 1, 2, 0, .null), (.aload_n 0, 1, 0, 0, .null), (.aload_n 0, 1, 0, 0, .null), (.iload_n 2, 1, 2, 0, .null)] (248, [(0, .ref 28), (1, .int x1), (2, .int (I 28 6))], [.int (I 28 6), .ref 28, .ref 28, .int (I 28 6), .ref 38], (g_X6_advance_28 I G ), G, (gP rd)) (True) hX hi (by decide +kernel) rfl trivial ?_
          refine am_callV hX hi (M := mX6_namesBehind) (idx := 180) (d' := 1) (b := 28) (ci := 4) (As := [.int (I 28 6)]) (rest := [.ref 28, .int (I 28 6), .ref 38]) mkX6_namesBehind miX6_namesBehind mvX6_namesBehind (by decide +kernel) (by decide +kernel) rfl (by decide +kernel) rfl ⟨by omega, by decide, Nat.le_of_ble_eq_true rfl⟩ rfl ((c_namesBehind _ (g_X6_advance_28 I G ) G (I 28 6)).mono (fun r I9 G9 P9 q => by rw [s29_9] at q; exact q)) ?_
          rintro rz Iz Gz Pz ⟨e0, e1, e2, e3⟩
          rw [e0, e1, e2, e3]
          show am_V X 0 0 _ _ ad (251, [(0, .ref 28), (1, .int x1), (2, .int (I 28 6))], [.ref 49, .ref 28, .int (I 28 6), .ref 38], (g_X6_advance_28 I G ), G, (gP rd))
          obtain ⟨r18, I18, G18, hc, h⟩ := rb_some h
          refine am_callV hX hi (M := mX6_readKnownName) (idx := 150) (d' := 3) (b := 28) (ci := 4) (As := [.ref 49]) (rest := [.int (I 28 6), .ref 38]) mkX6_readKnownName miX6_readKnownName mvX6_readKnownName (by decide +kernel) (by decide +kernel) rfl (by decide +kernel) rfl ⟨by omega, by decide, Nat.le_of_ble_eq_true rfl⟩ rfl (c_X6_readKnownName_28_49 _ (g_X6_advance_28 I G ) G  hc) ?_
          rintro rz Iz Gz Pz ⟨e0, e1, e2, e3⟩
          rw [e0, e1, e2, e3]
          show am_V X 0 0 _ _ ad (254, [(0, .ref 28), (1, .int x1), (2, .int (I 28 6))], [.int r18, .int (I 28 6), .ref 38], I18, G18, (gP rd))
          refine am_callV hX hi (M := mX3_add) (idx := 161) (d' := 2) (b := 38) (ci := 1) (As := [.int (I 28 6), .int r18]) (rest := []) mkX3_add miX3_add mvX3_add (by decide +kernel) (by decide +kernel) rfl (by decide +kernel) rfl ⟨by omega, by decide, Nat.le_of_ble_eq_true rfl⟩ rfl (c_X3_add_38 _ I18 G18 (I 28 6) r18) ?_
          rintro rz Iz Gz Pz ⟨e0, e1, e2, e3⟩
          rw [e0, e1, e2, e3]
          show am_V X 0 0 _ _ ad (257, [(0, .ref 28), (1, .int x1), (2, .int (I 28 6))], [], (g_X3_add_38 I18 G18 (I 28 6) r18), G18, (gP rd))
          refine am_blk 257 [(.goto (78), 3, 0, 335, .null)] (335, [(0, .ref 28), (1, .int x1), (2, .int (I 28 6))], [], (g_X3_add_38 I18 G18 (I 28 6) r18), G18, (gP rd)) (True) hX hi (by decide +kernel) rfl trivial ?_
          cases h
          refine am_vret hX hi rfl (by decide +kernel) ?_
          exact ⟨rfl, rfl, rfl, rfl⟩
        rw [if_neg s29_9] at h
        by_cases s29_15 : (I 28 6) = (15 : Int32)
        · rw [if_pos s29_15] at h
          refine am_tsi hX hi (dflt := (302)) (lo := (6)) (hi' := (40)) (offs := #[(204), (302), (302), (204), (302), (302), (302), (302), (302), (185), (204), (231), (302), (302), (302), (302), (231), (231), (282), (302), (302), (302), (302), (302), (302), (255), (302), (302), (302), (302), (302), (302), (302), (302), (155)]) (len := 155) (off := (185)) (tgt := 214) (by decide +kernel) (by rw [s29_15]; decide) (by rw [s29_15]; decide) (by rw [s29_15]; rfl) (by decide) ?_
          refine am_blk 214 [(.aload_n 0, 1, 0, 0, .null)] (215, [(0, .ref 28), (1, .int x1), (2, .int (I 28 6))], [.ref 28], I, G, (gP rd)) (True) hX hi (by decide +kernel) rfl trivial ?_
          refine am_callV hX hi (M := mX6_advance) (idx := 100) (d' := 2) (b := 28) (ci := 4) (As := []) (rest := []) mkX6_advance miX6_advance mvX6_advance (by decide +kernel) (by decide +kernel) rfl (by decide +kernel) rfl ⟨by omega, by decide, Nat.le_of_ble_eq_true rfl⟩ rfl (c_X6_advance_28 _ I G ) ?_
          rintro rz Iz Gz Pz ⟨e0, e1, e2, e3⟩
          rw [e0, e1, e2, e3]
          show am_V X 0 0 _ _ ad (218, [(0, .ref 28), (1, .int x1), (2, .int (I 28 6))], [], (g_X6_advance_28 I G ), G, (gP rd))
          refine am_blk 218 [(.aload_n 0, 1, 0, 0, .null), (.getfield 12, 3, 4, 1, .null), (.getfield 91, 3, 3, 8, .null), (.iload_n 2, 1, 2, 0, .null), (.iconst (0), 1, 0, 0, .int (0 : Int32))] (227, [(0, .ref 28), (1, .int x1), (2, .int (I 28 6))], [.int (0 : Int32), .int (I 28 6), .ref 38], (g_X6_advance_28 I G ), G, (gP rd)) (True) hX hi (by decide +kernel) rfl trivial ?_
          refine am_callV hX hi (M := mX3_add) (idx := 161) (d' := 2) (b := 38) (ci := 1) (As := [.int (I 28 6), .int (0 : Int32)]) (rest := []) mkX3_add miX3_add mvX3_add (by decide +kernel) (by decide +kernel) rfl (by decide +kernel) rfl ⟨by omega, by decide, Nat.le_of_ble_eq_true rfl⟩ rfl (c_X3_add_38 _ (g_X6_advance_28 I G ) G (I 28 6) (0 : Int32)) ?_
          rintro rz Iz Gz Pz ⟨e0, e1, e2, e3⟩
          rw [e0, e1, e2, e3]
          show am_V X 0 0 _ _ ad (230, [(0, .ref 28), (1, .int x1), (2, .int (I 28 6))], [], (g_X3_add_38 (g_X6_advance_28 I G ) G (I 28 6) (0 : Int32)), G, (gP rd))
          refine am_blk 230 [(.goto (105), 3, 0, 335, .null)] (335, [(0, .ref 28), (1, .int x1), (2, .int (I 28 6))], [], (g_X3_add_38 (g_X6_advance_28 I G ) G (I 28 6) (0 : Int32)), G, (gP rd)) (True) hX hi (by decide +kernel) rfl trivial ?_
          cases h
          refine am_vret hX hi rfl (by decide +kernel) ?_
          exact ⟨rfl, rfl, rfl, rfl⟩
        rw [if_neg s29_15] at h
        by_cases s29_16 : (I 28 6) = (16 : Int32)
        · rw [if_pos s29_16] at h
          refine am_tsi hX hi (dflt := (302)) (lo := (6)) (hi' := (40)) (offs := #[(204), (302), (302), (204), (302), (302), (302), (302), (302), (185), (204), (231), (302), (302), (302), (302), (231), (231), (282), (302), (302), (302), (302), (302), (302), (255), (302), (302), (302), (302), (302), (302), (302), (302), (155)]) (len := 155) (off := (204)) (tgt := 233) (by decide +kernel) (by rw [s29_16]; decide) (by rw [s29_16]; decide) (by rw [s29_16]; rfl) (by decide) ?_
          refine am_blk 233 [(.aload_n 0, 1, 0, 0, .null)] (234, [(0, .ref 28), (1, .int x1), (2, .int (I 28 6))], [.ref 28], I, G, (gP rd)) (True) hX hi (by decide +kernel) rfl trivial ?_
          refine am_callV hX hi (M := mX6_advance) (idx := 100) (d' := 2) (b := 28) (ci := 4) (As := []) (rest := []) mkX6_advance miX6_advance mvX6_advance (by decide +kernel) (by decide +kernel) rfl (by decide +kernel) rfl ⟨by omega, by decide, Nat.le_of_ble_eq_true rfl⟩ rfl (c_X6_advance_28 _ I G ) ?_
          rintro rz Iz Gz Pz ⟨e0, e1, e2, e3⟩
          rw [e0, e1, e2, e3]
          show am_V X 0 0 _ _ ad (237, [(0, .ref 28), (1, .int x1), (2, .int (I 28 6))], [], (g_X6_advance_28 I G ), G, (gP rd))
          refine am_blk 237 [(.aload_n 0, 1, 0, 0, .null), (.getfield 12, 3, 4, 1, .null), (.getfield 91, 3, 3, 8, .null), (.iload_n 2, 1, 2, 0, .null), (.aload_n 0, 1, 0, 0, .null), (.aload_n 0, 1, 0, 0, .null), (.iload_n 2, 1, 2, 0, .null)] (248, [(0, .ref 28), (1, .int x1), (2, .int (I 28 6))], [.int (I 28 6), .ref 28, .ref 28, .int (I 28 6), .ref 38], (g_X6_advance_28 I G ), G, (gP rd)) (True) hX hi (by decide +kernel) rfl trivial ?_
          refine am_callV hX hi (M := mX6_namesBehind) (idx := 180) (d' := 1) (b := 28) (ci := 4) (As := [.int (I 28 6)]) (rest := [.ref 28, .int (I 28 6), .ref 38]) mkX6_namesBehind miX6_namesBehind mvX6_namesBehind (by decide +kernel) (by decide +kernel) rfl (by decide +kernel) rfl ⟨by omega, by decide, Nat.le_of_ble_eq_true rfl⟩ rfl ((c_namesBehind _ (g_X6_advance_28 I G ) G (I 28 6)).mono (fun r I9 G9 P9 q => by rw [s29_16] at q; exact q)) ?_
          rintro rz Iz Gz Pz ⟨e0, e1, e2, e3⟩
          rw [e0, e1, e2, e3]
          show am_V X 0 0 _ _ ad (251, [(0, .ref 28), (1, .int x1), (2, .int (I 28 6))], [.ref 51, .ref 28, .int (I 28 6), .ref 38], (g_X6_advance_28 I G ), G, (gP rd))
          obtain ⟨r19, I19, G19, hc, h⟩ := rb_some h
          refine am_callV hX hi (M := mX6_readKnownName) (idx := 150) (d' := 3) (b := 28) (ci := 4) (As := [.ref 51]) (rest := [.int (I 28 6), .ref 38]) mkX6_readKnownName miX6_readKnownName mvX6_readKnownName (by decide +kernel) (by decide +kernel) rfl (by decide +kernel) rfl ⟨by omega, by decide, Nat.le_of_ble_eq_true rfl⟩ rfl (c_X6_readKnownName_28_51 _ (g_X6_advance_28 I G ) G  hc) ?_
          rintro rz Iz Gz Pz ⟨e0, e1, e2, e3⟩
          rw [e0, e1, e2, e3]
          show am_V X 0 0 _ _ ad (254, [(0, .ref 28), (1, .int x1), (2, .int (I 28 6))], [.int r19, .int (I 28 6), .ref 38], I19, G19, (gP rd))
          refine am_callV hX hi (M := mX3_add) (idx := 161) (d' := 2) (b := 38) (ci := 1) (As := [.int (I 28 6), .int r19]) (rest := []) mkX3_add miX3_add mvX3_add (by decide +kernel) (by decide +kernel) rfl (by decide +kernel) rfl ⟨by omega, by decide, Nat.le_of_ble_eq_true rfl⟩ rfl (c_X3_add_38 _ I19 G19 (I 28 6) r19) ?_
          rintro rz Iz Gz Pz ⟨e0, e1, e2, e3⟩
          rw [e0, e1, e2, e3]
          show am_V X 0 0 _ _ ad (257, [(0, .ref 28), (1, .int x1), (2, .int (I 28 6))], [], (g_X3_add_38 I19 G19 (I 28 6) r19), G19, (gP rd))
          refine am_blk 257 [(.goto (78), 3, 0, 335, .null)] (335, [(0, .ref 28), (1, .int x1), (2, .int (I 28 6))], [], (g_X3_add_38 I19 G19 (I 28 6) r19), G19, (gP rd)) (True) hX hi (by decide +kernel) rfl trivial ?_
          cases h
          refine am_vret hX hi rfl (by decide +kernel) ?_
          exact ⟨rfl, rfl, rfl, rfl⟩
        rw [if_neg s29_16] at h
        by_cases s29_17 : (I 28 6) = (17 : Int32)
        · rw [if_pos s29_17] at h
          refine am_tsi hX hi (dflt := (302)) (lo := (6)) (hi' := (40)) (offs := #[(204), (302), (302), (204), (302), (302), (302), (302), (302), (185), (204), (231), (302), (302), (302), (302), (231), (231), (282), (302), (302), (302), (302), (302), (302), (255), (302), (302), (302), (302), (302), (302), (302), (302), (155)]) (len := 155) (off := (231)) (tgt := 260) (by decide +kernel) (by rw [s29_17]; decide) (by rw [s29_17]; decide) (by rw [s29_17]; rfl) (by decide) ?_
          refine am_blk 260 [(.aload_n 0, 1, 0, 0, .null)] (261, [(0, .ref 28), (1, .int x1), (2, .int (I 28 6))], [.ref 28], I, G, (gP rd)) (True) hX hi (by decide +kernel) rfl trivial ?_
          refine am_callV hX hi (M := mX6_advance) (idx := 100) (d' := 2) (b := 28) (ci := 4) (As := []) (rest := []) mkX6_advance miX6_advance mvX6_advance (by decide +kernel) (by decide +kernel) rfl (by decide +kernel) rfl ⟨by omega, by decide, Nat.le_of_ble_eq_true rfl⟩ rfl (c_X6_advance_28 _ I G ) ?_
          rintro rz Iz Gz Pz ⟨e0, e1, e2, e3⟩
          rw [e0, e1, e2, e3]
          show am_V X 0 0 _ _ ad (264, [(0, .ref 28), (1, .int x1), (2, .int (I 28 6))], [], (g_X6_advance_28 I G ), G, (gP rd))
          refine am_blk 264 [(.aload_n 0, 1, 0, 0, .null), (.iload_n 1, 1, 1, 0, .null)] (266, [(0, .ref 28), (1, .int x1), (2, .int (I 28 6))], [.int x1, .ref 28], (g_X6_advance_28 I G ), G, (gP rd)) (True) hX hi (by decide +kernel) rfl trivial ?_
          obtain ⟨r20, I20, G20, hc, h⟩ := rb_some h
          refine am_callV hX hi (M := mX6_readPair) (idx := 184) (d' := (8 + n9)) (b := 28) (ci := 4) (As := [.int x1]) (rest := []) mkX6_readPair miX6_readPair mvX6_readPair (by decide +kernel) (by decide +kernel) rfl (by decide +kernel) rfl ⟨by omega, by decide, Nat.le_of_ble_eq_true rfl⟩ rfl (h6 _ (g_X6_advance_28 I G ) G x1 _ hc) ?_
          rintro rz Iz Gz Pz ⟨e0, e1, e2, e3⟩
          rw [e0, e1, e2, e3]
          show am_V X 0 0 _ _ ad (269, [(0, .ref 28), (1, .int x1), (2, .int (I 28 6))], [], I20, G20, (gP rd))
          refine am_blk 269 [(.aload_n 0, 1, 0, 0, .null), (.getfield 12, 3, 4, 1, .null), (.getfield 91, 3, 3, 8, .null), (.iload_n 2, 1, 2, 0, .null), (.iconst (0), 1, 0, 0, .int (0 : Int32))] (278, [(0, .ref 28), (1, .int x1), (2, .int (I 28 6))], [.int (0 : Int32), .int (I 28 6), .ref 38], I20, G20, (gP rd)) (True) hX hi (by decide +kernel) rfl trivial ?_
          refine am_callV hX hi (M := mX3_add) (idx := 161) (d' := 2) (b := 38) (ci := 1) (As := [.int (I 28 6), .int (0 : Int32)]) (rest := []) mkX3_add miX3_add mvX3_add (by decide +kernel) (by decide +kernel) rfl (by decide +kernel) rfl ⟨by omega, by decide, Nat.le_of_ble_eq_true rfl⟩ rfl (c_X3_add_38 _ I20 G20 (I 28 6) (0 : Int32)) ?_
          rintro rz Iz Gz Pz ⟨e0, e1, e2, e3⟩
          rw [e0, e1, e2, e3]
          show am_V X 0 0 _ _ ad (281, [(0, .ref 28), (1, .int x1), (2, .int (I 28 6))], [], (g_X3_add_38 I20 G20 (I 28 6) (0 : Int32)), G20, (gP rd))
          refine am_blk 281 [(.goto (54), 3, 0, 335, .null)] (335, [(0, .ref 28), (1, .int x1), (2, .int (I 28 6))], [], (g_X3_add_38 I20 G20 (I 28 6) (0 : Int32)), G20, (gP rd)) (True) hX hi (by decide +kernel) rfl trivial ?_
          cases h
          refine am_vret hX hi rfl (by decide +kernel) ?_
          exact ⟨rfl, rfl, rfl, rfl⟩
        rw [if_neg s29_17] at h
        by_cases s29_22 : (I 28 6) = (22 : Int32)
        · rw [if_pos s29_22] at h
          refine am_tsi hX hi (dflt := (302)) (lo := (6)) (hi' := (40)) (offs := #[(204), (302), (302), (204), (302), (302), (302), (302), (302), (185), (204), (231), (302), (302), (302), (302), (231), (231), (282), (302), (302), (302), (302), (302), (302), (255), (302), (302), (302), (302), (302), (302), (302), (302), (155)]) (len := 155) (off := (231)) (tgt := 260) (by decide +kernel) (by rw [s29_22]; decide) (by rw [s29_22]; decide) (by rw [s29_22]; rfl) (by decide) ?_
          refine am_blk 260 [(.aload_n 0, 1, 0, 0, .null)] (261, [(0, .ref 28), (1, .int x1), (2, .int (I 28 6))], [.ref 28], I, G, (gP rd)) (True) hX hi (by decide +kernel) rfl trivial ?_
          refine am_callV hX hi (M := mX6_advance) (idx := 100) (d' := 2) (b := 28) (ci := 4) (As := []) (rest := []) mkX6_advance miX6_advance mvX6_advance (by decide +kernel) (by decide +kernel) rfl (by decide +kernel) rfl ⟨by omega, by decide, Nat.le_of_ble_eq_true rfl⟩ rfl (c_X6_advance_28 _ I G ) ?_
          rintro rz Iz Gz Pz ⟨e0, e1, e2, e3⟩
          rw [e0, e1, e2, e3]
          show am_V X 0 0 _ _ ad (264, [(0, .ref 28), (1, .int x1), (2, .int (I 28 6))], [], (g_X6_advance_28 I G ), G, (gP rd))
          refine am_blk 264 [(.aload_n 0, 1, 0, 0, .null), (.iload_n 1, 1, 1, 0, .null)] (266, [(0, .ref 28), (1, .int x1), (2, .int (I 28 6))], [.int x1, .ref 28], (g_X6_advance_28 I G ), G, (gP rd)) (True) hX hi (by decide +kernel) rfl trivial ?_
          obtain ⟨r21, I21, G21, hc, h⟩ := rb_some h
          refine am_callV hX hi (M := mX6_readPair) (idx := 184) (d' := (8 + n9)) (b := 28) (ci := 4) (As := [.int x1]) (rest := []) mkX6_readPair miX6_readPair mvX6_readPair (by decide +kernel) (by decide +kernel) rfl (by decide +kernel) rfl ⟨by omega, by decide, Nat.le_of_ble_eq_true rfl⟩ rfl (h6 _ (g_X6_advance_28 I G ) G x1 _ hc) ?_
          rintro rz Iz Gz Pz ⟨e0, e1, e2, e3⟩
          rw [e0, e1, e2, e3]
          show am_V X 0 0 _ _ ad (269, [(0, .ref 28), (1, .int x1), (2, .int (I 28 6))], [], I21, G21, (gP rd))
          refine am_blk 269 [(.aload_n 0, 1, 0, 0, .null), (.getfield 12, 3, 4, 1, .null), (.getfield 91, 3, 3, 8, .null), (.iload_n 2, 1, 2, 0, .null), (.iconst (0), 1, 0, 0, .int (0 : Int32))] (278, [(0, .ref 28), (1, .int x1), (2, .int (I 28 6))], [.int (0 : Int32), .int (I 28 6), .ref 38], I21, G21, (gP rd)) (True) hX hi (by decide +kernel) rfl trivial ?_
          refine am_callV hX hi (M := mX3_add) (idx := 161) (d' := 2) (b := 38) (ci := 1) (As := [.int (I 28 6), .int (0 : Int32)]) (rest := []) mkX3_add miX3_add mvX3_add (by decide +kernel) (by decide +kernel) rfl (by decide +kernel) rfl ⟨by omega, by decide, Nat.le_of_ble_eq_true rfl⟩ rfl (c_X3_add_38 _ I21 G21 (I 28 6) (0 : Int32)) ?_
          rintro rz Iz Gz Pz ⟨e0, e1, e2, e3⟩
          rw [e0, e1, e2, e3]
          show am_V X 0 0 _ _ ad (281, [(0, .ref 28), (1, .int x1), (2, .int (I 28 6))], [], (g_X3_add_38 I21 G21 (I 28 6) (0 : Int32)), G21, (gP rd))
          refine am_blk 281 [(.goto (54), 3, 0, 335, .null)] (335, [(0, .ref 28), (1, .int x1), (2, .int (I 28 6))], [], (g_X3_add_38 I21 G21 (I 28 6) (0 : Int32)), G21, (gP rd)) (True) hX hi (by decide +kernel) rfl trivial ?_
          cases h
          refine am_vret hX hi rfl (by decide +kernel) ?_
          exact ⟨rfl, rfl, rfl, rfl⟩
        rw [if_neg s29_22] at h
        by_cases s29_23 : (I 28 6) = (23 : Int32)
        · rw [if_pos s29_23] at h
          refine am_tsi hX hi (dflt := (302)) (lo := (6)) (hi' := (40)) (offs := #[(204), (302), (302), (204), (302), (302), (302), (302), (302), (185), (204), (231), (302), (302), (302), (302), (231), (231), (282), (302), (302), (302), (302), (302), (302), (255), (302), (302), (302), (302), (302), (302), (302), (302), (155)]) (len := 155) (off := (231)) (tgt := 260) (by decide +kernel) (by rw [s29_23]; decide) (by rw [s29_23]; decide) (by rw [s29_23]; rfl) (by decide) ?_
          refine am_blk 260 [(.aload_n 0, 1, 0, 0, .null)] (261, [(0, .ref 28), (1, .int x1), (2, .int (I 28 6))], [.ref 28], I, G, (gP rd)) (True) hX hi (by decide +kernel) rfl trivial ?_
          refine am_callV hX hi (M := mX6_advance) (idx := 100) (d' := 2) (b := 28) (ci := 4) (As := []) (rest := []) mkX6_advance miX6_advance mvX6_advance (by decide +kernel) (by decide +kernel) rfl (by decide +kernel) rfl ⟨by omega, by decide, Nat.le_of_ble_eq_true rfl⟩ rfl (c_X6_advance_28 _ I G ) ?_
          rintro rz Iz Gz Pz ⟨e0, e1, e2, e3⟩
          rw [e0, e1, e2, e3]
          show am_V X 0 0 _ _ ad (264, [(0, .ref 28), (1, .int x1), (2, .int (I 28 6))], [], (g_X6_advance_28 I G ), G, (gP rd))
          refine am_blk 264 [(.aload_n 0, 1, 0, 0, .null), (.iload_n 1, 1, 1, 0, .null)] (266, [(0, .ref 28), (1, .int x1), (2, .int (I 28 6))], [.int x1, .ref 28], (g_X6_advance_28 I G ), G, (gP rd)) (True) hX hi (by decide +kernel) rfl trivial ?_
          obtain ⟨r22, I22, G22, hc, h⟩ := rb_some h
          refine am_callV hX hi (M := mX6_readPair) (idx := 184) (d' := (8 + n9)) (b := 28) (ci := 4) (As := [.int x1]) (rest := []) mkX6_readPair miX6_readPair mvX6_readPair (by decide +kernel) (by decide +kernel) rfl (by decide +kernel) rfl ⟨by omega, by decide, Nat.le_of_ble_eq_true rfl⟩ rfl (h6 _ (g_X6_advance_28 I G ) G x1 _ hc) ?_
          rintro rz Iz Gz Pz ⟨e0, e1, e2, e3⟩
          rw [e0, e1, e2, e3]
          show am_V X 0 0 _ _ ad (269, [(0, .ref 28), (1, .int x1), (2, .int (I 28 6))], [], I22, G22, (gP rd))
          refine am_blk 269 [(.aload_n 0, 1, 0, 0, .null), (.getfield 12, 3, 4, 1, .null), (.getfield 91, 3, 3, 8, .null), (.iload_n 2, 1, 2, 0, .null), (.iconst (0), 1, 0, 0, .int (0 : Int32))] (278, [(0, .ref 28), (1, .int x1), (2, .int (I 28 6))], [.int (0 : Int32), .int (I 28 6), .ref 38], I22, G22, (gP rd)) (True) hX hi (by decide +kernel) rfl trivial ?_
          refine am_callV hX hi (M := mX3_add) (idx := 161) (d' := 2) (b := 38) (ci := 1) (As := [.int (I 28 6), .int (0 : Int32)]) (rest := []) mkX3_add miX3_add mvX3_add (by decide +kernel) (by decide +kernel) rfl (by decide +kernel) rfl ⟨by omega, by decide, Nat.le_of_ble_eq_true rfl⟩ rfl (c_X3_add_38 _ I22 G22 (I 28 6) (0 : Int32)) ?_
          rintro rz Iz Gz Pz ⟨e0, e1, e2, e3⟩
          rw [e0, e1, e2, e3]
          show am_V X 0 0 _ _ ad (281, [(0, .ref 28), (1, .int x1), (2, .int (I 28 6))], [], (g_X3_add_38 I22 G22 (I 28 6) (0 : Int32)), G22, (gP rd))
          refine am_blk 281 [(.goto (54), 3, 0, 335, .null)] (335, [(0, .ref 28), (1, .int x1), (2, .int (I 28 6))], [], (g_X3_add_38 I22 G22 (I 28 6) (0 : Int32)), G22, (gP rd)) (True) hX hi (by decide +kernel) rfl trivial ?_
          cases h
          refine am_vret hX hi rfl (by decide +kernel) ?_
          exact ⟨rfl, rfl, rfl, rfl⟩
        rw [if_neg s29_23] at h
        by_cases s29_24 : (I 28 6) = (24 : Int32)
        · rw [if_pos s29_24] at h
          refine am_tsi hX hi (dflt := (302)) (lo := (6)) (hi' := (40)) (offs := #[(204), (302), (302), (204), (302), (302), (302), (302), (302), (185), (204), (231), (302), (302), (302), (302), (231), (231), (282), (302), (302), (302), (302), (302), (302), (255), (302), (302), (302), (302), (302), (302), (302), (302), (155)]) (len := 155) (off := (282)) (tgt := 311) (by decide +kernel) (by rw [s29_24]; decide) (by rw [s29_24]; decide) (by rw [s29_24]; rfl) (by decide) ?_
          refine am_blk 311 [(.aload_n 0, 1, 0, 0, .null)] (312, [(0, .ref 28), (1, .int x1), (2, .int (I 28 6))], [.ref 28], I, G, (gP rd)) (True) hX hi (by decide +kernel) rfl trivial ?_
          refine am_callV hX hi (M := mX6_advance) (idx := 100) (d' := 2) (b := 28) (ci := 4) (As := []) (rest := []) mkX6_advance miX6_advance mvX6_advance (by decide +kernel) (by decide +kernel) rfl (by decide +kernel) rfl ⟨by omega, by decide, Nat.le_of_ble_eq_true rfl⟩ rfl (c_X6_advance_28 _ I G ) ?_
          rintro rz Iz Gz Pz ⟨e0, e1, e2, e3⟩
          rw [e0, e1, e2, e3]
          show am_V X 0 0 _ _ ad (315, [(0, .ref 28), (1, .int x1), (2, .int (I 28 6))], [], (g_X6_advance_28 I G ), G, (gP rd))
          refine am_blk 315 [(.aload_n 0, 1, 0, 0, .null), (.iload_n 1, 1, 1, 0, .null), (.iconst (1), 1, 0, 0, .int (1 : Int32)), (.iadd, 1, 0, 0, .null)] (319, [(0, .ref 28), (1, .int x1), (2, .int (I 28 6))], [.int (x1 + (1 : Int32)), .ref 28], (g_X6_advance_28 I G ), G, (gP rd)) (True) hX hi (by decide +kernel) rfl trivial ?_
          obtain ⟨r23, I23, G23, hc, h⟩ := rb_some h
          refine am_callV hX hi (M := mX6_readSum) (idx := 88) (d' := (8 + n9)) (b := 28) (ci := 4) (As := [.int (x1 + (1 : Int32))]) (rest := []) mkX6_readSum miX6_readSum mvX6_readSum (by decide +kernel) (by decide +kernel) rfl (by decide +kernel) rfl ⟨by omega, by decide, Nat.le_of_ble_eq_true rfl⟩ rfl (h3 _ (g_X6_advance_28 I G ) G (x1 + (1 : Int32)) _ hc) ?_
          rintro rz Iz Gz Pz ⟨e0, e1, e2, e3⟩
          rw [e0, e1, e2, e3]
          show am_V X 0 0 _ _ ad (322, [(0, .ref 28), (1, .int x1), (2, .int (I 28 6))], [], I23, G23, (gP rd))
          refine am_blk 322 [(.aload_n 0, 1, 0, 0, .null), (.bipush (25), 2, 0, 0, .int (25 : Int32))] (325, [(0, .ref 28), (1, .int x1), (2, .int (I 28 6))], [.int (25 : Int32), .ref 28], I23, G23, (gP rd)) (True) hX hi (by decide +kernel) rfl trivial ?_
          refine am_callV hX hi (M := mX6_expect) (idx := 109) (d' := 3) (b := 28) (ci := 4) (As := [.int (25 : Int32)]) (rest := []) mkX6_expect miX6_expect mvX6_expect (by decide +kernel) (by decide +kernel) rfl (by decide +kernel) rfl ⟨by omega, by decide, Nat.le_of_ble_eq_true rfl⟩ rfl (c_X6_expect_28 _ I23 G23 (25 : Int32)) ?_
          rintro rz Iz Gz Pz ⟨e0, e1, e2, e3⟩
          rw [e0, e1, e2, e3]
          show am_V X 0 0 _ _ ad (328, [(0, .ref 28), (1, .int x1), (2, .int (I 28 6))], [], (g_X6_expect_28 I23 G23 (25 : Int32)), G23, (gP rd))
          refine am_blk 328 [(.goto (7), 3, 0, 335, .null)] (335, [(0, .ref 28), (1, .int x1), (2, .int (I 28 6))], [], (g_X6_expect_28 I23 G23 (25 : Int32)), G23, (gP rd)) (True) hX hi (by decide +kernel) rfl trivial ?_
          cases h
          refine am_vret hX hi rfl (by decide +kernel) ?_
          exact ⟨rfl, rfl, rfl, rfl⟩
        rw [if_neg s29_24] at h
        by_cases s29_31 : (I 28 6) = (31 : Int32)
        · rw [if_pos s29_31] at h
          refine am_tsi hX hi (dflt := (302)) (lo := (6)) (hi' := (40)) (offs := #[(204), (302), (302), (204), (302), (302), (302), (302), (302), (185), (204), (231), (302), (302), (302), (302), (231), (231), (282), (302), (302), (302), (302), (302), (302), (255), (302), (302), (302), (302), (302), (302), (302), (302), (155)]) (len := 155) (off := (255)) (tgt := 284) (by decide +kernel) (by rw [s29_31]; decide) (by rw [s29_31]; decide) (by rw [s29_31]; rfl) (by decide) ?_
          refine am_blk 284 [(.aload_n 0, 1, 0, 0, .null)] (285, [(0, .ref 28), (1, .int x1), (2, .int (I 28 6))], [.ref 28], I, G, (gP rd)) (True) hX hi (by decide +kernel) rfl trivial ?_
          refine am_callV hX hi (M := mX6_advance) (idx := 100) (d' := 2) (b := 28) (ci := 4) (As := []) (rest := []) mkX6_advance miX6_advance mvX6_advance (by decide +kernel) (by decide +kernel) rfl (by decide +kernel) rfl ⟨by omega, by decide, Nat.le_of_ble_eq_true rfl⟩ rfl (c_X6_advance_28 _ I G ) ?_
          rintro rz Iz Gz Pz ⟨e0, e1, e2, e3⟩
          rw [e0, e1, e2, e3]
          show am_V X 0 0 _ _ ad (288, [(0, .ref 28), (1, .int x1), (2, .int (I 28 6))], [], (g_X6_advance_28 I G ), G, (gP rd))
          refine am_blk 288 [(.aload_n 0, 1, 0, 0, .null), (.iload_n 1, 1, 1, 0, .null), (.iconst (1), 1, 0, 0, .int (1 : Int32)), (.iadd, 1, 0, 0, .null)] (292, [(0, .ref 28), (1, .int x1), (2, .int (I 28 6))], [.int (x1 + (1 : Int32)), .ref 28], (g_X6_advance_28 I G ), G, (gP rd)) (True) hX hi (by decide +kernel) rfl trivial ?_
          obtain ⟨r24, I24, G24, hc, h⟩ := rb_some h
          refine am_callV hX hi (M := mX6_readValue) (idx := 173) (d' := (8 + n9)) (b := 28) (ci := 4) (As := [.int (x1 + (1 : Int32))]) (rest := []) mkX6_readValue miX6_readValue mvX6_readValue (by decide +kernel) (by decide +kernel) rfl (by decide +kernel) rfl ⟨by omega, by decide, Nat.le_of_ble_eq_true rfl⟩ rfl (h5 _ (g_X6_advance_28 I G ) G (x1 + (1 : Int32)) _ hc) ?_
          rintro rz Iz Gz Pz ⟨e0, e1, e2, e3⟩
          rw [e0, e1, e2, e3]
          show am_V X 0 0 _ _ ad (295, [(0, .ref 28), (1, .int x1), (2, .int (I 28 6))], [], I24, G24, (gP rd))
          refine am_blk 295 [(.aload_n 0, 1, 0, 0, .null), (.getfield 12, 3, 4, 1, .null), (.getfield 91, 3, 3, 8, .null), (.bipush (43), 2, 0, 0, .int (43 : Int32)), (.iconst (0), 1, 0, 0, .int (0 : Int32))] (305, [(0, .ref 28), (1, .int x1), (2, .int (I 28 6))], [.int (0 : Int32), .int (43 : Int32), .ref 38], I24, G24, (gP rd)) (True) hX hi (by decide +kernel) rfl trivial ?_
          refine am_callV hX hi (M := mX3_add) (idx := 161) (d' := 2) (b := 38) (ci := 1) (As := [.int (43 : Int32), .int (0 : Int32)]) (rest := []) mkX3_add miX3_add mvX3_add (by decide +kernel) (by decide +kernel) rfl (by decide +kernel) rfl ⟨by omega, by decide, Nat.le_of_ble_eq_true rfl⟩ rfl (c_X3_add_38 _ I24 G24 (43 : Int32) (0 : Int32)) ?_
          rintro rz Iz Gz Pz ⟨e0, e1, e2, e3⟩
          rw [e0, e1, e2, e3]
          show am_V X 0 0 _ _ ad (308, [(0, .ref 28), (1, .int x1), (2, .int (I 28 6))], [], (g_X3_add_38 I24 G24 (43 : Int32) (0 : Int32)), G24, (gP rd))
          refine am_blk 308 [(.goto (27), 3, 0, 335, .null)] (335, [(0, .ref 28), (1, .int x1), (2, .int (I 28 6))], [], (g_X3_add_38 I24 G24 (43 : Int32) (0 : Int32)), G24, (gP rd)) (True) hX hi (by decide +kernel) rfl trivial ?_
          cases h
          refine am_vret hX hi rfl (by decide +kernel) ?_
          exact ⟨rfl, rfl, rfl, rfl⟩
        rw [if_neg s29_31] at h
        by_cases s29_40 : (I 28 6) = (40 : Int32)
        · rw [if_pos s29_40] at h
          refine am_tsi hX hi (dflt := (302)) (lo := (6)) (hi' := (40)) (offs := #[(204), (302), (302), (204), (302), (302), (302), (302), (302), (185), (204), (231), (302), (302), (302), (302), (231), (231), (282), (302), (302), (302), (302), (302), (302), (255), (302), (302), (302), (302), (302), (302), (302), (302), (155)]) (len := 155) (off := (155)) (tgt := 184) (by decide +kernel) (by rw [s29_40]; decide) (by rw [s29_40]; decide) (by rw [s29_40]; rfl) (by decide) ?_
          refine am_blk 184 [(.aload_n 0, 1, 0, 0, .null), (.getfield 12, 3, 4, 1, .null), (.getfield 91, 3, 3, 8, .null), (.iload_n 2, 1, 2, 0, .null), (.aload_n 0, 1, 0, 0, .null), (.getfield 33, 3, 4, 0, .null), (.aload_n 0, 1, 0, 0, .null), (.getfield 55, 3, 4, 5, .null)] (200, [(0, .ref 28), (1, .int x1), (2, .int (I 28 6))], [.int (I 28 5), .ref 1, .int (I 28 6), .ref 38], I, G, (gP rd)) (True) hX hi (by decide +kernel) rfl trivial ?_
          refine am_callV hX hi (M := mX9_contentAt) (idx := 176) (d' := 1) (b := 1) (ci := 7) (As := [.int (I 28 5)]) (rest := [.int (I 28 6), .ref 38]) mkX9_contentAt miX9_contentAt mvX9_contentAt (by decide +kernel) (by decide +kernel) rfl (by decide +kernel) rfl ⟨by omega, by decide, Nat.le_of_ble_eq_true rfl⟩ rfl (c_X9_contentAt_1 _ I G (I 28 5)) ?_
          rintro rz Iz Gz Pz ⟨e0, e1, e2, e3⟩
          rw [e0, e1, e2, e3]
          show am_V X 0 0 _ _ ad (203, [(0, .ref 28), (1, .int x1), (2, .int (I 28 6))], [.long (f_X9_contentAt_1 I G (I 28 5)), .int (I 28 6), .ref 38], I, G, (gP rd))
          refine am_blk 203 [(.l2i, 1, 0, 0, .null)] (204, [(0, .ref 28), (1, .int x1), (2, .int (I 28 6))], [.int (f_X9_contentAt_1 I G (I 28 5)).toInt32, .int (I 28 6), .ref 38], I, G, (gP rd)) (True) hX hi (by decide +kernel) rfl trivial ?_
          refine am_callV hX hi (M := mX3_add) (idx := 161) (d' := 2) (b := 38) (ci := 1) (As := [.int (I 28 6), .int (f_X9_contentAt_1 I G (I 28 5)).toInt32]) (rest := []) mkX3_add miX3_add mvX3_add (by decide +kernel) (by decide +kernel) rfl (by decide +kernel) rfl ⟨by omega, by decide, Nat.le_of_ble_eq_true rfl⟩ rfl (c_X3_add_38 _ I G (I 28 6) (f_X9_contentAt_1 I G (I 28 5)).toInt32) ?_
          rintro rz Iz Gz Pz ⟨e0, e1, e2, e3⟩
          rw [e0, e1, e2, e3]
          show am_V X 0 0 _ _ ad (207, [(0, .ref 28), (1, .int x1), (2, .int (I 28 6))], [], (g_X3_add_38 I G (I 28 6) (f_X9_contentAt_1 I G (I 28 5)).toInt32), G, (gP rd))
          refine am_blk 207 [(.aload_n 0, 1, 0, 0, .null)] (208, [(0, .ref 28), (1, .int x1), (2, .int (I 28 6))], [.ref 28], (g_X3_add_38 I G (I 28 6) (f_X9_contentAt_1 I G (I 28 5)).toInt32), G, (gP rd)) (True) hX hi (by decide +kernel) rfl trivial ?_
          refine am_callV hX hi (M := mX6_advance) (idx := 100) (d' := 2) (b := 28) (ci := 4) (As := []) (rest := []) mkX6_advance miX6_advance mvX6_advance (by decide +kernel) (by decide +kernel) rfl (by decide +kernel) rfl ⟨by omega, by decide, Nat.le_of_ble_eq_true rfl⟩ rfl (c_X6_advance_28 _ (g_X3_add_38 I G (I 28 6) (f_X9_contentAt_1 I G (I 28 5)).toInt32) G ) ?_
          rintro rz Iz Gz Pz ⟨e0, e1, e2, e3⟩
          rw [e0, e1, e2, e3]
          show am_V X 0 0 _ _ ad (211, [(0, .ref 28), (1, .int x1), (2, .int (I 28 6))], [], (g_X6_advance_28 (g_X3_add_38 I G (I 28 6) (f_X9_contentAt_1 I G (I 28 5)).toInt32) G ), G, (gP rd))
          refine am_blk 211 [(.goto (124), 3, 0, 335, .null)] (335, [(0, .ref 28), (1, .int x1), (2, .int (I 28 6))], [], (g_X6_advance_28 (g_X3_add_38 I G (I 28 6) (f_X9_contentAt_1 I G (I 28 5)).toInt32) G ), G, (gP rd)) (True) hX hi (by decide +kernel) rfl trivial ?_
          cases h
          refine am_vret hX hi rfl (by decide +kernel) ?_
          exact ⟨rfl, rfl, rfl, rfl⟩
        rw [if_neg s29_40] at h
        by_cases s29_7 : (I 28 6) = (7 : Int32)
        · refine am_tsi hX hi (dflt := (302)) (lo := (6)) (hi' := (40)) (offs := #[(204), (302), (302), (204), (302), (302), (302), (302), (302), (185), (204), (231), (302), (302), (302), (302), (231), (231), (282), (302), (302), (302), (302), (302), (302), (255), (302), (302), (302), (302), (302), (302), (302), (302), (155)]) (len := 155) (off := (302)) (tgt := 331) (by decide +kernel) (by rw [s29_7]; decide) (by rw [s29_7]; decide) (by rw [s29_7]; rfl) (by decide) ?_
          exact (l_X6_readValue_28 h0 h1 h2 h3 h4 h5 h6 rd hX hi FU) _ _ _ _ _ h
        by_cases s29_8 : (I 28 6) = (8 : Int32)
        · refine am_tsi hX hi (dflt := (302)) (lo := (6)) (hi' := (40)) (offs := #[(204), (302), (302), (204), (302), (302), (302), (302), (302), (185), (204), (231), (302), (302), (302), (302), (231), (231), (282), (302), (302), (302), (302), (302), (302), (255), (302), (302), (302), (302), (302), (302), (302), (302), (155)]) (len := 155) (off := (302)) (tgt := 331) (by decide +kernel) (by rw [s29_8]; decide) (by rw [s29_8]; decide) (by rw [s29_8]; rfl) (by decide) ?_
          exact (l_X6_readValue_28 h0 h1 h2 h3 h4 h5 h6 rd hX hi FU) _ _ _ _ _ h
        by_cases s29_10 : (I 28 6) = (10 : Int32)
        · refine am_tsi hX hi (dflt := (302)) (lo := (6)) (hi' := (40)) (offs := #[(204), (302), (302), (204), (302), (302), (302), (302), (302), (185), (204), (231), (302), (302), (302), (302), (231), (231), (282), (302), (302), (302), (302), (302), (302), (255), (302), (302), (302), (302), (302), (302), (302), (302), (155)]) (len := 155) (off := (302)) (tgt := 331) (by decide +kernel) (by rw [s29_10]; decide) (by rw [s29_10]; decide) (by rw [s29_10]; rfl) (by decide) ?_
          exact (l_X6_readValue_28 h0 h1 h2 h3 h4 h5 h6 rd hX hi FU) _ _ _ _ _ h
        by_cases s29_11 : (I 28 6) = (11 : Int32)
        · refine am_tsi hX hi (dflt := (302)) (lo := (6)) (hi' := (40)) (offs := #[(204), (302), (302), (204), (302), (302), (302), (302), (302), (185), (204), (231), (302), (302), (302), (302), (231), (231), (282), (302), (302), (302), (302), (302), (302), (255), (302), (302), (302), (302), (302), (302), (302), (302), (155)]) (len := 155) (off := (302)) (tgt := 331) (by decide +kernel) (by rw [s29_11]; decide) (by rw [s29_11]; decide) (by rw [s29_11]; rfl) (by decide) ?_
          exact (l_X6_readValue_28 h0 h1 h2 h3 h4 h5 h6 rd hX hi FU) _ _ _ _ _ h
        by_cases s29_12 : (I 28 6) = (12 : Int32)
        · refine am_tsi hX hi (dflt := (302)) (lo := (6)) (hi' := (40)) (offs := #[(204), (302), (302), (204), (302), (302), (302), (302), (302), (185), (204), (231), (302), (302), (302), (302), (231), (231), (282), (302), (302), (302), (302), (302), (302), (255), (302), (302), (302), (302), (302), (302), (302), (302), (155)]) (len := 155) (off := (302)) (tgt := 331) (by decide +kernel) (by rw [s29_12]; decide) (by rw [s29_12]; decide) (by rw [s29_12]; rfl) (by decide) ?_
          exact (l_X6_readValue_28 h0 h1 h2 h3 h4 h5 h6 rd hX hi FU) _ _ _ _ _ h
        by_cases s29_13 : (I 28 6) = (13 : Int32)
        · refine am_tsi hX hi (dflt := (302)) (lo := (6)) (hi' := (40)) (offs := #[(204), (302), (302), (204), (302), (302), (302), (302), (302), (185), (204), (231), (302), (302), (302), (302), (231), (231), (282), (302), (302), (302), (302), (302), (302), (255), (302), (302), (302), (302), (302), (302), (302), (302), (155)]) (len := 155) (off := (302)) (tgt := 331) (by decide +kernel) (by rw [s29_13]; decide) (by rw [s29_13]; decide) (by rw [s29_13]; rfl) (by decide) ?_
          exact (l_X6_readValue_28 h0 h1 h2 h3 h4 h5 h6 rd hX hi FU) _ _ _ _ _ h
        by_cases s29_14 : (I 28 6) = (14 : Int32)
        · refine am_tsi hX hi (dflt := (302)) (lo := (6)) (hi' := (40)) (offs := #[(204), (302), (302), (204), (302), (302), (302), (302), (302), (185), (204), (231), (302), (302), (302), (302), (231), (231), (282), (302), (302), (302), (302), (302), (302), (255), (302), (302), (302), (302), (302), (302), (302), (302), (155)]) (len := 155) (off := (302)) (tgt := 331) (by decide +kernel) (by rw [s29_14]; decide) (by rw [s29_14]; decide) (by rw [s29_14]; rfl) (by decide) ?_
          exact (l_X6_readValue_28 h0 h1 h2 h3 h4 h5 h6 rd hX hi FU) _ _ _ _ _ h
        by_cases s29_18 : (I 28 6) = (18 : Int32)
        · refine am_tsi hX hi (dflt := (302)) (lo := (6)) (hi' := (40)) (offs := #[(204), (302), (302), (204), (302), (302), (302), (302), (302), (185), (204), (231), (302), (302), (302), (302), (231), (231), (282), (302), (302), (302), (302), (302), (302), (255), (302), (302), (302), (302), (302), (302), (302), (302), (155)]) (len := 155) (off := (302)) (tgt := 331) (by decide +kernel) (by rw [s29_18]; decide) (by rw [s29_18]; decide) (by rw [s29_18]; rfl) (by decide) ?_
          exact (l_X6_readValue_28 h0 h1 h2 h3 h4 h5 h6 rd hX hi FU) _ _ _ _ _ h
        by_cases s29_19 : (I 28 6) = (19 : Int32)
        · refine am_tsi hX hi (dflt := (302)) (lo := (6)) (hi' := (40)) (offs := #[(204), (302), (302), (204), (302), (302), (302), (302), (302), (185), (204), (231), (302), (302), (302), (302), (231), (231), (282), (302), (302), (302), (302), (302), (302), (255), (302), (302), (302), (302), (302), (302), (302), (302), (155)]) (len := 155) (off := (302)) (tgt := 331) (by decide +kernel) (by rw [s29_19]; decide) (by rw [s29_19]; decide) (by rw [s29_19]; rfl) (by decide) ?_
          exact (l_X6_readValue_28 h0 h1 h2 h3 h4 h5 h6 rd hX hi FU) _ _ _ _ _ h
        by_cases s29_20 : (I 28 6) = (20 : Int32)
        · refine am_tsi hX hi (dflt := (302)) (lo := (6)) (hi' := (40)) (offs := #[(204), (302), (302), (204), (302), (302), (302), (302), (302), (185), (204), (231), (302), (302), (302), (302), (231), (231), (282), (302), (302), (302), (302), (302), (302), (255), (302), (302), (302), (302), (302), (302), (302), (302), (155)]) (len := 155) (off := (302)) (tgt := 331) (by decide +kernel) (by rw [s29_20]; decide) (by rw [s29_20]; decide) (by rw [s29_20]; rfl) (by decide) ?_
          exact (l_X6_readValue_28 h0 h1 h2 h3 h4 h5 h6 rd hX hi FU) _ _ _ _ _ h
        by_cases s29_21 : (I 28 6) = (21 : Int32)
        · refine am_tsi hX hi (dflt := (302)) (lo := (6)) (hi' := (40)) (offs := #[(204), (302), (302), (204), (302), (302), (302), (302), (302), (185), (204), (231), (302), (302), (302), (302), (231), (231), (282), (302), (302), (302), (302), (302), (302), (255), (302), (302), (302), (302), (302), (302), (302), (302), (155)]) (len := 155) (off := (302)) (tgt := 331) (by decide +kernel) (by rw [s29_21]; decide) (by rw [s29_21]; decide) (by rw [s29_21]; rfl) (by decide) ?_
          exact (l_X6_readValue_28 h0 h1 h2 h3 h4 h5 h6 rd hX hi FU) _ _ _ _ _ h
        by_cases s29_25 : (I 28 6) = (25 : Int32)
        · refine am_tsi hX hi (dflt := (302)) (lo := (6)) (hi' := (40)) (offs := #[(204), (302), (302), (204), (302), (302), (302), (302), (302), (185), (204), (231), (302), (302), (302), (302), (231), (231), (282), (302), (302), (302), (302), (302), (302), (255), (302), (302), (302), (302), (302), (302), (302), (302), (155)]) (len := 155) (off := (302)) (tgt := 331) (by decide +kernel) (by rw [s29_25]; decide) (by rw [s29_25]; decide) (by rw [s29_25]; rfl) (by decide) ?_
          exact (l_X6_readValue_28 h0 h1 h2 h3 h4 h5 h6 rd hX hi FU) _ _ _ _ _ h
        by_cases s29_26 : (I 28 6) = (26 : Int32)
        · refine am_tsi hX hi (dflt := (302)) (lo := (6)) (hi' := (40)) (offs := #[(204), (302), (302), (204), (302), (302), (302), (302), (302), (185), (204), (231), (302), (302), (302), (302), (231), (231), (282), (302), (302), (302), (302), (302), (302), (255), (302), (302), (302), (302), (302), (302), (302), (302), (155)]) (len := 155) (off := (302)) (tgt := 331) (by decide +kernel) (by rw [s29_26]; decide) (by rw [s29_26]; decide) (by rw [s29_26]; rfl) (by decide) ?_
          exact (l_X6_readValue_28 h0 h1 h2 h3 h4 h5 h6 rd hX hi FU) _ _ _ _ _ h
        by_cases s29_27 : (I 28 6) = (27 : Int32)
        · refine am_tsi hX hi (dflt := (302)) (lo := (6)) (hi' := (40)) (offs := #[(204), (302), (302), (204), (302), (302), (302), (302), (302), (185), (204), (231), (302), (302), (302), (302), (231), (231), (282), (302), (302), (302), (302), (302), (302), (255), (302), (302), (302), (302), (302), (302), (302), (302), (155)]) (len := 155) (off := (302)) (tgt := 331) (by decide +kernel) (by rw [s29_27]; decide) (by rw [s29_27]; decide) (by rw [s29_27]; rfl) (by decide) ?_
          exact (l_X6_readValue_28 h0 h1 h2 h3 h4 h5 h6 rd hX hi FU) _ _ _ _ _ h
        by_cases s29_28 : (I 28 6) = (28 : Int32)
        · refine am_tsi hX hi (dflt := (302)) (lo := (6)) (hi' := (40)) (offs := #[(204), (302), (302), (204), (302), (302), (302), (302), (302), (185), (204), (231), (302), (302), (302), (302), (231), (231), (282), (302), (302), (302), (302), (302), (302), (255), (302), (302), (302), (302), (302), (302), (302), (302), (155)]) (len := 155) (off := (302)) (tgt := 331) (by decide +kernel) (by rw [s29_28]; decide) (by rw [s29_28]; decide) (by rw [s29_28]; rfl) (by decide) ?_
          exact (l_X6_readValue_28 h0 h1 h2 h3 h4 h5 h6 rd hX hi FU) _ _ _ _ _ h
        by_cases s29_29 : (I 28 6) = (29 : Int32)
        · refine am_tsi hX hi (dflt := (302)) (lo := (6)) (hi' := (40)) (offs := #[(204), (302), (302), (204), (302), (302), (302), (302), (302), (185), (204), (231), (302), (302), (302), (302), (231), (231), (282), (302), (302), (302), (302), (302), (302), (255), (302), (302), (302), (302), (302), (302), (302), (302), (155)]) (len := 155) (off := (302)) (tgt := 331) (by decide +kernel) (by rw [s29_29]; decide) (by rw [s29_29]; decide) (by rw [s29_29]; rfl) (by decide) ?_
          exact (l_X6_readValue_28 h0 h1 h2 h3 h4 h5 h6 rd hX hi FU) _ _ _ _ _ h
        by_cases s29_30 : (I 28 6) = (30 : Int32)
        · refine am_tsi hX hi (dflt := (302)) (lo := (6)) (hi' := (40)) (offs := #[(204), (302), (302), (204), (302), (302), (302), (302), (302), (185), (204), (231), (302), (302), (302), (302), (231), (231), (282), (302), (302), (302), (302), (302), (302), (255), (302), (302), (302), (302), (302), (302), (302), (302), (155)]) (len := 155) (off := (302)) (tgt := 331) (by decide +kernel) (by rw [s29_30]; decide) (by rw [s29_30]; decide) (by rw [s29_30]; rfl) (by decide) ?_
          exact (l_X6_readValue_28 h0 h1 h2 h3 h4 h5 h6 rd hX hi FU) _ _ _ _ _ h
        by_cases s29_32 : (I 28 6) = (32 : Int32)
        · refine am_tsi hX hi (dflt := (302)) (lo := (6)) (hi' := (40)) (offs := #[(204), (302), (302), (204), (302), (302), (302), (302), (302), (185), (204), (231), (302), (302), (302), (302), (231), (231), (282), (302), (302), (302), (302), (302), (302), (255), (302), (302), (302), (302), (302), (302), (302), (302), (155)]) (len := 155) (off := (302)) (tgt := 331) (by decide +kernel) (by rw [s29_32]; decide) (by rw [s29_32]; decide) (by rw [s29_32]; rfl) (by decide) ?_
          exact (l_X6_readValue_28 h0 h1 h2 h3 h4 h5 h6 rd hX hi FU) _ _ _ _ _ h
        by_cases s29_33 : (I 28 6) = (33 : Int32)
        · refine am_tsi hX hi (dflt := (302)) (lo := (6)) (hi' := (40)) (offs := #[(204), (302), (302), (204), (302), (302), (302), (302), (302), (185), (204), (231), (302), (302), (302), (302), (231), (231), (282), (302), (302), (302), (302), (302), (302), (255), (302), (302), (302), (302), (302), (302), (302), (302), (155)]) (len := 155) (off := (302)) (tgt := 331) (by decide +kernel) (by rw [s29_33]; decide) (by rw [s29_33]; decide) (by rw [s29_33]; rfl) (by decide) ?_
          exact (l_X6_readValue_28 h0 h1 h2 h3 h4 h5 h6 rd hX hi FU) _ _ _ _ _ h
        by_cases s29_34 : (I 28 6) = (34 : Int32)
        · refine am_tsi hX hi (dflt := (302)) (lo := (6)) (hi' := (40)) (offs := #[(204), (302), (302), (204), (302), (302), (302), (302), (302), (185), (204), (231), (302), (302), (302), (302), (231), (231), (282), (302), (302), (302), (302), (302), (302), (255), (302), (302), (302), (302), (302), (302), (302), (302), (155)]) (len := 155) (off := (302)) (tgt := 331) (by decide +kernel) (by rw [s29_34]; decide) (by rw [s29_34]; decide) (by rw [s29_34]; rfl) (by decide) ?_
          exact (l_X6_readValue_28 h0 h1 h2 h3 h4 h5 h6 rd hX hi FU) _ _ _ _ _ h
        by_cases s29_35 : (I 28 6) = (35 : Int32)
        · refine am_tsi hX hi (dflt := (302)) (lo := (6)) (hi' := (40)) (offs := #[(204), (302), (302), (204), (302), (302), (302), (302), (302), (185), (204), (231), (302), (302), (302), (302), (231), (231), (282), (302), (302), (302), (302), (302), (302), (255), (302), (302), (302), (302), (302), (302), (302), (302), (155)]) (len := 155) (off := (302)) (tgt := 331) (by decide +kernel) (by rw [s29_35]; decide) (by rw [s29_35]; decide) (by rw [s29_35]; rfl) (by decide) ?_
          exact (l_X6_readValue_28 h0 h1 h2 h3 h4 h5 h6 rd hX hi FU) _ _ _ _ _ h
        by_cases s29_36 : (I 28 6) = (36 : Int32)
        · refine am_tsi hX hi (dflt := (302)) (lo := (6)) (hi' := (40)) (offs := #[(204), (302), (302), (204), (302), (302), (302), (302), (302), (185), (204), (231), (302), (302), (302), (302), (231), (231), (282), (302), (302), (302), (302), (302), (302), (255), (302), (302), (302), (302), (302), (302), (302), (302), (155)]) (len := 155) (off := (302)) (tgt := 331) (by decide +kernel) (by rw [s29_36]; decide) (by rw [s29_36]; decide) (by rw [s29_36]; rfl) (by decide) ?_
          exact (l_X6_readValue_28 h0 h1 h2 h3 h4 h5 h6 rd hX hi FU) _ _ _ _ _ h
        by_cases s29_37 : (I 28 6) = (37 : Int32)
        · refine am_tsi hX hi (dflt := (302)) (lo := (6)) (hi' := (40)) (offs := #[(204), (302), (302), (204), (302), (302), (302), (302), (302), (185), (204), (231), (302), (302), (302), (302), (231), (231), (282), (302), (302), (302), (302), (302), (302), (255), (302), (302), (302), (302), (302), (302), (302), (302), (155)]) (len := 155) (off := (302)) (tgt := 331) (by decide +kernel) (by rw [s29_37]; decide) (by rw [s29_37]; decide) (by rw [s29_37]; rfl) (by decide) ?_
          exact (l_X6_readValue_28 h0 h1 h2 h3 h4 h5 h6 rd hX hi FU) _ _ _ _ _ h
        by_cases s29_38 : (I 28 6) = (38 : Int32)
        · refine am_tsi hX hi (dflt := (302)) (lo := (6)) (hi' := (40)) (offs := #[(204), (302), (302), (204), (302), (302), (302), (302), (302), (185), (204), (231), (302), (302), (302), (302), (231), (231), (282), (302), (302), (302), (302), (302), (302), (255), (302), (302), (302), (302), (302), (302), (302), (302), (155)]) (len := 155) (off := (302)) (tgt := 331) (by decide +kernel) (by rw [s29_38]; decide) (by rw [s29_38]; decide) (by rw [s29_38]; rfl) (by decide) ?_
          exact (l_X6_readValue_28 h0 h1 h2 h3 h4 h5 h6 rd hX hi FU) _ _ _ _ _ h
        by_cases s29_39 : (I 28 6) = (39 : Int32)
        · refine am_tsi hX hi (dflt := (302)) (lo := (6)) (hi' := (40)) (offs := #[(204), (302), (302), (204), (302), (302), (302), (302), (302), (185), (204), (231), (302), (302), (302), (302), (231), (231), (282), (302), (302), (302), (302), (302), (302), (255), (302), (302), (302), (302), (302), (302), (302), (302), (155)]) (len := 155) (off := (302)) (tgt := 331) (by decide +kernel) (by rw [s29_39]; decide) (by rw [s29_39]; decide) (by rw [s29_39]; rfl) (by decide) ?_
          exact (l_X6_readValue_28 h0 h1 h2 h3 h4 h5 h6 rd hX hi FU) _ _ _ _ _ h
        refine am_tso hX hi (dflt := (302)) (lo := (6)) (hi' := (40)) (offs := #[(204), (302), (302), (204), (302), (302), (302), (302), (302), (185), (204), (231), (302), (302), (302), (302), (231), (231), (282), (302), (302), (302), (302), (302), (302), (255), (302), (302), (302), (302), (302), (302), (302), (302), (155)]) (len := 155) (tgt := 331) (by decide +kernel) ?_ (by decide) ?_
        · have eF : ∀ v : Int32, ¬ (I 28 6) = v → ¬ ((I 28 6)).toInt = v.toInt := fun v q z => q ((i_eq _ _).mpr z)
          have e6 := eF (6 : Int32) s29_6
          have e9 := eF (9 : Int32) s29_9
          have e15 := eF (15 : Int32) s29_15
          have e16 := eF (16 : Int32) s29_16
          have e17 := eF (17 : Int32) s29_17
          have e22 := eF (22 : Int32) s29_22
          have e23 := eF (23 : Int32) s29_23
          have e24 := eF (24 : Int32) s29_24
          have e31 := eF (31 : Int32) s29_31
          have e40 := eF (40 : Int32) s29_40
          have e7 := eF (7 : Int32) s29_7
          have e8 := eF (8 : Int32) s29_8
          have e10 := eF (10 : Int32) s29_10
          have e11 := eF (11 : Int32) s29_11
          have e12 := eF (12 : Int32) s29_12
          have e13 := eF (13 : Int32) s29_13
          have e14 := eF (14 : Int32) s29_14
          have e18 := eF (18 : Int32) s29_18
          have e19 := eF (19 : Int32) s29_19
          have e20 := eF (20 : Int32) s29_20
          have e21 := eF (21 : Int32) s29_21
          have e25 := eF (25 : Int32) s29_25
          have e26 := eF (26 : Int32) s29_26
          have e27 := eF (27 : Int32) s29_27
          have e28 := eF (28 : Int32) s29_28
          have e29 := eF (29 : Int32) s29_29
          have e30 := eF (30 : Int32) s29_30
          have e32 := eF (32 : Int32) s29_32
          have e33 := eF (33 : Int32) s29_33
          have e34 := eF (34 : Int32) s29_34
          have e35 := eF (35 : Int32) s29_35
          have e36 := eF (36 : Int32) s29_36
          have e37 := eF (37 : Int32) s29_37
          have e38 := eF (38 : Int32) s29_38
          have e39 := eF (39 : Int32) s29_39
          simp only [show ((6 : Int32) : Int32).toInt = 6 from rfl, show ((9 : Int32) : Int32).toInt = 9 from rfl, show ((15 : Int32) : Int32).toInt = 15 from rfl, show ((16 : Int32) : Int32).toInt = 16 from rfl, show ((17 : Int32) : Int32).toInt = 17 from rfl, show ((22 : Int32) : Int32).toInt = 22 from rfl, show ((23 : Int32) : Int32).toInt = 23 from rfl, show ((24 : Int32) : Int32).toInt = 24 from rfl, show ((31 : Int32) : Int32).toInt = 31 from rfl, show ((40 : Int32) : Int32).toInt = 40 from rfl, show ((7 : Int32) : Int32).toInt = 7 from rfl, show ((8 : Int32) : Int32).toInt = 8 from rfl, show ((10 : Int32) : Int32).toInt = 10 from rfl, show ((11 : Int32) : Int32).toInt = 11 from rfl, show ((12 : Int32) : Int32).toInt = 12 from rfl, show ((13 : Int32) : Int32).toInt = 13 from rfl, show ((14 : Int32) : Int32).toInt = 14 from rfl, show ((18 : Int32) : Int32).toInt = 18 from rfl, show ((19 : Int32) : Int32).toInt = 19 from rfl, show ((20 : Int32) : Int32).toInt = 20 from rfl, show ((21 : Int32) : Int32).toInt = 21 from rfl, show ((25 : Int32) : Int32).toInt = 25 from rfl, show ((26 : Int32) : Int32).toInt = 26 from rfl, show ((27 : Int32) : Int32).toInt = 27 from rfl, show ((28 : Int32) : Int32).toInt = 28 from rfl, show ((29 : Int32) : Int32).toInt = 29 from rfl, show ((30 : Int32) : Int32).toInt = 30 from rfl, show ((32 : Int32) : Int32).toInt = 32 from rfl, show ((33 : Int32) : Int32).toInt = 33 from rfl, show ((34 : Int32) : Int32).toInt = 34 from rfl, show ((35 : Int32) : Int32).toInt = 35 from rfl, show ((36 : Int32) : Int32).toInt = 36 from rfl, show ((37 : Int32) : Int32).toInt = 37 from rfl, show ((38 : Int32) : Int32).toInt = 38 from rfl, show ((39 : Int32) : Int32).toInt = 39 from rfl] at e6 e9 e15 e16 e17 e22 e23 e24 e31 e40 e7 e8 e10 e11 e12 e13 e14 e18 e19 e20 e21 e25 e26 e27 e28 e29 e30 e32 e33 e34 e35 e36 e37 e38 e39
          omega
        exact (l_X6_readValue_28 h0 h1 h2 h3 h4 h5 h6 rd hX hi FU) _ _ _ _ _ h
      · rw [if_neg c20] at h
        refine am_blk 23 [(.aload_n 0, 1, 0, 0, .null)] (24, [(0, .ref 28), (1, .int x1), (2, .int (I 28 6))], [.ref 28], I, G, (gP rd)) (True) hX hi (by decide +kernel) rfl trivial ?_
        refine am_callV hX hi (M := mX6_refuse) (idx := 70) (d' := 2) (b := 28) (ci := 4) (As := []) (rest := []) mkX6_refuse miX6_refuse mvX6_refuse (by decide +kernel) (by decide +kernel) rfl (by decide +kernel) rfl ⟨by omega, by decide, Nat.le_of_ble_eq_true rfl⟩ rfl (c_X6_refuse_28 _ I G ) ?_
        rintro rz Iz Gz Pz ⟨e0, e1, e2, e3⟩
        rw [e0, e1, e2, e3]
        show am_V X 0 0 _ _ ad (27, [(0, .ref 28), (1, .int x1), (2, .int (I 28 6))], [], (g_X6_refuse_28 I G ), G, (gP rd))
        cases h
        refine am_vret hX hi rfl (by decide +kernel) ?_
        exact ⟨rfl, rfl, rfl, rfl⟩
noncomputable def R_X6_readPair_28 (cal : Nat → am_I → am_G → Int32 → Int32 → Option (Unit × am_I × am_G)) (I : am_I) (G : am_G) (x1 : Int32) : Option (Unit × am_I × am_G) := (if (I 28 6) = (24 : Int32) then (if x1 < (8 : Int32) then rb (cal 3 (g_X6_advance_28 I G ) G (x1 + (1 : Int32)) (0 : Int32)) (fun r1 I1 G1 => rb (cal 3 (g_X6_expect_28 I1 G1 (29 : Int32)) G1 (x1 + (1 : Int32)) (0 : Int32)) (fun r2 I2 G2 => some ((), (g_X6_expect_28 I2 G2 (25 : Int32)), G2))) else some ((), (g_X6_refuse_28 I G ), G)) else some ((), (g_X6_refuse_28 I G ), G))
set_option maxRecDepth 20000 in
set_option maxHeartbeats 4000000 in
theorem c_X6_readPair_28 {cal : Nat → am_I → am_G → Int32 → Int32 → Option (Unit × am_I × am_G)} {n9 : Nat} (h0 : ∀ (rd : Nat) (I : am_I) (G : am_G) (a : Int32) (out : Unit × am_I × am_G), cal 0 I G a (0 : Int32) = some out → am_Ct mX6_readTest (8 + n9) gS [.ref 28, .int a] I G (gP rd) (pV out.2.1 out.2.2 (gP rd))) (h1 : ∀ (rd : Nat) (I : am_I) (G : am_G) (a : Int32) (out : Unit × am_I × am_G), cal 1 I G a (0 : Int32) = some out → am_Ct mX6_readBoth (8 + n9) gS [.ref 28, .int a] I G (gP rd) (pV out.2.1 out.2.2 (gP rd))) (h2 : ∀ (rd : Nat) (I : am_I) (G : am_G) (a : Int32) (out : Unit × am_I × am_G), cal 2 I G a (0 : Int32) = some out → am_Ct mX6_readSingle (8 + n9) gS [.ref 28, .int a] I G (gP rd) (pV out.2.1 out.2.2 (gP rd))) (h3 : ∀ (rd : Nat) (I : am_I) (G : am_G) (a : Int32) (out : Unit × am_I × am_G), cal 3 I G a (0 : Int32) = some out → am_Ct mX6_readSum (8 + n9) gS [.ref 28, .int a] I G (gP rd) (pV out.2.1 out.2.2 (gP rd))) (h4 : ∀ (rd : Nat) (I : am_I) (G : am_G) (a : Int32) (out : Unit × am_I × am_G), cal 4 I G a (0 : Int32) = some out → am_Ct mX6_readProduct (8 + n9) gS [.ref 28, .int a] I G (gP rd) (pV out.2.1 out.2.2 (gP rd))) (h5 : ∀ (rd : Nat) (I : am_I) (G : am_G) (a : Int32) (out : Unit × am_I × am_G), cal 5 I G a (0 : Int32) = some out → am_Ct mX6_readValue (8 + n9) gS [.ref 28, .int a] I G (gP rd) (pV out.2.1 out.2.2 (gP rd))) (h6 : ∀ (rd : Nat) (I : am_I) (G : am_G) (a : Int32) (out : Unit × am_I × am_G), cal 6 I G a (0 : Int32) = some out → am_Ct mX6_readPair (8 + n9) gS [.ref 28, .int a] I G (gP rd) (pV out.2.1 out.2.2 (gP rd))) (rd : Nat) (I : am_I) (G : am_G) (x1 : Int32) {out : Unit × am_I × am_G} (h : R_X6_readPair_28 cal I G x1 = some out) : am_Ct mX6_readPair (8 + n9 + 1) gS [.ref 28, .int x1] I G (gP rd) (pV out.2.1 out.2.2 (gP rd)) := by
  refine am_ofF (by decide +kernel) rfl (by decide) (by omega) (Nat.le_of_ble_eq_true rfl) (fun X ad hX hi => ?_)
  have hi : am_info X 4 cX6_readPair 2 false none (8 + n9 + 1) := hi
  show am_V X 0 0 _ _ ad (0, [(0, .ref 28), (1, .int x1)], [], I, G, (gP rd))
  unfold R_X6_readPair_28 at h
  refine am_blk 0 [(.aload_n 0, 1, 0, 0, .null), (.getfield 62, 3, 4, 6, .null), (.bipush (24), 2, 0, 0, .int (24 : Int32))] (6, [(0, .ref 28), (1, .int x1)], [.int (24 : Int32), .int (I 28 6)], I, G, (gP rd)) (True) hX hi (by decide +kernel) rfl trivial ?_
  refine am_icmp_ne (tgt := 15) hX hi (off := (9)) (by decide +kernel) (by decide) (fun c6 => ?_) (fun c6 => ?_)
  · rw [if_neg c6] at h
    refine am_blk 15 [(.aload_n 0, 1, 0, 0, .null)] (16, [(0, .ref 28), (1, .int x1)], [.ref 28], I, G, (gP rd)) (True) hX hi (by decide +kernel) rfl trivial ?_
    refine am_callV hX hi (M := mX6_refuse) (idx := 70) (d' := 2) (b := 28) (ci := 4) (As := []) (rest := []) mkX6_refuse miX6_refuse mvX6_refuse (by decide +kernel) (by decide +kernel) rfl (by decide +kernel) rfl ⟨by omega, by decide, Nat.le_of_ble_eq_true rfl⟩ rfl (c_X6_refuse_28 _ I G ) ?_
    rintro r9 I9 G9 P9 ⟨e0, e1, e2, e3⟩
    rw [e0, e1, e2, e3]
    show am_V X 0 0 _ _ ad (19, [(0, .ref 28), (1, .int x1)], [], (g_X6_refuse_28 I G ), G, (gP rd))
    cases h
    refine am_vret hX hi rfl (by decide +kernel) ?_
    exact ⟨rfl, rfl, rfl, rfl⟩
  · rw [if_pos c6] at h
    refine am_blk 9 [(.iload_n 1, 1, 1, 0, .null), (.bipush (8), 2, 0, 0, .int (8 : Int32))] (12, [(0, .ref 28), (1, .int x1)], [.int (8 : Int32), .int x1], I, G, (gP rd)) (True) hX hi (by decide +kernel) rfl trivial ?_
    refine am_icmp_lt (tgt := 20) hX hi (off := (8)) (by decide +kernel) (by decide) (fun c12 => ?_) (fun c12 => ?_)
    · rw [if_pos c12] at h
      refine am_blk 20 [(.aload_n 0, 1, 0, 0, .null)] (21, [(0, .ref 28), (1, .int x1)], [.ref 28], I, G, (gP rd)) (True) hX hi (by decide +kernel) rfl trivial ?_
      refine am_callV hX hi (M := mX6_advance) (idx := 100) (d' := 2) (b := 28) (ci := 4) (As := []) (rest := []) mkX6_advance miX6_advance mvX6_advance (by decide +kernel) (by decide +kernel) rfl (by decide +kernel) rfl ⟨by omega, by decide, Nat.le_of_ble_eq_true rfl⟩ rfl (c_X6_advance_28 _ I G ) ?_
      rintro r9 I9 G9 P9 ⟨e0, e1, e2, e3⟩
      rw [e0, e1, e2, e3]
      show am_V X 0 0 _ _ ad (24, [(0, .ref 28), (1, .int x1)], [], (g_X6_advance_28 I G ), G, (gP rd))
      refine am_blk 24 [(.aload_n 0, 1, 0, 0, .null), (.iload_n 1, 1, 1, 0, .null), (.iconst (1), 1, 0, 0, .int (1 : Int32)), (.iadd, 1, 0, 0, .null)] (28, [(0, .ref 28), (1, .int x1)], [.int (x1 + (1 : Int32)), .ref 28], (g_X6_advance_28 I G ), G, (gP rd)) (True) hX hi (by decide +kernel) rfl trivial ?_
      obtain ⟨r1, I1, G1, hc, h⟩ := rb_some h
      refine am_callV hX hi (M := mX6_readSum) (idx := 88) (d' := (8 + n9)) (b := 28) (ci := 4) (As := [.int (x1 + (1 : Int32))]) (rest := []) mkX6_readSum miX6_readSum mvX6_readSum (by decide +kernel) (by decide +kernel) rfl (by decide +kernel) rfl ⟨by omega, by decide, Nat.le_of_ble_eq_true rfl⟩ rfl (h3 _ (g_X6_advance_28 I G ) G (x1 + (1 : Int32)) _ hc) ?_
      rintro r9 I9 G9 P9 ⟨e0, e1, e2, e3⟩
      rw [e0, e1, e2, e3]
      show am_V X 0 0 _ _ ad (31, [(0, .ref 28), (1, .int x1)], [], I1, G1, (gP rd))
      refine am_blk 31 [(.aload_n 0, 1, 0, 0, .null), (.bipush (29), 2, 0, 0, .int (29 : Int32))] (34, [(0, .ref 28), (1, .int x1)], [.int (29 : Int32), .ref 28], I1, G1, (gP rd)) (True) hX hi (by decide +kernel) rfl trivial ?_
      refine am_callV hX hi (M := mX6_expect) (idx := 109) (d' := 3) (b := 28) (ci := 4) (As := [.int (29 : Int32)]) (rest := []) mkX6_expect miX6_expect mvX6_expect (by decide +kernel) (by decide +kernel) rfl (by decide +kernel) rfl ⟨by omega, by decide, Nat.le_of_ble_eq_true rfl⟩ rfl (c_X6_expect_28 _ I1 G1 (29 : Int32)) ?_
      rintro r9 I9 G9 P9 ⟨e0, e1, e2, e3⟩
      rw [e0, e1, e2, e3]
      show am_V X 0 0 _ _ ad (37, [(0, .ref 28), (1, .int x1)], [], (g_X6_expect_28 I1 G1 (29 : Int32)), G1, (gP rd))
      refine am_blk 37 [(.aload_n 0, 1, 0, 0, .null), (.iload_n 1, 1, 1, 0, .null), (.iconst (1), 1, 0, 0, .int (1 : Int32)), (.iadd, 1, 0, 0, .null)] (41, [(0, .ref 28), (1, .int x1)], [.int (x1 + (1 : Int32)), .ref 28], (g_X6_expect_28 I1 G1 (29 : Int32)), G1, (gP rd)) (True) hX hi (by decide +kernel) rfl trivial ?_
      obtain ⟨r2, I2, G2, hc, h⟩ := rb_some h
      refine am_callV hX hi (M := mX6_readSum) (idx := 88) (d' := (8 + n9)) (b := 28) (ci := 4) (As := [.int (x1 + (1 : Int32))]) (rest := []) mkX6_readSum miX6_readSum mvX6_readSum (by decide +kernel) (by decide +kernel) rfl (by decide +kernel) rfl ⟨by omega, by decide, Nat.le_of_ble_eq_true rfl⟩ rfl (h3 _ (g_X6_expect_28 I1 G1 (29 : Int32)) G1 (x1 + (1 : Int32)) _ hc) ?_
      rintro r9 I9 G9 P9 ⟨e0, e1, e2, e3⟩
      rw [e0, e1, e2, e3]
      show am_V X 0 0 _ _ ad (44, [(0, .ref 28), (1, .int x1)], [], I2, G2, (gP rd))
      refine am_blk 44 [(.aload_n 0, 1, 0, 0, .null), (.bipush (25), 2, 0, 0, .int (25 : Int32))] (47, [(0, .ref 28), (1, .int x1)], [.int (25 : Int32), .ref 28], I2, G2, (gP rd)) (True) hX hi (by decide +kernel) rfl trivial ?_
      refine am_callV hX hi (M := mX6_expect) (idx := 109) (d' := 3) (b := 28) (ci := 4) (As := [.int (25 : Int32)]) (rest := []) mkX6_expect miX6_expect mvX6_expect (by decide +kernel) (by decide +kernel) rfl (by decide +kernel) rfl ⟨by omega, by decide, Nat.le_of_ble_eq_true rfl⟩ rfl (c_X6_expect_28 _ I2 G2 (25 : Int32)) ?_
      rintro r9 I9 G9 P9 ⟨e0, e1, e2, e3⟩
      rw [e0, e1, e2, e3]
      show am_V X 0 0 _ _ ad (50, [(0, .ref 28), (1, .int x1)], [], (g_X6_expect_28 I2 G2 (25 : Int32)), G2, (gP rd))
      cases h
      refine am_vret hX hi rfl (by decide +kernel) ?_
      exact ⟨rfl, rfl, rfl, rfl⟩
    · rw [if_neg c12] at h
      refine am_blk 15 [(.aload_n 0, 1, 0, 0, .null)] (16, [(0, .ref 28), (1, .int x1)], [.ref 28], I, G, (gP rd)) (True) hX hi (by decide +kernel) rfl trivial ?_
      refine am_callV hX hi (M := mX6_refuse) (idx := 70) (d' := 2) (b := 28) (ci := 4) (As := []) (rest := []) mkX6_refuse miX6_refuse mvX6_refuse (by decide +kernel) (by decide +kernel) rfl (by decide +kernel) rfl ⟨by omega, by decide, Nat.le_of_ble_eq_true rfl⟩ rfl (c_X6_refuse_28 _ I G ) ?_
      rintro r9 I9 G9 P9 ⟨e0, e1, e2, e3⟩
      rw [e0, e1, e2, e3]
      show am_V X 0 0 _ _ ad (19, [(0, .ref 28), (1, .int x1)], [], (g_X6_refuse_28 I G ), G, (gP rd))
      cases h
      refine am_vret hX hi rfl (by decide +kernel) ?_
      exact ⟨rfl, rfl, rfl, rfl⟩
noncomputable def PG_X6_readTest : Nat → Nat → am_I → am_G → Int32 → Int32 → Option (Unit × am_I × am_G)
  | 0 => fun _ _ _ _ _ => none
  | n + 1 => fun k I G a b => if k = 0 then R_X6_readTest_28 (PG_X6_readTest n) I G a else if k = 1 then R_X6_readBoth_28 (PG_X6_readTest n) I G a else if k = 2 then R_X6_readSingle_28 (PG_X6_readTest n) I G a else if k = 3 then R_X6_readSum_28 (PG_X6_readTest n) I G a else if k = 4 then R_X6_readProduct_28 (PG_X6_readTest n) I G a else if k = 5 then R_X6_readValue_28 (PG_X6_readTest n) I G a else if k = 6 then R_X6_readPair_28 (PG_X6_readTest n) I G a else none
theorem PG_X6_readTest_0 (n : Nat) (I : am_I) (G : am_G) (a b : Int32) : PG_X6_readTest (n + 1) 0 I G a b = R_X6_readTest_28 (PG_X6_readTest n) I G a := rfl
theorem PG_X6_readTest_1 (n : Nat) (I : am_I) (G : am_G) (a b : Int32) : PG_X6_readTest (n + 1) 1 I G a b = R_X6_readBoth_28 (PG_X6_readTest n) I G a := rfl
theorem PG_X6_readTest_2 (n : Nat) (I : am_I) (G : am_G) (a b : Int32) : PG_X6_readTest (n + 1) 2 I G a b = R_X6_readSingle_28 (PG_X6_readTest n) I G a := rfl
theorem PG_X6_readTest_3 (n : Nat) (I : am_I) (G : am_G) (a b : Int32) : PG_X6_readTest (n + 1) 3 I G a b = R_X6_readSum_28 (PG_X6_readTest n) I G a := rfl
theorem PG_X6_readTest_4 (n : Nat) (I : am_I) (G : am_G) (a b : Int32) : PG_X6_readTest (n + 1) 4 I G a b = R_X6_readProduct_28 (PG_X6_readTest n) I G a := rfl
theorem PG_X6_readTest_5 (n : Nat) (I : am_I) (G : am_G) (a b : Int32) : PG_X6_readTest (n + 1) 5 I G a b = R_X6_readValue_28 (PG_X6_readTest n) I G a := rfl
theorem PG_X6_readTest_6 (n : Nat) (I : am_I) (G : am_G) (a b : Int32) : PG_X6_readTest (n + 1) 6 I G a b = R_X6_readPair_28 (PG_X6_readTest n) I G a := rfl
set_option maxHeartbeats 4000000 in
theorem cg_X6_readTest (n : Nat) : (∀ (rd : Nat) (I : am_I) (G : am_G) (a : Int32) (out : Unit × am_I × am_G), PG_X6_readTest n 0 I G a (0 : Int32) = some out → am_Ct mX6_readTest (8 + n) gS [.ref 28, .int a] I G (gP rd) (pV out.2.1 out.2.2 (gP rd))) ∧ (∀ (rd : Nat) (I : am_I) (G : am_G) (a : Int32) (out : Unit × am_I × am_G), PG_X6_readTest n 1 I G a (0 : Int32) = some out → am_Ct mX6_readBoth (8 + n) gS [.ref 28, .int a] I G (gP rd) (pV out.2.1 out.2.2 (gP rd))) ∧ (∀ (rd : Nat) (I : am_I) (G : am_G) (a : Int32) (out : Unit × am_I × am_G), PG_X6_readTest n 2 I G a (0 : Int32) = some out → am_Ct mX6_readSingle (8 + n) gS [.ref 28, .int a] I G (gP rd) (pV out.2.1 out.2.2 (gP rd))) ∧ (∀ (rd : Nat) (I : am_I) (G : am_G) (a : Int32) (out : Unit × am_I × am_G), PG_X6_readTest n 3 I G a (0 : Int32) = some out → am_Ct mX6_readSum (8 + n) gS [.ref 28, .int a] I G (gP rd) (pV out.2.1 out.2.2 (gP rd))) ∧ (∀ (rd : Nat) (I : am_I) (G : am_G) (a : Int32) (out : Unit × am_I × am_G), PG_X6_readTest n 4 I G a (0 : Int32) = some out → am_Ct mX6_readProduct (8 + n) gS [.ref 28, .int a] I G (gP rd) (pV out.2.1 out.2.2 (gP rd))) ∧ (∀ (rd : Nat) (I : am_I) (G : am_G) (a : Int32) (out : Unit × am_I × am_G), PG_X6_readTest n 5 I G a (0 : Int32) = some out → am_Ct mX6_readValue (8 + n) gS [.ref 28, .int a] I G (gP rd) (pV out.2.1 out.2.2 (gP rd))) ∧ (∀ (rd : Nat) (I : am_I) (G : am_G) (a : Int32) (out : Unit × am_I × am_G), PG_X6_readTest n 6 I G a (0 : Int32) = some out → am_Ct mX6_readPair (8 + n) gS [.ref 28, .int a] I G (gP rd) (pV out.2.1 out.2.2 (gP rd))) := by
  induction n with
  | zero => refine ⟨?_, ?_, ?_, ?_, ?_, ?_, ?_⟩ <;> (intros; rename_i h; cases h)
  | succ n ih =>
    obtain ⟨h0, h1, h2, h3, h4, h5, h6⟩ := ih
    refine ⟨?_, ?_, ?_, ?_, ?_, ?_, ?_⟩
    · intro rd I G a out h; rw [PG_X6_readTest_0] at h; exact c_X6_readTest_28 h0 h1 h2 h3 h4 h5 h6  rd I G a h
    · intro rd I G a out h; rw [PG_X6_readTest_1] at h; exact c_X6_readBoth_28 h0 h1 h2 h3 h4 h5 h6  rd I G a h
    · intro rd I G a out h; rw [PG_X6_readTest_2] at h; exact c_X6_readSingle_28 h0 h1 h2 h3 h4 h5 h6  rd I G a h
    · intro rd I G a out h; rw [PG_X6_readTest_3] at h; exact c_X6_readSum_28 h0 h1 h2 h3 h4 h5 h6  rd I G a h
    · intro rd I G a out h; rw [PG_X6_readTest_4] at h; exact c_X6_readProduct_28 h0 h1 h2 h3 h4 h5 h6  rd I G a h
    · intro rd I G a out h; rw [PG_X6_readTest_5] at h; exact c_X6_readValue_28 h0 h1 h2 h3 h4 h5 h6  rd I G a h
    · intro rd I G a out h; rw [PG_X6_readTest_6] at h; exact c_X6_readPair_28 h0 h1 h2 h3 h4 h5 h6  rd I G a h

noncomputable def L_X14_isTest_79 (cal : Nat → am_I → am_G → Int32 → Int32 → Option (Int32 × am_I × am_G)) (n0 : Nat) (hd : Nat) (I : am_I) (G : am_G)  : Option (Int32 × am_I × am_G) := match n0 with
  | 0 => none
  | n + 1 => match hd with
    | _ => rg (q_X14_eat_79 I G (21 : Int32)) ((if (f_X14_eat_79 I G (21 : Int32)) = 0 then some ((1 : Int32), (g_X14_eat_79 I G (21 : Int32)), G) else rb (cal 1 (g_X14_eat_79 I G (21 : Int32)) G (0 : Int32) (0 : Int32)) (fun r101 I101 G101 => (if r101 = 0 then some ((0 : Int32), I101, G101) else rg (q_X14_put_79 I101 G101 (21 : Int32)) (L_X14_isTest_79 cal n 0 (g_X14_put_79 I101 G101 (21 : Int32)) G101 )))))
theorem L_X14_isTest_79_0 (cal : Nat → am_I → am_G → Int32 → Int32 → Option (Int32 × am_I × am_G)) (n : Nat) (I : am_I) (G : am_G)  : L_X14_isTest_79 cal (n + 1) 0 I G  = rg (q_X14_eat_79 I G (21 : Int32)) ((if (f_X14_eat_79 I G (21 : Int32)) = 0 then some ((1 : Int32), (g_X14_eat_79 I G (21 : Int32)), G) else rb (cal 1 (g_X14_eat_79 I G (21 : Int32)) G (0 : Int32) (0 : Int32)) (fun r101 I101 G101 => (if r101 = 0 then some ((0 : Int32), I101, G101) else rg (q_X14_put_79 I101 G101 (21 : Int32)) (L_X14_isTest_79 cal n 0 (g_X14_put_79 I101 G101 (21 : Int32)) G101 ))))) := rfl
theorem L_X14_isTest_79_z (cal : Nat → am_I → am_G → Int32 → Int32 → Option (Int32 × am_I × am_G)) (h : Nat) (I : am_I) (G : am_G)  : L_X14_isTest_79 cal 0 h I G  = none := rfl
noncomputable def R_X14_isTest_79 (cal : Nat → am_I → am_G → Int32 → Int32 → Option (Int32 × am_I × am_G)) (I : am_I) (G : am_G)  : Option (Int32 × am_I × am_G) := rb (cal 1 I G (0 : Int32) (0 : Int32)) (fun r1 I1 G1 => (if r1 = 0 then some ((0 : Int32), I1, G1) else L_X14_isTest_79 cal FU 0 I1 G1 ))
set_option maxRecDepth 20000 in
set_option maxHeartbeats 4000000 in
theorem l_X14_isTest_79 {cal : Nat → am_I → am_G → Int32 → Int32 → Option (Int32 × am_I × am_G)} {n9 : Nat} (h0 : ∀ (I : am_I) (G : am_G) (out : Int32 × am_I × am_G), cal 0 I G (0 : Int32) (0 : Int32) = some out → am_Ct mX14_isTest (8 + n9) gS2 [.ref 79] I G (gP 123) (pI out.1 out.2.1 out.2.2 (gP 123))) (h1 : ∀ (I : am_I) (G : am_G) (out : Int32 × am_I × am_G), cal 1 I G (0 : Int32) (0 : Int32) = some out → am_Ct mX14_isBoth (8 + n9) gS2 [.ref 79] I G (gP 123) (pI out.1 out.2.1 out.2.2 (gP 123))) (h2 : ∀ (I : am_I) (G : am_G) (out : Int32 × am_I × am_G), cal 2 I G (0 : Int32) (0 : Int32) = some out → am_Ct mX14_isSingle (8 + n9) gS2 [.ref 79] I G (gP 123) (pI out.1 out.2.1 out.2.2 (gP 123))) (h3 : ∀ (I : am_I) (G : am_G) (out : Int32 × am_I × am_G), cal 3 I G (0 : Int32) (0 : Int32) = some out → am_Ct mX14_isSum (8 + n9) gS2 [.ref 79] I G (gP 123) (pI out.1 out.2.1 out.2.2 (gP 123))) (h4 : ∀ (I : am_I) (G : am_G) (out : Int32 × am_I × am_G), cal 4 I G (0 : Int32) (0 : Int32) = some out → am_Ct mX14_isProduct (8 + n9) gS2 [.ref 79] I G (gP 123) (pI out.1 out.2.1 out.2.2 (gP 123))) (h5 : ∀ (I : am_I) (G : am_G) (a : Int32) (b : Int32) (out : Int32 × am_I × am_G), cal 5 I G a b = some out → am_Ct mX14_isInside (8 + n9) gS2 [.ref 79, .int a, .int b] I G (gP 123) (pI out.1 out.2.1 out.2.2 (gP 123))) (h6 : ∀ (I : am_I) (G : am_G) (out : Int32 × am_I × am_G), cal 6 I G (0 : Int32) (0 : Int32) = some out → am_Ct mX14_isValue (8 + n9) gS2 [.ref 79] I G (gP 123) (pI out.1 out.2.1 out.2.2 (gP 123))) {X : am_X} {ad : Nat → Nat} (hX : am_okz X ad) (hi : am_info X 12 cX14_isTest 1 false (Option.some Jvm.ClassFile.FieldType.boolean) (8 + n9 + 1)) (n : Nat) : (∀ (I : am_I) (G : am_G)  (out : Int32 × am_I × am_G), L_X14_isTest_79 cal n 0 I G  = some out → am_V X 0 0 (am_Rt X gS2 ad (pI out.1 out.2.1 out.2.2 (gP 123))) gS2 ad (9, [(0, .ref 79)], [], I, G, (gP 123))) := by
  induction n with
  | zero => exact fun I G  out h => by rw [L_X14_isTest_79_z] at h; cases h
  | succ n ih =>
    · intro I G  out h
      rw [L_X14_isTest_79_0] at h
      refine am_blk 9 [(.aload_n 0, 1, 0, 0, .null), (.bipush (21), 2, 0, 0, .int (21 : Int32))] (12, [(0, .ref 79)], [.int (21 : Int32), .ref 79], I, G, (gP 123)) (True) hX hi (by decide +kernel) rfl trivial ?_
      obtain ⟨hq1, h⟩ := rg_some h
      refine am_callV hX hi (M := mX14_eat) (idx := 128) (d' := 2) (b := 79) (ci := 12) (As := [.int (21 : Int32)]) (rest := []) mkX14_eat miX14_eat mvX14_eat (by decide +kernel) (by decide +kernel) rfl (by decide +kernel) rfl ⟨by omega, by decide, Nat.le_of_ble_eq_true rfl⟩ rfl (c_X14_eat_79 I G (21 : Int32) hq1) ?_
      rintro r9 I9 G9 P9 ⟨e0, e1, e2, e3⟩
      rw [e0, e1, e2, e3]
      show am_V X 0 0 _ _ ad (15, [(0, .ref 79)], [.int (f_X14_eat_79 I G (21 : Int32))], (g_X14_eat_79 I G (21 : Int32)), G, (gP 123))
      refine am_if_eq (tgt := 36) hX hi (off := (21)) (by decide +kernel) (by decide) (fun c15 => ?_) (fun c15 => ?_)
      · rw [if_pos c15] at h
        refine am_blk 36 [(.iconst (1), 1, 0, 0, .int (1 : Int32))] (37, [(0, .ref 79)], [.int (1 : Int32)], (g_X14_eat_79 I G (21 : Int32)), G, (gP 123)) (True) hX hi (by decide +kernel) rfl trivial ?_
        cases h
        refine am_iret hX hi rfl (by first | rfl | decide | (simp [narrow]; done)) (by decide +kernel) ?_
        exact ⟨rfl, rfl, rfl, rfl⟩
      · rw [if_neg c15] at h
        refine am_blk 18 [(.aload_n 0, 1, 0, 0, .null)] (19, [(0, .ref 79)], [.ref 79], (g_X14_eat_79 I G (21 : Int32)), G, (gP 123)) (True) hX hi (by decide +kernel) rfl trivial ?_
        obtain ⟨r101, I101, G101, hc, h⟩ := rb_some h
        refine am_callV hX hi (M := mX14_isBoth) (idx := 180) (d' := (8 + n9)) (b := 79) (ci := 12) (As := []) (rest := []) mkX14_isBoth miX14_isBoth mvX14_isBoth (by decide +kernel) (by decide +kernel) rfl (by decide +kernel) rfl ⟨by omega, by decide, Nat.le_of_ble_eq_true rfl⟩ rfl (h1 (g_X14_eat_79 I G (21 : Int32)) G  _ hc) ?_
        rintro r9 I9 G9 P9 ⟨e0, e1, e2, e3⟩
        rw [e0, e1, e2, e3]
        show am_V X 0 0 _ _ ad (22, [(0, .ref 79)], [.int r101], I101, G101, (gP 123))
        refine am_if_ne (tgt := 27) hX hi (off := (5)) (by decide +kernel) (by decide) (fun c22 => ?_) (fun c22 => ?_)
        · rw [if_neg c22] at h
          refine am_blk 27 [(.aload_n 0, 1, 0, 0, .null), (.bipush (21), 2, 0, 0, .int (21 : Int32))] (30, [(0, .ref 79)], [.int (21 : Int32), .ref 79], I101, G101, (gP 123)) (True) hX hi (by decide +kernel) rfl trivial ?_
          obtain ⟨hq1, h⟩ := rg_some h
          refine am_callV hX hi (M := mX14_put) (idx := 183) (d' := 1) (b := 79) (ci := 12) (As := [.int (21 : Int32)]) (rest := []) mkX14_put miX14_put mvX14_put (by decide +kernel) (by decide +kernel) rfl (by decide +kernel) rfl ⟨by omega, by decide, Nat.le_of_ble_eq_true rfl⟩ rfl (c_X14_put_79 I101 G101 (21 : Int32) hq1) ?_
          rintro r9 I9 G9 P9 ⟨e0, e1, e2, e3⟩
          rw [e0, e1, e2, e3]
          show am_V X 0 0 _ _ ad (33, [(0, .ref 79)], [], (g_X14_put_79 I101 G101 (21 : Int32)), G101, (gP 123))
          refine am_blk 33 [(.goto (-24), 3, 0, 9, .null)] (9, [(0, .ref 79)], [], (g_X14_put_79 I101 G101 (21 : Int32)), G101, (gP 123)) (True) hX hi (by decide +kernel) rfl trivial ?_
          exact ih _ _  _ h
        · rw [if_pos c22] at h
          refine am_blk 25 [(.iconst (0), 1, 0, 0, .int (0 : Int32))] (26, [(0, .ref 79)], [.int (0 : Int32)], I101, G101, (gP 123)) (True) hX hi (by decide +kernel) rfl trivial ?_
          cases h
          refine am_iret hX hi rfl (by first | rfl | decide | (simp [narrow]; done)) (by decide +kernel) ?_
          exact ⟨rfl, rfl, rfl, rfl⟩
set_option maxRecDepth 20000 in
set_option maxHeartbeats 4000000 in
theorem c_X14_isTest_79 {cal : Nat → am_I → am_G → Int32 → Int32 → Option (Int32 × am_I × am_G)} {n9 : Nat} (h0 : ∀ (I : am_I) (G : am_G) (out : Int32 × am_I × am_G), cal 0 I G (0 : Int32) (0 : Int32) = some out → am_Ct mX14_isTest (8 + n9) gS2 [.ref 79] I G (gP 123) (pI out.1 out.2.1 out.2.2 (gP 123))) (h1 : ∀ (I : am_I) (G : am_G) (out : Int32 × am_I × am_G), cal 1 I G (0 : Int32) (0 : Int32) = some out → am_Ct mX14_isBoth (8 + n9) gS2 [.ref 79] I G (gP 123) (pI out.1 out.2.1 out.2.2 (gP 123))) (h2 : ∀ (I : am_I) (G : am_G) (out : Int32 × am_I × am_G), cal 2 I G (0 : Int32) (0 : Int32) = some out → am_Ct mX14_isSingle (8 + n9) gS2 [.ref 79] I G (gP 123) (pI out.1 out.2.1 out.2.2 (gP 123))) (h3 : ∀ (I : am_I) (G : am_G) (out : Int32 × am_I × am_G), cal 3 I G (0 : Int32) (0 : Int32) = some out → am_Ct mX14_isSum (8 + n9) gS2 [.ref 79] I G (gP 123) (pI out.1 out.2.1 out.2.2 (gP 123))) (h4 : ∀ (I : am_I) (G : am_G) (out : Int32 × am_I × am_G), cal 4 I G (0 : Int32) (0 : Int32) = some out → am_Ct mX14_isProduct (8 + n9) gS2 [.ref 79] I G (gP 123) (pI out.1 out.2.1 out.2.2 (gP 123))) (h5 : ∀ (I : am_I) (G : am_G) (a : Int32) (b : Int32) (out : Int32 × am_I × am_G), cal 5 I G a b = some out → am_Ct mX14_isInside (8 + n9) gS2 [.ref 79, .int a, .int b] I G (gP 123) (pI out.1 out.2.1 out.2.2 (gP 123))) (h6 : ∀ (I : am_I) (G : am_G) (out : Int32 × am_I × am_G), cal 6 I G (0 : Int32) (0 : Int32) = some out → am_Ct mX14_isValue (8 + n9) gS2 [.ref 79] I G (gP 123) (pI out.1 out.2.1 out.2.2 (gP 123))) (I : am_I) (G : am_G)  {out : Int32 × am_I × am_G} (h : R_X14_isTest_79 cal I G  = some out) : am_Ct mX14_isTest (8 + n9 + 1) gS2 [.ref 79] I G (gP 123) (pI out.1 out.2.1 out.2.2 (gP 123)) := by
  refine am_ofF (by decide +kernel) rfl (by decide) (by omega) (Nat.le_of_ble_eq_true rfl) (fun X ad hX hi => ?_)
  have hi : am_info X 12 cX14_isTest 1 false (Option.some Jvm.ClassFile.FieldType.boolean) (8 + n9 + 1) := hi
  show am_V X 0 0 _ _ ad (0, [(0, .ref 79)], [], I, G, (gP 123))
  unfold R_X14_isTest_79 at h
  refine am_blk 0 [(.aload_n 0, 1, 0, 0, .null)] (1, [(0, .ref 79)], [.ref 79], I, G, (gP 123)) (True) hX hi (by decide +kernel) rfl trivial ?_
  obtain ⟨r1, I1, G1, hc, h⟩ := rb_some h
  refine am_callV hX hi (M := mX14_isBoth) (idx := 180) (d' := (8 + n9)) (b := 79) (ci := 12) (As := []) (rest := []) mkX14_isBoth miX14_isBoth mvX14_isBoth (by decide +kernel) (by decide +kernel) rfl (by decide +kernel) rfl ⟨by omega, by decide, Nat.le_of_ble_eq_true rfl⟩ rfl (h1 I G  _ hc) ?_
  rintro r9 I9 G9 P9 ⟨e0, e1, e2, e3⟩
  rw [e0, e1, e2, e3]
  show am_V X 0 0 _ _ ad (4, [(0, .ref 79)], [.int r1], I1, G1, (gP 123))
  refine am_if_ne (tgt := 9) hX hi (off := (5)) (by decide +kernel) (by decide) (fun c4 => ?_) (fun c4 => ?_)
  · rw [if_neg c4] at h
    exact (l_X14_isTest_79 h0 h1 h2 h3 h4 h5 h6 hX hi FU) _ _  _ h
  · rw [if_pos c4] at h
    refine am_blk 7 [(.iconst (0), 1, 0, 0, .int (0 : Int32))] (8, [(0, .ref 79)], [.int (0 : Int32)], I1, G1, (gP 123)) (True) hX hi (by decide +kernel) rfl trivial ?_
    cases h
    refine am_iret hX hi rfl (by first | rfl | decide | (simp [narrow]; done)) (by decide +kernel) ?_
    exact ⟨rfl, rfl, rfl, rfl⟩
noncomputable def L_X14_isBoth_79 (cal : Nat → am_I → am_G → Int32 → Int32 → Option (Int32 × am_I × am_G)) (n0 : Nat) (hd : Nat) (I : am_I) (G : am_G)  : Option (Int32 × am_I × am_G) := match n0 with
  | 0 => none
  | n + 1 => match hd with
    | _ => rg (q_X14_eat_79 I G (20 : Int32)) ((if (f_X14_eat_79 I G (20 : Int32)) = 0 then some ((1 : Int32), (g_X14_eat_79 I G (20 : Int32)), G) else rb (cal 2 (g_X14_eat_79 I G (20 : Int32)) G (0 : Int32) (0 : Int32)) (fun r101 I101 G101 => (if r101 = 0 then some ((0 : Int32), I101, G101) else rg (q_X14_put_79 I101 G101 (20 : Int32)) (L_X14_isBoth_79 cal n 0 (g_X14_put_79 I101 G101 (20 : Int32)) G101 )))))
theorem L_X14_isBoth_79_0 (cal : Nat → am_I → am_G → Int32 → Int32 → Option (Int32 × am_I × am_G)) (n : Nat) (I : am_I) (G : am_G)  : L_X14_isBoth_79 cal (n + 1) 0 I G  = rg (q_X14_eat_79 I G (20 : Int32)) ((if (f_X14_eat_79 I G (20 : Int32)) = 0 then some ((1 : Int32), (g_X14_eat_79 I G (20 : Int32)), G) else rb (cal 2 (g_X14_eat_79 I G (20 : Int32)) G (0 : Int32) (0 : Int32)) (fun r101 I101 G101 => (if r101 = 0 then some ((0 : Int32), I101, G101) else rg (q_X14_put_79 I101 G101 (20 : Int32)) (L_X14_isBoth_79 cal n 0 (g_X14_put_79 I101 G101 (20 : Int32)) G101 ))))) := rfl
theorem L_X14_isBoth_79_z (cal : Nat → am_I → am_G → Int32 → Int32 → Option (Int32 × am_I × am_G)) (h : Nat) (I : am_I) (G : am_G)  : L_X14_isBoth_79 cal 0 h I G  = none := rfl
noncomputable def R_X14_isBoth_79 (cal : Nat → am_I → am_G → Int32 → Int32 → Option (Int32 × am_I × am_G)) (I : am_I) (G : am_G)  : Option (Int32 × am_I × am_G) := rb (cal 2 I G (0 : Int32) (0 : Int32)) (fun r1 I1 G1 => (if r1 = 0 then some ((0 : Int32), I1, G1) else L_X14_isBoth_79 cal FU 0 I1 G1 ))
set_option maxRecDepth 20000 in
set_option maxHeartbeats 4000000 in
theorem l_X14_isBoth_79 {cal : Nat → am_I → am_G → Int32 → Int32 → Option (Int32 × am_I × am_G)} {n9 : Nat} (h0 : ∀ (I : am_I) (G : am_G) (out : Int32 × am_I × am_G), cal 0 I G (0 : Int32) (0 : Int32) = some out → am_Ct mX14_isTest (8 + n9) gS2 [.ref 79] I G (gP 123) (pI out.1 out.2.1 out.2.2 (gP 123))) (h1 : ∀ (I : am_I) (G : am_G) (out : Int32 × am_I × am_G), cal 1 I G (0 : Int32) (0 : Int32) = some out → am_Ct mX14_isBoth (8 + n9) gS2 [.ref 79] I G (gP 123) (pI out.1 out.2.1 out.2.2 (gP 123))) (h2 : ∀ (I : am_I) (G : am_G) (out : Int32 × am_I × am_G), cal 2 I G (0 : Int32) (0 : Int32) = some out → am_Ct mX14_isSingle (8 + n9) gS2 [.ref 79] I G (gP 123) (pI out.1 out.2.1 out.2.2 (gP 123))) (h3 : ∀ (I : am_I) (G : am_G) (out : Int32 × am_I × am_G), cal 3 I G (0 : Int32) (0 : Int32) = some out → am_Ct mX14_isSum (8 + n9) gS2 [.ref 79] I G (gP 123) (pI out.1 out.2.1 out.2.2 (gP 123))) (h4 : ∀ (I : am_I) (G : am_G) (out : Int32 × am_I × am_G), cal 4 I G (0 : Int32) (0 : Int32) = some out → am_Ct mX14_isProduct (8 + n9) gS2 [.ref 79] I G (gP 123) (pI out.1 out.2.1 out.2.2 (gP 123))) (h5 : ∀ (I : am_I) (G : am_G) (a : Int32) (b : Int32) (out : Int32 × am_I × am_G), cal 5 I G a b = some out → am_Ct mX14_isInside (8 + n9) gS2 [.ref 79, .int a, .int b] I G (gP 123) (pI out.1 out.2.1 out.2.2 (gP 123))) (h6 : ∀ (I : am_I) (G : am_G) (out : Int32 × am_I × am_G), cal 6 I G (0 : Int32) (0 : Int32) = some out → am_Ct mX14_isValue (8 + n9) gS2 [.ref 79] I G (gP 123) (pI out.1 out.2.1 out.2.2 (gP 123))) {X : am_X} {ad : Nat → Nat} (hX : am_okz X ad) (hi : am_info X 12 cX14_isBoth 1 false (Option.some Jvm.ClassFile.FieldType.boolean) (8 + n9 + 1)) (n : Nat) : (∀ (I : am_I) (G : am_G)  (out : Int32 × am_I × am_G), L_X14_isBoth_79 cal n 0 I G  = some out → am_V X 0 0 (am_Rt X gS2 ad (pI out.1 out.2.1 out.2.2 (gP 123))) gS2 ad (9, [(0, .ref 79)], [], I, G, (gP 123))) := by
  induction n with
  | zero => exact fun I G  out h => by rw [L_X14_isBoth_79_z] at h; cases h
  | succ n ih =>
    · intro I G  out h
      rw [L_X14_isBoth_79_0] at h
      refine am_blk 9 [(.aload_n 0, 1, 0, 0, .null), (.bipush (20), 2, 0, 0, .int (20 : Int32))] (12, [(0, .ref 79)], [.int (20 : Int32), .ref 79], I, G, (gP 123)) (True) hX hi (by decide +kernel) rfl trivial ?_
      obtain ⟨hq1, h⟩ := rg_some h
      refine am_callV hX hi (M := mX14_eat) (idx := 128) (d' := 2) (b := 79) (ci := 12) (As := [.int (20 : Int32)]) (rest := []) mkX14_eat miX14_eat mvX14_eat (by decide +kernel) (by decide +kernel) rfl (by decide +kernel) rfl ⟨by omega, by decide, Nat.le_of_ble_eq_true rfl⟩ rfl (c_X14_eat_79 I G (20 : Int32) hq1) ?_
      rintro r9 I9 G9 P9 ⟨e0, e1, e2, e3⟩
      rw [e0, e1, e2, e3]
      show am_V X 0 0 _ _ ad (15, [(0, .ref 79)], [.int (f_X14_eat_79 I G (20 : Int32))], (g_X14_eat_79 I G (20 : Int32)), G, (gP 123))
      refine am_if_eq (tgt := 36) hX hi (off := (21)) (by decide +kernel) (by decide) (fun c15 => ?_) (fun c15 => ?_)
      · rw [if_pos c15] at h
        refine am_blk 36 [(.iconst (1), 1, 0, 0, .int (1 : Int32))] (37, [(0, .ref 79)], [.int (1 : Int32)], (g_X14_eat_79 I G (20 : Int32)), G, (gP 123)) (True) hX hi (by decide +kernel) rfl trivial ?_
        cases h
        refine am_iret hX hi rfl (by first | rfl | decide | (simp [narrow]; done)) (by decide +kernel) ?_
        exact ⟨rfl, rfl, rfl, rfl⟩
      · rw [if_neg c15] at h
        refine am_blk 18 [(.aload_n 0, 1, 0, 0, .null)] (19, [(0, .ref 79)], [.ref 79], (g_X14_eat_79 I G (20 : Int32)), G, (gP 123)) (True) hX hi (by decide +kernel) rfl trivial ?_
        obtain ⟨r101, I101, G101, hc, h⟩ := rb_some h
        refine am_callV hX hi (M := mX14_isSingle) (idx := 187) (d' := (8 + n9)) (b := 79) (ci := 12) (As := []) (rest := []) mkX14_isSingle miX14_isSingle mvX14_isSingle (by decide +kernel) (by decide +kernel) rfl (by decide +kernel) rfl ⟨by omega, by decide, Nat.le_of_ble_eq_true rfl⟩ rfl (h2 (g_X14_eat_79 I G (20 : Int32)) G  _ hc) ?_
        rintro r9 I9 G9 P9 ⟨e0, e1, e2, e3⟩
        rw [e0, e1, e2, e3]
        show am_V X 0 0 _ _ ad (22, [(0, .ref 79)], [.int r101], I101, G101, (gP 123))
        refine am_if_ne (tgt := 27) hX hi (off := (5)) (by decide +kernel) (by decide) (fun c22 => ?_) (fun c22 => ?_)
        · rw [if_neg c22] at h
          refine am_blk 27 [(.aload_n 0, 1, 0, 0, .null), (.bipush (20), 2, 0, 0, .int (20 : Int32))] (30, [(0, .ref 79)], [.int (20 : Int32), .ref 79], I101, G101, (gP 123)) (True) hX hi (by decide +kernel) rfl trivial ?_
          obtain ⟨hq1, h⟩ := rg_some h
          refine am_callV hX hi (M := mX14_put) (idx := 183) (d' := 1) (b := 79) (ci := 12) (As := [.int (20 : Int32)]) (rest := []) mkX14_put miX14_put mvX14_put (by decide +kernel) (by decide +kernel) rfl (by decide +kernel) rfl ⟨by omega, by decide, Nat.le_of_ble_eq_true rfl⟩ rfl (c_X14_put_79 I101 G101 (20 : Int32) hq1) ?_
          rintro r9 I9 G9 P9 ⟨e0, e1, e2, e3⟩
          rw [e0, e1, e2, e3]
          show am_V X 0 0 _ _ ad (33, [(0, .ref 79)], [], (g_X14_put_79 I101 G101 (20 : Int32)), G101, (gP 123))
          refine am_blk 33 [(.goto (-24), 3, 0, 9, .null)] (9, [(0, .ref 79)], [], (g_X14_put_79 I101 G101 (20 : Int32)), G101, (gP 123)) (True) hX hi (by decide +kernel) rfl trivial ?_
          exact ih _ _  _ h
        · rw [if_pos c22] at h
          refine am_blk 25 [(.iconst (0), 1, 0, 0, .int (0 : Int32))] (26, [(0, .ref 79)], [.int (0 : Int32)], I101, G101, (gP 123)) (True) hX hi (by decide +kernel) rfl trivial ?_
          cases h
          refine am_iret hX hi rfl (by first | rfl | decide | (simp [narrow]; done)) (by decide +kernel) ?_
          exact ⟨rfl, rfl, rfl, rfl⟩
set_option maxRecDepth 20000 in
set_option maxHeartbeats 4000000 in
theorem c_X14_isBoth_79 {cal : Nat → am_I → am_G → Int32 → Int32 → Option (Int32 × am_I × am_G)} {n9 : Nat} (h0 : ∀ (I : am_I) (G : am_G) (out : Int32 × am_I × am_G), cal 0 I G (0 : Int32) (0 : Int32) = some out → am_Ct mX14_isTest (8 + n9) gS2 [.ref 79] I G (gP 123) (pI out.1 out.2.1 out.2.2 (gP 123))) (h1 : ∀ (I : am_I) (G : am_G) (out : Int32 × am_I × am_G), cal 1 I G (0 : Int32) (0 : Int32) = some out → am_Ct mX14_isBoth (8 + n9) gS2 [.ref 79] I G (gP 123) (pI out.1 out.2.1 out.2.2 (gP 123))) (h2 : ∀ (I : am_I) (G : am_G) (out : Int32 × am_I × am_G), cal 2 I G (0 : Int32) (0 : Int32) = some out → am_Ct mX14_isSingle (8 + n9) gS2 [.ref 79] I G (gP 123) (pI out.1 out.2.1 out.2.2 (gP 123))) (h3 : ∀ (I : am_I) (G : am_G) (out : Int32 × am_I × am_G), cal 3 I G (0 : Int32) (0 : Int32) = some out → am_Ct mX14_isSum (8 + n9) gS2 [.ref 79] I G (gP 123) (pI out.1 out.2.1 out.2.2 (gP 123))) (h4 : ∀ (I : am_I) (G : am_G) (out : Int32 × am_I × am_G), cal 4 I G (0 : Int32) (0 : Int32) = some out → am_Ct mX14_isProduct (8 + n9) gS2 [.ref 79] I G (gP 123) (pI out.1 out.2.1 out.2.2 (gP 123))) (h5 : ∀ (I : am_I) (G : am_G) (a : Int32) (b : Int32) (out : Int32 × am_I × am_G), cal 5 I G a b = some out → am_Ct mX14_isInside (8 + n9) gS2 [.ref 79, .int a, .int b] I G (gP 123) (pI out.1 out.2.1 out.2.2 (gP 123))) (h6 : ∀ (I : am_I) (G : am_G) (out : Int32 × am_I × am_G), cal 6 I G (0 : Int32) (0 : Int32) = some out → am_Ct mX14_isValue (8 + n9) gS2 [.ref 79] I G (gP 123) (pI out.1 out.2.1 out.2.2 (gP 123))) (I : am_I) (G : am_G)  {out : Int32 × am_I × am_G} (h : R_X14_isBoth_79 cal I G  = some out) : am_Ct mX14_isBoth (8 + n9 + 1) gS2 [.ref 79] I G (gP 123) (pI out.1 out.2.1 out.2.2 (gP 123)) := by
  refine am_ofF (by decide +kernel) rfl (by decide) (by omega) (Nat.le_of_ble_eq_true rfl) (fun X ad hX hi => ?_)
  have hi : am_info X 12 cX14_isBoth 1 false (Option.some Jvm.ClassFile.FieldType.boolean) (8 + n9 + 1) := hi
  show am_V X 0 0 _ _ ad (0, [(0, .ref 79)], [], I, G, (gP 123))
  unfold R_X14_isBoth_79 at h
  refine am_blk 0 [(.aload_n 0, 1, 0, 0, .null)] (1, [(0, .ref 79)], [.ref 79], I, G, (gP 123)) (True) hX hi (by decide +kernel) rfl trivial ?_
  obtain ⟨r1, I1, G1, hc, h⟩ := rb_some h
  refine am_callV hX hi (M := mX14_isSingle) (idx := 187) (d' := (8 + n9)) (b := 79) (ci := 12) (As := []) (rest := []) mkX14_isSingle miX14_isSingle mvX14_isSingle (by decide +kernel) (by decide +kernel) rfl (by decide +kernel) rfl ⟨by omega, by decide, Nat.le_of_ble_eq_true rfl⟩ rfl (h2 I G  _ hc) ?_
  rintro r9 I9 G9 P9 ⟨e0, e1, e2, e3⟩
  rw [e0, e1, e2, e3]
  show am_V X 0 0 _ _ ad (4, [(0, .ref 79)], [.int r1], I1, G1, (gP 123))
  refine am_if_ne (tgt := 9) hX hi (off := (5)) (by decide +kernel) (by decide) (fun c4 => ?_) (fun c4 => ?_)
  · rw [if_neg c4] at h
    exact (l_X14_isBoth_79 h0 h1 h2 h3 h4 h5 h6 hX hi FU) _ _  _ h
  · rw [if_pos c4] at h
    refine am_blk 7 [(.iconst (0), 1, 0, 0, .int (0 : Int32))] (8, [(0, .ref 79)], [.int (0 : Int32)], I1, G1, (gP 123)) (True) hX hi (by decide +kernel) rfl trivial ?_
    cases h
    refine am_iret hX hi rfl (by first | rfl | decide | (simp [narrow]; done)) (by decide +kernel) ?_
    exact ⟨rfl, rfl, rfl, rfl⟩
noncomputable def R_X14_isSingle_79 (cal : Nat → am_I → am_G → Int32 → Int32 → Option (Int32 × am_I × am_G)) (I : am_I) (G : am_G)  : Option (Int32 × am_I × am_G) := rg (q_X14_is_79 I G (19 : Int32)) ((if (f_X14_is_79 I G (19 : Int32)) = 0 then rg (q_X14_isSign_79 I G (91 : Int32)) ((if (f_X14_isSign_79 I G (91 : Int32)) = 0 then rg (q_X14_is_79 I G (18 : Int32)) ((if (f_X14_is_79 I G (18 : Int32)) = 0 then rb (cal 3 I G (0 : Int32) (0 : Int32)) (fun r1 I1 G1 => (if r1 = 0 then some ((0 : Int32), I1, G1) else rg (q_X14_isSign_79 I1 G1 (60 : Int32)) ((if (f_X14_isSign_79 I1 G1 (60 : Int32)) = 0 then rg (q_X14_isSign_79 I1 G1 (62 : Int32)) ((if (f_X14_isSign_79 I1 G1 (62 : Int32)) = 0 then rg (q_X14_isSign_79 I1 G1 (61 : Int32)) ((if (f_X14_isSign_79 I1 G1 (61 : Int32)) = 0 then rg (q_X14_is_79 I1 G1 (300 : Int32)) ((if (f_X14_is_79 I1 G1 (300 : Int32)) = 0 then rg (q_X14_is_79 I1 G1 (301 : Int32)) ((if (f_X14_is_79 I1 G1 (301 : Int32)) = 0 then (if (-1 : Int32) = (-1 : Int32) then some ((0 : Int32), I1, G1) else rb (cal 3 (am_up I1 79 9 ((I1 79 9) + (1 : Int32))) G1 (0 : Int32) (0 : Int32)) (fun r2 I2 G2 => (if r2 = 0 then some ((0 : Int32), I2, G2) else rg (q_X14_put_79 I2 G2 (-1 : Int32)) (some ((1 : Int32), (g_X14_put_79 I2 G2 (-1 : Int32)), G2))))) else (if (44 : Int32) = (-1 : Int32) then some ((0 : Int32), I1, G1) else rb (cal 3 (am_up I1 79 9 ((I1 79 9) + (1 : Int32))) G1 (0 : Int32) (0 : Int32)) (fun r3 I3 G3 => (if r3 = 0 then some ((0 : Int32), I3, G3) else rg (q_X14_put_79 I3 G3 (44 : Int32)) (some ((1 : Int32), (g_X14_put_79 I3 G3 (44 : Int32)), G3))))))) else (if (43 : Int32) = (-1 : Int32) then some ((0 : Int32), I1, G1) else rb (cal 3 (am_up I1 79 9 ((I1 79 9) + (1 : Int32))) G1 (0 : Int32) (0 : Int32)) (fun r4 I4 G4 => (if r4 = 0 then some ((0 : Int32), I4, G4) else rg (q_X14_put_79 I4 G4 (43 : Int32)) (some ((1 : Int32), (g_X14_put_79 I4 G4 (43 : Int32)), G4))))))) else (if (42 : Int32) = (-1 : Int32) then some ((0 : Int32), I1, G1) else rb (cal 3 (am_up I1 79 9 ((I1 79 9) + (1 : Int32))) G1 (0 : Int32) (0 : Int32)) (fun r5 I5 G5 => (if r5 = 0 then some ((0 : Int32), I5, G5) else rg (q_X14_put_79 I5 G5 (42 : Int32)) (some ((1 : Int32), (g_X14_put_79 I5 G5 (42 : Int32)), G5))))))) else (if (39 : Int32) = (-1 : Int32) then some ((0 : Int32), I1, G1) else rb (cal 3 (am_up I1 79 9 ((I1 79 9) + (1 : Int32))) G1 (0 : Int32) (0 : Int32)) (fun r6 I6 G6 => (if r6 = 0 then some ((0 : Int32), I6, G6) else rg (q_X14_put_79 I6 G6 (39 : Int32)) (some ((1 : Int32), (g_X14_put_79 I6 G6 (39 : Int32)), G6))))))) else (if (38 : Int32) = (-1 : Int32) then some ((0 : Int32), I1, G1) else rb (cal 3 (am_up I1 79 9 ((I1 79 9) + (1 : Int32))) G1 (0 : Int32) (0 : Int32)) (fun r7 I7 G7 => (if r7 = 0 then some ((0 : Int32), I7, G7) else rg (q_X14_put_79 I7 G7 (38 : Int32)) (some ((1 : Int32), (g_X14_put_79 I7 G7 (38 : Int32)), G7))))))))) else rb (R_X14_isNamed_79 I G (19 : Int32)) (fun r8 I8 G8 => rg (r8 = 0 ∨ r8 = 1) (some (r8, I8, G8))))) else (if (f_X14_isDeeper_79 I G ) = 0 then some ((0 : Int32), (g_X14_isDeeper_79 I G ), G) else rb (cal 0 (g_X14_isDeeper_79 I G ) G (0 : Int32) (0 : Int32)) (fun r9 I9 G9 => (if r9 = 0 then some ((0 : Int32), I9, G9) else rb (R_X14_eatSign_79 (am_up I9 79 10 ((I9 79 10) - (1 : Int32))) G9 (93 : Int32)) (fun r10 I10 G10 => rg (r10 = 0 ∨ r10 = 1) (some (r10, I10, G10)))))))) else (if (f_X14_isDeeper_79 I G ) = 0 then some ((0 : Int32), (g_X14_isDeeper_79 I G ), G) else rb (cal 2 (g_X14_isDeeper_79 I G ) G (0 : Int32) (0 : Int32)) (fun r11 I11 G11 => (if r11 = 0 then some ((0 : Int32), I11, G11) else rg (q_X14_put_79 (am_up I11 79 10 ((I11 79 10) - (1 : Int32))) G11 (19 : Int32)) (some ((1 : Int32), (g_X14_put_79 (am_up I11 79 10 ((I11 79 10) - (1 : Int32))) G11 (19 : Int32)), G11)))))))
set_option maxRecDepth 20000 in
set_option maxHeartbeats 4000000 in
theorem c_X14_isSingle_79 {cal : Nat → am_I → am_G → Int32 → Int32 → Option (Int32 × am_I × am_G)} {n9 : Nat} (h0 : ∀ (I : am_I) (G : am_G) (out : Int32 × am_I × am_G), cal 0 I G (0 : Int32) (0 : Int32) = some out → am_Ct mX14_isTest (8 + n9) gS2 [.ref 79] I G (gP 123) (pI out.1 out.2.1 out.2.2 (gP 123))) (h1 : ∀ (I : am_I) (G : am_G) (out : Int32 × am_I × am_G), cal 1 I G (0 : Int32) (0 : Int32) = some out → am_Ct mX14_isBoth (8 + n9) gS2 [.ref 79] I G (gP 123) (pI out.1 out.2.1 out.2.2 (gP 123))) (h2 : ∀ (I : am_I) (G : am_G) (out : Int32 × am_I × am_G), cal 2 I G (0 : Int32) (0 : Int32) = some out → am_Ct mX14_isSingle (8 + n9) gS2 [.ref 79] I G (gP 123) (pI out.1 out.2.1 out.2.2 (gP 123))) (h3 : ∀ (I : am_I) (G : am_G) (out : Int32 × am_I × am_G), cal 3 I G (0 : Int32) (0 : Int32) = some out → am_Ct mX14_isSum (8 + n9) gS2 [.ref 79] I G (gP 123) (pI out.1 out.2.1 out.2.2 (gP 123))) (h4 : ∀ (I : am_I) (G : am_G) (out : Int32 × am_I × am_G), cal 4 I G (0 : Int32) (0 : Int32) = some out → am_Ct mX14_isProduct (8 + n9) gS2 [.ref 79] I G (gP 123) (pI out.1 out.2.1 out.2.2 (gP 123))) (h5 : ∀ (I : am_I) (G : am_G) (a : Int32) (b : Int32) (out : Int32 × am_I × am_G), cal 5 I G a b = some out → am_Ct mX14_isInside (8 + n9) gS2 [.ref 79, .int a, .int b] I G (gP 123) (pI out.1 out.2.1 out.2.2 (gP 123))) (h6 : ∀ (I : am_I) (G : am_G) (out : Int32 × am_I × am_G), cal 6 I G (0 : Int32) (0 : Int32) = some out → am_Ct mX14_isValue (8 + n9) gS2 [.ref 79] I G (gP 123) (pI out.1 out.2.1 out.2.2 (gP 123))) (I : am_I) (G : am_G)  {out : Int32 × am_I × am_G} (h : R_X14_isSingle_79 cal I G  = some out) : am_Ct mX14_isSingle (8 + n9 + 1) gS2 [.ref 79] I G (gP 123) (pI out.1 out.2.1 out.2.2 (gP 123)) := by
  refine am_ofF (by decide +kernel) rfl (by decide) (by omega) (Nat.le_of_ble_eq_true rfl) (fun X ad hX hi => ?_)
  have hi : am_info X 12 cX14_isSingle 2 false (Option.some Jvm.ClassFile.FieldType.boolean) (8 + n9 + 1) := hi
  show am_V X 0 0 _ _ ad (0, [(0, .ref 79)], [], I, G, (gP 123))
  unfold R_X14_isSingle_79 at h
  refine am_blk 0 [(.aload_n 0, 1, 0, 0, .null), (.bipush (19), 2, 0, 0, .int (19 : Int32))] (3, [(0, .ref 79)], [.int (19 : Int32), .ref 79], I, G, (gP 123)) (True) hX hi (by decide +kernel) rfl trivial ?_
  obtain ⟨hq1, h⟩ := rg_some h
  refine am_callV hX hi (M := mX14_is) (idx := 125) (d' := 1) (b := 79) (ci := 12) (As := [.int (19 : Int32)]) (rest := []) mkX14_is miX14_is mvX14_is (by decide +kernel) (by decide +kernel) rfl (by decide +kernel) rfl ⟨by omega, by decide, Nat.le_of_ble_eq_true rfl⟩ rfl (c_X14_is_79 I G (19 : Int32) hq1) ?_
  rintro rz Iz Gz Pz ⟨e0, e1, e2, e3⟩
  rw [e0, e1, e2, e3]
  show am_V X 0 0 _ _ ad (6, [(0, .ref 79)], [.int (f_X14_is_79 I G (19 : Int32))], I, G, (gP 123))
  refine am_if_eq (tgt := 43) hX hi (off := (37)) (by decide +kernel) (by decide) (fun c6 => ?_) (fun c6 => ?_)
  · rw [if_pos c6] at h
    refine am_blk 43 [(.aload_n 0, 1, 0, 0, .null), (.bipush (91), 2, 0, 0, .int (91 : Int32))] (46, [(0, .ref 79)], [.int (91 : Int32), .ref 79], I, G, (gP 123)) (True) hX hi (by decide +kernel) rfl trivial ?_
    obtain ⟨hq1, h⟩ := rg_some h
    refine am_callV hX hi (M := mX14_isSign) (idx := 205) (d' := 1) (b := 79) (ci := 12) (As := [.int (91 : Int32)]) (rest := []) mkX14_isSign miX14_isSign mvX14_isSign (by decide +kernel) (by decide +kernel) rfl (by decide +kernel) rfl ⟨by omega, by decide, Nat.le_of_ble_eq_true rfl⟩ rfl (c_X14_isSign_79 I G (91 : Int32) hq1) ?_
    rintro rz Iz Gz Pz ⟨e0, e1, e2, e3⟩
    rw [e0, e1, e2, e3]
    show am_V X 0 0 _ _ ad (49, [(0, .ref 79)], [.int (f_X14_isSign_79 I G (91 : Int32))], I, G, (gP 123))
    refine am_if_eq (tgt := 85) hX hi (off := (36)) (by decide +kernel) (by decide) (fun c49 => ?_) (fun c49 => ?_)
    · rw [if_pos c49] at h
      refine am_blk 85 [(.aload_n 0, 1, 0, 0, .null), (.bipush (18), 2, 0, 0, .int (18 : Int32))] (88, [(0, .ref 79)], [.int (18 : Int32), .ref 79], I, G, (gP 123)) (True) hX hi (by decide +kernel) rfl trivial ?_
      obtain ⟨hq1, h⟩ := rg_some h
      refine am_callV hX hi (M := mX14_is) (idx := 125) (d' := 1) (b := 79) (ci := 12) (As := [.int (18 : Int32)]) (rest := []) mkX14_is miX14_is mvX14_is (by decide +kernel) (by decide +kernel) rfl (by decide +kernel) rfl ⟨by omega, by decide, Nat.le_of_ble_eq_true rfl⟩ rfl (c_X14_is_79 I G (18 : Int32) hq1) ?_
      rintro rz Iz Gz Pz ⟨e0, e1, e2, e3⟩
      rw [e0, e1, e2, e3]
      show am_V X 0 0 _ _ ad (91, [(0, .ref 79)], [.int (f_X14_is_79 I G (18 : Int32))], I, G, (gP 123))
      refine am_if_eq (tgt := 101) hX hi (off := (10)) (by decide +kernel) (by decide) (fun c91 => ?_) (fun c91 => ?_)
      · rw [if_pos c91] at h
        refine am_blk 101 [(.aload_n 0, 1, 0, 0, .null)] (102, [(0, .ref 79)], [.ref 79], I, G, (gP 123)) (True) hX hi (by decide +kernel) rfl trivial ?_
        obtain ⟨r1, I1, G1, hc, h⟩ := rb_some h
        refine am_callV hX hi (M := mX14_isSum) (idx := 168) (d' := (8 + n9)) (b := 79) (ci := 12) (As := []) (rest := []) mkX14_isSum miX14_isSum mvX14_isSum (by decide +kernel) (by decide +kernel) rfl (by decide +kernel) rfl ⟨by omega, by decide, Nat.le_of_ble_eq_true rfl⟩ rfl (h3 I G  _ hc) ?_
        rintro rz Iz Gz Pz ⟨e0, e1, e2, e3⟩
        rw [e0, e1, e2, e3]
        show am_V X 0 0 _ _ ad (105, [(0, .ref 79)], [.int r1], I1, G1, (gP 123))
        refine am_if_ne (tgt := 110) hX hi (off := (5)) (by decide +kernel) (by decide) (fun c105 => ?_) (fun c105 => ?_)
        · rw [if_neg c105] at h
          refine am_blk 110 [(.aload_n 0, 1, 0, 0, .null), (.bipush (60), 2, 0, 0, .int (60 : Int32))] (113, [(0, .ref 79)], [.int (60 : Int32), .ref 79], I1, G1, (gP 123)) (True) hX hi (by decide +kernel) rfl trivial ?_
          obtain ⟨hq1, h⟩ := rg_some h
          refine am_callV hX hi (M := mX14_isSign) (idx := 205) (d' := 1) (b := 79) (ci := 12) (As := [.int (60 : Int32)]) (rest := []) mkX14_isSign miX14_isSign mvX14_isSign (by decide +kernel) (by decide +kernel) rfl (by decide +kernel) rfl ⟨by omega, by decide, Nat.le_of_ble_eq_true rfl⟩ rfl (c_X14_isSign_79 I1 G1 (60 : Int32) hq1) ?_
          rintro rz Iz Gz Pz ⟨e0, e1, e2, e3⟩
          rw [e0, e1, e2, e3]
          show am_V X 0 0 _ _ ad (116, [(0, .ref 79)], [.int (f_X14_isSign_79 I1 G1 (60 : Int32))], I1, G1, (gP 123))
          refine am_if_eq (tgt := 124) hX hi (off := (8)) (by decide +kernel) (by decide) (fun c116 => ?_) (fun c116 => ?_)
          · rw [if_pos c116] at h
            refine am_blk 124 [(.aload_n 0, 1, 0, 0, .null), (.bipush (62), 2, 0, 0, .int (62 : Int32))] (127, [(0, .ref 79)], [.int (62 : Int32), .ref 79], I1, G1, (gP 123)) (True) hX hi (by decide +kernel) rfl trivial ?_
            obtain ⟨hq1, h⟩ := rg_some h
            refine am_callV hX hi (M := mX14_isSign) (idx := 205) (d' := 1) (b := 79) (ci := 12) (As := [.int (62 : Int32)]) (rest := []) mkX14_isSign miX14_isSign mvX14_isSign (by decide +kernel) (by decide +kernel) rfl (by decide +kernel) rfl ⟨by omega, by decide, Nat.le_of_ble_eq_true rfl⟩ rfl (c_X14_isSign_79 I1 G1 (62 : Int32) hq1) ?_
            rintro rz Iz Gz Pz ⟨e0, e1, e2, e3⟩
            rw [e0, e1, e2, e3]
            show am_V X 0 0 _ _ ad (130, [(0, .ref 79)], [.int (f_X14_isSign_79 I1 G1 (62 : Int32))], I1, G1, (gP 123))
            refine am_if_eq (tgt := 138) hX hi (off := (8)) (by decide +kernel) (by decide) (fun c130 => ?_) (fun c130 => ?_)
            · rw [if_pos c130] at h
              refine am_blk 138 [(.aload_n 0, 1, 0, 0, .null), (.bipush (61), 2, 0, 0, .int (61 : Int32))] (141, [(0, .ref 79)], [.int (61 : Int32), .ref 79], I1, G1, (gP 123)) (True) hX hi (by decide +kernel) rfl trivial ?_
              obtain ⟨hq1, h⟩ := rg_some h
              refine am_callV hX hi (M := mX14_isSign) (idx := 205) (d' := 1) (b := 79) (ci := 12) (As := [.int (61 : Int32)]) (rest := []) mkX14_isSign miX14_isSign mvX14_isSign (by decide +kernel) (by decide +kernel) rfl (by decide +kernel) rfl ⟨by omega, by decide, Nat.le_of_ble_eq_true rfl⟩ rfl (c_X14_isSign_79 I1 G1 (61 : Int32) hq1) ?_
              rintro rz Iz Gz Pz ⟨e0, e1, e2, e3⟩
              rw [e0, e1, e2, e3]
              show am_V X 0 0 _ _ ad (144, [(0, .ref 79)], [.int (f_X14_isSign_79 I1 G1 (61 : Int32))], I1, G1, (gP 123))
              refine am_if_eq (tgt := 152) hX hi (off := (8)) (by decide +kernel) (by decide) (fun c144 => ?_) (fun c144 => ?_)
              · rw [if_pos c144] at h
                refine am_blk 152 [(.aload_n 0, 1, 0, 0, .null), (.sipush (300), 3, 0, 0, .int (300 : Int32))] (156, [(0, .ref 79)], [.int (300 : Int32), .ref 79], I1, G1, (gP 123)) (True) hX hi (by decide +kernel) rfl trivial ?_
                obtain ⟨hq1, h⟩ := rg_some h
                refine am_callV hX hi (M := mX14_is) (idx := 125) (d' := 1) (b := 79) (ci := 12) (As := [.int (300 : Int32)]) (rest := []) mkX14_is miX14_is mvX14_is (by decide +kernel) (by decide +kernel) rfl (by decide +kernel) rfl ⟨by omega, by decide, Nat.le_of_ble_eq_true rfl⟩ rfl (c_X14_is_79 I1 G1 (300 : Int32) hq1) ?_
                rintro rz Iz Gz Pz ⟨e0, e1, e2, e3⟩
                rw [e0, e1, e2, e3]
                show am_V X 0 0 _ _ ad (159, [(0, .ref 79)], [.int (f_X14_is_79 I1 G1 (300 : Int32))], I1, G1, (gP 123))
                refine am_if_eq (tgt := 167) hX hi (off := (8)) (by decide +kernel) (by decide) (fun c159 => ?_) (fun c159 => ?_)
                · rw [if_pos c159] at h
                  refine am_blk 167 [(.aload_n 0, 1, 0, 0, .null), (.sipush (301), 3, 0, 0, .int (301 : Int32))] (171, [(0, .ref 79)], [.int (301 : Int32), .ref 79], I1, G1, (gP 123)) (True) hX hi (by decide +kernel) rfl trivial ?_
                  obtain ⟨hq1, h⟩ := rg_some h
                  refine am_callV hX hi (M := mX14_is) (idx := 125) (d' := 1) (b := 79) (ci := 12) (As := [.int (301 : Int32)]) (rest := []) mkX14_is miX14_is mvX14_is (by decide +kernel) (by decide +kernel) rfl (by decide +kernel) rfl ⟨by omega, by decide, Nat.le_of_ble_eq_true rfl⟩ rfl (c_X14_is_79 I1 G1 (301 : Int32) hq1) ?_
                  rintro rz Iz Gz Pz ⟨e0, e1, e2, e3⟩
                  rw [e0, e1, e2, e3]
                  show am_V X 0 0 _ _ ad (174, [(0, .ref 79)], [.int (f_X14_is_79 I1 G1 (301 : Int32))], I1, G1, (gP 123))
                  refine am_if_eq (tgt := 182) hX hi (off := (8)) (by decide +kernel) (by decide) (fun c174 => ?_) (fun c174 => ?_)
                  · rw [if_pos c174] at h
                    refine am_blk 182 [(.iconst (-1), 1, 0, 0, .int (-1 : Int32)), (.istore_n 1, 1, 1, 0, .null), (.iload_n 1, 1, 1, 0, .null), (.iconst (-1), 1, 0, 0, .int (-1 : Int32))] (186, [(0, .ref 79), (1, .int (-1 : Int32))], [.int (-1 : Int32), .int (-1 : Int32)], I1, G1, (gP 123)) (True) hX hi (by decide +kernel) rfl trivial ?_
                    refine am_icmp_ne (tgt := 191) hX hi (off := (5)) (by decide +kernel) (by decide) (fun c186 => ?_) (fun c186 => ?_)
                    · rw [if_neg c186] at h
                      refine am_blk 191 [(.aload_n 0, 1, 0, 0, .null), (.dup, 1, 0, 0, .null), (.getfield 122, 3, 12, 9, .null), (.iconst (1), 1, 0, 0, .int (1 : Int32)), (.iadd, 1, 0, 0, .null), (.putfield 122, 3, 12, 9, .null), (.aload_n 0, 1, 0, 0, .null)] (202, [(0, .ref 79), (1, .int (-1 : Int32))], [.ref 79], (am_up I1 79 9 ((I1 79 9) + (1 : Int32))), G1, (gP 123)) (True) hX hi (by decide +kernel) rfl trivial ?_
                      obtain ⟨r2, I2, G2, hc, h⟩ := rb_some h
                      refine am_callV hX hi (M := mX14_isSum) (idx := 168) (d' := (8 + n9)) (b := 79) (ci := 12) (As := []) (rest := []) mkX14_isSum miX14_isSum mvX14_isSum (by decide +kernel) (by decide +kernel) rfl (by decide +kernel) rfl ⟨by omega, by decide, Nat.le_of_ble_eq_true rfl⟩ rfl (h3 (am_up I1 79 9 ((I1 79 9) + (1 : Int32))) G1  _ hc) ?_
                      rintro rz Iz Gz Pz ⟨e0, e1, e2, e3⟩
                      rw [e0, e1, e2, e3]
                      show am_V X 0 0 _ _ ad (205, [(0, .ref 79), (1, .int (-1 : Int32))], [.int r2], I2, G2, (gP 123))
                      refine am_if_ne (tgt := 210) hX hi (off := (5)) (by decide +kernel) (by decide) (fun c205 => ?_) (fun c205 => ?_)
                      · rw [if_neg c205] at h
                        refine am_blk 210 [(.aload_n 0, 1, 0, 0, .null), (.iload_n 1, 1, 1, 0, .null)] (212, [(0, .ref 79), (1, .int (-1 : Int32))], [.int (-1 : Int32), .ref 79], I2, G2, (gP 123)) (True) hX hi (by decide +kernel) rfl trivial ?_
                        obtain ⟨hq1, h⟩ := rg_some h
                        refine am_callV hX hi (M := mX14_put) (idx := 183) (d' := 1) (b := 79) (ci := 12) (As := [.int (-1 : Int32)]) (rest := []) mkX14_put miX14_put mvX14_put (by decide +kernel) (by decide +kernel) rfl (by decide +kernel) rfl ⟨by omega, by decide, Nat.le_of_ble_eq_true rfl⟩ rfl (c_X14_put_79 I2 G2 (-1 : Int32) hq1) ?_
                        rintro rz Iz Gz Pz ⟨e0, e1, e2, e3⟩
                        rw [e0, e1, e2, e3]
                        show am_V X 0 0 _ _ ad (215, [(0, .ref 79), (1, .int (-1 : Int32))], [], (g_X14_put_79 I2 G2 (-1 : Int32)), G2, (gP 123))
                        refine am_blk 215 [(.iconst (1), 1, 0, 0, .int (1 : Int32))] (216, [(0, .ref 79), (1, .int (-1 : Int32))], [.int (1 : Int32)], (g_X14_put_79 I2 G2 (-1 : Int32)), G2, (gP 123)) (True) hX hi (by decide +kernel) rfl trivial ?_
                        cases h
                        refine am_iret hX hi rfl (by first | rfl | decide | (simp [narrow]; done)) (by decide +kernel) ?_
                        exact ⟨rfl, rfl, rfl, rfl⟩
                      · rw [if_pos c205] at h
                        refine am_blk 208 [(.iconst (0), 1, 0, 0, .int (0 : Int32))] (209, [(0, .ref 79), (1, .int (-1 : Int32))], [.int (0 : Int32)], I2, G2, (gP 123)) (True) hX hi (by decide +kernel) rfl trivial ?_
                        cases h
                        refine am_iret hX hi rfl (by first | rfl | decide | (simp [narrow]; done)) (by decide +kernel) ?_
                        exact ⟨rfl, rfl, rfl, rfl⟩
                    · rw [if_pos c186] at h
                      refine am_blk 189 [(.iconst (0), 1, 0, 0, .int (0 : Int32))] (190, [(0, .ref 79), (1, .int (-1 : Int32))], [.int (0 : Int32)], I1, G1, (gP 123)) (True) hX hi (by decide +kernel) rfl trivial ?_
                      cases h
                      refine am_iret hX hi rfl (by first | rfl | decide | (simp [narrow]; done)) (by decide +kernel) ?_
                      exact ⟨rfl, rfl, rfl, rfl⟩
                  · rw [if_neg c174] at h
                    refine am_blk 177 [(.bipush (44), 2, 0, 0, .int (44 : Int32)), (.goto (4), 3, 0, 183, .null), (.istore_n 1, 1, 1, 0, .null), (.iload_n 1, 1, 1, 0, .null), (.iconst (-1), 1, 0, 0, .int (-1 : Int32))] (186, [(0, .ref 79), (1, .int (44 : Int32))], [.int (-1 : Int32), .int (44 : Int32)], I1, G1, (gP 123)) (True) hX hi (by decide +kernel) rfl trivial ?_
                    refine am_icmp_ne (tgt := 191) hX hi (off := (5)) (by decide +kernel) (by decide) (fun c186 => ?_) (fun c186 => ?_)
                    · rw [if_neg c186] at h
                      refine am_blk 191 [(.aload_n 0, 1, 0, 0, .null), (.dup, 1, 0, 0, .null), (.getfield 122, 3, 12, 9, .null), (.iconst (1), 1, 0, 0, .int (1 : Int32)), (.iadd, 1, 0, 0, .null), (.putfield 122, 3, 12, 9, .null), (.aload_n 0, 1, 0, 0, .null)] (202, [(0, .ref 79), (1, .int (44 : Int32))], [.ref 79], (am_up I1 79 9 ((I1 79 9) + (1 : Int32))), G1, (gP 123)) (True) hX hi (by decide +kernel) rfl trivial ?_
                      obtain ⟨r3, I3, G3, hc, h⟩ := rb_some h
                      refine am_callV hX hi (M := mX14_isSum) (idx := 168) (d' := (8 + n9)) (b := 79) (ci := 12) (As := []) (rest := []) mkX14_isSum miX14_isSum mvX14_isSum (by decide +kernel) (by decide +kernel) rfl (by decide +kernel) rfl ⟨by omega, by decide, Nat.le_of_ble_eq_true rfl⟩ rfl (h3 (am_up I1 79 9 ((I1 79 9) + (1 : Int32))) G1  _ hc) ?_
                      rintro rz Iz Gz Pz ⟨e0, e1, e2, e3⟩
                      rw [e0, e1, e2, e3]
                      show am_V X 0 0 _ _ ad (205, [(0, .ref 79), (1, .int (44 : Int32))], [.int r3], I3, G3, (gP 123))
                      refine am_if_ne (tgt := 210) hX hi (off := (5)) (by decide +kernel) (by decide) (fun c205 => ?_) (fun c205 => ?_)
                      · rw [if_neg c205] at h
                        refine am_blk 210 [(.aload_n 0, 1, 0, 0, .null), (.iload_n 1, 1, 1, 0, .null)] (212, [(0, .ref 79), (1, .int (44 : Int32))], [.int (44 : Int32), .ref 79], I3, G3, (gP 123)) (True) hX hi (by decide +kernel) rfl trivial ?_
                        obtain ⟨hq1, h⟩ := rg_some h
                        refine am_callV hX hi (M := mX14_put) (idx := 183) (d' := 1) (b := 79) (ci := 12) (As := [.int (44 : Int32)]) (rest := []) mkX14_put miX14_put mvX14_put (by decide +kernel) (by decide +kernel) rfl (by decide +kernel) rfl ⟨by omega, by decide, Nat.le_of_ble_eq_true rfl⟩ rfl (c_X14_put_79 I3 G3 (44 : Int32) hq1) ?_
                        rintro rz Iz Gz Pz ⟨e0, e1, e2, e3⟩
                        rw [e0, e1, e2, e3]
                        show am_V X 0 0 _ _ ad (215, [(0, .ref 79), (1, .int (44 : Int32))], [], (g_X14_put_79 I3 G3 (44 : Int32)), G3, (gP 123))
                        refine am_blk 215 [(.iconst (1), 1, 0, 0, .int (1 : Int32))] (216, [(0, .ref 79), (1, .int (44 : Int32))], [.int (1 : Int32)], (g_X14_put_79 I3 G3 (44 : Int32)), G3, (gP 123)) (True) hX hi (by decide +kernel) rfl trivial ?_
                        cases h
                        refine am_iret hX hi rfl (by first | rfl | decide | (simp [narrow]; done)) (by decide +kernel) ?_
                        exact ⟨rfl, rfl, rfl, rfl⟩
                      · rw [if_pos c205] at h
                        refine am_blk 208 [(.iconst (0), 1, 0, 0, .int (0 : Int32))] (209, [(0, .ref 79), (1, .int (44 : Int32))], [.int (0 : Int32)], I3, G3, (gP 123)) (True) hX hi (by decide +kernel) rfl trivial ?_
                        cases h
                        refine am_iret hX hi rfl (by first | rfl | decide | (simp [narrow]; done)) (by decide +kernel) ?_
                        exact ⟨rfl, rfl, rfl, rfl⟩
                    · rw [if_pos c186] at h
                      refine am_blk 189 [(.iconst (0), 1, 0, 0, .int (0 : Int32))] (190, [(0, .ref 79), (1, .int (44 : Int32))], [.int (0 : Int32)], I1, G1, (gP 123)) (True) hX hi (by decide +kernel) rfl trivial ?_
                      cases h
                      refine am_iret hX hi rfl (by first | rfl | decide | (simp [narrow]; done)) (by decide +kernel) ?_
                      exact ⟨rfl, rfl, rfl, rfl⟩
                · rw [if_neg c159] at h
                  refine am_blk 162 [(.bipush (43), 2, 0, 0, .int (43 : Int32)), (.goto (19), 3, 0, 183, .null), (.istore_n 1, 1, 1, 0, .null), (.iload_n 1, 1, 1, 0, .null), (.iconst (-1), 1, 0, 0, .int (-1 : Int32))] (186, [(0, .ref 79), (1, .int (43 : Int32))], [.int (-1 : Int32), .int (43 : Int32)], I1, G1, (gP 123)) (True) hX hi (by decide +kernel) rfl trivial ?_
                  refine am_icmp_ne (tgt := 191) hX hi (off := (5)) (by decide +kernel) (by decide) (fun c186 => ?_) (fun c186 => ?_)
                  · rw [if_neg c186] at h
                    refine am_blk 191 [(.aload_n 0, 1, 0, 0, .null), (.dup, 1, 0, 0, .null), (.getfield 122, 3, 12, 9, .null), (.iconst (1), 1, 0, 0, .int (1 : Int32)), (.iadd, 1, 0, 0, .null), (.putfield 122, 3, 12, 9, .null), (.aload_n 0, 1, 0, 0, .null)] (202, [(0, .ref 79), (1, .int (43 : Int32))], [.ref 79], (am_up I1 79 9 ((I1 79 9) + (1 : Int32))), G1, (gP 123)) (True) hX hi (by decide +kernel) rfl trivial ?_
                    obtain ⟨r4, I4, G4, hc, h⟩ := rb_some h
                    refine am_callV hX hi (M := mX14_isSum) (idx := 168) (d' := (8 + n9)) (b := 79) (ci := 12) (As := []) (rest := []) mkX14_isSum miX14_isSum mvX14_isSum (by decide +kernel) (by decide +kernel) rfl (by decide +kernel) rfl ⟨by omega, by decide, Nat.le_of_ble_eq_true rfl⟩ rfl (h3 (am_up I1 79 9 ((I1 79 9) + (1 : Int32))) G1  _ hc) ?_
                    rintro rz Iz Gz Pz ⟨e0, e1, e2, e3⟩
                    rw [e0, e1, e2, e3]
                    show am_V X 0 0 _ _ ad (205, [(0, .ref 79), (1, .int (43 : Int32))], [.int r4], I4, G4, (gP 123))
                    refine am_if_ne (tgt := 210) hX hi (off := (5)) (by decide +kernel) (by decide) (fun c205 => ?_) (fun c205 => ?_)
                    · rw [if_neg c205] at h
                      refine am_blk 210 [(.aload_n 0, 1, 0, 0, .null), (.iload_n 1, 1, 1, 0, .null)] (212, [(0, .ref 79), (1, .int (43 : Int32))], [.int (43 : Int32), .ref 79], I4, G4, (gP 123)) (True) hX hi (by decide +kernel) rfl trivial ?_
                      obtain ⟨hq1, h⟩ := rg_some h
                      refine am_callV hX hi (M := mX14_put) (idx := 183) (d' := 1) (b := 79) (ci := 12) (As := [.int (43 : Int32)]) (rest := []) mkX14_put miX14_put mvX14_put (by decide +kernel) (by decide +kernel) rfl (by decide +kernel) rfl ⟨by omega, by decide, Nat.le_of_ble_eq_true rfl⟩ rfl (c_X14_put_79 I4 G4 (43 : Int32) hq1) ?_
                      rintro rz Iz Gz Pz ⟨e0, e1, e2, e3⟩
                      rw [e0, e1, e2, e3]
                      show am_V X 0 0 _ _ ad (215, [(0, .ref 79), (1, .int (43 : Int32))], [], (g_X14_put_79 I4 G4 (43 : Int32)), G4, (gP 123))
                      refine am_blk 215 [(.iconst (1), 1, 0, 0, .int (1 : Int32))] (216, [(0, .ref 79), (1, .int (43 : Int32))], [.int (1 : Int32)], (g_X14_put_79 I4 G4 (43 : Int32)), G4, (gP 123)) (True) hX hi (by decide +kernel) rfl trivial ?_
                      cases h
                      refine am_iret hX hi rfl (by first | rfl | decide | (simp [narrow]; done)) (by decide +kernel) ?_
                      exact ⟨rfl, rfl, rfl, rfl⟩
                    · rw [if_pos c205] at h
                      refine am_blk 208 [(.iconst (0), 1, 0, 0, .int (0 : Int32))] (209, [(0, .ref 79), (1, .int (43 : Int32))], [.int (0 : Int32)], I4, G4, (gP 123)) (True) hX hi (by decide +kernel) rfl trivial ?_
                      cases h
                      refine am_iret hX hi rfl (by first | rfl | decide | (simp [narrow]; done)) (by decide +kernel) ?_
                      exact ⟨rfl, rfl, rfl, rfl⟩
                  · rw [if_pos c186] at h
                    refine am_blk 189 [(.iconst (0), 1, 0, 0, .int (0 : Int32))] (190, [(0, .ref 79), (1, .int (43 : Int32))], [.int (0 : Int32)], I1, G1, (gP 123)) (True) hX hi (by decide +kernel) rfl trivial ?_
                    cases h
                    refine am_iret hX hi rfl (by first | rfl | decide | (simp [narrow]; done)) (by decide +kernel) ?_
                    exact ⟨rfl, rfl, rfl, rfl⟩
              · rw [if_neg c144] at h
                refine am_blk 147 [(.bipush (42), 2, 0, 0, .int (42 : Int32)), (.goto (34), 3, 0, 183, .null), (.istore_n 1, 1, 1, 0, .null), (.iload_n 1, 1, 1, 0, .null), (.iconst (-1), 1, 0, 0, .int (-1 : Int32))] (186, [(0, .ref 79), (1, .int (42 : Int32))], [.int (-1 : Int32), .int (42 : Int32)], I1, G1, (gP 123)) (True) hX hi (by decide +kernel) rfl trivial ?_
                refine am_icmp_ne (tgt := 191) hX hi (off := (5)) (by decide +kernel) (by decide) (fun c186 => ?_) (fun c186 => ?_)
                · rw [if_neg c186] at h
                  refine am_blk 191 [(.aload_n 0, 1, 0, 0, .null), (.dup, 1, 0, 0, .null), (.getfield 122, 3, 12, 9, .null), (.iconst (1), 1, 0, 0, .int (1 : Int32)), (.iadd, 1, 0, 0, .null), (.putfield 122, 3, 12, 9, .null), (.aload_n 0, 1, 0, 0, .null)] (202, [(0, .ref 79), (1, .int (42 : Int32))], [.ref 79], (am_up I1 79 9 ((I1 79 9) + (1 : Int32))), G1, (gP 123)) (True) hX hi (by decide +kernel) rfl trivial ?_
                  obtain ⟨r5, I5, G5, hc, h⟩ := rb_some h
                  refine am_callV hX hi (M := mX14_isSum) (idx := 168) (d' := (8 + n9)) (b := 79) (ci := 12) (As := []) (rest := []) mkX14_isSum miX14_isSum mvX14_isSum (by decide +kernel) (by decide +kernel) rfl (by decide +kernel) rfl ⟨by omega, by decide, Nat.le_of_ble_eq_true rfl⟩ rfl (h3 (am_up I1 79 9 ((I1 79 9) + (1 : Int32))) G1  _ hc) ?_
                  rintro rz Iz Gz Pz ⟨e0, e1, e2, e3⟩
                  rw [e0, e1, e2, e3]
                  show am_V X 0 0 _ _ ad (205, [(0, .ref 79), (1, .int (42 : Int32))], [.int r5], I5, G5, (gP 123))
                  refine am_if_ne (tgt := 210) hX hi (off := (5)) (by decide +kernel) (by decide) (fun c205 => ?_) (fun c205 => ?_)
                  · rw [if_neg c205] at h
                    refine am_blk 210 [(.aload_n 0, 1, 0, 0, .null), (.iload_n 1, 1, 1, 0, .null)] (212, [(0, .ref 79), (1, .int (42 : Int32))], [.int (42 : Int32), .ref 79], I5, G5, (gP 123)) (True) hX hi (by decide +kernel) rfl trivial ?_
                    obtain ⟨hq1, h⟩ := rg_some h
                    refine am_callV hX hi (M := mX14_put) (idx := 183) (d' := 1) (b := 79) (ci := 12) (As := [.int (42 : Int32)]) (rest := []) mkX14_put miX14_put mvX14_put (by decide +kernel) (by decide +kernel) rfl (by decide +kernel) rfl ⟨by omega, by decide, Nat.le_of_ble_eq_true rfl⟩ rfl (c_X14_put_79 I5 G5 (42 : Int32) hq1) ?_
                    rintro rz Iz Gz Pz ⟨e0, e1, e2, e3⟩
                    rw [e0, e1, e2, e3]
                    show am_V X 0 0 _ _ ad (215, [(0, .ref 79), (1, .int (42 : Int32))], [], (g_X14_put_79 I5 G5 (42 : Int32)), G5, (gP 123))
                    refine am_blk 215 [(.iconst (1), 1, 0, 0, .int (1 : Int32))] (216, [(0, .ref 79), (1, .int (42 : Int32))], [.int (1 : Int32)], (g_X14_put_79 I5 G5 (42 : Int32)), G5, (gP 123)) (True) hX hi (by decide +kernel) rfl trivial ?_
                    cases h
                    refine am_iret hX hi rfl (by first | rfl | decide | (simp [narrow]; done)) (by decide +kernel) ?_
                    exact ⟨rfl, rfl, rfl, rfl⟩
                  · rw [if_pos c205] at h
                    refine am_blk 208 [(.iconst (0), 1, 0, 0, .int (0 : Int32))] (209, [(0, .ref 79), (1, .int (42 : Int32))], [.int (0 : Int32)], I5, G5, (gP 123)) (True) hX hi (by decide +kernel) rfl trivial ?_
                    cases h
                    refine am_iret hX hi rfl (by first | rfl | decide | (simp [narrow]; done)) (by decide +kernel) ?_
                    exact ⟨rfl, rfl, rfl, rfl⟩
                · rw [if_pos c186] at h
                  refine am_blk 189 [(.iconst (0), 1, 0, 0, .int (0 : Int32))] (190, [(0, .ref 79), (1, .int (42 : Int32))], [.int (0 : Int32)], I1, G1, (gP 123)) (True) hX hi (by decide +kernel) rfl trivial ?_
                  cases h
                  refine am_iret hX hi rfl (by first | rfl | decide | (simp [narrow]; done)) (by decide +kernel) ?_
                  exact ⟨rfl, rfl, rfl, rfl⟩
            · rw [if_neg c130] at h
              refine am_blk 133 [(.bipush (39), 2, 0, 0, .int (39 : Int32)), (.goto (48), 3, 0, 183, .null), (.istore_n 1, 1, 1, 0, .null), (.iload_n 1, 1, 1, 0, .null), (.iconst (-1), 1, 0, 0, .int (-1 : Int32))] (186, [(0, .ref 79), (1, .int (39 : Int32))], [.int (-1 : Int32), .int (39 : Int32)], I1, G1, (gP 123)) (True) hX hi (by decide +kernel) rfl trivial ?_
              refine am_icmp_ne (tgt := 191) hX hi (off := (5)) (by decide +kernel) (by decide) (fun c186 => ?_) (fun c186 => ?_)
              · rw [if_neg c186] at h
                refine am_blk 191 [(.aload_n 0, 1, 0, 0, .null), (.dup, 1, 0, 0, .null), (.getfield 122, 3, 12, 9, .null), (.iconst (1), 1, 0, 0, .int (1 : Int32)), (.iadd, 1, 0, 0, .null), (.putfield 122, 3, 12, 9, .null), (.aload_n 0, 1, 0, 0, .null)] (202, [(0, .ref 79), (1, .int (39 : Int32))], [.ref 79], (am_up I1 79 9 ((I1 79 9) + (1 : Int32))), G1, (gP 123)) (True) hX hi (by decide +kernel) rfl trivial ?_
                obtain ⟨r6, I6, G6, hc, h⟩ := rb_some h
                refine am_callV hX hi (M := mX14_isSum) (idx := 168) (d' := (8 + n9)) (b := 79) (ci := 12) (As := []) (rest := []) mkX14_isSum miX14_isSum mvX14_isSum (by decide +kernel) (by decide +kernel) rfl (by decide +kernel) rfl ⟨by omega, by decide, Nat.le_of_ble_eq_true rfl⟩ rfl (h3 (am_up I1 79 9 ((I1 79 9) + (1 : Int32))) G1  _ hc) ?_
                rintro rz Iz Gz Pz ⟨e0, e1, e2, e3⟩
                rw [e0, e1, e2, e3]
                show am_V X 0 0 _ _ ad (205, [(0, .ref 79), (1, .int (39 : Int32))], [.int r6], I6, G6, (gP 123))
                refine am_if_ne (tgt := 210) hX hi (off := (5)) (by decide +kernel) (by decide) (fun c205 => ?_) (fun c205 => ?_)
                · rw [if_neg c205] at h
                  refine am_blk 210 [(.aload_n 0, 1, 0, 0, .null), (.iload_n 1, 1, 1, 0, .null)] (212, [(0, .ref 79), (1, .int (39 : Int32))], [.int (39 : Int32), .ref 79], I6, G6, (gP 123)) (True) hX hi (by decide +kernel) rfl trivial ?_
                  obtain ⟨hq1, h⟩ := rg_some h
                  refine am_callV hX hi (M := mX14_put) (idx := 183) (d' := 1) (b := 79) (ci := 12) (As := [.int (39 : Int32)]) (rest := []) mkX14_put miX14_put mvX14_put (by decide +kernel) (by decide +kernel) rfl (by decide +kernel) rfl ⟨by omega, by decide, Nat.le_of_ble_eq_true rfl⟩ rfl (c_X14_put_79 I6 G6 (39 : Int32) hq1) ?_
                  rintro rz Iz Gz Pz ⟨e0, e1, e2, e3⟩
                  rw [e0, e1, e2, e3]
                  show am_V X 0 0 _ _ ad (215, [(0, .ref 79), (1, .int (39 : Int32))], [], (g_X14_put_79 I6 G6 (39 : Int32)), G6, (gP 123))
                  refine am_blk 215 [(.iconst (1), 1, 0, 0, .int (1 : Int32))] (216, [(0, .ref 79), (1, .int (39 : Int32))], [.int (1 : Int32)], (g_X14_put_79 I6 G6 (39 : Int32)), G6, (gP 123)) (True) hX hi (by decide +kernel) rfl trivial ?_
                  cases h
                  refine am_iret hX hi rfl (by first | rfl | decide | (simp [narrow]; done)) (by decide +kernel) ?_
                  exact ⟨rfl, rfl, rfl, rfl⟩
                · rw [if_pos c205] at h
                  refine am_blk 208 [(.iconst (0), 1, 0, 0, .int (0 : Int32))] (209, [(0, .ref 79), (1, .int (39 : Int32))], [.int (0 : Int32)], I6, G6, (gP 123)) (True) hX hi (by decide +kernel) rfl trivial ?_
                  cases h
                  refine am_iret hX hi rfl (by first | rfl | decide | (simp [narrow]; done)) (by decide +kernel) ?_
                  exact ⟨rfl, rfl, rfl, rfl⟩
              · rw [if_pos c186] at h
                refine am_blk 189 [(.iconst (0), 1, 0, 0, .int (0 : Int32))] (190, [(0, .ref 79), (1, .int (39 : Int32))], [.int (0 : Int32)], I1, G1, (gP 123)) (True) hX hi (by decide +kernel) rfl trivial ?_
                cases h
                refine am_iret hX hi rfl (by first | rfl | decide | (simp [narrow]; done)) (by decide +kernel) ?_
                exact ⟨rfl, rfl, rfl, rfl⟩
          · rw [if_neg c116] at h
            refine am_blk 119 [(.bipush (38), 2, 0, 0, .int (38 : Int32)), (.goto (62), 3, 0, 183, .null), (.istore_n 1, 1, 1, 0, .null), (.iload_n 1, 1, 1, 0, .null), (.iconst (-1), 1, 0, 0, .int (-1 : Int32))] (186, [(0, .ref 79), (1, .int (38 : Int32))], [.int (-1 : Int32), .int (38 : Int32)], I1, G1, (gP 123)) (True) hX hi (by decide +kernel) rfl trivial ?_
            refine am_icmp_ne (tgt := 191) hX hi (off := (5)) (by decide +kernel) (by decide) (fun c186 => ?_) (fun c186 => ?_)
            · rw [if_neg c186] at h
              refine am_blk 191 [(.aload_n 0, 1, 0, 0, .null), (.dup, 1, 0, 0, .null), (.getfield 122, 3, 12, 9, .null), (.iconst (1), 1, 0, 0, .int (1 : Int32)), (.iadd, 1, 0, 0, .null), (.putfield 122, 3, 12, 9, .null), (.aload_n 0, 1, 0, 0, .null)] (202, [(0, .ref 79), (1, .int (38 : Int32))], [.ref 79], (am_up I1 79 9 ((I1 79 9) + (1 : Int32))), G1, (gP 123)) (True) hX hi (by decide +kernel) rfl trivial ?_
              obtain ⟨r7, I7, G7, hc, h⟩ := rb_some h
              refine am_callV hX hi (M := mX14_isSum) (idx := 168) (d' := (8 + n9)) (b := 79) (ci := 12) (As := []) (rest := []) mkX14_isSum miX14_isSum mvX14_isSum (by decide +kernel) (by decide +kernel) rfl (by decide +kernel) rfl ⟨by omega, by decide, Nat.le_of_ble_eq_true rfl⟩ rfl (h3 (am_up I1 79 9 ((I1 79 9) + (1 : Int32))) G1  _ hc) ?_
              rintro rz Iz Gz Pz ⟨e0, e1, e2, e3⟩
              rw [e0, e1, e2, e3]
              show am_V X 0 0 _ _ ad (205, [(0, .ref 79), (1, .int (38 : Int32))], [.int r7], I7, G7, (gP 123))
              refine am_if_ne (tgt := 210) hX hi (off := (5)) (by decide +kernel) (by decide) (fun c205 => ?_) (fun c205 => ?_)
              · rw [if_neg c205] at h
                refine am_blk 210 [(.aload_n 0, 1, 0, 0, .null), (.iload_n 1, 1, 1, 0, .null)] (212, [(0, .ref 79), (1, .int (38 : Int32))], [.int (38 : Int32), .ref 79], I7, G7, (gP 123)) (True) hX hi (by decide +kernel) rfl trivial ?_
                obtain ⟨hq1, h⟩ := rg_some h
                refine am_callV hX hi (M := mX14_put) (idx := 183) (d' := 1) (b := 79) (ci := 12) (As := [.int (38 : Int32)]) (rest := []) mkX14_put miX14_put mvX14_put (by decide +kernel) (by decide +kernel) rfl (by decide +kernel) rfl ⟨by omega, by decide, Nat.le_of_ble_eq_true rfl⟩ rfl (c_X14_put_79 I7 G7 (38 : Int32) hq1) ?_
                rintro rz Iz Gz Pz ⟨e0, e1, e2, e3⟩
                rw [e0, e1, e2, e3]
                show am_V X 0 0 _ _ ad (215, [(0, .ref 79), (1, .int (38 : Int32))], [], (g_X14_put_79 I7 G7 (38 : Int32)), G7, (gP 123))
                refine am_blk 215 [(.iconst (1), 1, 0, 0, .int (1 : Int32))] (216, [(0, .ref 79), (1, .int (38 : Int32))], [.int (1 : Int32)], (g_X14_put_79 I7 G7 (38 : Int32)), G7, (gP 123)) (True) hX hi (by decide +kernel) rfl trivial ?_
                cases h
                refine am_iret hX hi rfl (by first | rfl | decide | (simp [narrow]; done)) (by decide +kernel) ?_
                exact ⟨rfl, rfl, rfl, rfl⟩
              · rw [if_pos c205] at h
                refine am_blk 208 [(.iconst (0), 1, 0, 0, .int (0 : Int32))] (209, [(0, .ref 79), (1, .int (38 : Int32))], [.int (0 : Int32)], I7, G7, (gP 123)) (True) hX hi (by decide +kernel) rfl trivial ?_
                cases h
                refine am_iret hX hi rfl (by first | rfl | decide | (simp [narrow]; done)) (by decide +kernel) ?_
                exact ⟨rfl, rfl, rfl, rfl⟩
            · rw [if_pos c186] at h
              refine am_blk 189 [(.iconst (0), 1, 0, 0, .int (0 : Int32))] (190, [(0, .ref 79), (1, .int (38 : Int32))], [.int (0 : Int32)], I1, G1, (gP 123)) (True) hX hi (by decide +kernel) rfl trivial ?_
              cases h
              refine am_iret hX hi rfl (by first | rfl | decide | (simp [narrow]; done)) (by decide +kernel) ?_
              exact ⟨rfl, rfl, rfl, rfl⟩
        · rw [if_pos c105] at h
          refine am_blk 108 [(.iconst (0), 1, 0, 0, .int (0 : Int32))] (109, [(0, .ref 79)], [.int (0 : Int32)], I1, G1, (gP 123)) (True) hX hi (by decide +kernel) rfl trivial ?_
          cases h
          refine am_iret hX hi rfl (by first | rfl | decide | (simp [narrow]; done)) (by decide +kernel) ?_
          exact ⟨rfl, rfl, rfl, rfl⟩
      · rw [if_neg c91] at h
        refine am_blk 94 [(.aload_n 0, 1, 0, 0, .null), (.bipush (19), 2, 0, 0, .int (19 : Int32))] (97, [(0, .ref 79)], [.int (19 : Int32), .ref 79], I, G, (gP 123)) (True) hX hi (by decide +kernel) rfl trivial ?_
        obtain ⟨r8, I8, G8, hc, h⟩ := rb_some h
        refine am_callV hX hi (M := mX14_isNamed) (idx := 208) (d' := 5) (b := 79) (ci := 12) (As := [.int (19 : Int32)]) (rest := []) mkX14_isNamed miX14_isNamed mvX14_isNamed (by decide +kernel) (by decide +kernel) rfl (by decide +kernel) rfl ⟨by omega, by decide, Nat.le_of_ble_eq_true rfl⟩ rfl (c_X14_isNamed_79 I G (19 : Int32) hc) ?_
        rintro rz Iz Gz Pz ⟨e0, e1, e2, e3⟩
        rw [e0, e1, e2, e3]
        show am_V X 0 0 _ _ ad (100, [(0, .ref 79)], [.int r8], I8, G8, (gP 123))
        obtain ⟨gb, h⟩ := rg_some h
        cases h
        refine am_iret hX hi rfl (by rcases gb with gb | gb <;> rw [gb] <;> rfl) (by decide +kernel) ?_
        exact ⟨rfl, rfl, rfl, rfl⟩
    · rw [if_neg c49] at h
      refine am_blk 52 [(.aload_n 0, 1, 0, 0, .null)] (53, [(0, .ref 79)], [.ref 79], I, G, (gP 123)) (True) hX hi (by decide +kernel) rfl trivial ?_
      refine am_callV hX hi (M := mX14_isDeeper) (idx := 202) (d' := 1) (b := 79) (ci := 12) (As := []) (rest := []) mkX14_isDeeper miX14_isDeeper mvX14_isDeeper (by decide +kernel) (by decide +kernel) rfl (by decide +kernel) rfl ⟨by omega, by decide, Nat.le_of_ble_eq_true rfl⟩ rfl (c_X14_isDeeper_79 I G ) ?_
      rintro rz Iz Gz Pz ⟨e0, e1, e2, e3⟩
      rw [e0, e1, e2, e3]
      show am_V X 0 0 _ _ ad (56, [(0, .ref 79)], [.int (f_X14_isDeeper_79 I G )], (g_X14_isDeeper_79 I G ), G, (gP 123))
      refine am_if_eq (tgt := 66) hX hi (off := (10)) (by decide +kernel) (by decide) (fun c56 => ?_) (fun c56 => ?_)
      · rw [if_pos c56] at h
        refine am_blk 66 [(.iconst (0), 1, 0, 0, .int (0 : Int32))] (67, [(0, .ref 79)], [.int (0 : Int32)], (g_X14_isDeeper_79 I G ), G, (gP 123)) (True) hX hi (by decide +kernel) rfl trivial ?_
        cases h
        refine am_iret hX hi rfl (by first | rfl | decide | (simp [narrow]; done)) (by decide +kernel) ?_
        exact ⟨rfl, rfl, rfl, rfl⟩
      · rw [if_neg c56] at h
        refine am_blk 59 [(.aload_n 0, 1, 0, 0, .null)] (60, [(0, .ref 79)], [.ref 79], (g_X14_isDeeper_79 I G ), G, (gP 123)) (True) hX hi (by decide +kernel) rfl trivial ?_
        obtain ⟨r9, I9, G9, hc, h⟩ := rb_some h
        refine am_callV hX hi (M := mX14_isTest) (idx := 177) (d' := (8 + n9)) (b := 79) (ci := 12) (As := []) (rest := []) mkX14_isTest miX14_isTest mvX14_isTest (by decide +kernel) (by decide +kernel) rfl (by decide +kernel) rfl ⟨by omega, by decide, Nat.le_of_ble_eq_true rfl⟩ rfl (h0 (g_X14_isDeeper_79 I G ) G  _ hc) ?_
        rintro rz Iz Gz Pz ⟨e0, e1, e2, e3⟩
        rw [e0, e1, e2, e3]
        show am_V X 0 0 _ _ ad (63, [(0, .ref 79)], [.int r9], I9, G9, (gP 123))
        refine am_if_ne (tgt := 68) hX hi (off := (5)) (by decide +kernel) (by decide) (fun c63 => ?_) (fun c63 => ?_)
        · rw [if_neg c63] at h
          refine am_blk 68 [(.aload_n 0, 1, 0, 0, .null), (.dup, 1, 0, 0, .null), (.getfield 190, 3, 12, 10, .null), (.iconst (1), 1, 0, 0, .int (1 : Int32)), (.isub, 1, 0, 0, .null), (.putfield 190, 3, 12, 10, .null), (.aload_n 0, 1, 0, 0, .null), (.bipush (93), 2, 0, 0, .int (93 : Int32))] (81, [(0, .ref 79)], [.int (93 : Int32), .ref 79], (am_up I9 79 10 ((I9 79 10) - (1 : Int32))), G9, (gP 123)) (True) hX hi (by decide +kernel) rfl trivial ?_
          obtain ⟨r10, I10, G10, hc, h⟩ := rb_some h
          refine am_callV hX hi (M := mX14_eatSign) (idx := 151) (d' := 3) (b := 79) (ci := 12) (As := [.int (93 : Int32)]) (rest := []) mkX14_eatSign miX14_eatSign mvX14_eatSign (by decide +kernel) (by decide +kernel) rfl (by decide +kernel) rfl ⟨by omega, by decide, Nat.le_of_ble_eq_true rfl⟩ rfl (c_X14_eatSign_79 (am_up I9 79 10 ((I9 79 10) - (1 : Int32))) G9 (93 : Int32) hc) ?_
          rintro rz Iz Gz Pz ⟨e0, e1, e2, e3⟩
          rw [e0, e1, e2, e3]
          show am_V X 0 0 _ _ ad (84, [(0, .ref 79)], [.int r10], I10, G10, (gP 123))
          obtain ⟨gb, h⟩ := rg_some h
          cases h
          refine am_iret hX hi rfl (by rcases gb with gb | gb <;> rw [gb] <;> rfl) (by decide +kernel) ?_
          exact ⟨rfl, rfl, rfl, rfl⟩
        · rw [if_pos c63] at h
          refine am_blk 66 [(.iconst (0), 1, 0, 0, .int (0 : Int32))] (67, [(0, .ref 79)], [.int (0 : Int32)], I9, G9, (gP 123)) (True) hX hi (by decide +kernel) rfl trivial ?_
          cases h
          refine am_iret hX hi rfl (by first | rfl | decide | (simp [narrow]; done)) (by decide +kernel) ?_
          exact ⟨rfl, rfl, rfl, rfl⟩
  · rw [if_neg c6] at h
    refine am_blk 9 [(.aload_n 0, 1, 0, 0, .null)] (10, [(0, .ref 79)], [.ref 79], I, G, (gP 123)) (True) hX hi (by decide +kernel) rfl trivial ?_
    refine am_callV hX hi (M := mX14_isDeeper) (idx := 202) (d' := 1) (b := 79) (ci := 12) (As := []) (rest := []) mkX14_isDeeper miX14_isDeeper mvX14_isDeeper (by decide +kernel) (by decide +kernel) rfl (by decide +kernel) rfl ⟨by omega, by decide, Nat.le_of_ble_eq_true rfl⟩ rfl (c_X14_isDeeper_79 I G ) ?_
    rintro rz Iz Gz Pz ⟨e0, e1, e2, e3⟩
    rw [e0, e1, e2, e3]
    show am_V X 0 0 _ _ ad (13, [(0, .ref 79)], [.int (f_X14_isDeeper_79 I G )], (g_X14_isDeeper_79 I G ), G, (gP 123))
    refine am_if_eq (tgt := 23) hX hi (off := (10)) (by decide +kernel) (by decide) (fun c13 => ?_) (fun c13 => ?_)
    · rw [if_pos c13] at h
      refine am_blk 23 [(.iconst (0), 1, 0, 0, .int (0 : Int32))] (24, [(0, .ref 79)], [.int (0 : Int32)], (g_X14_isDeeper_79 I G ), G, (gP 123)) (True) hX hi (by decide +kernel) rfl trivial ?_
      cases h
      refine am_iret hX hi rfl (by first | rfl | decide | (simp [narrow]; done)) (by decide +kernel) ?_
      exact ⟨rfl, rfl, rfl, rfl⟩
    · rw [if_neg c13] at h
      refine am_blk 16 [(.aload_n 0, 1, 0, 0, .null)] (17, [(0, .ref 79)], [.ref 79], (g_X14_isDeeper_79 I G ), G, (gP 123)) (True) hX hi (by decide +kernel) rfl trivial ?_
      obtain ⟨r11, I11, G11, hc, h⟩ := rb_some h
      refine am_callV hX hi (M := mX14_isSingle) (idx := 187) (d' := (8 + n9)) (b := 79) (ci := 12) (As := []) (rest := []) mkX14_isSingle miX14_isSingle mvX14_isSingle (by decide +kernel) (by decide +kernel) rfl (by decide +kernel) rfl ⟨by omega, by decide, Nat.le_of_ble_eq_true rfl⟩ rfl (h2 (g_X14_isDeeper_79 I G ) G  _ hc) ?_
      rintro rz Iz Gz Pz ⟨e0, e1, e2, e3⟩
      rw [e0, e1, e2, e3]
      show am_V X 0 0 _ _ ad (20, [(0, .ref 79)], [.int r11], I11, G11, (gP 123))
      refine am_if_ne (tgt := 25) hX hi (off := (5)) (by decide +kernel) (by decide) (fun c20 => ?_) (fun c20 => ?_)
      · rw [if_neg c20] at h
        refine am_blk 25 [(.aload_n 0, 1, 0, 0, .null), (.dup, 1, 0, 0, .null), (.getfield 190, 3, 12, 10, .null), (.iconst (1), 1, 0, 0, .int (1 : Int32)), (.isub, 1, 0, 0, .null), (.putfield 190, 3, 12, 10, .null), (.aload_n 0, 1, 0, 0, .null), (.bipush (19), 2, 0, 0, .int (19 : Int32))] (38, [(0, .ref 79)], [.int (19 : Int32), .ref 79], (am_up I11 79 10 ((I11 79 10) - (1 : Int32))), G11, (gP 123)) (True) hX hi (by decide +kernel) rfl trivial ?_
        obtain ⟨hq1, h⟩ := rg_some h
        refine am_callV hX hi (M := mX14_put) (idx := 183) (d' := 1) (b := 79) (ci := 12) (As := [.int (19 : Int32)]) (rest := []) mkX14_put miX14_put mvX14_put (by decide +kernel) (by decide +kernel) rfl (by decide +kernel) rfl ⟨by omega, by decide, Nat.le_of_ble_eq_true rfl⟩ rfl (c_X14_put_79 (am_up I11 79 10 ((I11 79 10) - (1 : Int32))) G11 (19 : Int32) hq1) ?_
        rintro rz Iz Gz Pz ⟨e0, e1, e2, e3⟩
        rw [e0, e1, e2, e3]
        show am_V X 0 0 _ _ ad (41, [(0, .ref 79)], [], (g_X14_put_79 (am_up I11 79 10 ((I11 79 10) - (1 : Int32))) G11 (19 : Int32)), G11, (gP 123))
        refine am_blk 41 [(.iconst (1), 1, 0, 0, .int (1 : Int32))] (42, [(0, .ref 79)], [.int (1 : Int32)], (g_X14_put_79 (am_up I11 79 10 ((I11 79 10) - (1 : Int32))) G11 (19 : Int32)), G11, (gP 123)) (True) hX hi (by decide +kernel) rfl trivial ?_
        cases h
        refine am_iret hX hi rfl (by first | rfl | decide | (simp [narrow]; done)) (by decide +kernel) ?_
        exact ⟨rfl, rfl, rfl, rfl⟩
      · rw [if_pos c20] at h
        refine am_blk 23 [(.iconst (0), 1, 0, 0, .int (0 : Int32))] (24, [(0, .ref 79)], [.int (0 : Int32)], I11, G11, (gP 123)) (True) hX hi (by decide +kernel) rfl trivial ?_
        cases h
        refine am_iret hX hi rfl (by first | rfl | decide | (simp [narrow]; done)) (by decide +kernel) ?_
        exact ⟨rfl, rfl, rfl, rfl⟩
noncomputable def L_X14_isSum_79 (cal : Nat → am_I → am_G → Int32 → Int32 → Option (Int32 × am_I × am_G)) (n0 : Nat) (hd : Nat) (I : am_I) (G : am_G)  : Option (Int32 × am_I × am_G) := match n0 with
  | 0 => none
  | n + 1 => match hd with
    | _ => rg (q_X14_isSign_79 I G (43 : Int32)) ((if (f_X14_isSign_79 I G (43 : Int32)) = 0 then rg (q_X14_isSign_79 I G (45 : Int32)) ((if (f_X14_isSign_79 I G (45 : Int32)) = 0 then some ((1 : Int32), I, G) else rg (q_X14_isSign_79 I G (43 : Int32)) ((if (f_X14_isSign_79 I G (43 : Int32)) = 0 then rb (cal 4 (am_up I 79 9 ((I 79 9) + (1 : Int32))) G (0 : Int32) (0 : Int32)) (fun r103 I103 G103 => (if r103 = 0 then some ((0 : Int32), I103, G103) else rg (q_X14_put_79 I103 G103 (35 : Int32)) (L_X14_isSum_79 cal n 0 (g_X14_put_79 I103 G103 (35 : Int32)) G103 ))) else rb (cal 4 (am_up I 79 9 ((I 79 9) + (1 : Int32))) G (0 : Int32) (0 : Int32)) (fun r104 I104 G104 => (if r104 = 0 then some ((0 : Int32), I104, G104) else rg (q_X14_put_79 I104 G104 (34 : Int32)) (L_X14_isSum_79 cal n 0 (g_X14_put_79 I104 G104 (34 : Int32)) G104 ))))))) else rg (q_X14_isSign_79 I G (43 : Int32)) ((if (f_X14_isSign_79 I G (43 : Int32)) = 0 then rb (cal 4 (am_up I 79 9 ((I 79 9) + (1 : Int32))) G (0 : Int32) (0 : Int32)) (fun r101 I101 G101 => (if r101 = 0 then some ((0 : Int32), I101, G101) else rg (q_X14_put_79 I101 G101 (35 : Int32)) (L_X14_isSum_79 cal n 0 (g_X14_put_79 I101 G101 (35 : Int32)) G101 ))) else rb (cal 4 (am_up I 79 9 ((I 79 9) + (1 : Int32))) G (0 : Int32) (0 : Int32)) (fun r102 I102 G102 => (if r102 = 0 then some ((0 : Int32), I102, G102) else rg (q_X14_put_79 I102 G102 (34 : Int32)) (L_X14_isSum_79 cal n 0 (g_X14_put_79 I102 G102 (34 : Int32)) G102 )))))))
theorem L_X14_isSum_79_0 (cal : Nat → am_I → am_G → Int32 → Int32 → Option (Int32 × am_I × am_G)) (n : Nat) (I : am_I) (G : am_G)  : L_X14_isSum_79 cal (n + 1) 0 I G  = rg (q_X14_isSign_79 I G (43 : Int32)) ((if (f_X14_isSign_79 I G (43 : Int32)) = 0 then rg (q_X14_isSign_79 I G (45 : Int32)) ((if (f_X14_isSign_79 I G (45 : Int32)) = 0 then some ((1 : Int32), I, G) else rg (q_X14_isSign_79 I G (43 : Int32)) ((if (f_X14_isSign_79 I G (43 : Int32)) = 0 then rb (cal 4 (am_up I 79 9 ((I 79 9) + (1 : Int32))) G (0 : Int32) (0 : Int32)) (fun r103 I103 G103 => (if r103 = 0 then some ((0 : Int32), I103, G103) else rg (q_X14_put_79 I103 G103 (35 : Int32)) (L_X14_isSum_79 cal n 0 (g_X14_put_79 I103 G103 (35 : Int32)) G103 ))) else rb (cal 4 (am_up I 79 9 ((I 79 9) + (1 : Int32))) G (0 : Int32) (0 : Int32)) (fun r104 I104 G104 => (if r104 = 0 then some ((0 : Int32), I104, G104) else rg (q_X14_put_79 I104 G104 (34 : Int32)) (L_X14_isSum_79 cal n 0 (g_X14_put_79 I104 G104 (34 : Int32)) G104 ))))))) else rg (q_X14_isSign_79 I G (43 : Int32)) ((if (f_X14_isSign_79 I G (43 : Int32)) = 0 then rb (cal 4 (am_up I 79 9 ((I 79 9) + (1 : Int32))) G (0 : Int32) (0 : Int32)) (fun r101 I101 G101 => (if r101 = 0 then some ((0 : Int32), I101, G101) else rg (q_X14_put_79 I101 G101 (35 : Int32)) (L_X14_isSum_79 cal n 0 (g_X14_put_79 I101 G101 (35 : Int32)) G101 ))) else rb (cal 4 (am_up I 79 9 ((I 79 9) + (1 : Int32))) G (0 : Int32) (0 : Int32)) (fun r102 I102 G102 => (if r102 = 0 then some ((0 : Int32), I102, G102) else rg (q_X14_put_79 I102 G102 (34 : Int32)) (L_X14_isSum_79 cal n 0 (g_X14_put_79 I102 G102 (34 : Int32)) G102 ))))))) := rfl
theorem L_X14_isSum_79_z (cal : Nat → am_I → am_G → Int32 → Int32 → Option (Int32 × am_I × am_G)) (h : Nat) (I : am_I) (G : am_G)  : L_X14_isSum_79 cal 0 h I G  = none := rfl
noncomputable def R_X14_isSum_79 (cal : Nat → am_I → am_G → Int32 → Int32 → Option (Int32 × am_I × am_G)) (I : am_I) (G : am_G)  : Option (Int32 × am_I × am_G) := rb (cal 4 I G (0 : Int32) (0 : Int32)) (fun r1 I1 G1 => (if r1 = 0 then some ((0 : Int32), I1, G1) else L_X14_isSum_79 cal FU 0 I1 G1 ))
set_option maxRecDepth 20000 in
set_option maxHeartbeats 4000000 in
theorem l_X14_isSum_79 {cal : Nat → am_I → am_G → Int32 → Int32 → Option (Int32 × am_I × am_G)} {n9 : Nat} (h0 : ∀ (I : am_I) (G : am_G) (out : Int32 × am_I × am_G), cal 0 I G (0 : Int32) (0 : Int32) = some out → am_Ct mX14_isTest (8 + n9) gS2 [.ref 79] I G (gP 123) (pI out.1 out.2.1 out.2.2 (gP 123))) (h1 : ∀ (I : am_I) (G : am_G) (out : Int32 × am_I × am_G), cal 1 I G (0 : Int32) (0 : Int32) = some out → am_Ct mX14_isBoth (8 + n9) gS2 [.ref 79] I G (gP 123) (pI out.1 out.2.1 out.2.2 (gP 123))) (h2 : ∀ (I : am_I) (G : am_G) (out : Int32 × am_I × am_G), cal 2 I G (0 : Int32) (0 : Int32) = some out → am_Ct mX14_isSingle (8 + n9) gS2 [.ref 79] I G (gP 123) (pI out.1 out.2.1 out.2.2 (gP 123))) (h3 : ∀ (I : am_I) (G : am_G) (out : Int32 × am_I × am_G), cal 3 I G (0 : Int32) (0 : Int32) = some out → am_Ct mX14_isSum (8 + n9) gS2 [.ref 79] I G (gP 123) (pI out.1 out.2.1 out.2.2 (gP 123))) (h4 : ∀ (I : am_I) (G : am_G) (out : Int32 × am_I × am_G), cal 4 I G (0 : Int32) (0 : Int32) = some out → am_Ct mX14_isProduct (8 + n9) gS2 [.ref 79] I G (gP 123) (pI out.1 out.2.1 out.2.2 (gP 123))) (h5 : ∀ (I : am_I) (G : am_G) (a : Int32) (b : Int32) (out : Int32 × am_I × am_G), cal 5 I G a b = some out → am_Ct mX14_isInside (8 + n9) gS2 [.ref 79, .int a, .int b] I G (gP 123) (pI out.1 out.2.1 out.2.2 (gP 123))) (h6 : ∀ (I : am_I) (G : am_G) (out : Int32 × am_I × am_G), cal 6 I G (0 : Int32) (0 : Int32) = some out → am_Ct mX14_isValue (8 + n9) gS2 [.ref 79] I G (gP 123) (pI out.1 out.2.1 out.2.2 (gP 123))) {X : am_X} {ad : Nat → Nat} (hX : am_okz X ad) (hi : am_info X 12 cX14_isSum 2 false (Option.some Jvm.ClassFile.FieldType.boolean) (8 + n9 + 1)) (n : Nat) : (∀ (I : am_I) (G : am_G)  (out : Int32 × am_I × am_G), L_X14_isSum_79 cal n 0 I G  = some out → am_V X 0 0 (am_Rt X gS2 ad (pI out.1 out.2.1 out.2.2 (gP 123))) gS2 ad (9, [(0, .ref 79)], [], I, G, (gP 123))) := by
  induction n with
  | zero => exact fun I G  out h => by rw [L_X14_isSum_79_z] at h; cases h
  | succ n ih =>
    · intro I G  out h
      rw [L_X14_isSum_79_0] at h
      refine am_blk 9 [(.aload_n 0, 1, 0, 0, .null), (.bipush (43), 2, 0, 0, .int (43 : Int32))] (12, [(0, .ref 79)], [.int (43 : Int32), .ref 79], I, G, (gP 123)) (True) hX hi (by decide +kernel) rfl trivial ?_
      obtain ⟨hq1, h⟩ := rg_some h
      refine am_callV hX hi (M := mX14_isSign) (idx := 205) (d' := 1) (b := 79) (ci := 12) (As := [.int (43 : Int32)]) (rest := []) mkX14_isSign miX14_isSign mvX14_isSign (by decide +kernel) (by decide +kernel) rfl (by decide +kernel) rfl ⟨by omega, by decide, Nat.le_of_ble_eq_true rfl⟩ rfl (c_X14_isSign_79 I G (43 : Int32) hq1) ?_
      rintro r9 I9 G9 P9 ⟨e0, e1, e2, e3⟩
      rw [e0, e1, e2, e3]
      show am_V X 0 0 _ _ ad (15, [(0, .ref 79)], [.int (f_X14_isSign_79 I G (43 : Int32))], I, G, (gP 123))
      refine am_if_ne (tgt := 27) hX hi (off := (12)) (by decide +kernel) (by decide) (fun c15 => ?_) (fun c15 => ?_)
      · rw [if_neg c15] at h
        refine am_blk 27 [(.aload_n 0, 1, 0, 0, .null), (.bipush (43), 2, 0, 0, .int (43 : Int32))] (30, [(0, .ref 79)], [.int (43 : Int32), .ref 79], I, G, (gP 123)) (True) hX hi (by decide +kernel) rfl trivial ?_
        obtain ⟨hq1, h⟩ := rg_some h
        refine am_callV hX hi (M := mX14_isSign) (idx := 205) (d' := 1) (b := 79) (ci := 12) (As := [.int (43 : Int32)]) (rest := []) mkX14_isSign miX14_isSign mvX14_isSign (by decide +kernel) (by decide +kernel) rfl (by decide +kernel) rfl ⟨by omega, by decide, Nat.le_of_ble_eq_true rfl⟩ rfl (c_X14_isSign_79 I G (43 : Int32) hq1) ?_
        rintro r9 I9 G9 P9 ⟨e0, e1, e2, e3⟩
        rw [e0, e1, e2, e3]
        show am_V X 0 0 _ _ ad (33, [(0, .ref 79)], [.int (f_X14_isSign_79 I G (43 : Int32))], I, G, (gP 123))
        refine am_if_eq (tgt := 41) hX hi (off := (8)) (by decide +kernel) (by decide) (fun c33 => ?_) (fun c33 => ?_)
        · rw [if_pos c33] at h
          refine am_blk 41 [(.bipush (35), 2, 0, 0, .int (35 : Int32)), (.istore_n 1, 1, 1, 0, .null), (.aload_n 0, 1, 0, 0, .null), (.dup, 1, 0, 0, .null), (.getfield 122, 3, 12, 9, .null), (.iconst (1), 1, 0, 0, .int (1 : Int32)), (.iadd, 1, 0, 0, .null), (.putfield 122, 3, 12, 9, .null), (.aload_n 0, 1, 0, 0, .null)] (55, [(0, .ref 79), (1, .int (35 : Int32))], [.ref 79], (am_up I 79 9 ((I 79 9) + (1 : Int32))), G, (gP 123)) (True) hX hi (by decide +kernel) rfl trivial ?_
          obtain ⟨r101, I101, G101, hc, h⟩ := rb_some h
          refine am_callV hX hi (M := mX14_isProduct) (idx := 211) (d' := (8 + n9)) (b := 79) (ci := 12) (As := []) (rest := []) mkX14_isProduct miX14_isProduct mvX14_isProduct (by decide +kernel) (by decide +kernel) rfl (by decide +kernel) rfl ⟨by omega, by decide, Nat.le_of_ble_eq_true rfl⟩ rfl (h4 (am_up I 79 9 ((I 79 9) + (1 : Int32))) G  _ hc) ?_
          rintro r9 I9 G9 P9 ⟨e0, e1, e2, e3⟩
          rw [e0, e1, e2, e3]
          show am_V X 0 0 _ _ ad (58, [(0, .ref 79), (1, .int (35 : Int32))], [.int r101], I101, G101, (gP 123))
          refine am_if_ne (tgt := 63) hX hi (off := (5)) (by decide +kernel) (by decide) (fun c58 => ?_) (fun c58 => ?_)
          · rw [if_neg c58] at h
            refine am_blk 63 [(.aload_n 0, 1, 0, 0, .null), (.iload_n 1, 1, 1, 0, .null)] (65, [(0, .ref 79), (1, .int (35 : Int32))], [.int (35 : Int32), .ref 79], I101, G101, (gP 123)) (True) hX hi (by decide +kernel) rfl trivial ?_
            obtain ⟨hq1, h⟩ := rg_some h
            refine am_callV hX hi (M := mX14_put) (idx := 183) (d' := 1) (b := 79) (ci := 12) (As := [.int (35 : Int32)]) (rest := []) mkX14_put miX14_put mvX14_put (by decide +kernel) (by decide +kernel) rfl (by decide +kernel) rfl ⟨by omega, by decide, Nat.le_of_ble_eq_true rfl⟩ rfl (c_X14_put_79 I101 G101 (35 : Int32) hq1) ?_
            rintro r9 I9 G9 P9 ⟨e0, e1, e2, e3⟩
            rw [e0, e1, e2, e3]
            show am_V X 0 0 _ _ ad (68, [(0, .ref 79), (1, .int (35 : Int32))], [], (g_X14_put_79 I101 G101 (35 : Int32)), G101, (gP 123))
            refine am_blk 68 [(.goto (-59), 3, 0, 9, .null)] (9, [(0, .ref 79), (1, .int (35 : Int32))], [], (g_X14_put_79 I101 G101 (35 : Int32)), G101, (gP 123)) (True) hX hi (by decide +kernel) rfl trivial ?_
            refine am_sub (L' := [(0, .ref 79)]) (by simp) ?_
            exact ih _ _  _ h
          · rw [if_pos c58] at h
            refine am_blk 61 [(.iconst (0), 1, 0, 0, .int (0 : Int32))] (62, [(0, .ref 79), (1, .int (35 : Int32))], [.int (0 : Int32)], I101, G101, (gP 123)) (True) hX hi (by decide +kernel) rfl trivial ?_
            cases h
            refine am_iret hX hi rfl (by first | rfl | decide | (simp [narrow]; done)) (by decide +kernel) ?_
            exact ⟨rfl, rfl, rfl, rfl⟩
        · rw [if_neg c33] at h
          refine am_blk 36 [(.bipush (34), 2, 0, 0, .int (34 : Int32)), (.goto (5), 3, 0, 43, .null), (.istore_n 1, 1, 1, 0, .null), (.aload_n 0, 1, 0, 0, .null), (.dup, 1, 0, 0, .null), (.getfield 122, 3, 12, 9, .null), (.iconst (1), 1, 0, 0, .int (1 : Int32)), (.iadd, 1, 0, 0, .null), (.putfield 122, 3, 12, 9, .null), (.aload_n 0, 1, 0, 0, .null)] (55, [(0, .ref 79), (1, .int (34 : Int32))], [.ref 79], (am_up I 79 9 ((I 79 9) + (1 : Int32))), G, (gP 123)) (True) hX hi (by decide +kernel) rfl trivial ?_
          obtain ⟨r102, I102, G102, hc, h⟩ := rb_some h
          refine am_callV hX hi (M := mX14_isProduct) (idx := 211) (d' := (8 + n9)) (b := 79) (ci := 12) (As := []) (rest := []) mkX14_isProduct miX14_isProduct mvX14_isProduct (by decide +kernel) (by decide +kernel) rfl (by decide +kernel) rfl ⟨by omega, by decide, Nat.le_of_ble_eq_true rfl⟩ rfl (h4 (am_up I 79 9 ((I 79 9) + (1 : Int32))) G  _ hc) ?_
          rintro r9 I9 G9 P9 ⟨e0, e1, e2, e3⟩
          rw [e0, e1, e2, e3]
          show am_V X 0 0 _ _ ad (58, [(0, .ref 79), (1, .int (34 : Int32))], [.int r102], I102, G102, (gP 123))
          refine am_if_ne (tgt := 63) hX hi (off := (5)) (by decide +kernel) (by decide) (fun c58 => ?_) (fun c58 => ?_)
          · rw [if_neg c58] at h
            refine am_blk 63 [(.aload_n 0, 1, 0, 0, .null), (.iload_n 1, 1, 1, 0, .null)] (65, [(0, .ref 79), (1, .int (34 : Int32))], [.int (34 : Int32), .ref 79], I102, G102, (gP 123)) (True) hX hi (by decide +kernel) rfl trivial ?_
            obtain ⟨hq1, h⟩ := rg_some h
            refine am_callV hX hi (M := mX14_put) (idx := 183) (d' := 1) (b := 79) (ci := 12) (As := [.int (34 : Int32)]) (rest := []) mkX14_put miX14_put mvX14_put (by decide +kernel) (by decide +kernel) rfl (by decide +kernel) rfl ⟨by omega, by decide, Nat.le_of_ble_eq_true rfl⟩ rfl (c_X14_put_79 I102 G102 (34 : Int32) hq1) ?_
            rintro r9 I9 G9 P9 ⟨e0, e1, e2, e3⟩
            rw [e0, e1, e2, e3]
            show am_V X 0 0 _ _ ad (68, [(0, .ref 79), (1, .int (34 : Int32))], [], (g_X14_put_79 I102 G102 (34 : Int32)), G102, (gP 123))
            refine am_blk 68 [(.goto (-59), 3, 0, 9, .null)] (9, [(0, .ref 79), (1, .int (34 : Int32))], [], (g_X14_put_79 I102 G102 (34 : Int32)), G102, (gP 123)) (True) hX hi (by decide +kernel) rfl trivial ?_
            refine am_sub (L' := [(0, .ref 79)]) (by simp) ?_
            exact ih _ _  _ h
          · rw [if_pos c58] at h
            refine am_blk 61 [(.iconst (0), 1, 0, 0, .int (0 : Int32))] (62, [(0, .ref 79), (1, .int (34 : Int32))], [.int (0 : Int32)], I102, G102, (gP 123)) (True) hX hi (by decide +kernel) rfl trivial ?_
            cases h
            refine am_iret hX hi rfl (by first | rfl | decide | (simp [narrow]; done)) (by decide +kernel) ?_
            exact ⟨rfl, rfl, rfl, rfl⟩
      · rw [if_pos c15] at h
        refine am_blk 18 [(.aload_n 0, 1, 0, 0, .null), (.bipush (45), 2, 0, 0, .int (45 : Int32))] (21, [(0, .ref 79)], [.int (45 : Int32), .ref 79], I, G, (gP 123)) (True) hX hi (by decide +kernel) rfl trivial ?_
        obtain ⟨hq1, h⟩ := rg_some h
        refine am_callV hX hi (M := mX14_isSign) (idx := 205) (d' := 1) (b := 79) (ci := 12) (As := [.int (45 : Int32)]) (rest := []) mkX14_isSign miX14_isSign mvX14_isSign (by decide +kernel) (by decide +kernel) rfl (by decide +kernel) rfl ⟨by omega, by decide, Nat.le_of_ble_eq_true rfl⟩ rfl (c_X14_isSign_79 I G (45 : Int32) hq1) ?_
        rintro r9 I9 G9 P9 ⟨e0, e1, e2, e3⟩
        rw [e0, e1, e2, e3]
        show am_V X 0 0 _ _ ad (24, [(0, .ref 79)], [.int (f_X14_isSign_79 I G (45 : Int32))], I, G, (gP 123))
        refine am_if_eq (tgt := 71) hX hi (off := (47)) (by decide +kernel) (by decide) (fun c24 => ?_) (fun c24 => ?_)
        · rw [if_pos c24] at h
          refine am_blk 71 [(.iconst (1), 1, 0, 0, .int (1 : Int32))] (72, [(0, .ref 79)], [.int (1 : Int32)], I, G, (gP 123)) (True) hX hi (by decide +kernel) rfl trivial ?_
          cases h
          refine am_iret hX hi rfl (by first | rfl | decide | (simp [narrow]; done)) (by decide +kernel) ?_
          exact ⟨rfl, rfl, rfl, rfl⟩
        · rw [if_neg c24] at h
          refine am_blk 27 [(.aload_n 0, 1, 0, 0, .null), (.bipush (43), 2, 0, 0, .int (43 : Int32))] (30, [(0, .ref 79)], [.int (43 : Int32), .ref 79], I, G, (gP 123)) (True) hX hi (by decide +kernel) rfl trivial ?_
          obtain ⟨hq1, h⟩ := rg_some h
          refine am_callV hX hi (M := mX14_isSign) (idx := 205) (d' := 1) (b := 79) (ci := 12) (As := [.int (43 : Int32)]) (rest := []) mkX14_isSign miX14_isSign mvX14_isSign (by decide +kernel) (by decide +kernel) rfl (by decide +kernel) rfl ⟨by omega, by decide, Nat.le_of_ble_eq_true rfl⟩ rfl (c_X14_isSign_79 I G (43 : Int32) hq1) ?_
          rintro r9 I9 G9 P9 ⟨e0, e1, e2, e3⟩
          rw [e0, e1, e2, e3]
          show am_V X 0 0 _ _ ad (33, [(0, .ref 79)], [.int (f_X14_isSign_79 I G (43 : Int32))], I, G, (gP 123))
          refine am_if_eq (tgt := 41) hX hi (off := (8)) (by decide +kernel) (by decide) (fun c33 => ?_) (fun c33 => ?_)
          · rw [if_pos c33] at h
            refine am_blk 41 [(.bipush (35), 2, 0, 0, .int (35 : Int32)), (.istore_n 1, 1, 1, 0, .null), (.aload_n 0, 1, 0, 0, .null), (.dup, 1, 0, 0, .null), (.getfield 122, 3, 12, 9, .null), (.iconst (1), 1, 0, 0, .int (1 : Int32)), (.iadd, 1, 0, 0, .null), (.putfield 122, 3, 12, 9, .null), (.aload_n 0, 1, 0, 0, .null)] (55, [(0, .ref 79), (1, .int (35 : Int32))], [.ref 79], (am_up I 79 9 ((I 79 9) + (1 : Int32))), G, (gP 123)) (True) hX hi (by decide +kernel) rfl trivial ?_
            obtain ⟨r103, I103, G103, hc, h⟩ := rb_some h
            refine am_callV hX hi (M := mX14_isProduct) (idx := 211) (d' := (8 + n9)) (b := 79) (ci := 12) (As := []) (rest := []) mkX14_isProduct miX14_isProduct mvX14_isProduct (by decide +kernel) (by decide +kernel) rfl (by decide +kernel) rfl ⟨by omega, by decide, Nat.le_of_ble_eq_true rfl⟩ rfl (h4 (am_up I 79 9 ((I 79 9) + (1 : Int32))) G  _ hc) ?_
            rintro r9 I9 G9 P9 ⟨e0, e1, e2, e3⟩
            rw [e0, e1, e2, e3]
            show am_V X 0 0 _ _ ad (58, [(0, .ref 79), (1, .int (35 : Int32))], [.int r103], I103, G103, (gP 123))
            refine am_if_ne (tgt := 63) hX hi (off := (5)) (by decide +kernel) (by decide) (fun c58 => ?_) (fun c58 => ?_)
            · rw [if_neg c58] at h
              refine am_blk 63 [(.aload_n 0, 1, 0, 0, .null), (.iload_n 1, 1, 1, 0, .null)] (65, [(0, .ref 79), (1, .int (35 : Int32))], [.int (35 : Int32), .ref 79], I103, G103, (gP 123)) (True) hX hi (by decide +kernel) rfl trivial ?_
              obtain ⟨hq1, h⟩ := rg_some h
              refine am_callV hX hi (M := mX14_put) (idx := 183) (d' := 1) (b := 79) (ci := 12) (As := [.int (35 : Int32)]) (rest := []) mkX14_put miX14_put mvX14_put (by decide +kernel) (by decide +kernel) rfl (by decide +kernel) rfl ⟨by omega, by decide, Nat.le_of_ble_eq_true rfl⟩ rfl (c_X14_put_79 I103 G103 (35 : Int32) hq1) ?_
              rintro r9 I9 G9 P9 ⟨e0, e1, e2, e3⟩
              rw [e0, e1, e2, e3]
              show am_V X 0 0 _ _ ad (68, [(0, .ref 79), (1, .int (35 : Int32))], [], (g_X14_put_79 I103 G103 (35 : Int32)), G103, (gP 123))
              refine am_blk 68 [(.goto (-59), 3, 0, 9, .null)] (9, [(0, .ref 79), (1, .int (35 : Int32))], [], (g_X14_put_79 I103 G103 (35 : Int32)), G103, (gP 123)) (True) hX hi (by decide +kernel) rfl trivial ?_
              refine am_sub (L' := [(0, .ref 79)]) (by simp) ?_
              exact ih _ _  _ h
            · rw [if_pos c58] at h
              refine am_blk 61 [(.iconst (0), 1, 0, 0, .int (0 : Int32))] (62, [(0, .ref 79), (1, .int (35 : Int32))], [.int (0 : Int32)], I103, G103, (gP 123)) (True) hX hi (by decide +kernel) rfl trivial ?_
              cases h
              refine am_iret hX hi rfl (by first | rfl | decide | (simp [narrow]; done)) (by decide +kernel) ?_
              exact ⟨rfl, rfl, rfl, rfl⟩
          · rw [if_neg c33] at h
            refine am_blk 36 [(.bipush (34), 2, 0, 0, .int (34 : Int32)), (.goto (5), 3, 0, 43, .null), (.istore_n 1, 1, 1, 0, .null), (.aload_n 0, 1, 0, 0, .null), (.dup, 1, 0, 0, .null), (.getfield 122, 3, 12, 9, .null), (.iconst (1), 1, 0, 0, .int (1 : Int32)), (.iadd, 1, 0, 0, .null), (.putfield 122, 3, 12, 9, .null), (.aload_n 0, 1, 0, 0, .null)] (55, [(0, .ref 79), (1, .int (34 : Int32))], [.ref 79], (am_up I 79 9 ((I 79 9) + (1 : Int32))), G, (gP 123)) (True) hX hi (by decide +kernel) rfl trivial ?_
            obtain ⟨r104, I104, G104, hc, h⟩ := rb_some h
            refine am_callV hX hi (M := mX14_isProduct) (idx := 211) (d' := (8 + n9)) (b := 79) (ci := 12) (As := []) (rest := []) mkX14_isProduct miX14_isProduct mvX14_isProduct (by decide +kernel) (by decide +kernel) rfl (by decide +kernel) rfl ⟨by omega, by decide, Nat.le_of_ble_eq_true rfl⟩ rfl (h4 (am_up I 79 9 ((I 79 9) + (1 : Int32))) G  _ hc) ?_
            rintro r9 I9 G9 P9 ⟨e0, e1, e2, e3⟩
            rw [e0, e1, e2, e3]
            show am_V X 0 0 _ _ ad (58, [(0, .ref 79), (1, .int (34 : Int32))], [.int r104], I104, G104, (gP 123))
            refine am_if_ne (tgt := 63) hX hi (off := (5)) (by decide +kernel) (by decide) (fun c58 => ?_) (fun c58 => ?_)
            · rw [if_neg c58] at h
              refine am_blk 63 [(.aload_n 0, 1, 0, 0, .null), (.iload_n 1, 1, 1, 0, .null)] (65, [(0, .ref 79), (1, .int (34 : Int32))], [.int (34 : Int32), .ref 79], I104, G104, (gP 123)) (True) hX hi (by decide +kernel) rfl trivial ?_
              obtain ⟨hq1, h⟩ := rg_some h
              refine am_callV hX hi (M := mX14_put) (idx := 183) (d' := 1) (b := 79) (ci := 12) (As := [.int (34 : Int32)]) (rest := []) mkX14_put miX14_put mvX14_put (by decide +kernel) (by decide +kernel) rfl (by decide +kernel) rfl ⟨by omega, by decide, Nat.le_of_ble_eq_true rfl⟩ rfl (c_X14_put_79 I104 G104 (34 : Int32) hq1) ?_
              rintro r9 I9 G9 P9 ⟨e0, e1, e2, e3⟩
              rw [e0, e1, e2, e3]
              show am_V X 0 0 _ _ ad (68, [(0, .ref 79), (1, .int (34 : Int32))], [], (g_X14_put_79 I104 G104 (34 : Int32)), G104, (gP 123))
              refine am_blk 68 [(.goto (-59), 3, 0, 9, .null)] (9, [(0, .ref 79), (1, .int (34 : Int32))], [], (g_X14_put_79 I104 G104 (34 : Int32)), G104, (gP 123)) (True) hX hi (by decide +kernel) rfl trivial ?_
              refine am_sub (L' := [(0, .ref 79)]) (by simp) ?_
              exact ih _ _  _ h
            · rw [if_pos c58] at h
              refine am_blk 61 [(.iconst (0), 1, 0, 0, .int (0 : Int32))] (62, [(0, .ref 79), (1, .int (34 : Int32))], [.int (0 : Int32)], I104, G104, (gP 123)) (True) hX hi (by decide +kernel) rfl trivial ?_
              cases h
              refine am_iret hX hi rfl (by first | rfl | decide | (simp [narrow]; done)) (by decide +kernel) ?_
              exact ⟨rfl, rfl, rfl, rfl⟩
set_option maxRecDepth 20000 in
set_option maxHeartbeats 4000000 in
theorem c_X14_isSum_79 {cal : Nat → am_I → am_G → Int32 → Int32 → Option (Int32 × am_I × am_G)} {n9 : Nat} (h0 : ∀ (I : am_I) (G : am_G) (out : Int32 × am_I × am_G), cal 0 I G (0 : Int32) (0 : Int32) = some out → am_Ct mX14_isTest (8 + n9) gS2 [.ref 79] I G (gP 123) (pI out.1 out.2.1 out.2.2 (gP 123))) (h1 : ∀ (I : am_I) (G : am_G) (out : Int32 × am_I × am_G), cal 1 I G (0 : Int32) (0 : Int32) = some out → am_Ct mX14_isBoth (8 + n9) gS2 [.ref 79] I G (gP 123) (pI out.1 out.2.1 out.2.2 (gP 123))) (h2 : ∀ (I : am_I) (G : am_G) (out : Int32 × am_I × am_G), cal 2 I G (0 : Int32) (0 : Int32) = some out → am_Ct mX14_isSingle (8 + n9) gS2 [.ref 79] I G (gP 123) (pI out.1 out.2.1 out.2.2 (gP 123))) (h3 : ∀ (I : am_I) (G : am_G) (out : Int32 × am_I × am_G), cal 3 I G (0 : Int32) (0 : Int32) = some out → am_Ct mX14_isSum (8 + n9) gS2 [.ref 79] I G (gP 123) (pI out.1 out.2.1 out.2.2 (gP 123))) (h4 : ∀ (I : am_I) (G : am_G) (out : Int32 × am_I × am_G), cal 4 I G (0 : Int32) (0 : Int32) = some out → am_Ct mX14_isProduct (8 + n9) gS2 [.ref 79] I G (gP 123) (pI out.1 out.2.1 out.2.2 (gP 123))) (h5 : ∀ (I : am_I) (G : am_G) (a : Int32) (b : Int32) (out : Int32 × am_I × am_G), cal 5 I G a b = some out → am_Ct mX14_isInside (8 + n9) gS2 [.ref 79, .int a, .int b] I G (gP 123) (pI out.1 out.2.1 out.2.2 (gP 123))) (h6 : ∀ (I : am_I) (G : am_G) (out : Int32 × am_I × am_G), cal 6 I G (0 : Int32) (0 : Int32) = some out → am_Ct mX14_isValue (8 + n9) gS2 [.ref 79] I G (gP 123) (pI out.1 out.2.1 out.2.2 (gP 123))) (I : am_I) (G : am_G)  {out : Int32 × am_I × am_G} (h : R_X14_isSum_79 cal I G  = some out) : am_Ct mX14_isSum (8 + n9 + 1) gS2 [.ref 79] I G (gP 123) (pI out.1 out.2.1 out.2.2 (gP 123)) := by
  refine am_ofF (by decide +kernel) rfl (by decide) (by omega) (Nat.le_of_ble_eq_true rfl) (fun X ad hX hi => ?_)
  have hi : am_info X 12 cX14_isSum 2 false (Option.some Jvm.ClassFile.FieldType.boolean) (8 + n9 + 1) := hi
  show am_V X 0 0 _ _ ad (0, [(0, .ref 79)], [], I, G, (gP 123))
  unfold R_X14_isSum_79 at h
  refine am_blk 0 [(.aload_n 0, 1, 0, 0, .null)] (1, [(0, .ref 79)], [.ref 79], I, G, (gP 123)) (True) hX hi (by decide +kernel) rfl trivial ?_
  obtain ⟨r1, I1, G1, hc, h⟩ := rb_some h
  refine am_callV hX hi (M := mX14_isProduct) (idx := 211) (d' := (8 + n9)) (b := 79) (ci := 12) (As := []) (rest := []) mkX14_isProduct miX14_isProduct mvX14_isProduct (by decide +kernel) (by decide +kernel) rfl (by decide +kernel) rfl ⟨by omega, by decide, Nat.le_of_ble_eq_true rfl⟩ rfl (h4 I G  _ hc) ?_
  rintro r9 I9 G9 P9 ⟨e0, e1, e2, e3⟩
  rw [e0, e1, e2, e3]
  show am_V X 0 0 _ _ ad (4, [(0, .ref 79)], [.int r1], I1, G1, (gP 123))
  refine am_if_ne (tgt := 9) hX hi (off := (5)) (by decide +kernel) (by decide) (fun c4 => ?_) (fun c4 => ?_)
  · rw [if_neg c4] at h
    exact (l_X14_isSum_79 h0 h1 h2 h3 h4 h5 h6 hX hi FU) _ _  _ h
  · rw [if_pos c4] at h
    refine am_blk 7 [(.iconst (0), 1, 0, 0, .int (0 : Int32))] (8, [(0, .ref 79)], [.int (0 : Int32)], I1, G1, (gP 123)) (True) hX hi (by decide +kernel) rfl trivial ?_
    cases h
    refine am_iret hX hi rfl (by first | rfl | decide | (simp [narrow]; done)) (by decide +kernel) ?_
    exact ⟨rfl, rfl, rfl, rfl⟩
noncomputable def L_X14_isProduct_79 (cal : Nat → am_I → am_G → Int32 → Int32 → Option (Int32 × am_I × am_G)) (n0 : Nat) (hd : Nat) (I : am_I) (G : am_G)  : Option (Int32 × am_I × am_G) := match n0 with
  | 0 => none
  | n + 1 => match hd with
    | _ => rg (q_X14_isSign_79 I G (42 : Int32)) ((if (f_X14_isSign_79 I G (42 : Int32)) = 0 then rg (q_X14_isSign_79 I G (47 : Int32)) ((if (f_X14_isSign_79 I G (47 : Int32)) = 0 then some ((1 : Int32), I, G) else rg (q_X14_isSign_79 I G (42 : Int32)) ((if (f_X14_isSign_79 I G (42 : Int32)) = 0 then rb (cal 6 (am_up I 79 9 ((I 79 9) + (1 : Int32))) G (0 : Int32) (0 : Int32)) (fun r103 I103 G103 => (if r103 = 0 then some ((0 : Int32), I103, G103) else rg (q_X14_put_79 I103 G103 (37 : Int32)) (L_X14_isProduct_79 cal n 0 (g_X14_put_79 I103 G103 (37 : Int32)) G103 ))) else rb (cal 6 (am_up I 79 9 ((I 79 9) + (1 : Int32))) G (0 : Int32) (0 : Int32)) (fun r104 I104 G104 => (if r104 = 0 then some ((0 : Int32), I104, G104) else rg (q_X14_put_79 I104 G104 (36 : Int32)) (L_X14_isProduct_79 cal n 0 (g_X14_put_79 I104 G104 (36 : Int32)) G104 ))))))) else rg (q_X14_isSign_79 I G (42 : Int32)) ((if (f_X14_isSign_79 I G (42 : Int32)) = 0 then rb (cal 6 (am_up I 79 9 ((I 79 9) + (1 : Int32))) G (0 : Int32) (0 : Int32)) (fun r101 I101 G101 => (if r101 = 0 then some ((0 : Int32), I101, G101) else rg (q_X14_put_79 I101 G101 (37 : Int32)) (L_X14_isProduct_79 cal n 0 (g_X14_put_79 I101 G101 (37 : Int32)) G101 ))) else rb (cal 6 (am_up I 79 9 ((I 79 9) + (1 : Int32))) G (0 : Int32) (0 : Int32)) (fun r102 I102 G102 => (if r102 = 0 then some ((0 : Int32), I102, G102) else rg (q_X14_put_79 I102 G102 (36 : Int32)) (L_X14_isProduct_79 cal n 0 (g_X14_put_79 I102 G102 (36 : Int32)) G102 )))))))
theorem L_X14_isProduct_79_0 (cal : Nat → am_I → am_G → Int32 → Int32 → Option (Int32 × am_I × am_G)) (n : Nat) (I : am_I) (G : am_G)  : L_X14_isProduct_79 cal (n + 1) 0 I G  = rg (q_X14_isSign_79 I G (42 : Int32)) ((if (f_X14_isSign_79 I G (42 : Int32)) = 0 then rg (q_X14_isSign_79 I G (47 : Int32)) ((if (f_X14_isSign_79 I G (47 : Int32)) = 0 then some ((1 : Int32), I, G) else rg (q_X14_isSign_79 I G (42 : Int32)) ((if (f_X14_isSign_79 I G (42 : Int32)) = 0 then rb (cal 6 (am_up I 79 9 ((I 79 9) + (1 : Int32))) G (0 : Int32) (0 : Int32)) (fun r103 I103 G103 => (if r103 = 0 then some ((0 : Int32), I103, G103) else rg (q_X14_put_79 I103 G103 (37 : Int32)) (L_X14_isProduct_79 cal n 0 (g_X14_put_79 I103 G103 (37 : Int32)) G103 ))) else rb (cal 6 (am_up I 79 9 ((I 79 9) + (1 : Int32))) G (0 : Int32) (0 : Int32)) (fun r104 I104 G104 => (if r104 = 0 then some ((0 : Int32), I104, G104) else rg (q_X14_put_79 I104 G104 (36 : Int32)) (L_X14_isProduct_79 cal n 0 (g_X14_put_79 I104 G104 (36 : Int32)) G104 ))))))) else rg (q_X14_isSign_79 I G (42 : Int32)) ((if (f_X14_isSign_79 I G (42 : Int32)) = 0 then rb (cal 6 (am_up I 79 9 ((I 79 9) + (1 : Int32))) G (0 : Int32) (0 : Int32)) (fun r101 I101 G101 => (if r101 = 0 then some ((0 : Int32), I101, G101) else rg (q_X14_put_79 I101 G101 (37 : Int32)) (L_X14_isProduct_79 cal n 0 (g_X14_put_79 I101 G101 (37 : Int32)) G101 ))) else rb (cal 6 (am_up I 79 9 ((I 79 9) + (1 : Int32))) G (0 : Int32) (0 : Int32)) (fun r102 I102 G102 => (if r102 = 0 then some ((0 : Int32), I102, G102) else rg (q_X14_put_79 I102 G102 (36 : Int32)) (L_X14_isProduct_79 cal n 0 (g_X14_put_79 I102 G102 (36 : Int32)) G102 ))))))) := rfl
theorem L_X14_isProduct_79_z (cal : Nat → am_I → am_G → Int32 → Int32 → Option (Int32 × am_I × am_G)) (h : Nat) (I : am_I) (G : am_G)  : L_X14_isProduct_79 cal 0 h I G  = none := rfl
noncomputable def R_X14_isProduct_79 (cal : Nat → am_I → am_G → Int32 → Int32 → Option (Int32 × am_I × am_G)) (I : am_I) (G : am_G)  : Option (Int32 × am_I × am_G) := rb (cal 6 I G (0 : Int32) (0 : Int32)) (fun r1 I1 G1 => (if r1 = 0 then some ((0 : Int32), I1, G1) else L_X14_isProduct_79 cal FU 0 I1 G1 ))
set_option maxRecDepth 20000 in
set_option maxHeartbeats 4000000 in
theorem l_X14_isProduct_79 {cal : Nat → am_I → am_G → Int32 → Int32 → Option (Int32 × am_I × am_G)} {n9 : Nat} (h0 : ∀ (I : am_I) (G : am_G) (out : Int32 × am_I × am_G), cal 0 I G (0 : Int32) (0 : Int32) = some out → am_Ct mX14_isTest (8 + n9) gS2 [.ref 79] I G (gP 123) (pI out.1 out.2.1 out.2.2 (gP 123))) (h1 : ∀ (I : am_I) (G : am_G) (out : Int32 × am_I × am_G), cal 1 I G (0 : Int32) (0 : Int32) = some out → am_Ct mX14_isBoth (8 + n9) gS2 [.ref 79] I G (gP 123) (pI out.1 out.2.1 out.2.2 (gP 123))) (h2 : ∀ (I : am_I) (G : am_G) (out : Int32 × am_I × am_G), cal 2 I G (0 : Int32) (0 : Int32) = some out → am_Ct mX14_isSingle (8 + n9) gS2 [.ref 79] I G (gP 123) (pI out.1 out.2.1 out.2.2 (gP 123))) (h3 : ∀ (I : am_I) (G : am_G) (out : Int32 × am_I × am_G), cal 3 I G (0 : Int32) (0 : Int32) = some out → am_Ct mX14_isSum (8 + n9) gS2 [.ref 79] I G (gP 123) (pI out.1 out.2.1 out.2.2 (gP 123))) (h4 : ∀ (I : am_I) (G : am_G) (out : Int32 × am_I × am_G), cal 4 I G (0 : Int32) (0 : Int32) = some out → am_Ct mX14_isProduct (8 + n9) gS2 [.ref 79] I G (gP 123) (pI out.1 out.2.1 out.2.2 (gP 123))) (h5 : ∀ (I : am_I) (G : am_G) (a : Int32) (b : Int32) (out : Int32 × am_I × am_G), cal 5 I G a b = some out → am_Ct mX14_isInside (8 + n9) gS2 [.ref 79, .int a, .int b] I G (gP 123) (pI out.1 out.2.1 out.2.2 (gP 123))) (h6 : ∀ (I : am_I) (G : am_G) (out : Int32 × am_I × am_G), cal 6 I G (0 : Int32) (0 : Int32) = some out → am_Ct mX14_isValue (8 + n9) gS2 [.ref 79] I G (gP 123) (pI out.1 out.2.1 out.2.2 (gP 123))) {X : am_X} {ad : Nat → Nat} (hX : am_okz X ad) (hi : am_info X 12 cX14_isProduct 2 false (Option.some Jvm.ClassFile.FieldType.boolean) (8 + n9 + 1)) (n : Nat) : (∀ (I : am_I) (G : am_G)  (out : Int32 × am_I × am_G), L_X14_isProduct_79 cal n 0 I G  = some out → am_V X 0 0 (am_Rt X gS2 ad (pI out.1 out.2.1 out.2.2 (gP 123))) gS2 ad (9, [(0, .ref 79)], [], I, G, (gP 123))) := by
  induction n with
  | zero => exact fun I G  out h => by rw [L_X14_isProduct_79_z] at h; cases h
  | succ n ih =>
    · intro I G  out h
      rw [L_X14_isProduct_79_0] at h
      refine am_blk 9 [(.aload_n 0, 1, 0, 0, .null), (.bipush (42), 2, 0, 0, .int (42 : Int32))] (12, [(0, .ref 79)], [.int (42 : Int32), .ref 79], I, G, (gP 123)) (True) hX hi (by decide +kernel) rfl trivial ?_
      obtain ⟨hq1, h⟩ := rg_some h
      refine am_callV hX hi (M := mX14_isSign) (idx := 205) (d' := 1) (b := 79) (ci := 12) (As := [.int (42 : Int32)]) (rest := []) mkX14_isSign miX14_isSign mvX14_isSign (by decide +kernel) (by decide +kernel) rfl (by decide +kernel) rfl ⟨by omega, by decide, Nat.le_of_ble_eq_true rfl⟩ rfl (c_X14_isSign_79 I G (42 : Int32) hq1) ?_
      rintro r9 I9 G9 P9 ⟨e0, e1, e2, e3⟩
      rw [e0, e1, e2, e3]
      show am_V X 0 0 _ _ ad (15, [(0, .ref 79)], [.int (f_X14_isSign_79 I G (42 : Int32))], I, G, (gP 123))
      refine am_if_ne (tgt := 27) hX hi (off := (12)) (by decide +kernel) (by decide) (fun c15 => ?_) (fun c15 => ?_)
      · rw [if_neg c15] at h
        refine am_blk 27 [(.aload_n 0, 1, 0, 0, .null), (.bipush (42), 2, 0, 0, .int (42 : Int32))] (30, [(0, .ref 79)], [.int (42 : Int32), .ref 79], I, G, (gP 123)) (True) hX hi (by decide +kernel) rfl trivial ?_
        obtain ⟨hq1, h⟩ := rg_some h
        refine am_callV hX hi (M := mX14_isSign) (idx := 205) (d' := 1) (b := 79) (ci := 12) (As := [.int (42 : Int32)]) (rest := []) mkX14_isSign miX14_isSign mvX14_isSign (by decide +kernel) (by decide +kernel) rfl (by decide +kernel) rfl ⟨by omega, by decide, Nat.le_of_ble_eq_true rfl⟩ rfl (c_X14_isSign_79 I G (42 : Int32) hq1) ?_
        rintro r9 I9 G9 P9 ⟨e0, e1, e2, e3⟩
        rw [e0, e1, e2, e3]
        show am_V X 0 0 _ _ ad (33, [(0, .ref 79)], [.int (f_X14_isSign_79 I G (42 : Int32))], I, G, (gP 123))
        refine am_if_eq (tgt := 41) hX hi (off := (8)) (by decide +kernel) (by decide) (fun c33 => ?_) (fun c33 => ?_)
        · rw [if_pos c33] at h
          refine am_blk 41 [(.bipush (37), 2, 0, 0, .int (37 : Int32)), (.istore_n 1, 1, 1, 0, .null), (.aload_n 0, 1, 0, 0, .null), (.dup, 1, 0, 0, .null), (.getfield 122, 3, 12, 9, .null), (.iconst (1), 1, 0, 0, .int (1 : Int32)), (.iadd, 1, 0, 0, .null), (.putfield 122, 3, 12, 9, .null), (.aload_n 0, 1, 0, 0, .null)] (55, [(0, .ref 79), (1, .int (37 : Int32))], [.ref 79], (am_up I 79 9 ((I 79 9) + (1 : Int32))), G, (gP 123)) (True) hX hi (by decide +kernel) rfl trivial ?_
          obtain ⟨r101, I101, G101, hc, h⟩ := rb_some h
          refine am_callV hX hi (M := mX14_isValue) (idx := 214) (d' := (8 + n9)) (b := 79) (ci := 12) (As := []) (rest := []) mkX14_isValue miX14_isValue mvX14_isValue (by decide +kernel) (by decide +kernel) rfl (by decide +kernel) rfl ⟨by omega, by decide, Nat.le_of_ble_eq_true rfl⟩ rfl (h6 (am_up I 79 9 ((I 79 9) + (1 : Int32))) G  _ hc) ?_
          rintro r9 I9 G9 P9 ⟨e0, e1, e2, e3⟩
          rw [e0, e1, e2, e3]
          show am_V X 0 0 _ _ ad (58, [(0, .ref 79), (1, .int (37 : Int32))], [.int r101], I101, G101, (gP 123))
          refine am_if_ne (tgt := 63) hX hi (off := (5)) (by decide +kernel) (by decide) (fun c58 => ?_) (fun c58 => ?_)
          · rw [if_neg c58] at h
            refine am_blk 63 [(.aload_n 0, 1, 0, 0, .null), (.iload_n 1, 1, 1, 0, .null)] (65, [(0, .ref 79), (1, .int (37 : Int32))], [.int (37 : Int32), .ref 79], I101, G101, (gP 123)) (True) hX hi (by decide +kernel) rfl trivial ?_
            obtain ⟨hq1, h⟩ := rg_some h
            refine am_callV hX hi (M := mX14_put) (idx := 183) (d' := 1) (b := 79) (ci := 12) (As := [.int (37 : Int32)]) (rest := []) mkX14_put miX14_put mvX14_put (by decide +kernel) (by decide +kernel) rfl (by decide +kernel) rfl ⟨by omega, by decide, Nat.le_of_ble_eq_true rfl⟩ rfl (c_X14_put_79 I101 G101 (37 : Int32) hq1) ?_
            rintro r9 I9 G9 P9 ⟨e0, e1, e2, e3⟩
            rw [e0, e1, e2, e3]
            show am_V X 0 0 _ _ ad (68, [(0, .ref 79), (1, .int (37 : Int32))], [], (g_X14_put_79 I101 G101 (37 : Int32)), G101, (gP 123))
            refine am_blk 68 [(.goto (-59), 3, 0, 9, .null)] (9, [(0, .ref 79), (1, .int (37 : Int32))], [], (g_X14_put_79 I101 G101 (37 : Int32)), G101, (gP 123)) (True) hX hi (by decide +kernel) rfl trivial ?_
            refine am_sub (L' := [(0, .ref 79)]) (by simp) ?_
            exact ih _ _  _ h
          · rw [if_pos c58] at h
            refine am_blk 61 [(.iconst (0), 1, 0, 0, .int (0 : Int32))] (62, [(0, .ref 79), (1, .int (37 : Int32))], [.int (0 : Int32)], I101, G101, (gP 123)) (True) hX hi (by decide +kernel) rfl trivial ?_
            cases h
            refine am_iret hX hi rfl (by first | rfl | decide | (simp [narrow]; done)) (by decide +kernel) ?_
            exact ⟨rfl, rfl, rfl, rfl⟩
        · rw [if_neg c33] at h
          refine am_blk 36 [(.bipush (36), 2, 0, 0, .int (36 : Int32)), (.goto (5), 3, 0, 43, .null), (.istore_n 1, 1, 1, 0, .null), (.aload_n 0, 1, 0, 0, .null), (.dup, 1, 0, 0, .null), (.getfield 122, 3, 12, 9, .null), (.iconst (1), 1, 0, 0, .int (1 : Int32)), (.iadd, 1, 0, 0, .null), (.putfield 122, 3, 12, 9, .null), (.aload_n 0, 1, 0, 0, .null)] (55, [(0, .ref 79), (1, .int (36 : Int32))], [.ref 79], (am_up I 79 9 ((I 79 9) + (1 : Int32))), G, (gP 123)) (True) hX hi (by decide +kernel) rfl trivial ?_
          obtain ⟨r102, I102, G102, hc, h⟩ := rb_some h
          refine am_callV hX hi (M := mX14_isValue) (idx := 214) (d' := (8 + n9)) (b := 79) (ci := 12) (As := []) (rest := []) mkX14_isValue miX14_isValue mvX14_isValue (by decide +kernel) (by decide +kernel) rfl (by decide +kernel) rfl ⟨by omega, by decide, Nat.le_of_ble_eq_true rfl⟩ rfl (h6 (am_up I 79 9 ((I 79 9) + (1 : Int32))) G  _ hc) ?_
          rintro r9 I9 G9 P9 ⟨e0, e1, e2, e3⟩
          rw [e0, e1, e2, e3]
          show am_V X 0 0 _ _ ad (58, [(0, .ref 79), (1, .int (36 : Int32))], [.int r102], I102, G102, (gP 123))
          refine am_if_ne (tgt := 63) hX hi (off := (5)) (by decide +kernel) (by decide) (fun c58 => ?_) (fun c58 => ?_)
          · rw [if_neg c58] at h
            refine am_blk 63 [(.aload_n 0, 1, 0, 0, .null), (.iload_n 1, 1, 1, 0, .null)] (65, [(0, .ref 79), (1, .int (36 : Int32))], [.int (36 : Int32), .ref 79], I102, G102, (gP 123)) (True) hX hi (by decide +kernel) rfl trivial ?_
            obtain ⟨hq1, h⟩ := rg_some h
            refine am_callV hX hi (M := mX14_put) (idx := 183) (d' := 1) (b := 79) (ci := 12) (As := [.int (36 : Int32)]) (rest := []) mkX14_put miX14_put mvX14_put (by decide +kernel) (by decide +kernel) rfl (by decide +kernel) rfl ⟨by omega, by decide, Nat.le_of_ble_eq_true rfl⟩ rfl (c_X14_put_79 I102 G102 (36 : Int32) hq1) ?_
            rintro r9 I9 G9 P9 ⟨e0, e1, e2, e3⟩
            rw [e0, e1, e2, e3]
            show am_V X 0 0 _ _ ad (68, [(0, .ref 79), (1, .int (36 : Int32))], [], (g_X14_put_79 I102 G102 (36 : Int32)), G102, (gP 123))
            refine am_blk 68 [(.goto (-59), 3, 0, 9, .null)] (9, [(0, .ref 79), (1, .int (36 : Int32))], [], (g_X14_put_79 I102 G102 (36 : Int32)), G102, (gP 123)) (True) hX hi (by decide +kernel) rfl trivial ?_
            refine am_sub (L' := [(0, .ref 79)]) (by simp) ?_
            exact ih _ _  _ h
          · rw [if_pos c58] at h
            refine am_blk 61 [(.iconst (0), 1, 0, 0, .int (0 : Int32))] (62, [(0, .ref 79), (1, .int (36 : Int32))], [.int (0 : Int32)], I102, G102, (gP 123)) (True) hX hi (by decide +kernel) rfl trivial ?_
            cases h
            refine am_iret hX hi rfl (by first | rfl | decide | (simp [narrow]; done)) (by decide +kernel) ?_
            exact ⟨rfl, rfl, rfl, rfl⟩
      · rw [if_pos c15] at h
        refine am_blk 18 [(.aload_n 0, 1, 0, 0, .null), (.bipush (47), 2, 0, 0, .int (47 : Int32))] (21, [(0, .ref 79)], [.int (47 : Int32), .ref 79], I, G, (gP 123)) (True) hX hi (by decide +kernel) rfl trivial ?_
        obtain ⟨hq1, h⟩ := rg_some h
        refine am_callV hX hi (M := mX14_isSign) (idx := 205) (d' := 1) (b := 79) (ci := 12) (As := [.int (47 : Int32)]) (rest := []) mkX14_isSign miX14_isSign mvX14_isSign (by decide +kernel) (by decide +kernel) rfl (by decide +kernel) rfl ⟨by omega, by decide, Nat.le_of_ble_eq_true rfl⟩ rfl (c_X14_isSign_79 I G (47 : Int32) hq1) ?_
        rintro r9 I9 G9 P9 ⟨e0, e1, e2, e3⟩
        rw [e0, e1, e2, e3]
        show am_V X 0 0 _ _ ad (24, [(0, .ref 79)], [.int (f_X14_isSign_79 I G (47 : Int32))], I, G, (gP 123))
        refine am_if_eq (tgt := 71) hX hi (off := (47)) (by decide +kernel) (by decide) (fun c24 => ?_) (fun c24 => ?_)
        · rw [if_pos c24] at h
          refine am_blk 71 [(.iconst (1), 1, 0, 0, .int (1 : Int32))] (72, [(0, .ref 79)], [.int (1 : Int32)], I, G, (gP 123)) (True) hX hi (by decide +kernel) rfl trivial ?_
          cases h
          refine am_iret hX hi rfl (by first | rfl | decide | (simp [narrow]; done)) (by decide +kernel) ?_
          exact ⟨rfl, rfl, rfl, rfl⟩
        · rw [if_neg c24] at h
          refine am_blk 27 [(.aload_n 0, 1, 0, 0, .null), (.bipush (42), 2, 0, 0, .int (42 : Int32))] (30, [(0, .ref 79)], [.int (42 : Int32), .ref 79], I, G, (gP 123)) (True) hX hi (by decide +kernel) rfl trivial ?_
          obtain ⟨hq1, h⟩ := rg_some h
          refine am_callV hX hi (M := mX14_isSign) (idx := 205) (d' := 1) (b := 79) (ci := 12) (As := [.int (42 : Int32)]) (rest := []) mkX14_isSign miX14_isSign mvX14_isSign (by decide +kernel) (by decide +kernel) rfl (by decide +kernel) rfl ⟨by omega, by decide, Nat.le_of_ble_eq_true rfl⟩ rfl (c_X14_isSign_79 I G (42 : Int32) hq1) ?_
          rintro r9 I9 G9 P9 ⟨e0, e1, e2, e3⟩
          rw [e0, e1, e2, e3]
          show am_V X 0 0 _ _ ad (33, [(0, .ref 79)], [.int (f_X14_isSign_79 I G (42 : Int32))], I, G, (gP 123))
          refine am_if_eq (tgt := 41) hX hi (off := (8)) (by decide +kernel) (by decide) (fun c33 => ?_) (fun c33 => ?_)
          · rw [if_pos c33] at h
            refine am_blk 41 [(.bipush (37), 2, 0, 0, .int (37 : Int32)), (.istore_n 1, 1, 1, 0, .null), (.aload_n 0, 1, 0, 0, .null), (.dup, 1, 0, 0, .null), (.getfield 122, 3, 12, 9, .null), (.iconst (1), 1, 0, 0, .int (1 : Int32)), (.iadd, 1, 0, 0, .null), (.putfield 122, 3, 12, 9, .null), (.aload_n 0, 1, 0, 0, .null)] (55, [(0, .ref 79), (1, .int (37 : Int32))], [.ref 79], (am_up I 79 9 ((I 79 9) + (1 : Int32))), G, (gP 123)) (True) hX hi (by decide +kernel) rfl trivial ?_
            obtain ⟨r103, I103, G103, hc, h⟩ := rb_some h
            refine am_callV hX hi (M := mX14_isValue) (idx := 214) (d' := (8 + n9)) (b := 79) (ci := 12) (As := []) (rest := []) mkX14_isValue miX14_isValue mvX14_isValue (by decide +kernel) (by decide +kernel) rfl (by decide +kernel) rfl ⟨by omega, by decide, Nat.le_of_ble_eq_true rfl⟩ rfl (h6 (am_up I 79 9 ((I 79 9) + (1 : Int32))) G  _ hc) ?_
            rintro r9 I9 G9 P9 ⟨e0, e1, e2, e3⟩
            rw [e0, e1, e2, e3]
            show am_V X 0 0 _ _ ad (58, [(0, .ref 79), (1, .int (37 : Int32))], [.int r103], I103, G103, (gP 123))
            refine am_if_ne (tgt := 63) hX hi (off := (5)) (by decide +kernel) (by decide) (fun c58 => ?_) (fun c58 => ?_)
            · rw [if_neg c58] at h
              refine am_blk 63 [(.aload_n 0, 1, 0, 0, .null), (.iload_n 1, 1, 1, 0, .null)] (65, [(0, .ref 79), (1, .int (37 : Int32))], [.int (37 : Int32), .ref 79], I103, G103, (gP 123)) (True) hX hi (by decide +kernel) rfl trivial ?_
              obtain ⟨hq1, h⟩ := rg_some h
              refine am_callV hX hi (M := mX14_put) (idx := 183) (d' := 1) (b := 79) (ci := 12) (As := [.int (37 : Int32)]) (rest := []) mkX14_put miX14_put mvX14_put (by decide +kernel) (by decide +kernel) rfl (by decide +kernel) rfl ⟨by omega, by decide, Nat.le_of_ble_eq_true rfl⟩ rfl (c_X14_put_79 I103 G103 (37 : Int32) hq1) ?_
              rintro r9 I9 G9 P9 ⟨e0, e1, e2, e3⟩
              rw [e0, e1, e2, e3]
              show am_V X 0 0 _ _ ad (68, [(0, .ref 79), (1, .int (37 : Int32))], [], (g_X14_put_79 I103 G103 (37 : Int32)), G103, (gP 123))
              refine am_blk 68 [(.goto (-59), 3, 0, 9, .null)] (9, [(0, .ref 79), (1, .int (37 : Int32))], [], (g_X14_put_79 I103 G103 (37 : Int32)), G103, (gP 123)) (True) hX hi (by decide +kernel) rfl trivial ?_
              refine am_sub (L' := [(0, .ref 79)]) (by simp) ?_
              exact ih _ _  _ h
            · rw [if_pos c58] at h
              refine am_blk 61 [(.iconst (0), 1, 0, 0, .int (0 : Int32))] (62, [(0, .ref 79), (1, .int (37 : Int32))], [.int (0 : Int32)], I103, G103, (gP 123)) (True) hX hi (by decide +kernel) rfl trivial ?_
              cases h
              refine am_iret hX hi rfl (by first | rfl | decide | (simp [narrow]; done)) (by decide +kernel) ?_
              exact ⟨rfl, rfl, rfl, rfl⟩
          · rw [if_neg c33] at h
            refine am_blk 36 [(.bipush (36), 2, 0, 0, .int (36 : Int32)), (.goto (5), 3, 0, 43, .null), (.istore_n 1, 1, 1, 0, .null), (.aload_n 0, 1, 0, 0, .null), (.dup, 1, 0, 0, .null), (.getfield 122, 3, 12, 9, .null), (.iconst (1), 1, 0, 0, .int (1 : Int32)), (.iadd, 1, 0, 0, .null), (.putfield 122, 3, 12, 9, .null), (.aload_n 0, 1, 0, 0, .null)] (55, [(0, .ref 79), (1, .int (36 : Int32))], [.ref 79], (am_up I 79 9 ((I 79 9) + (1 : Int32))), G, (gP 123)) (True) hX hi (by decide +kernel) rfl trivial ?_
            obtain ⟨r104, I104, G104, hc, h⟩ := rb_some h
            refine am_callV hX hi (M := mX14_isValue) (idx := 214) (d' := (8 + n9)) (b := 79) (ci := 12) (As := []) (rest := []) mkX14_isValue miX14_isValue mvX14_isValue (by decide +kernel) (by decide +kernel) rfl (by decide +kernel) rfl ⟨by omega, by decide, Nat.le_of_ble_eq_true rfl⟩ rfl (h6 (am_up I 79 9 ((I 79 9) + (1 : Int32))) G  _ hc) ?_
            rintro r9 I9 G9 P9 ⟨e0, e1, e2, e3⟩
            rw [e0, e1, e2, e3]
            show am_V X 0 0 _ _ ad (58, [(0, .ref 79), (1, .int (36 : Int32))], [.int r104], I104, G104, (gP 123))
            refine am_if_ne (tgt := 63) hX hi (off := (5)) (by decide +kernel) (by decide) (fun c58 => ?_) (fun c58 => ?_)
            · rw [if_neg c58] at h
              refine am_blk 63 [(.aload_n 0, 1, 0, 0, .null), (.iload_n 1, 1, 1, 0, .null)] (65, [(0, .ref 79), (1, .int (36 : Int32))], [.int (36 : Int32), .ref 79], I104, G104, (gP 123)) (True) hX hi (by decide +kernel) rfl trivial ?_
              obtain ⟨hq1, h⟩ := rg_some h
              refine am_callV hX hi (M := mX14_put) (idx := 183) (d' := 1) (b := 79) (ci := 12) (As := [.int (36 : Int32)]) (rest := []) mkX14_put miX14_put mvX14_put (by decide +kernel) (by decide +kernel) rfl (by decide +kernel) rfl ⟨by omega, by decide, Nat.le_of_ble_eq_true rfl⟩ rfl (c_X14_put_79 I104 G104 (36 : Int32) hq1) ?_
              rintro r9 I9 G9 P9 ⟨e0, e1, e2, e3⟩
              rw [e0, e1, e2, e3]
              show am_V X 0 0 _ _ ad (68, [(0, .ref 79), (1, .int (36 : Int32))], [], (g_X14_put_79 I104 G104 (36 : Int32)), G104, (gP 123))
              refine am_blk 68 [(.goto (-59), 3, 0, 9, .null)] (9, [(0, .ref 79), (1, .int (36 : Int32))], [], (g_X14_put_79 I104 G104 (36 : Int32)), G104, (gP 123)) (True) hX hi (by decide +kernel) rfl trivial ?_
              refine am_sub (L' := [(0, .ref 79)]) (by simp) ?_
              exact ih _ _  _ h
            · rw [if_pos c58] at h
              refine am_blk 61 [(.iconst (0), 1, 0, 0, .int (0 : Int32))] (62, [(0, .ref 79), (1, .int (36 : Int32))], [.int (0 : Int32)], I104, G104, (gP 123)) (True) hX hi (by decide +kernel) rfl trivial ?_
              cases h
              refine am_iret hX hi rfl (by first | rfl | decide | (simp [narrow]; done)) (by decide +kernel) ?_
              exact ⟨rfl, rfl, rfl, rfl⟩
set_option maxRecDepth 20000 in
set_option maxHeartbeats 4000000 in
theorem c_X14_isProduct_79 {cal : Nat → am_I → am_G → Int32 → Int32 → Option (Int32 × am_I × am_G)} {n9 : Nat} (h0 : ∀ (I : am_I) (G : am_G) (out : Int32 × am_I × am_G), cal 0 I G (0 : Int32) (0 : Int32) = some out → am_Ct mX14_isTest (8 + n9) gS2 [.ref 79] I G (gP 123) (pI out.1 out.2.1 out.2.2 (gP 123))) (h1 : ∀ (I : am_I) (G : am_G) (out : Int32 × am_I × am_G), cal 1 I G (0 : Int32) (0 : Int32) = some out → am_Ct mX14_isBoth (8 + n9) gS2 [.ref 79] I G (gP 123) (pI out.1 out.2.1 out.2.2 (gP 123))) (h2 : ∀ (I : am_I) (G : am_G) (out : Int32 × am_I × am_G), cal 2 I G (0 : Int32) (0 : Int32) = some out → am_Ct mX14_isSingle (8 + n9) gS2 [.ref 79] I G (gP 123) (pI out.1 out.2.1 out.2.2 (gP 123))) (h3 : ∀ (I : am_I) (G : am_G) (out : Int32 × am_I × am_G), cal 3 I G (0 : Int32) (0 : Int32) = some out → am_Ct mX14_isSum (8 + n9) gS2 [.ref 79] I G (gP 123) (pI out.1 out.2.1 out.2.2 (gP 123))) (h4 : ∀ (I : am_I) (G : am_G) (out : Int32 × am_I × am_G), cal 4 I G (0 : Int32) (0 : Int32) = some out → am_Ct mX14_isProduct (8 + n9) gS2 [.ref 79] I G (gP 123) (pI out.1 out.2.1 out.2.2 (gP 123))) (h5 : ∀ (I : am_I) (G : am_G) (a : Int32) (b : Int32) (out : Int32 × am_I × am_G), cal 5 I G a b = some out → am_Ct mX14_isInside (8 + n9) gS2 [.ref 79, .int a, .int b] I G (gP 123) (pI out.1 out.2.1 out.2.2 (gP 123))) (h6 : ∀ (I : am_I) (G : am_G) (out : Int32 × am_I × am_G), cal 6 I G (0 : Int32) (0 : Int32) = some out → am_Ct mX14_isValue (8 + n9) gS2 [.ref 79] I G (gP 123) (pI out.1 out.2.1 out.2.2 (gP 123))) (I : am_I) (G : am_G)  {out : Int32 × am_I × am_G} (h : R_X14_isProduct_79 cal I G  = some out) : am_Ct mX14_isProduct (8 + n9 + 1) gS2 [.ref 79] I G (gP 123) (pI out.1 out.2.1 out.2.2 (gP 123)) := by
  refine am_ofF (by decide +kernel) rfl (by decide) (by omega) (Nat.le_of_ble_eq_true rfl) (fun X ad hX hi => ?_)
  have hi : am_info X 12 cX14_isProduct 2 false (Option.some Jvm.ClassFile.FieldType.boolean) (8 + n9 + 1) := hi
  show am_V X 0 0 _ _ ad (0, [(0, .ref 79)], [], I, G, (gP 123))
  unfold R_X14_isProduct_79 at h
  refine am_blk 0 [(.aload_n 0, 1, 0, 0, .null)] (1, [(0, .ref 79)], [.ref 79], I, G, (gP 123)) (True) hX hi (by decide +kernel) rfl trivial ?_
  obtain ⟨r1, I1, G1, hc, h⟩ := rb_some h
  refine am_callV hX hi (M := mX14_isValue) (idx := 214) (d' := (8 + n9)) (b := 79) (ci := 12) (As := []) (rest := []) mkX14_isValue miX14_isValue mvX14_isValue (by decide +kernel) (by decide +kernel) rfl (by decide +kernel) rfl ⟨by omega, by decide, Nat.le_of_ble_eq_true rfl⟩ rfl (h6 I G  _ hc) ?_
  rintro r9 I9 G9 P9 ⟨e0, e1, e2, e3⟩
  rw [e0, e1, e2, e3]
  show am_V X 0 0 _ _ ad (4, [(0, .ref 79)], [.int r1], I1, G1, (gP 123))
  refine am_if_ne (tgt := 9) hX hi (off := (5)) (by decide +kernel) (by decide) (fun c4 => ?_) (fun c4 => ?_)
  · rw [if_neg c4] at h
    exact (l_X14_isProduct_79 h0 h1 h2 h3 h4 h5 h6 hX hi FU) _ _  _ h
  · rw [if_pos c4] at h
    refine am_blk 7 [(.iconst (0), 1, 0, 0, .int (0 : Int32))] (8, [(0, .ref 79)], [.int (0 : Int32)], I1, G1, (gP 123)) (True) hX hi (by decide +kernel) rfl trivial ?_
    cases h
    refine am_iret hX hi rfl (by first | rfl | decide | (simp [narrow]; done)) (by decide +kernel) ?_
    exact ⟨rfl, rfl, rfl, rfl⟩
noncomputable def R_X14_isInside_79 (cal : Nat → am_I → am_G → Int32 → Int32 → Option (Int32 × am_I × am_G)) (I : am_I) (G : am_G) (x1 : Int32) (x2 : Int32) : Option (Int32 × am_I × am_G) := rg (q_X14_isSign_79 I G (40 : Int32)) ((if (f_X14_isSign_79 I G (40 : Int32)) = 0 then some ((0 : Int32), I, G) else (if (f_X14_isDeeper_79 I G ) = 0 then some ((0 : Int32), (g_X14_isDeeper_79 I G ), G) else rb (cal 3 (g_X14_isDeeper_79 I G ) G (0 : Int32) (0 : Int32)) (fun r1 I1 G1 => (if r1 = 0 then some ((0 : Int32), I1, G1) else (if x2 = 0 then (if x2 = 0 then rb (R_X14_eatSign_79 (am_up I1 79 10 ((I1 79 10) - (1 : Int32))) G1 (41 : Int32)) (fun r2 I2 G2 => rg (r2 = 0 ∨ r2 = 1) (some (r2, I2, G2))) else rg (q_X14_put_79 (am_up I1 79 10 ((I1 79 10) - (1 : Int32))) G1 x1) (rb (R_X14_eatSign_79 (g_X14_put_79 (am_up I1 79 10 ((I1 79 10) - (1 : Int32))) G1 x1) G1 (41 : Int32)) (fun r3 I3 G3 => rg (r3 = 0 ∨ r3 = 1) (some (r3, I3, G3))))) else rb (R_X14_eatSign_79 I1 G1 (44 : Int32)) (fun r4 I4 G4 => (if r4 = 0 then some ((0 : Int32), I4, G4) else rb (cal 3 I4 G4 (0 : Int32) (0 : Int32)) (fun r5 I5 G5 => (if r5 = 0 then some ((0 : Int32), I5, G5) else (if x2 = 0 then rb (R_X14_eatSign_79 (am_up I5 79 10 ((I5 79 10) - (1 : Int32))) G5 (41 : Int32)) (fun r6 I6 G6 => rg (r6 = 0 ∨ r6 = 1) (some (r6, I6, G6))) else rg (q_X14_put_79 (am_up I5 79 10 ((I5 79 10) - (1 : Int32))) G5 x1) (rb (R_X14_eatSign_79 (g_X14_put_79 (am_up I5 79 10 ((I5 79 10) - (1 : Int32))) G5 x1) G5 (41 : Int32)) (fun r7 I7 G7 => rg (r7 = 0 ∨ r7 = 1) (some (r7, I7, G7)))))))))))))))
set_option maxRecDepth 20000 in
set_option maxHeartbeats 4000000 in
theorem c_X14_isInside_79 {cal : Nat → am_I → am_G → Int32 → Int32 → Option (Int32 × am_I × am_G)} {n9 : Nat} (h0 : ∀ (I : am_I) (G : am_G) (out : Int32 × am_I × am_G), cal 0 I G (0 : Int32) (0 : Int32) = some out → am_Ct mX14_isTest (8 + n9) gS2 [.ref 79] I G (gP 123) (pI out.1 out.2.1 out.2.2 (gP 123))) (h1 : ∀ (I : am_I) (G : am_G) (out : Int32 × am_I × am_G), cal 1 I G (0 : Int32) (0 : Int32) = some out → am_Ct mX14_isBoth (8 + n9) gS2 [.ref 79] I G (gP 123) (pI out.1 out.2.1 out.2.2 (gP 123))) (h2 : ∀ (I : am_I) (G : am_G) (out : Int32 × am_I × am_G), cal 2 I G (0 : Int32) (0 : Int32) = some out → am_Ct mX14_isSingle (8 + n9) gS2 [.ref 79] I G (gP 123) (pI out.1 out.2.1 out.2.2 (gP 123))) (h3 : ∀ (I : am_I) (G : am_G) (out : Int32 × am_I × am_G), cal 3 I G (0 : Int32) (0 : Int32) = some out → am_Ct mX14_isSum (8 + n9) gS2 [.ref 79] I G (gP 123) (pI out.1 out.2.1 out.2.2 (gP 123))) (h4 : ∀ (I : am_I) (G : am_G) (out : Int32 × am_I × am_G), cal 4 I G (0 : Int32) (0 : Int32) = some out → am_Ct mX14_isProduct (8 + n9) gS2 [.ref 79] I G (gP 123) (pI out.1 out.2.1 out.2.2 (gP 123))) (h5 : ∀ (I : am_I) (G : am_G) (a : Int32) (b : Int32) (out : Int32 × am_I × am_G), cal 5 I G a b = some out → am_Ct mX14_isInside (8 + n9) gS2 [.ref 79, .int a, .int b] I G (gP 123) (pI out.1 out.2.1 out.2.2 (gP 123))) (h6 : ∀ (I : am_I) (G : am_G) (out : Int32 × am_I × am_G), cal 6 I G (0 : Int32) (0 : Int32) = some out → am_Ct mX14_isValue (8 + n9) gS2 [.ref 79] I G (gP 123) (pI out.1 out.2.1 out.2.2 (gP 123))) (I : am_I) (G : am_G) (x1 : Int32) (x2 : Int32) {out : Int32 × am_I × am_G} (h : R_X14_isInside_79 cal I G x1 x2 = some out) : am_Ct mX14_isInside (8 + n9 + 1) gS2 [.ref 79, .int x1, .int x2] I G (gP 123) (pI out.1 out.2.1 out.2.2 (gP 123)) := by
  refine am_ofF (by decide +kernel) rfl (by decide) (by omega) (Nat.le_of_ble_eq_true rfl) (fun X ad hX hi => ?_)
  have hi : am_info X 12 cX14_isInside 3 false (Option.some Jvm.ClassFile.FieldType.boolean) (8 + n9 + 1) := hi
  show am_V X 0 0 _ _ ad (0, [(0, .ref 79), (1, .int x1), (2, .int x2)], [], I, G, (gP 123))
  unfold R_X14_isInside_79 at h
  refine am_blk 0 [(.aload_n 0, 1, 0, 0, .null), (.bipush (40), 2, 0, 0, .int (40 : Int32))] (3, [(0, .ref 79), (1, .int x1), (2, .int x2)], [.int (40 : Int32), .ref 79], I, G, (gP 123)) (True) hX hi (by decide +kernel) rfl trivial ?_
  obtain ⟨hq1, h⟩ := rg_some h
  refine am_callV hX hi (M := mX14_isSign) (idx := 205) (d' := 1) (b := 79) (ci := 12) (As := [.int (40 : Int32)]) (rest := []) mkX14_isSign miX14_isSign mvX14_isSign (by decide +kernel) (by decide +kernel) rfl (by decide +kernel) rfl ⟨by omega, by decide, Nat.le_of_ble_eq_true rfl⟩ rfl (c_X14_isSign_79 I G (40 : Int32) hq1) ?_
  rintro r9 I9 G9 P9 ⟨e0, e1, e2, e3⟩
  rw [e0, e1, e2, e3]
  show am_V X 0 0 _ _ ad (6, [(0, .ref 79), (1, .int x1), (2, .int x2)], [.int (f_X14_isSign_79 I G (40 : Int32))], I, G, (gP 123))
  refine am_if_eq (tgt := 43) hX hi (off := (37)) (by decide +kernel) (by decide) (fun c6 => ?_) (fun c6 => ?_)
  · rw [if_pos c6] at h
    refine am_blk 43 [(.iconst (0), 1, 0, 0, .int (0 : Int32))] (44, [(0, .ref 79), (1, .int x1), (2, .int x2)], [.int (0 : Int32)], I, G, (gP 123)) (True) hX hi (by decide +kernel) rfl trivial ?_
    cases h
    refine am_iret hX hi rfl (by first | rfl | decide | (simp [narrow]; done)) (by decide +kernel) ?_
    exact ⟨rfl, rfl, rfl, rfl⟩
  · rw [if_neg c6] at h
    refine am_blk 9 [(.aload_n 0, 1, 0, 0, .null)] (10, [(0, .ref 79), (1, .int x1), (2, .int x2)], [.ref 79], I, G, (gP 123)) (True) hX hi (by decide +kernel) rfl trivial ?_
    refine am_callV hX hi (M := mX14_isDeeper) (idx := 202) (d' := 1) (b := 79) (ci := 12) (As := []) (rest := []) mkX14_isDeeper miX14_isDeeper mvX14_isDeeper (by decide +kernel) (by decide +kernel) rfl (by decide +kernel) rfl ⟨by omega, by decide, Nat.le_of_ble_eq_true rfl⟩ rfl (c_X14_isDeeper_79 I G ) ?_
    rintro r9 I9 G9 P9 ⟨e0, e1, e2, e3⟩
    rw [e0, e1, e2, e3]
    show am_V X 0 0 _ _ ad (13, [(0, .ref 79), (1, .int x1), (2, .int x2)], [.int (f_X14_isDeeper_79 I G )], (g_X14_isDeeper_79 I G ), G, (gP 123))
    refine am_if_eq (tgt := 43) hX hi (off := (30)) (by decide +kernel) (by decide) (fun c13 => ?_) (fun c13 => ?_)
    · rw [if_pos c13] at h
      refine am_blk 43 [(.iconst (0), 1, 0, 0, .int (0 : Int32))] (44, [(0, .ref 79), (1, .int x1), (2, .int x2)], [.int (0 : Int32)], (g_X14_isDeeper_79 I G ), G, (gP 123)) (True) hX hi (by decide +kernel) rfl trivial ?_
      cases h
      refine am_iret hX hi rfl (by first | rfl | decide | (simp [narrow]; done)) (by decide +kernel) ?_
      exact ⟨rfl, rfl, rfl, rfl⟩
    · rw [if_neg c13] at h
      refine am_blk 16 [(.aload_n 0, 1, 0, 0, .null)] (17, [(0, .ref 79), (1, .int x1), (2, .int x2)], [.ref 79], (g_X14_isDeeper_79 I G ), G, (gP 123)) (True) hX hi (by decide +kernel) rfl trivial ?_
      obtain ⟨r1, I1, G1, hc, h⟩ := rb_some h
      refine am_callV hX hi (M := mX14_isSum) (idx := 168) (d' := (8 + n9)) (b := 79) (ci := 12) (As := []) (rest := []) mkX14_isSum miX14_isSum mvX14_isSum (by decide +kernel) (by decide +kernel) rfl (by decide +kernel) rfl ⟨by omega, by decide, Nat.le_of_ble_eq_true rfl⟩ rfl (h3 (g_X14_isDeeper_79 I G ) G  _ hc) ?_
      rintro r9 I9 G9 P9 ⟨e0, e1, e2, e3⟩
      rw [e0, e1, e2, e3]
      show am_V X 0 0 _ _ ad (20, [(0, .ref 79), (1, .int x1), (2, .int x2)], [.int r1], I1, G1, (gP 123))
      refine am_if_eq (tgt := 43) hX hi (off := (23)) (by decide +kernel) (by decide) (fun c20 => ?_) (fun c20 => ?_)
      · rw [if_pos c20] at h
        refine am_blk 43 [(.iconst (0), 1, 0, 0, .int (0 : Int32))] (44, [(0, .ref 79), (1, .int x1), (2, .int x2)], [.int (0 : Int32)], I1, G1, (gP 123)) (True) hX hi (by decide +kernel) rfl trivial ?_
        cases h
        refine am_iret hX hi rfl (by first | rfl | decide | (simp [narrow]; done)) (by decide +kernel) ?_
        exact ⟨rfl, rfl, rfl, rfl⟩
      · rw [if_neg c20] at h
        refine am_blk 23 [(.iload_n 2, 1, 2, 0, .null)] (24, [(0, .ref 79), (1, .int x1), (2, .int x2)], [.int x2], I1, G1, (gP 123)) (True) hX hi (by decide +kernel) rfl trivial ?_
        refine am_if_eq (tgt := 45) hX hi (off := (21)) (by decide +kernel) (by decide) (fun c24 => ?_) (fun c24 => ?_)
        · rw [if_pos c24] at h
          refine am_blk 45 [(.aload_n 0, 1, 0, 0, .null), (.dup, 1, 0, 0, .null), (.getfield 190, 3, 12, 10, .null), (.iconst (1), 1, 0, 0, .int (1 : Int32)), (.isub, 1, 0, 0, .null), (.putfield 190, 3, 12, 10, .null), (.iload_n 2, 1, 2, 0, .null)] (56, [(0, .ref 79), (1, .int x1), (2, .int x2)], [.int x2], (am_up I1 79 10 ((I1 79 10) - (1 : Int32))), G1, (gP 123)) (True) hX hi (by decide +kernel) rfl trivial ?_
          refine am_if_eq (tgt := 64) hX hi (off := (8)) (by decide +kernel) (by decide) (fun c56 => ?_) (fun c56 => ?_)
          · rw [if_pos c56] at h
            refine am_blk 64 [(.aload_n 0, 1, 0, 0, .null), (.bipush (41), 2, 0, 0, .int (41 : Int32))] (67, [(0, .ref 79), (1, .int x1), (2, .int x2)], [.int (41 : Int32), .ref 79], (am_up I1 79 10 ((I1 79 10) - (1 : Int32))), G1, (gP 123)) (True) hX hi (by decide +kernel) rfl trivial ?_
            obtain ⟨r2, I2, G2, hc, h⟩ := rb_some h
            refine am_callV hX hi (M := mX14_eatSign) (idx := 151) (d' := 3) (b := 79) (ci := 12) (As := [.int (41 : Int32)]) (rest := []) mkX14_eatSign miX14_eatSign mvX14_eatSign (by decide +kernel) (by decide +kernel) rfl (by decide +kernel) rfl ⟨by omega, by decide, Nat.le_of_ble_eq_true rfl⟩ rfl (c_X14_eatSign_79 (am_up I1 79 10 ((I1 79 10) - (1 : Int32))) G1 (41 : Int32) hc) ?_
            rintro r9 I9 G9 P9 ⟨e0, e1, e2, e3⟩
            rw [e0, e1, e2, e3]
            show am_V X 0 0 _ _ ad (70, [(0, .ref 79), (1, .int x1), (2, .int x2)], [.int r2], I2, G2, (gP 123))
            obtain ⟨gb, h⟩ := rg_some h
            cases h
            refine am_iret hX hi rfl (by rcases gb with gb | gb <;> rw [gb] <;> rfl) (by decide +kernel) ?_
            exact ⟨rfl, rfl, rfl, rfl⟩
          · rw [if_neg c56] at h
            refine am_blk 59 [(.aload_n 0, 1, 0, 0, .null), (.iload_n 1, 1, 1, 0, .null)] (61, [(0, .ref 79), (1, .int x1), (2, .int x2)], [.int x1, .ref 79], (am_up I1 79 10 ((I1 79 10) - (1 : Int32))), G1, (gP 123)) (True) hX hi (by decide +kernel) rfl trivial ?_
            obtain ⟨hq1, h⟩ := rg_some h
            refine am_callV hX hi (M := mX14_put) (idx := 183) (d' := 1) (b := 79) (ci := 12) (As := [.int x1]) (rest := []) mkX14_put miX14_put mvX14_put (by decide +kernel) (by decide +kernel) rfl (by decide +kernel) rfl ⟨by omega, by decide, Nat.le_of_ble_eq_true rfl⟩ rfl (c_X14_put_79 (am_up I1 79 10 ((I1 79 10) - (1 : Int32))) G1 x1 hq1) ?_
            rintro r9 I9 G9 P9 ⟨e0, e1, e2, e3⟩
            rw [e0, e1, e2, e3]
            show am_V X 0 0 _ _ ad (64, [(0, .ref 79), (1, .int x1), (2, .int x2)], [], (g_X14_put_79 (am_up I1 79 10 ((I1 79 10) - (1 : Int32))) G1 x1), G1, (gP 123))
            refine am_blk 64 [(.aload_n 0, 1, 0, 0, .null), (.bipush (41), 2, 0, 0, .int (41 : Int32))] (67, [(0, .ref 79), (1, .int x1), (2, .int x2)], [.int (41 : Int32), .ref 79], (g_X14_put_79 (am_up I1 79 10 ((I1 79 10) - (1 : Int32))) G1 x1), G1, (gP 123)) (True) hX hi (by decide +kernel) rfl trivial ?_
            obtain ⟨r3, I3, G3, hc, h⟩ := rb_some h
            refine am_callV hX hi (M := mX14_eatSign) (idx := 151) (d' := 3) (b := 79) (ci := 12) (As := [.int (41 : Int32)]) (rest := []) mkX14_eatSign miX14_eatSign mvX14_eatSign (by decide +kernel) (by decide +kernel) rfl (by decide +kernel) rfl ⟨by omega, by decide, Nat.le_of_ble_eq_true rfl⟩ rfl (c_X14_eatSign_79 (g_X14_put_79 (am_up I1 79 10 ((I1 79 10) - (1 : Int32))) G1 x1) G1 (41 : Int32) hc) ?_
            rintro r9 I9 G9 P9 ⟨e0, e1, e2, e3⟩
            rw [e0, e1, e2, e3]
            show am_V X 0 0 _ _ ad (70, [(0, .ref 79), (1, .int x1), (2, .int x2)], [.int r3], I3, G3, (gP 123))
            obtain ⟨gb, h⟩ := rg_some h
            cases h
            refine am_iret hX hi rfl (by rcases gb with gb | gb <;> rw [gb] <;> rfl) (by decide +kernel) ?_
            exact ⟨rfl, rfl, rfl, rfl⟩
        · rw [if_neg c24] at h
          refine am_blk 27 [(.aload_n 0, 1, 0, 0, .null), (.bipush (44), 2, 0, 0, .int (44 : Int32))] (30, [(0, .ref 79), (1, .int x1), (2, .int x2)], [.int (44 : Int32), .ref 79], I1, G1, (gP 123)) (True) hX hi (by decide +kernel) rfl trivial ?_
          obtain ⟨r4, I4, G4, hc, h⟩ := rb_some h
          refine am_callV hX hi (M := mX14_eatSign) (idx := 151) (d' := 3) (b := 79) (ci := 12) (As := [.int (44 : Int32)]) (rest := []) mkX14_eatSign miX14_eatSign mvX14_eatSign (by decide +kernel) (by decide +kernel) rfl (by decide +kernel) rfl ⟨by omega, by decide, Nat.le_of_ble_eq_true rfl⟩ rfl (c_X14_eatSign_79 I1 G1 (44 : Int32) hc) ?_
          rintro r9 I9 G9 P9 ⟨e0, e1, e2, e3⟩
          rw [e0, e1, e2, e3]
          show am_V X 0 0 _ _ ad (33, [(0, .ref 79), (1, .int x1), (2, .int x2)], [.int r4], I4, G4, (gP 123))
          refine am_if_eq (tgt := 43) hX hi (off := (10)) (by decide +kernel) (by decide) (fun c33 => ?_) (fun c33 => ?_)
          · rw [if_pos c33] at h
            refine am_blk 43 [(.iconst (0), 1, 0, 0, .int (0 : Int32))] (44, [(0, .ref 79), (1, .int x1), (2, .int x2)], [.int (0 : Int32)], I4, G4, (gP 123)) (True) hX hi (by decide +kernel) rfl trivial ?_
            cases h
            refine am_iret hX hi rfl (by first | rfl | decide | (simp [narrow]; done)) (by decide +kernel) ?_
            exact ⟨rfl, rfl, rfl, rfl⟩
          · rw [if_neg c33] at h
            refine am_blk 36 [(.aload_n 0, 1, 0, 0, .null)] (37, [(0, .ref 79), (1, .int x1), (2, .int x2)], [.ref 79], I4, G4, (gP 123)) (True) hX hi (by decide +kernel) rfl trivial ?_
            obtain ⟨r5, I5, G5, hc, h⟩ := rb_some h
            refine am_callV hX hi (M := mX14_isSum) (idx := 168) (d' := (8 + n9)) (b := 79) (ci := 12) (As := []) (rest := []) mkX14_isSum miX14_isSum mvX14_isSum (by decide +kernel) (by decide +kernel) rfl (by decide +kernel) rfl ⟨by omega, by decide, Nat.le_of_ble_eq_true rfl⟩ rfl (h3 I4 G4  _ hc) ?_
            rintro r9 I9 G9 P9 ⟨e0, e1, e2, e3⟩
            rw [e0, e1, e2, e3]
            show am_V X 0 0 _ _ ad (40, [(0, .ref 79), (1, .int x1), (2, .int x2)], [.int r5], I5, G5, (gP 123))
            refine am_if_ne (tgt := 45) hX hi (off := (5)) (by decide +kernel) (by decide) (fun c40 => ?_) (fun c40 => ?_)
            · rw [if_neg c40] at h
              refine am_blk 45 [(.aload_n 0, 1, 0, 0, .null), (.dup, 1, 0, 0, .null), (.getfield 190, 3, 12, 10, .null), (.iconst (1), 1, 0, 0, .int (1 : Int32)), (.isub, 1, 0, 0, .null), (.putfield 190, 3, 12, 10, .null), (.iload_n 2, 1, 2, 0, .null)] (56, [(0, .ref 79), (1, .int x1), (2, .int x2)], [.int x2], (am_up I5 79 10 ((I5 79 10) - (1 : Int32))), G5, (gP 123)) (True) hX hi (by decide +kernel) rfl trivial ?_
              refine am_if_eq (tgt := 64) hX hi (off := (8)) (by decide +kernel) (by decide) (fun c56 => ?_) (fun c56 => ?_)
              · rw [if_pos c56] at h
                refine am_blk 64 [(.aload_n 0, 1, 0, 0, .null), (.bipush (41), 2, 0, 0, .int (41 : Int32))] (67, [(0, .ref 79), (1, .int x1), (2, .int x2)], [.int (41 : Int32), .ref 79], (am_up I5 79 10 ((I5 79 10) - (1 : Int32))), G5, (gP 123)) (True) hX hi (by decide +kernel) rfl trivial ?_
                obtain ⟨r6, I6, G6, hc, h⟩ := rb_some h
                refine am_callV hX hi (M := mX14_eatSign) (idx := 151) (d' := 3) (b := 79) (ci := 12) (As := [.int (41 : Int32)]) (rest := []) mkX14_eatSign miX14_eatSign mvX14_eatSign (by decide +kernel) (by decide +kernel) rfl (by decide +kernel) rfl ⟨by omega, by decide, Nat.le_of_ble_eq_true rfl⟩ rfl (c_X14_eatSign_79 (am_up I5 79 10 ((I5 79 10) - (1 : Int32))) G5 (41 : Int32) hc) ?_
                rintro r9 I9 G9 P9 ⟨e0, e1, e2, e3⟩
                rw [e0, e1, e2, e3]
                show am_V X 0 0 _ _ ad (70, [(0, .ref 79), (1, .int x1), (2, .int x2)], [.int r6], I6, G6, (gP 123))
                obtain ⟨gb, h⟩ := rg_some h
                cases h
                refine am_iret hX hi rfl (by rcases gb with gb | gb <;> rw [gb] <;> rfl) (by decide +kernel) ?_
                exact ⟨rfl, rfl, rfl, rfl⟩
              · rw [if_neg c56] at h
                refine am_blk 59 [(.aload_n 0, 1, 0, 0, .null), (.iload_n 1, 1, 1, 0, .null)] (61, [(0, .ref 79), (1, .int x1), (2, .int x2)], [.int x1, .ref 79], (am_up I5 79 10 ((I5 79 10) - (1 : Int32))), G5, (gP 123)) (True) hX hi (by decide +kernel) rfl trivial ?_
                obtain ⟨hq1, h⟩ := rg_some h
                refine am_callV hX hi (M := mX14_put) (idx := 183) (d' := 1) (b := 79) (ci := 12) (As := [.int x1]) (rest := []) mkX14_put miX14_put mvX14_put (by decide +kernel) (by decide +kernel) rfl (by decide +kernel) rfl ⟨by omega, by decide, Nat.le_of_ble_eq_true rfl⟩ rfl (c_X14_put_79 (am_up I5 79 10 ((I5 79 10) - (1 : Int32))) G5 x1 hq1) ?_
                rintro r9 I9 G9 P9 ⟨e0, e1, e2, e3⟩
                rw [e0, e1, e2, e3]
                show am_V X 0 0 _ _ ad (64, [(0, .ref 79), (1, .int x1), (2, .int x2)], [], (g_X14_put_79 (am_up I5 79 10 ((I5 79 10) - (1 : Int32))) G5 x1), G5, (gP 123))
                refine am_blk 64 [(.aload_n 0, 1, 0, 0, .null), (.bipush (41), 2, 0, 0, .int (41 : Int32))] (67, [(0, .ref 79), (1, .int x1), (2, .int x2)], [.int (41 : Int32), .ref 79], (g_X14_put_79 (am_up I5 79 10 ((I5 79 10) - (1 : Int32))) G5 x1), G5, (gP 123)) (True) hX hi (by decide +kernel) rfl trivial ?_
                obtain ⟨r7, I7, G7, hc, h⟩ := rb_some h
                refine am_callV hX hi (M := mX14_eatSign) (idx := 151) (d' := 3) (b := 79) (ci := 12) (As := [.int (41 : Int32)]) (rest := []) mkX14_eatSign miX14_eatSign mvX14_eatSign (by decide +kernel) (by decide +kernel) rfl (by decide +kernel) rfl ⟨by omega, by decide, Nat.le_of_ble_eq_true rfl⟩ rfl (c_X14_eatSign_79 (g_X14_put_79 (am_up I5 79 10 ((I5 79 10) - (1 : Int32))) G5 x1) G5 (41 : Int32) hc) ?_
                rintro r9 I9 G9 P9 ⟨e0, e1, e2, e3⟩
                rw [e0, e1, e2, e3]
                show am_V X 0 0 _ _ ad (70, [(0, .ref 79), (1, .int x1), (2, .int x2)], [.int r7], I7, G7, (gP 123))
                obtain ⟨gb, h⟩ := rg_some h
                cases h
                refine am_iret hX hi rfl (by rcases gb with gb | gb <;> rw [gb] <;> rfl) (by decide +kernel) ?_
                exact ⟨rfl, rfl, rfl, rfl⟩
            · rw [if_pos c40] at h
              refine am_blk 43 [(.iconst (0), 1, 0, 0, .int (0 : Int32))] (44, [(0, .ref 79), (1, .int x1), (2, .int x2)], [.int (0 : Int32)], I5, G5, (gP 123)) (True) hX hi (by decide +kernel) rfl trivial ?_
              cases h
              refine am_iret hX hi rfl (by first | rfl | decide | (simp [narrow]; done)) (by decide +kernel) ?_
              exact ⟨rfl, rfl, rfl, rfl⟩
