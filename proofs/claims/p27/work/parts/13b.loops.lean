theorem am_hd131 : (1 : Nat) = 1 := rfl  -- methods with loops, and those that call them, further on
noncomputable def R_X11_whence_0 (I : am_I) (G : am_G) (x1 : Int32) (x2 : Int32) : Option (Int32 × am_I × am_G) := rb (R_X7_source_53 I G x1 x2) (fun r1 I1 G1 => some (r1, I1, G1))
set_option maxRecDepth 20000 in
set_option maxHeartbeats 4000000 in
theorem c_X11_whence_0 (rd : Nat) (I : am_I) (G : am_G) (x1 : Int32) (x2 : Int32) {out : Int32 × am_I × am_G} (h : R_X11_whence_0 I G x1 x2 = some out) : am_Ct mX11_whence 5 gS [.ref 0, .int x1, .int x2] I G (gP rd) (pI out.1 out.2.1 out.2.2 (gP rd)) := by
  refine am_ofF (by decide +kernel) rfl (by decide) (by omega) (Nat.le_of_ble_eq_true rfl) (fun X ad hX hi => ?_)
  have hi : am_info X 11 cX11_whence 3 false (Option.some Jvm.ClassFile.FieldType.int) 5 := hi
  show am_V X 0 0 _ _ ad (0, [(0, .ref 0), (1, .int x1), (2, .int x2)], [], I, G, (gP rd))
  unfold R_X11_whence_0 at h
  refine am_blk 0 [(.aload_n 0, 1, 0, 0, .null), (.getfield 46, 3, 11, 4, .null), (.iload_n 1, 1, 1, 0, .null), (.iload_n 2, 1, 2, 0, .null)] (6, [(0, .ref 0), (1, .int x1), (2, .int x2)], [.int x2, .int x1, .ref 53], I, G, (gP rd)) (True) hX hi (by decide +kernel) rfl trivial ?_
  obtain ⟨r1, I1, G1, hc, h⟩ := rb_some h
  refine am_callV hX hi (M := mX7_source) (idx := 134) (d' := 4) (b := 53) (ci := 7) (As := [.int x1, .int x2]) (rest := []) mkX7_source miX7_source mvX7_source (by decide +kernel) (by decide +kernel) rfl (by decide +kernel) rfl ⟨by omega, by decide, Nat.le_of_ble_eq_true rfl⟩ rfl (c_X7_source_53 _ I G x1 x2 hc) ?_
  rintro r9 I9 G9 P9 ⟨e0, e1, e2, e3⟩
  rw [e0, e1, e2, e3]
  show am_V X 0 0 _ _ ad (9, [(0, .ref 0), (1, .int x1), (2, .int x2)], [.int r1], I1, G1, (gP rd))
  cases h
  refine am_iret hX hi rfl rfl (by decide +kernel) ?_
  exact ⟨rfl, rfl, rfl, rfl⟩
noncomputable def L_X6_readTest_28 (cal : Nat → am_I → am_G → Int32 → Int32 → Option (Unit × am_I × am_G)) (n0 : Nat) (hd : Nat) (I : am_I) (G : am_G) (v1 : Int32) (v2 : Int32) : Option (Unit × am_I × am_G) := match n0 with
  | 0 => none
  | n + 1 => match hd with
    | _ => (if (400 : Int32) ≤ v2 then some ((), I, G) else (if (I 28 6) = (21 : Int32) then rb (cal 1 (g_X6_advance_28 I G ) G v1 (0 : Int32)) (fun r101 I101 G101 => L_X6_readTest_28 cal n 0 (g_X3_add_38 I101 G101 (21 : Int32) (0 : Int32)) G101 v1 (v2 + (1 : Int32))) else some ((), I, G)))
theorem L_X6_readTest_28_0 (cal : Nat → am_I → am_G → Int32 → Int32 → Option (Unit × am_I × am_G)) (n : Nat) (I : am_I) (G : am_G) (v1 : Int32) (v2 : Int32) : L_X6_readTest_28 cal (n + 1) 0 I G v1 v2 = (if (400 : Int32) ≤ v2 then some ((), I, G) else (if (I 28 6) = (21 : Int32) then rb (cal 1 (g_X6_advance_28 I G ) G v1 (0 : Int32)) (fun r101 I101 G101 => L_X6_readTest_28 cal n 0 (g_X3_add_38 I101 G101 (21 : Int32) (0 : Int32)) G101 v1 (v2 + (1 : Int32))) else some ((), I, G))) := rfl
theorem L_X6_readTest_28_z (cal : Nat → am_I → am_G → Int32 → Int32 → Option (Unit × am_I × am_G)) (h : Nat) (I : am_I) (G : am_G) (v1 : Int32) (v2 : Int32) : L_X6_readTest_28 cal 0 h I G v1 v2 = none := rfl
noncomputable def R_X6_readTest_28 (cal : Nat → am_I → am_G → Int32 → Int32 → Option (Unit × am_I × am_G)) (I : am_I) (G : am_G) (x1 : Int32) : Option (Unit × am_I × am_G) := rb (cal 1 I G x1 (0 : Int32)) (fun r1 I1 G1 => L_X6_readTest_28 cal FU 0 I1 G1 x1 (0 : Int32))
set_option maxRecDepth 20000 in
set_option maxHeartbeats 4000000 in
theorem l_X6_readTest_28 {cal : Nat → am_I → am_G → Int32 → Int32 → Option (Unit × am_I × am_G)} {n9 : Nat} (h0 : ∀ (rd : Nat) (I : am_I) (G : am_G) (a : Int32) (out : Unit × am_I × am_G), cal 0 I G a (0 : Int32) = some out → am_Ct mX6_readTest (8 + n9) gS [.ref 28, .int a] I G (gP rd) (pV out.2.1 out.2.2 (gP rd))) (h1 : ∀ (rd : Nat) (I : am_I) (G : am_G) (a : Int32) (out : Unit × am_I × am_G), cal 1 I G a (0 : Int32) = some out → am_Ct mX6_readBoth (8 + n9) gS [.ref 28, .int a] I G (gP rd) (pV out.2.1 out.2.2 (gP rd))) (h2 : ∀ (rd : Nat) (I : am_I) (G : am_G) (a : Int32) (out : Unit × am_I × am_G), cal 2 I G a (0 : Int32) = some out → am_Ct mX6_readSingle (8 + n9) gS [.ref 28, .int a] I G (gP rd) (pV out.2.1 out.2.2 (gP rd))) (h3 : ∀ (rd : Nat) (I : am_I) (G : am_G) (a : Int32) (out : Unit × am_I × am_G), cal 3 I G a (0 : Int32) = some out → am_Ct mX6_readSum (8 + n9) gS [.ref 28, .int a] I G (gP rd) (pV out.2.1 out.2.2 (gP rd))) (h4 : ∀ (rd : Nat) (I : am_I) (G : am_G) (a : Int32) (out : Unit × am_I × am_G), cal 4 I G a (0 : Int32) = some out → am_Ct mX6_readProduct (8 + n9) gS [.ref 28, .int a] I G (gP rd) (pV out.2.1 out.2.2 (gP rd))) (h5 : ∀ (rd : Nat) (I : am_I) (G : am_G) (a : Int32) (out : Unit × am_I × am_G), cal 5 I G a (0 : Int32) = some out → am_Ct mX6_readValue (8 + n9) gS [.ref 28, .int a] I G (gP rd) (pV out.2.1 out.2.2 (gP rd))) (h6 : ∀ (rd : Nat) (I : am_I) (G : am_G) (a : Int32) (out : Unit × am_I × am_G), cal 6 I G a (0 : Int32) = some out → am_Ct mX6_readPair (8 + n9) gS [.ref 28, .int a] I G (gP rd) (pV out.2.1 out.2.2 (gP rd))) (rd : Nat) {X : am_X} {ad : Nat → Nat} (hX : am_okz X ad) (hi : am_info X 6 cX6_readTest 3 false none (8 + n9 + 1)) (n : Nat) : (∀ (I : am_I) (G : am_G) (v1 : Int32) (v2 : Int32) (out : Unit × am_I × am_G), L_X6_readTest_28 cal n 0 I G v1 v2 = some out → am_V X 0 0 (am_Rt X gS ad (pV out.2.1 out.2.2 (gP rd))) gS ad (7, [(0, .ref 28), (1, .int v1), (2, .int v2)], [], I, G, (gP rd))) := by
  induction n with
  | zero => exact fun I G v1 v2 out h => by rw [L_X6_readTest_28_z] at h; cases h
  | succ n ih =>
    · intro I G v1 v2 out h
      rw [L_X6_readTest_28_0] at h
      refine am_blk 7 [(.iload_n 2, 1, 2, 0, .null), (.sipush (400), 3, 0, 0, .int (400 : Int32))] (11, [(0, .ref 28), (1, .int v1), (2, .int v2)], [.int (400 : Int32), .int v2], I, G, (gP rd)) (True) hX hi (by decide +kernel) rfl trivial ?_
      refine am_icmp_ge (tgt := 51) hX hi (off := (40)) (by decide +kernel) (by decide) (fun c11 => ?_) (fun c11 => ?_)
      · rw [if_pos c11] at h
        cases h
        refine am_vret hX hi rfl (by decide +kernel) ?_
        exact ⟨rfl, rfl, rfl, rfl⟩
      · rw [if_neg c11] at h
        refine am_blk 14 [(.aload_n 0, 1, 0, 0, .null), (.getfield 62, 3, 6, 6, .null), (.bipush (21), 2, 0, 0, .int (21 : Int32))] (20, [(0, .ref 28), (1, .int v1), (2, .int v2)], [.int (21 : Int32), .int (I 28 6)], I, G, (gP rd)) (True) hX hi (by decide +kernel) rfl trivial ?_
        refine am_icmp_ne (tgt := 51) hX hi (off := (31)) (by decide +kernel) (by decide) (fun c20 => ?_) (fun c20 => ?_)
        · rw [if_neg c20] at h
          cases h
          refine am_vret hX hi rfl (by decide +kernel) ?_
          exact ⟨rfl, rfl, rfl, rfl⟩
        · rw [if_pos c20] at h
          refine am_blk 23 [(.aload_n 0, 1, 0, 0, .null)] (24, [(0, .ref 28), (1, .int v1), (2, .int v2)], [.ref 28], I, G, (gP rd)) (True) hX hi (by decide +kernel) rfl trivial ?_
          refine am_callV hX hi (M := mX6_advance) (idx := 100) (d' := 2) (b := 28) (ci := 6) (As := []) (rest := []) mkX6_advance miX6_advance mvX6_advance (by decide +kernel) (by decide +kernel) rfl (by decide +kernel) rfl ⟨by omega, by decide, Nat.le_of_ble_eq_true rfl⟩ rfl (c_X6_advance_28 _ I G ) ?_
          rintro r9 I9 G9 P9 ⟨e0, e1, e2, e3⟩
          rw [e0, e1, e2, e3]
          show am_V X 0 0 _ _ ad (27, [(0, .ref 28), (1, .int v1), (2, .int v2)], [], (g_X6_advance_28 I G ), G, (gP rd))
          refine am_blk 27 [(.aload_n 0, 1, 0, 0, .null), (.iload_n 1, 1, 1, 0, .null)] (29, [(0, .ref 28), (1, .int v1), (2, .int v2)], [.int v1, .ref 28], (g_X6_advance_28 I G ), G, (gP rd)) (True) hX hi (by decide +kernel) rfl trivial ?_
          obtain ⟨r101, I101, G101, hc, h⟩ := rb_some h
          refine am_callV hX hi (M := mX6_readBoth) (idx := 158) (d' := (8 + n9)) (b := 28) (ci := 6) (As := [.int v1]) (rest := []) mkX6_readBoth miX6_readBoth mvX6_readBoth (by decide +kernel) (by decide +kernel) rfl (by decide +kernel) rfl ⟨by omega, by decide, Nat.le_of_ble_eq_true rfl⟩ rfl (h1 _ (g_X6_advance_28 I G ) G v1 _ hc) ?_
          rintro r9 I9 G9 P9 ⟨e0, e1, e2, e3⟩
          rw [e0, e1, e2, e3]
          show am_V X 0 0 _ _ ad (32, [(0, .ref 28), (1, .int v1), (2, .int v2)], [], I101, G101, (gP rd))
          refine am_blk 32 [(.aload_n 0, 1, 0, 0, .null), (.getfield 12, 3, 6, 1, .null), (.getfield 91, 3, 5, 8, .null), (.bipush (21), 2, 0, 0, .int (21 : Int32)), (.iconst (0), 1, 0, 0, .int (0 : Int32))] (42, [(0, .ref 28), (1, .int v1), (2, .int v2)], [.int (0 : Int32), .int (21 : Int32), .ref 38], I101, G101, (gP rd)) (True) hX hi (by decide +kernel) rfl trivial ?_
          refine am_callV hX hi (M := mX3_add) (idx := 161) (d' := 2) (b := 38) (ci := 3) (As := [.int (21 : Int32), .int (0 : Int32)]) (rest := []) mkX3_add miX3_add mvX3_add (by decide +kernel) (by decide +kernel) rfl (by decide +kernel) rfl ⟨by omega, by decide, Nat.le_of_ble_eq_true rfl⟩ rfl (c_X3_add_38 _ I101 G101 (21 : Int32) (0 : Int32)) ?_
          rintro r9 I9 G9 P9 ⟨e0, e1, e2, e3⟩
          rw [e0, e1, e2, e3]
          show am_V X 0 0 _ _ ad (45, [(0, .ref 28), (1, .int v1), (2, .int v2)], [], (g_X3_add_38 I101 G101 (21 : Int32) (0 : Int32)), G101, (gP rd))
          refine am_blk 45 [(.iinc 2 (1), 3, 2, 0, .int (1 : Int32)), (.goto (-41), 3, 0, 7, .null)] (7, [(0, .ref 28), (1, .int v1), (2, .int (v2 + (1 : Int32)))], [], (g_X3_add_38 I101 G101 (21 : Int32) (0 : Int32)), G101, (gP rd)) (True) hX hi (by decide +kernel) rfl trivial ?_
          exact ih _ _ _ _ _ h
set_option maxRecDepth 20000 in
set_option maxHeartbeats 4000000 in
theorem c_X6_readTest_28 {cal : Nat → am_I → am_G → Int32 → Int32 → Option (Unit × am_I × am_G)} {n9 : Nat} (h0 : ∀ (rd : Nat) (I : am_I) (G : am_G) (a : Int32) (out : Unit × am_I × am_G), cal 0 I G a (0 : Int32) = some out → am_Ct mX6_readTest (8 + n9) gS [.ref 28, .int a] I G (gP rd) (pV out.2.1 out.2.2 (gP rd))) (h1 : ∀ (rd : Nat) (I : am_I) (G : am_G) (a : Int32) (out : Unit × am_I × am_G), cal 1 I G a (0 : Int32) = some out → am_Ct mX6_readBoth (8 + n9) gS [.ref 28, .int a] I G (gP rd) (pV out.2.1 out.2.2 (gP rd))) (h2 : ∀ (rd : Nat) (I : am_I) (G : am_G) (a : Int32) (out : Unit × am_I × am_G), cal 2 I G a (0 : Int32) = some out → am_Ct mX6_readSingle (8 + n9) gS [.ref 28, .int a] I G (gP rd) (pV out.2.1 out.2.2 (gP rd))) (h3 : ∀ (rd : Nat) (I : am_I) (G : am_G) (a : Int32) (out : Unit × am_I × am_G), cal 3 I G a (0 : Int32) = some out → am_Ct mX6_readSum (8 + n9) gS [.ref 28, .int a] I G (gP rd) (pV out.2.1 out.2.2 (gP rd))) (h4 : ∀ (rd : Nat) (I : am_I) (G : am_G) (a : Int32) (out : Unit × am_I × am_G), cal 4 I G a (0 : Int32) = some out → am_Ct mX6_readProduct (8 + n9) gS [.ref 28, .int a] I G (gP rd) (pV out.2.1 out.2.2 (gP rd))) (h5 : ∀ (rd : Nat) (I : am_I) (G : am_G) (a : Int32) (out : Unit × am_I × am_G), cal 5 I G a (0 : Int32) = some out → am_Ct mX6_readValue (8 + n9) gS [.ref 28, .int a] I G (gP rd) (pV out.2.1 out.2.2 (gP rd))) (h6 : ∀ (rd : Nat) (I : am_I) (G : am_G) (a : Int32) (out : Unit × am_I × am_G), cal 6 I G a (0 : Int32) = some out → am_Ct mX6_readPair (8 + n9) gS [.ref 28, .int a] I G (gP rd) (pV out.2.1 out.2.2 (gP rd))) (rd : Nat) (I : am_I) (G : am_G) (x1 : Int32) {out : Unit × am_I × am_G} (h : R_X6_readTest_28 cal I G x1 = some out) : am_Ct mX6_readTest (8 + n9 + 1) gS [.ref 28, .int x1] I G (gP rd) (pV out.2.1 out.2.2 (gP rd)) := by
  refine am_ofF (by decide +kernel) rfl (by decide) (by omega) (Nat.le_of_ble_eq_true rfl) (fun X ad hX hi => ?_)
  have hi : am_info X 6 cX6_readTest 3 false none (8 + n9 + 1) := hi
  show am_V X 0 0 _ _ ad (0, [(0, .ref 28), (1, .int x1)], [], I, G, (gP rd))
  unfold R_X6_readTest_28 at h
  refine am_blk 0 [(.aload_n 0, 1, 0, 0, .null), (.iload_n 1, 1, 1, 0, .null)] (2, [(0, .ref 28), (1, .int x1)], [.int x1, .ref 28], I, G, (gP rd)) (True) hX hi (by decide +kernel) rfl trivial ?_
  obtain ⟨r1, I1, G1, hc, h⟩ := rb_some h
  refine am_callV hX hi (M := mX6_readBoth) (idx := 158) (d' := (8 + n9)) (b := 28) (ci := 6) (As := [.int x1]) (rest := []) mkX6_readBoth miX6_readBoth mvX6_readBoth (by decide +kernel) (by decide +kernel) rfl (by decide +kernel) rfl ⟨by omega, by decide, Nat.le_of_ble_eq_true rfl⟩ rfl (h1 _ I G x1 _ hc) ?_
  rintro r9 I9 G9 P9 ⟨e0, e1, e2, e3⟩
  rw [e0, e1, e2, e3]
  show am_V X 0 0 _ _ ad (5, [(0, .ref 28), (1, .int x1)], [], I1, G1, (gP rd))
  refine am_blk 5 [(.iconst (0), 1, 0, 0, .int (0 : Int32)), (.istore_n 2, 1, 2, 0, .null)] (7, [(0, .ref 28), (1, .int x1), (2, .int (0 : Int32))], [], I1, G1, (gP rd)) (True) hX hi (by decide +kernel) rfl trivial ?_
  exact (l_X6_readTest_28 h0 h1 h2 h3 h4 h5 h6 rd hX hi FU) _ _ _ _ _ h
noncomputable def L_X6_readBoth_28 (cal : Nat → am_I → am_G → Int32 → Int32 → Option (Unit × am_I × am_G)) (n0 : Nat) (hd : Nat) (I : am_I) (G : am_G) (v1 : Int32) (v2 : Int32) : Option (Unit × am_I × am_G) := match n0 with
  | 0 => none
  | n + 1 => match hd with
    | _ => (if (400 : Int32) ≤ v2 then some ((), I, G) else (if (I 28 6) = (20 : Int32) then rb (cal 2 (g_X6_advance_28 I G ) G v1 (0 : Int32)) (fun r101 I101 G101 => L_X6_readBoth_28 cal n 0 (g_X3_add_38 I101 G101 (20 : Int32) (0 : Int32)) G101 v1 (v2 + (1 : Int32))) else some ((), I, G)))
theorem L_X6_readBoth_28_0 (cal : Nat → am_I → am_G → Int32 → Int32 → Option (Unit × am_I × am_G)) (n : Nat) (I : am_I) (G : am_G) (v1 : Int32) (v2 : Int32) : L_X6_readBoth_28 cal (n + 1) 0 I G v1 v2 = (if (400 : Int32) ≤ v2 then some ((), I, G) else (if (I 28 6) = (20 : Int32) then rb (cal 2 (g_X6_advance_28 I G ) G v1 (0 : Int32)) (fun r101 I101 G101 => L_X6_readBoth_28 cal n 0 (g_X3_add_38 I101 G101 (20 : Int32) (0 : Int32)) G101 v1 (v2 + (1 : Int32))) else some ((), I, G))) := rfl
theorem L_X6_readBoth_28_z (cal : Nat → am_I → am_G → Int32 → Int32 → Option (Unit × am_I × am_G)) (h : Nat) (I : am_I) (G : am_G) (v1 : Int32) (v2 : Int32) : L_X6_readBoth_28 cal 0 h I G v1 v2 = none := rfl
noncomputable def R_X6_readBoth_28 (cal : Nat → am_I → am_G → Int32 → Int32 → Option (Unit × am_I × am_G)) (I : am_I) (G : am_G) (x1 : Int32) : Option (Unit × am_I × am_G) := rb (cal 2 I G x1 (0 : Int32)) (fun r1 I1 G1 => L_X6_readBoth_28 cal FU 0 I1 G1 x1 (0 : Int32))
set_option maxRecDepth 20000 in
set_option maxHeartbeats 4000000 in
theorem l_X6_readBoth_28 {cal : Nat → am_I → am_G → Int32 → Int32 → Option (Unit × am_I × am_G)} {n9 : Nat} (h0 : ∀ (rd : Nat) (I : am_I) (G : am_G) (a : Int32) (out : Unit × am_I × am_G), cal 0 I G a (0 : Int32) = some out → am_Ct mX6_readTest (8 + n9) gS [.ref 28, .int a] I G (gP rd) (pV out.2.1 out.2.2 (gP rd))) (h1 : ∀ (rd : Nat) (I : am_I) (G : am_G) (a : Int32) (out : Unit × am_I × am_G), cal 1 I G a (0 : Int32) = some out → am_Ct mX6_readBoth (8 + n9) gS [.ref 28, .int a] I G (gP rd) (pV out.2.1 out.2.2 (gP rd))) (h2 : ∀ (rd : Nat) (I : am_I) (G : am_G) (a : Int32) (out : Unit × am_I × am_G), cal 2 I G a (0 : Int32) = some out → am_Ct mX6_readSingle (8 + n9) gS [.ref 28, .int a] I G (gP rd) (pV out.2.1 out.2.2 (gP rd))) (h3 : ∀ (rd : Nat) (I : am_I) (G : am_G) (a : Int32) (out : Unit × am_I × am_G), cal 3 I G a (0 : Int32) = some out → am_Ct mX6_readSum (8 + n9) gS [.ref 28, .int a] I G (gP rd) (pV out.2.1 out.2.2 (gP rd))) (h4 : ∀ (rd : Nat) (I : am_I) (G : am_G) (a : Int32) (out : Unit × am_I × am_G), cal 4 I G a (0 : Int32) = some out → am_Ct mX6_readProduct (8 + n9) gS [.ref 28, .int a] I G (gP rd) (pV out.2.1 out.2.2 (gP rd))) (h5 : ∀ (rd : Nat) (I : am_I) (G : am_G) (a : Int32) (out : Unit × am_I × am_G), cal 5 I G a (0 : Int32) = some out → am_Ct mX6_readValue (8 + n9) gS [.ref 28, .int a] I G (gP rd) (pV out.2.1 out.2.2 (gP rd))) (h6 : ∀ (rd : Nat) (I : am_I) (G : am_G) (a : Int32) (out : Unit × am_I × am_G), cal 6 I G a (0 : Int32) = some out → am_Ct mX6_readPair (8 + n9) gS [.ref 28, .int a] I G (gP rd) (pV out.2.1 out.2.2 (gP rd))) (rd : Nat) {X : am_X} {ad : Nat → Nat} (hX : am_okz X ad) (hi : am_info X 6 cX6_readBoth 3 false none (8 + n9 + 1)) (n : Nat) : (∀ (I : am_I) (G : am_G) (v1 : Int32) (v2 : Int32) (out : Unit × am_I × am_G), L_X6_readBoth_28 cal n 0 I G v1 v2 = some out → am_V X 0 0 (am_Rt X gS ad (pV out.2.1 out.2.2 (gP rd))) gS ad (7, [(0, .ref 28), (1, .int v1), (2, .int v2)], [], I, G, (gP rd))) := by
  induction n with
  | zero => exact fun I G v1 v2 out h => by rw [L_X6_readBoth_28_z] at h; cases h
  | succ n ih =>
    · intro I G v1 v2 out h
      rw [L_X6_readBoth_28_0] at h
      refine am_blk 7 [(.iload_n 2, 1, 2, 0, .null), (.sipush (400), 3, 0, 0, .int (400 : Int32))] (11, [(0, .ref 28), (1, .int v1), (2, .int v2)], [.int (400 : Int32), .int v2], I, G, (gP rd)) (True) hX hi (by decide +kernel) rfl trivial ?_
      refine am_icmp_ge (tgt := 51) hX hi (off := (40)) (by decide +kernel) (by decide) (fun c11 => ?_) (fun c11 => ?_)
      · rw [if_pos c11] at h
        cases h
        refine am_vret hX hi rfl (by decide +kernel) ?_
        exact ⟨rfl, rfl, rfl, rfl⟩
      · rw [if_neg c11] at h
        refine am_blk 14 [(.aload_n 0, 1, 0, 0, .null), (.getfield 62, 3, 6, 6, .null), (.bipush (20), 2, 0, 0, .int (20 : Int32))] (20, [(0, .ref 28), (1, .int v1), (2, .int v2)], [.int (20 : Int32), .int (I 28 6)], I, G, (gP rd)) (True) hX hi (by decide +kernel) rfl trivial ?_
        refine am_icmp_ne (tgt := 51) hX hi (off := (31)) (by decide +kernel) (by decide) (fun c20 => ?_) (fun c20 => ?_)
        · rw [if_neg c20] at h
          cases h
          refine am_vret hX hi rfl (by decide +kernel) ?_
          exact ⟨rfl, rfl, rfl, rfl⟩
        · rw [if_pos c20] at h
          refine am_blk 23 [(.aload_n 0, 1, 0, 0, .null)] (24, [(0, .ref 28), (1, .int v1), (2, .int v2)], [.ref 28], I, G, (gP rd)) (True) hX hi (by decide +kernel) rfl trivial ?_
          refine am_callV hX hi (M := mX6_advance) (idx := 100) (d' := 2) (b := 28) (ci := 6) (As := []) (rest := []) mkX6_advance miX6_advance mvX6_advance (by decide +kernel) (by decide +kernel) rfl (by decide +kernel) rfl ⟨by omega, by decide, Nat.le_of_ble_eq_true rfl⟩ rfl (c_X6_advance_28 _ I G ) ?_
          rintro r9 I9 G9 P9 ⟨e0, e1, e2, e3⟩
          rw [e0, e1, e2, e3]
          show am_V X 0 0 _ _ ad (27, [(0, .ref 28), (1, .int v1), (2, .int v2)], [], (g_X6_advance_28 I G ), G, (gP rd))
          refine am_blk 27 [(.aload_n 0, 1, 0, 0, .null), (.iload_n 1, 1, 1, 0, .null)] (29, [(0, .ref 28), (1, .int v1), (2, .int v2)], [.int v1, .ref 28], (g_X6_advance_28 I G ), G, (gP rd)) (True) hX hi (by decide +kernel) rfl trivial ?_
          obtain ⟨r101, I101, G101, hc, h⟩ := rb_some h
          refine am_callV hX hi (M := mX6_readSingle) (idx := 164) (d' := (8 + n9)) (b := 28) (ci := 6) (As := [.int v1]) (rest := []) mkX6_readSingle miX6_readSingle mvX6_readSingle (by decide +kernel) (by decide +kernel) rfl (by decide +kernel) rfl ⟨by omega, by decide, Nat.le_of_ble_eq_true rfl⟩ rfl (h2 _ (g_X6_advance_28 I G ) G v1 _ hc) ?_
          rintro r9 I9 G9 P9 ⟨e0, e1, e2, e3⟩
          rw [e0, e1, e2, e3]
          show am_V X 0 0 _ _ ad (32, [(0, .ref 28), (1, .int v1), (2, .int v2)], [], I101, G101, (gP rd))
          refine am_blk 32 [(.aload_n 0, 1, 0, 0, .null), (.getfield 12, 3, 6, 1, .null), (.getfield 91, 3, 5, 8, .null), (.bipush (20), 2, 0, 0, .int (20 : Int32)), (.iconst (0), 1, 0, 0, .int (0 : Int32))] (42, [(0, .ref 28), (1, .int v1), (2, .int v2)], [.int (0 : Int32), .int (20 : Int32), .ref 38], I101, G101, (gP rd)) (True) hX hi (by decide +kernel) rfl trivial ?_
          refine am_callV hX hi (M := mX3_add) (idx := 161) (d' := 2) (b := 38) (ci := 3) (As := [.int (20 : Int32), .int (0 : Int32)]) (rest := []) mkX3_add miX3_add mvX3_add (by decide +kernel) (by decide +kernel) rfl (by decide +kernel) rfl ⟨by omega, by decide, Nat.le_of_ble_eq_true rfl⟩ rfl (c_X3_add_38 _ I101 G101 (20 : Int32) (0 : Int32)) ?_
          rintro r9 I9 G9 P9 ⟨e0, e1, e2, e3⟩
          rw [e0, e1, e2, e3]
          show am_V X 0 0 _ _ ad (45, [(0, .ref 28), (1, .int v1), (2, .int v2)], [], (g_X3_add_38 I101 G101 (20 : Int32) (0 : Int32)), G101, (gP rd))
          refine am_blk 45 [(.iinc 2 (1), 3, 2, 0, .int (1 : Int32)), (.goto (-41), 3, 0, 7, .null)] (7, [(0, .ref 28), (1, .int v1), (2, .int (v2 + (1 : Int32)))], [], (g_X3_add_38 I101 G101 (20 : Int32) (0 : Int32)), G101, (gP rd)) (True) hX hi (by decide +kernel) rfl trivial ?_
          exact ih _ _ _ _ _ h
set_option maxRecDepth 20000 in
set_option maxHeartbeats 4000000 in
theorem c_X6_readBoth_28 {cal : Nat → am_I → am_G → Int32 → Int32 → Option (Unit × am_I × am_G)} {n9 : Nat} (h0 : ∀ (rd : Nat) (I : am_I) (G : am_G) (a : Int32) (out : Unit × am_I × am_G), cal 0 I G a (0 : Int32) = some out → am_Ct mX6_readTest (8 + n9) gS [.ref 28, .int a] I G (gP rd) (pV out.2.1 out.2.2 (gP rd))) (h1 : ∀ (rd : Nat) (I : am_I) (G : am_G) (a : Int32) (out : Unit × am_I × am_G), cal 1 I G a (0 : Int32) = some out → am_Ct mX6_readBoth (8 + n9) gS [.ref 28, .int a] I G (gP rd) (pV out.2.1 out.2.2 (gP rd))) (h2 : ∀ (rd : Nat) (I : am_I) (G : am_G) (a : Int32) (out : Unit × am_I × am_G), cal 2 I G a (0 : Int32) = some out → am_Ct mX6_readSingle (8 + n9) gS [.ref 28, .int a] I G (gP rd) (pV out.2.1 out.2.2 (gP rd))) (h3 : ∀ (rd : Nat) (I : am_I) (G : am_G) (a : Int32) (out : Unit × am_I × am_G), cal 3 I G a (0 : Int32) = some out → am_Ct mX6_readSum (8 + n9) gS [.ref 28, .int a] I G (gP rd) (pV out.2.1 out.2.2 (gP rd))) (h4 : ∀ (rd : Nat) (I : am_I) (G : am_G) (a : Int32) (out : Unit × am_I × am_G), cal 4 I G a (0 : Int32) = some out → am_Ct mX6_readProduct (8 + n9) gS [.ref 28, .int a] I G (gP rd) (pV out.2.1 out.2.2 (gP rd))) (h5 : ∀ (rd : Nat) (I : am_I) (G : am_G) (a : Int32) (out : Unit × am_I × am_G), cal 5 I G a (0 : Int32) = some out → am_Ct mX6_readValue (8 + n9) gS [.ref 28, .int a] I G (gP rd) (pV out.2.1 out.2.2 (gP rd))) (h6 : ∀ (rd : Nat) (I : am_I) (G : am_G) (a : Int32) (out : Unit × am_I × am_G), cal 6 I G a (0 : Int32) = some out → am_Ct mX6_readPair (8 + n9) gS [.ref 28, .int a] I G (gP rd) (pV out.2.1 out.2.2 (gP rd))) (rd : Nat) (I : am_I) (G : am_G) (x1 : Int32) {out : Unit × am_I × am_G} (h : R_X6_readBoth_28 cal I G x1 = some out) : am_Ct mX6_readBoth (8 + n9 + 1) gS [.ref 28, .int x1] I G (gP rd) (pV out.2.1 out.2.2 (gP rd)) := by
  refine am_ofF (by decide +kernel) rfl (by decide) (by omega) (Nat.le_of_ble_eq_true rfl) (fun X ad hX hi => ?_)
  have hi : am_info X 6 cX6_readBoth 3 false none (8 + n9 + 1) := hi
  show am_V X 0 0 _ _ ad (0, [(0, .ref 28), (1, .int x1)], [], I, G, (gP rd))
  unfold R_X6_readBoth_28 at h
  refine am_blk 0 [(.aload_n 0, 1, 0, 0, .null), (.iload_n 1, 1, 1, 0, .null)] (2, [(0, .ref 28), (1, .int x1)], [.int x1, .ref 28], I, G, (gP rd)) (True) hX hi (by decide +kernel) rfl trivial ?_
  obtain ⟨r1, I1, G1, hc, h⟩ := rb_some h
  refine am_callV hX hi (M := mX6_readSingle) (idx := 164) (d' := (8 + n9)) (b := 28) (ci := 6) (As := [.int x1]) (rest := []) mkX6_readSingle miX6_readSingle mvX6_readSingle (by decide +kernel) (by decide +kernel) rfl (by decide +kernel) rfl ⟨by omega, by decide, Nat.le_of_ble_eq_true rfl⟩ rfl (h2 _ I G x1 _ hc) ?_
  rintro r9 I9 G9 P9 ⟨e0, e1, e2, e3⟩
  rw [e0, e1, e2, e3]
  show am_V X 0 0 _ _ ad (5, [(0, .ref 28), (1, .int x1)], [], I1, G1, (gP rd))
  refine am_blk 5 [(.iconst (0), 1, 0, 0, .int (0 : Int32)), (.istore_n 2, 1, 2, 0, .null)] (7, [(0, .ref 28), (1, .int x1), (2, .int (0 : Int32))], [], I1, G1, (gP rd)) (True) hX hi (by decide +kernel) rfl trivial ?_
  exact (l_X6_readBoth_28 h0 h1 h2 h3 h4 h5 h6 rd hX hi FU) _ _ _ _ _ h
noncomputable def R_X6_readSingle_28 (cal : Nat → am_I → am_G → Int32 → Int32 → Option (Unit × am_I × am_G)) (I : am_I) (G : am_G) (x1 : Int32) : Option (Unit × am_I × am_G) := (if (I 28 6) = (19 : Int32) then (if x1 < (8 : Int32) then (if (I 28 6) = (19 : Int32) then rb (cal 2 (g_X6_advance_28 I G ) G (x1 + (1 : Int32)) (0 : Int32)) (fun r5 I5 G5 => some ((), (g_X3_add_38 I5 G5 (19 : Int32) (0 : Int32)), G5)) else (if (I 28 6) = (26 : Int32) then rb (cal 0 (g_X6_advance_28 I G ) G (x1 + (1 : Int32)) (0 : Int32)) (fun r4 I4 G4 => some ((), (g_X6_expect_28 I4 G4 (27 : Int32)), G4)) else (if (I 28 6) = (18 : Int32) then rb (R_X6_readKnownName_28_51 (g_X6_advance_28 I G ) G ) (fun r3 I3 G3 => some ((), (g_X3_add_38 I3 G3 (18 : Int32) r3), G3)) else rb (cal 3 I G x1 (0 : Int32)) (fun r1 I1 G1 => rb (cal 3 (g_X6_readComparison_28 I1 G1 ) G1 x1 (0 : Int32)) (fun r2 I2 G2 => some ((), (g_X3_add_38 I2 G2 (f_X6_readComparison_28 I1 G1 ) (0 : Int32)), G2)))))) else some ((), (g_X6_refuse_28 I G ), G)) else (if (I 28 6) = (26 : Int32) then (if x1 < (8 : Int32) then (if (I 28 6) = (19 : Int32) then rb (cal 2 (g_X6_advance_28 I G ) G (x1 + (1 : Int32)) (0 : Int32)) (fun r15 I15 G15 => some ((), (g_X3_add_38 I15 G15 (19 : Int32) (0 : Int32)), G15)) else (if (I 28 6) = (26 : Int32) then rb (cal 0 (g_X6_advance_28 I G ) G (x1 + (1 : Int32)) (0 : Int32)) (fun r14 I14 G14 => some ((), (g_X6_expect_28 I14 G14 (27 : Int32)), G14)) else (if (I 28 6) = (18 : Int32) then rb (R_X6_readKnownName_28_51 (g_X6_advance_28 I G ) G ) (fun r13 I13 G13 => some ((), (g_X3_add_38 I13 G13 (18 : Int32) r13), G13)) else rb (cal 3 I G x1 (0 : Int32)) (fun r11 I11 G11 => rb (cal 3 (g_X6_readComparison_28 I11 G11 ) G11 x1 (0 : Int32)) (fun r12 I12 G12 => some ((), (g_X3_add_38 I12 G12 (f_X6_readComparison_28 I11 G11 ) (0 : Int32)), G12)))))) else some ((), (g_X6_refuse_28 I G ), G)) else (if (I 28 6) = (19 : Int32) then rb (cal 2 (g_X6_advance_28 I G ) G (x1 + (1 : Int32)) (0 : Int32)) (fun r10 I10 G10 => some ((), (g_X3_add_38 I10 G10 (19 : Int32) (0 : Int32)), G10)) else (if (I 28 6) = (26 : Int32) then rb (cal 0 (g_X6_advance_28 I G ) G (x1 + (1 : Int32)) (0 : Int32)) (fun r9 I9 G9 => some ((), (g_X6_expect_28 I9 G9 (27 : Int32)), G9)) else (if (I 28 6) = (18 : Int32) then rb (R_X6_readKnownName_28_51 (g_X6_advance_28 I G ) G ) (fun r8 I8 G8 => some ((), (g_X3_add_38 I8 G8 (18 : Int32) r8), G8)) else rb (cal 3 I G x1 (0 : Int32)) (fun r6 I6 G6 => rb (cal 3 (g_X6_readComparison_28 I6 G6 ) G6 x1 (0 : Int32)) (fun r7 I7 G7 => some ((), (g_X3_add_38 I7 G7 (f_X6_readComparison_28 I6 G6 ) (0 : Int32)), G7))))))))
set_option maxRecDepth 20000 in
set_option maxHeartbeats 4000000 in
theorem c_X6_readSingle_28 {cal : Nat → am_I → am_G → Int32 → Int32 → Option (Unit × am_I × am_G)} {n9 : Nat} (h0 : ∀ (rd : Nat) (I : am_I) (G : am_G) (a : Int32) (out : Unit × am_I × am_G), cal 0 I G a (0 : Int32) = some out → am_Ct mX6_readTest (8 + n9) gS [.ref 28, .int a] I G (gP rd) (pV out.2.1 out.2.2 (gP rd))) (h1 : ∀ (rd : Nat) (I : am_I) (G : am_G) (a : Int32) (out : Unit × am_I × am_G), cal 1 I G a (0 : Int32) = some out → am_Ct mX6_readBoth (8 + n9) gS [.ref 28, .int a] I G (gP rd) (pV out.2.1 out.2.2 (gP rd))) (h2 : ∀ (rd : Nat) (I : am_I) (G : am_G) (a : Int32) (out : Unit × am_I × am_G), cal 2 I G a (0 : Int32) = some out → am_Ct mX6_readSingle (8 + n9) gS [.ref 28, .int a] I G (gP rd) (pV out.2.1 out.2.2 (gP rd))) (h3 : ∀ (rd : Nat) (I : am_I) (G : am_G) (a : Int32) (out : Unit × am_I × am_G), cal 3 I G a (0 : Int32) = some out → am_Ct mX6_readSum (8 + n9) gS [.ref 28, .int a] I G (gP rd) (pV out.2.1 out.2.2 (gP rd))) (h4 : ∀ (rd : Nat) (I : am_I) (G : am_G) (a : Int32) (out : Unit × am_I × am_G), cal 4 I G a (0 : Int32) = some out → am_Ct mX6_readProduct (8 + n9) gS [.ref 28, .int a] I G (gP rd) (pV out.2.1 out.2.2 (gP rd))) (h5 : ∀ (rd : Nat) (I : am_I) (G : am_G) (a : Int32) (out : Unit × am_I × am_G), cal 5 I G a (0 : Int32) = some out → am_Ct mX6_readValue (8 + n9) gS [.ref 28, .int a] I G (gP rd) (pV out.2.1 out.2.2 (gP rd))) (h6 : ∀ (rd : Nat) (I : am_I) (G : am_G) (a : Int32) (out : Unit × am_I × am_G), cal 6 I G a (0 : Int32) = some out → am_Ct mX6_readPair (8 + n9) gS [.ref 28, .int a] I G (gP rd) (pV out.2.1 out.2.2 (gP rd))) (rd : Nat) (I : am_I) (G : am_G) (x1 : Int32) {out : Unit × am_I × am_G} (h : R_X6_readSingle_28 cal I G x1 = some out) : am_Ct mX6_readSingle (8 + n9 + 1) gS [.ref 28, .int x1] I G (gP rd) (pV out.2.1 out.2.2 (gP rd)) := by
  refine am_ofF (by decide +kernel) rfl (by decide) (by omega) (Nat.le_of_ble_eq_true rfl) (fun X ad hX hi => ?_)
  have hi : am_info X 6 cX6_readSingle 3 false none (8 + n9 + 1) := hi
  show am_V X 0 0 _ _ ad (0, [(0, .ref 28), (1, .int x1)], [], I, G, (gP rd))
  unfold R_X6_readSingle_28 at h
  refine am_blk 0 [(.aload_n 0, 1, 0, 0, .null), (.getfield 62, 3, 6, 6, .null), (.bipush (19), 2, 0, 0, .int (19 : Int32))] (6, [(0, .ref 28), (1, .int x1)], [.int (19 : Int32), .int (I 28 6)], I, G, (gP rd)) (True) hX hi (by decide +kernel) rfl trivial ?_
  refine am_icmp_eq (tgt := 18) hX hi (off := (12)) (by decide +kernel) (by decide) (fun c6 => ?_) (fun c6 => ?_)
  · rw [if_pos c6] at h
    refine am_blk 18 [(.iload_n 1, 1, 1, 0, .null), (.bipush (8), 2, 0, 0, .int (8 : Int32))] (21, [(0, .ref 28), (1, .int x1)], [.int (8 : Int32), .int x1], I, G, (gP rd)) (True) hX hi (by decide +kernel) rfl trivial ?_
    refine am_icmp_lt (tgt := 31) hX hi (off := (10)) (by decide +kernel) (by decide) (fun c21 => ?_) (fun c21 => ?_)
    · rw [if_pos c21] at h
      refine am_blk 31 [(.aload_n 0, 1, 0, 0, .null), (.getfield 62, 3, 6, 6, .null), (.bipush (19), 2, 0, 0, .int (19 : Int32))] (37, [(0, .ref 28), (1, .int x1)], [.int (19 : Int32), .int (I 28 6)], I, G, (gP rd)) (True) hX hi (by decide +kernel) rfl trivial ?_
      refine am_icmp_ne (tgt := 67) hX hi (off := (30)) (by decide +kernel) (by decide) (fun c37 => ?_) (fun c37 => ?_)
      · rw [if_neg c37] at h
        refine am_blk 67 [(.aload_n 0, 1, 0, 0, .null), (.getfield 62, 3, 6, 6, .null), (.bipush (26), 2, 0, 0, .int (26 : Int32))] (73, [(0, .ref 28), (1, .int x1)], [.int (26 : Int32), .int (I 28 6)], I, G, (gP rd)) (True) hX hi (by decide +kernel) rfl trivial ?_
        refine am_icmp_ne (tgt := 96) hX hi (off := (23)) (by decide +kernel) (by decide) (fun c73 => ?_) (fun c73 => ?_)
        · rw [if_neg c73] at h
          refine am_blk 96 [(.aload_n 0, 1, 0, 0, .null), (.getfield 62, 3, 6, 6, .null), (.bipush (18), 2, 0, 0, .int (18 : Int32))] (102, [(0, .ref 28), (1, .int x1)], [.int (18 : Int32), .int (I 28 6)], I, G, (gP rd)) (True) hX hi (by decide +kernel) rfl trivial ?_
          refine am_icmp_ne (tgt := 132) hX hi (off := (30)) (by decide +kernel) (by decide) (fun c102 => ?_) (fun c102 => ?_)
          · rw [if_neg c102] at h
            refine am_blk 132 [(.aload_n 0, 1, 0, 0, .null), (.iload_n 1, 1, 1, 0, .null)] (134, [(0, .ref 28), (1, .int x1)], [.int x1, .ref 28], I, G, (gP rd)) (True) hX hi (by decide +kernel) rfl trivial ?_
            obtain ⟨r1, I1, G1, hc, h⟩ := rb_some h
            refine am_callV hX hi (M := mX6_readSum) (idx := 88) (d' := (8 + n9)) (b := 28) (ci := 6) (As := [.int x1]) (rest := []) mkX6_readSum miX6_readSum mvX6_readSum (by decide +kernel) (by decide +kernel) rfl (by decide +kernel) rfl ⟨by omega, by decide, Nat.le_of_ble_eq_true rfl⟩ rfl (h3 _ I G x1 _ hc) ?_
            rintro rz Iz Gz Pz ⟨e0, e1, e2, e3⟩
            rw [e0, e1, e2, e3]
            show am_V X 0 0 _ _ ad (137, [(0, .ref 28), (1, .int x1)], [], I1, G1, (gP rd))
            refine am_blk 137 [(.aload_n 0, 1, 0, 0, .null)] (138, [(0, .ref 28), (1, .int x1)], [.ref 28], I1, G1, (gP rd)) (True) hX hi (by decide +kernel) rfl trivial ?_
            refine am_callV hX hi (M := mX6_readComparison) (idx := 167) (d' := 3) (b := 28) (ci := 6) (As := []) (rest := []) mkX6_readComparison miX6_readComparison mvX6_readComparison (by decide +kernel) (by decide +kernel) rfl (by decide +kernel) rfl ⟨by omega, by decide, Nat.le_of_ble_eq_true rfl⟩ rfl (c_X6_readComparison_28 _ I1 G1 ) ?_
            rintro rz Iz Gz Pz ⟨e0, e1, e2, e3⟩
            rw [e0, e1, e2, e3]
            show am_V X 0 0 _ _ ad (141, [(0, .ref 28), (1, .int x1)], [.int (f_X6_readComparison_28 I1 G1 )], (g_X6_readComparison_28 I1 G1 ), G1, (gP rd))
            refine am_blk 141 [(.istore_n 2, 1, 2, 0, .null), (.aload_n 0, 1, 0, 0, .null), (.iload_n 1, 1, 1, 0, .null)] (144, [(0, .ref 28), (1, .int x1), (2, .int (f_X6_readComparison_28 I1 G1 ))], [.int x1, .ref 28], (g_X6_readComparison_28 I1 G1 ), G1, (gP rd)) (True) hX hi (by decide +kernel) rfl trivial ?_
            obtain ⟨r2, I2, G2, hc, h⟩ := rb_some h
            refine am_callV hX hi (M := mX6_readSum) (idx := 88) (d' := (8 + n9)) (b := 28) (ci := 6) (As := [.int x1]) (rest := []) mkX6_readSum miX6_readSum mvX6_readSum (by decide +kernel) (by decide +kernel) rfl (by decide +kernel) rfl ⟨by omega, by decide, Nat.le_of_ble_eq_true rfl⟩ rfl (h3 _ (g_X6_readComparison_28 I1 G1 ) G1 x1 _ hc) ?_
            rintro rz Iz Gz Pz ⟨e0, e1, e2, e3⟩
            rw [e0, e1, e2, e3]
            show am_V X 0 0 _ _ ad (147, [(0, .ref 28), (1, .int x1), (2, .int (f_X6_readComparison_28 I1 G1 ))], [], I2, G2, (gP rd))
            refine am_blk 147 [(.aload_n 0, 1, 0, 0, .null), (.getfield 12, 3, 6, 1, .null), (.getfield 91, 3, 5, 8, .null), (.iload_n 2, 1, 2, 0, .null), (.iconst (0), 1, 0, 0, .int (0 : Int32))] (156, [(0, .ref 28), (1, .int x1), (2, .int (f_X6_readComparison_28 I1 G1 ))], [.int (0 : Int32), .int (f_X6_readComparison_28 I1 G1 ), .ref 38], I2, G2, (gP rd)) (True) hX hi (by decide +kernel) rfl trivial ?_
            refine am_callV hX hi (M := mX3_add) (idx := 161) (d' := 2) (b := 38) (ci := 3) (As := [.int (f_X6_readComparison_28 I1 G1 ), .int (0 : Int32)]) (rest := []) mkX3_add miX3_add mvX3_add (by decide +kernel) (by decide +kernel) rfl (by decide +kernel) rfl ⟨by omega, by decide, Nat.le_of_ble_eq_true rfl⟩ rfl (c_X3_add_38 _ I2 G2 (f_X6_readComparison_28 I1 G1 ) (0 : Int32)) ?_
            rintro rz Iz Gz Pz ⟨e0, e1, e2, e3⟩
            rw [e0, e1, e2, e3]
            show am_V X 0 0 _ _ ad (159, [(0, .ref 28), (1, .int x1), (2, .int (f_X6_readComparison_28 I1 G1 ))], [], (g_X3_add_38 I2 G2 (f_X6_readComparison_28 I1 G1 ) (0 : Int32)), G2, (gP rd))
            cases h
            refine am_vret hX hi rfl (by decide +kernel) ?_
            exact ⟨rfl, rfl, rfl, rfl⟩
          · rw [if_pos c102] at h
            refine am_blk 105 [(.aload_n 0, 1, 0, 0, .null)] (106, [(0, .ref 28), (1, .int x1)], [.ref 28], I, G, (gP rd)) (True) hX hi (by decide +kernel) rfl trivial ?_
            refine am_callV hX hi (M := mX6_advance) (idx := 100) (d' := 2) (b := 28) (ci := 6) (As := []) (rest := []) mkX6_advance miX6_advance mvX6_advance (by decide +kernel) (by decide +kernel) rfl (by decide +kernel) rfl ⟨by omega, by decide, Nat.le_of_ble_eq_true rfl⟩ rfl (c_X6_advance_28 _ I G ) ?_
            rintro rz Iz Gz Pz ⟨e0, e1, e2, e3⟩
            rw [e0, e1, e2, e3]
            show am_V X 0 0 _ _ ad (109, [(0, .ref 28), (1, .int x1)], [], (g_X6_advance_28 I G ), G, (gP rd))
            refine am_blk 109 [(.aload_n 0, 1, 0, 0, .null), (.getfield 12, 3, 6, 1, .null), (.getfield 91, 3, 5, 8, .null), (.bipush (18), 2, 0, 0, .int (18 : Int32)), (.aload_n 0, 1, 0, 0, .null), (.aload_n 0, 1, 0, 0, .null), (.getfield 30, 3, 6, 4, .null)] (123, [(0, .ref 28), (1, .int x1)], [.ref 51, .ref 28, .int (18 : Int32), .ref 38], (g_X6_advance_28 I G ), G, (gP rd)) (True) hX hi (by decide +kernel) rfl trivial ?_
            obtain ⟨r3, I3, G3, hc, h⟩ := rb_some h
            refine am_callV hX hi (M := mX6_readKnownName) (idx := 150) (d' := 3) (b := 28) (ci := 6) (As := [.ref 51]) (rest := [.int (18 : Int32), .ref 38]) mkX6_readKnownName miX6_readKnownName mvX6_readKnownName (by decide +kernel) (by decide +kernel) rfl (by decide +kernel) rfl ⟨by omega, by decide, Nat.le_of_ble_eq_true rfl⟩ rfl (c_X6_readKnownName_28_51 _ (g_X6_advance_28 I G ) G  hc) ?_
            rintro rz Iz Gz Pz ⟨e0, e1, e2, e3⟩
            rw [e0, e1, e2, e3]
            show am_V X 0 0 _ _ ad (126, [(0, .ref 28), (1, .int x1)], [.int r3, .int (18 : Int32), .ref 38], I3, G3, (gP rd))
            refine am_callV hX hi (M := mX3_add) (idx := 161) (d' := 2) (b := 38) (ci := 3) (As := [.int (18 : Int32), .int r3]) (rest := []) mkX3_add miX3_add mvX3_add (by decide +kernel) (by decide +kernel) rfl (by decide +kernel) rfl ⟨by omega, by decide, Nat.le_of_ble_eq_true rfl⟩ rfl (c_X3_add_38 _ I3 G3 (18 : Int32) r3) ?_
            rintro rz Iz Gz Pz ⟨e0, e1, e2, e3⟩
            rw [e0, e1, e2, e3]
            show am_V X 0 0 _ _ ad (129, [(0, .ref 28), (1, .int x1)], [], (g_X3_add_38 I3 G3 (18 : Int32) r3), G3, (gP rd))
            refine am_blk 129 [(.goto (30), 3, 0, 159, .null)] (159, [(0, .ref 28), (1, .int x1)], [], (g_X3_add_38 I3 G3 (18 : Int32) r3), G3, (gP rd)) (True) hX hi (by decide +kernel) rfl trivial ?_
            cases h
            refine am_vret hX hi rfl (by decide +kernel) ?_
            exact ⟨rfl, rfl, rfl, rfl⟩
        · rw [if_pos c73] at h
          refine am_blk 76 [(.aload_n 0, 1, 0, 0, .null)] (77, [(0, .ref 28), (1, .int x1)], [.ref 28], I, G, (gP rd)) (True) hX hi (by decide +kernel) rfl trivial ?_
          refine am_callV hX hi (M := mX6_advance) (idx := 100) (d' := 2) (b := 28) (ci := 6) (As := []) (rest := []) mkX6_advance miX6_advance mvX6_advance (by decide +kernel) (by decide +kernel) rfl (by decide +kernel) rfl ⟨by omega, by decide, Nat.le_of_ble_eq_true rfl⟩ rfl (c_X6_advance_28 _ I G ) ?_
          rintro rz Iz Gz Pz ⟨e0, e1, e2, e3⟩
          rw [e0, e1, e2, e3]
          show am_V X 0 0 _ _ ad (80, [(0, .ref 28), (1, .int x1)], [], (g_X6_advance_28 I G ), G, (gP rd))
          refine am_blk 80 [(.aload_n 0, 1, 0, 0, .null), (.iload_n 1, 1, 1, 0, .null), (.iconst (1), 1, 0, 0, .int (1 : Int32)), (.iadd, 1, 0, 0, .null)] (84, [(0, .ref 28), (1, .int x1)], [.int (x1 + (1 : Int32)), .ref 28], (g_X6_advance_28 I G ), G, (gP rd)) (True) hX hi (by decide +kernel) rfl trivial ?_
          obtain ⟨r4, I4, G4, hc, h⟩ := rb_some h
          refine am_callV hX hi (M := mX6_readTest) (idx := 103) (d' := (8 + n9)) (b := 28) (ci := 6) (As := [.int (x1 + (1 : Int32))]) (rest := []) mkX6_readTest miX6_readTest mvX6_readTest (by decide +kernel) (by decide +kernel) rfl (by decide +kernel) rfl ⟨by omega, by decide, Nat.le_of_ble_eq_true rfl⟩ rfl (h0 _ (g_X6_advance_28 I G ) G (x1 + (1 : Int32)) _ hc) ?_
          rintro rz Iz Gz Pz ⟨e0, e1, e2, e3⟩
          rw [e0, e1, e2, e3]
          show am_V X 0 0 _ _ ad (87, [(0, .ref 28), (1, .int x1)], [], I4, G4, (gP rd))
          refine am_blk 87 [(.aload_n 0, 1, 0, 0, .null), (.bipush (27), 2, 0, 0, .int (27 : Int32))] (90, [(0, .ref 28), (1, .int x1)], [.int (27 : Int32), .ref 28], I4, G4, (gP rd)) (True) hX hi (by decide +kernel) rfl trivial ?_
          refine am_callV hX hi (M := mX6_expect) (idx := 109) (d' := 3) (b := 28) (ci := 6) (As := [.int (27 : Int32)]) (rest := []) mkX6_expect miX6_expect mvX6_expect (by decide +kernel) (by decide +kernel) rfl (by decide +kernel) rfl ⟨by omega, by decide, Nat.le_of_ble_eq_true rfl⟩ rfl (c_X6_expect_28 _ I4 G4 (27 : Int32)) ?_
          rintro rz Iz Gz Pz ⟨e0, e1, e2, e3⟩
          rw [e0, e1, e2, e3]
          show am_V X 0 0 _ _ ad (93, [(0, .ref 28), (1, .int x1)], [], (g_X6_expect_28 I4 G4 (27 : Int32)), G4, (gP rd))
          refine am_blk 93 [(.goto (66), 3, 0, 159, .null)] (159, [(0, .ref 28), (1, .int x1)], [], (g_X6_expect_28 I4 G4 (27 : Int32)), G4, (gP rd)) (True) hX hi (by decide +kernel) rfl trivial ?_
          cases h
          refine am_vret hX hi rfl (by decide +kernel) ?_
          exact ⟨rfl, rfl, rfl, rfl⟩
      · rw [if_pos c37] at h
        refine am_blk 40 [(.aload_n 0, 1, 0, 0, .null)] (41, [(0, .ref 28), (1, .int x1)], [.ref 28], I, G, (gP rd)) (True) hX hi (by decide +kernel) rfl trivial ?_
        refine am_callV hX hi (M := mX6_advance) (idx := 100) (d' := 2) (b := 28) (ci := 6) (As := []) (rest := []) mkX6_advance miX6_advance mvX6_advance (by decide +kernel) (by decide +kernel) rfl (by decide +kernel) rfl ⟨by omega, by decide, Nat.le_of_ble_eq_true rfl⟩ rfl (c_X6_advance_28 _ I G ) ?_
        rintro rz Iz Gz Pz ⟨e0, e1, e2, e3⟩
        rw [e0, e1, e2, e3]
        show am_V X 0 0 _ _ ad (44, [(0, .ref 28), (1, .int x1)], [], (g_X6_advance_28 I G ), G, (gP rd))
        refine am_blk 44 [(.aload_n 0, 1, 0, 0, .null), (.iload_n 1, 1, 1, 0, .null), (.iconst (1), 1, 0, 0, .int (1 : Int32)), (.iadd, 1, 0, 0, .null)] (48, [(0, .ref 28), (1, .int x1)], [.int (x1 + (1 : Int32)), .ref 28], (g_X6_advance_28 I G ), G, (gP rd)) (True) hX hi (by decide +kernel) rfl trivial ?_
        obtain ⟨r5, I5, G5, hc, h⟩ := rb_some h
        refine am_callV hX hi (M := mX6_readSingle) (idx := 164) (d' := (8 + n9)) (b := 28) (ci := 6) (As := [.int (x1 + (1 : Int32))]) (rest := []) mkX6_readSingle miX6_readSingle mvX6_readSingle (by decide +kernel) (by decide +kernel) rfl (by decide +kernel) rfl ⟨by omega, by decide, Nat.le_of_ble_eq_true rfl⟩ rfl (h2 _ (g_X6_advance_28 I G ) G (x1 + (1 : Int32)) _ hc) ?_
        rintro rz Iz Gz Pz ⟨e0, e1, e2, e3⟩
        rw [e0, e1, e2, e3]
        show am_V X 0 0 _ _ ad (51, [(0, .ref 28), (1, .int x1)], [], I5, G5, (gP rd))
        refine am_blk 51 [(.aload_n 0, 1, 0, 0, .null), (.getfield 12, 3, 6, 1, .null), (.getfield 91, 3, 5, 8, .null), (.bipush (19), 2, 0, 0, .int (19 : Int32)), (.iconst (0), 1, 0, 0, .int (0 : Int32))] (61, [(0, .ref 28), (1, .int x1)], [.int (0 : Int32), .int (19 : Int32), .ref 38], I5, G5, (gP rd)) (True) hX hi (by decide +kernel) rfl trivial ?_
        refine am_callV hX hi (M := mX3_add) (idx := 161) (d' := 2) (b := 38) (ci := 3) (As := [.int (19 : Int32), .int (0 : Int32)]) (rest := []) mkX3_add miX3_add mvX3_add (by decide +kernel) (by decide +kernel) rfl (by decide +kernel) rfl ⟨by omega, by decide, Nat.le_of_ble_eq_true rfl⟩ rfl (c_X3_add_38 _ I5 G5 (19 : Int32) (0 : Int32)) ?_
        rintro rz Iz Gz Pz ⟨e0, e1, e2, e3⟩
        rw [e0, e1, e2, e3]
        show am_V X 0 0 _ _ ad (64, [(0, .ref 28), (1, .int x1)], [], (g_X3_add_38 I5 G5 (19 : Int32) (0 : Int32)), G5, (gP rd))
        refine am_blk 64 [(.goto (95), 3, 0, 159, .null)] (159, [(0, .ref 28), (1, .int x1)], [], (g_X3_add_38 I5 G5 (19 : Int32) (0 : Int32)), G5, (gP rd)) (True) hX hi (by decide +kernel) rfl trivial ?_
        cases h
        refine am_vret hX hi rfl (by decide +kernel) ?_
        exact ⟨rfl, rfl, rfl, rfl⟩
    · rw [if_neg c21] at h
      refine am_blk 24 [(.aload_n 0, 1, 0, 0, .null)] (25, [(0, .ref 28), (1, .int x1)], [.ref 28], I, G, (gP rd)) (True) hX hi (by decide +kernel) rfl trivial ?_
      refine am_callV hX hi (M := mX6_refuse) (idx := 70) (d' := 2) (b := 28) (ci := 6) (As := []) (rest := []) mkX6_refuse miX6_refuse mvX6_refuse (by decide +kernel) (by decide +kernel) rfl (by decide +kernel) rfl ⟨by omega, by decide, Nat.le_of_ble_eq_true rfl⟩ rfl (c_X6_refuse_28 _ I G ) ?_
      rintro rz Iz Gz Pz ⟨e0, e1, e2, e3⟩
      rw [e0, e1, e2, e3]
      show am_V X 0 0 _ _ ad (28, [(0, .ref 28), (1, .int x1)], [], (g_X6_refuse_28 I G ), G, (gP rd))
      refine am_blk 28 [(.goto (131), 3, 0, 159, .null)] (159, [(0, .ref 28), (1, .int x1)], [], (g_X6_refuse_28 I G ), G, (gP rd)) (True) hX hi (by decide +kernel) rfl trivial ?_
      cases h
      refine am_vret hX hi rfl (by decide +kernel) ?_
      exact ⟨rfl, rfl, rfl, rfl⟩
  · rw [if_neg c6] at h
    refine am_blk 9 [(.aload_n 0, 1, 0, 0, .null), (.getfield 62, 3, 6, 6, .null), (.bipush (26), 2, 0, 0, .int (26 : Int32))] (15, [(0, .ref 28), (1, .int x1)], [.int (26 : Int32), .int (I 28 6)], I, G, (gP rd)) (True) hX hi (by decide +kernel) rfl trivial ?_
    refine am_icmp_ne (tgt := 31) hX hi (off := (16)) (by decide +kernel) (by decide) (fun c15 => ?_) (fun c15 => ?_)
    · rw [if_neg c15] at h
      refine am_blk 31 [(.aload_n 0, 1, 0, 0, .null), (.getfield 62, 3, 6, 6, .null), (.bipush (19), 2, 0, 0, .int (19 : Int32))] (37, [(0, .ref 28), (1, .int x1)], [.int (19 : Int32), .int (I 28 6)], I, G, (gP rd)) (True) hX hi (by decide +kernel) rfl trivial ?_
      refine am_icmp_ne (tgt := 67) hX hi (off := (30)) (by decide +kernel) (by decide) (fun c37 => ?_) (fun c37 => ?_)
      · rw [if_neg c37] at h
        refine am_blk 67 [(.aload_n 0, 1, 0, 0, .null), (.getfield 62, 3, 6, 6, .null), (.bipush (26), 2, 0, 0, .int (26 : Int32))] (73, [(0, .ref 28), (1, .int x1)], [.int (26 : Int32), .int (I 28 6)], I, G, (gP rd)) (True) hX hi (by decide +kernel) rfl trivial ?_
        refine am_icmp_ne (tgt := 96) hX hi (off := (23)) (by decide +kernel) (by decide) (fun c73 => ?_) (fun c73 => ?_)
        · rw [if_neg c73] at h
          refine am_blk 96 [(.aload_n 0, 1, 0, 0, .null), (.getfield 62, 3, 6, 6, .null), (.bipush (18), 2, 0, 0, .int (18 : Int32))] (102, [(0, .ref 28), (1, .int x1)], [.int (18 : Int32), .int (I 28 6)], I, G, (gP rd)) (True) hX hi (by decide +kernel) rfl trivial ?_
          refine am_icmp_ne (tgt := 132) hX hi (off := (30)) (by decide +kernel) (by decide) (fun c102 => ?_) (fun c102 => ?_)
          · rw [if_neg c102] at h
            refine am_blk 132 [(.aload_n 0, 1, 0, 0, .null), (.iload_n 1, 1, 1, 0, .null)] (134, [(0, .ref 28), (1, .int x1)], [.int x1, .ref 28], I, G, (gP rd)) (True) hX hi (by decide +kernel) rfl trivial ?_
            obtain ⟨r6, I6, G6, hc, h⟩ := rb_some h
            refine am_callV hX hi (M := mX6_readSum) (idx := 88) (d' := (8 + n9)) (b := 28) (ci := 6) (As := [.int x1]) (rest := []) mkX6_readSum miX6_readSum mvX6_readSum (by decide +kernel) (by decide +kernel) rfl (by decide +kernel) rfl ⟨by omega, by decide, Nat.le_of_ble_eq_true rfl⟩ rfl (h3 _ I G x1 _ hc) ?_
            rintro rz Iz Gz Pz ⟨e0, e1, e2, e3⟩
            rw [e0, e1, e2, e3]
            show am_V X 0 0 _ _ ad (137, [(0, .ref 28), (1, .int x1)], [], I6, G6, (gP rd))
            refine am_blk 137 [(.aload_n 0, 1, 0, 0, .null)] (138, [(0, .ref 28), (1, .int x1)], [.ref 28], I6, G6, (gP rd)) (True) hX hi (by decide +kernel) rfl trivial ?_
            refine am_callV hX hi (M := mX6_readComparison) (idx := 167) (d' := 3) (b := 28) (ci := 6) (As := []) (rest := []) mkX6_readComparison miX6_readComparison mvX6_readComparison (by decide +kernel) (by decide +kernel) rfl (by decide +kernel) rfl ⟨by omega, by decide, Nat.le_of_ble_eq_true rfl⟩ rfl (c_X6_readComparison_28 _ I6 G6 ) ?_
            rintro rz Iz Gz Pz ⟨e0, e1, e2, e3⟩
            rw [e0, e1, e2, e3]
            show am_V X 0 0 _ _ ad (141, [(0, .ref 28), (1, .int x1)], [.int (f_X6_readComparison_28 I6 G6 )], (g_X6_readComparison_28 I6 G6 ), G6, (gP rd))
            refine am_blk 141 [(.istore_n 2, 1, 2, 0, .null), (.aload_n 0, 1, 0, 0, .null), (.iload_n 1, 1, 1, 0, .null)] (144, [(0, .ref 28), (1, .int x1), (2, .int (f_X6_readComparison_28 I6 G6 ))], [.int x1, .ref 28], (g_X6_readComparison_28 I6 G6 ), G6, (gP rd)) (True) hX hi (by decide +kernel) rfl trivial ?_
            obtain ⟨r7, I7, G7, hc, h⟩ := rb_some h
            refine am_callV hX hi (M := mX6_readSum) (idx := 88) (d' := (8 + n9)) (b := 28) (ci := 6) (As := [.int x1]) (rest := []) mkX6_readSum miX6_readSum mvX6_readSum (by decide +kernel) (by decide +kernel) rfl (by decide +kernel) rfl ⟨by omega, by decide, Nat.le_of_ble_eq_true rfl⟩ rfl (h3 _ (g_X6_readComparison_28 I6 G6 ) G6 x1 _ hc) ?_
            rintro rz Iz Gz Pz ⟨e0, e1, e2, e3⟩
            rw [e0, e1, e2, e3]
            show am_V X 0 0 _ _ ad (147, [(0, .ref 28), (1, .int x1), (2, .int (f_X6_readComparison_28 I6 G6 ))], [], I7, G7, (gP rd))
            refine am_blk 147 [(.aload_n 0, 1, 0, 0, .null), (.getfield 12, 3, 6, 1, .null), (.getfield 91, 3, 5, 8, .null), (.iload_n 2, 1, 2, 0, .null), (.iconst (0), 1, 0, 0, .int (0 : Int32))] (156, [(0, .ref 28), (1, .int x1), (2, .int (f_X6_readComparison_28 I6 G6 ))], [.int (0 : Int32), .int (f_X6_readComparison_28 I6 G6 ), .ref 38], I7, G7, (gP rd)) (True) hX hi (by decide +kernel) rfl trivial ?_
            refine am_callV hX hi (M := mX3_add) (idx := 161) (d' := 2) (b := 38) (ci := 3) (As := [.int (f_X6_readComparison_28 I6 G6 ), .int (0 : Int32)]) (rest := []) mkX3_add miX3_add mvX3_add (by decide +kernel) (by decide +kernel) rfl (by decide +kernel) rfl ⟨by omega, by decide, Nat.le_of_ble_eq_true rfl⟩ rfl (c_X3_add_38 _ I7 G7 (f_X6_readComparison_28 I6 G6 ) (0 : Int32)) ?_
            rintro rz Iz Gz Pz ⟨e0, e1, e2, e3⟩
            rw [e0, e1, e2, e3]
            show am_V X 0 0 _ _ ad (159, [(0, .ref 28), (1, .int x1), (2, .int (f_X6_readComparison_28 I6 G6 ))], [], (g_X3_add_38 I7 G7 (f_X6_readComparison_28 I6 G6 ) (0 : Int32)), G7, (gP rd))
            cases h
            refine am_vret hX hi rfl (by decide +kernel) ?_
            exact ⟨rfl, rfl, rfl, rfl⟩
          · rw [if_pos c102] at h
            refine am_blk 105 [(.aload_n 0, 1, 0, 0, .null)] (106, [(0, .ref 28), (1, .int x1)], [.ref 28], I, G, (gP rd)) (True) hX hi (by decide +kernel) rfl trivial ?_
            refine am_callV hX hi (M := mX6_advance) (idx := 100) (d' := 2) (b := 28) (ci := 6) (As := []) (rest := []) mkX6_advance miX6_advance mvX6_advance (by decide +kernel) (by decide +kernel) rfl (by decide +kernel) rfl ⟨by omega, by decide, Nat.le_of_ble_eq_true rfl⟩ rfl (c_X6_advance_28 _ I G ) ?_
            rintro rz Iz Gz Pz ⟨e0, e1, e2, e3⟩
            rw [e0, e1, e2, e3]
            show am_V X 0 0 _ _ ad (109, [(0, .ref 28), (1, .int x1)], [], (g_X6_advance_28 I G ), G, (gP rd))
            refine am_blk 109 [(.aload_n 0, 1, 0, 0, .null), (.getfield 12, 3, 6, 1, .null), (.getfield 91, 3, 5, 8, .null), (.bipush (18), 2, 0, 0, .int (18 : Int32)), (.aload_n 0, 1, 0, 0, .null), (.aload_n 0, 1, 0, 0, .null), (.getfield 30, 3, 6, 4, .null)] (123, [(0, .ref 28), (1, .int x1)], [.ref 51, .ref 28, .int (18 : Int32), .ref 38], (g_X6_advance_28 I G ), G, (gP rd)) (True) hX hi (by decide +kernel) rfl trivial ?_
            obtain ⟨r8, I8, G8, hc, h⟩ := rb_some h
            refine am_callV hX hi (M := mX6_readKnownName) (idx := 150) (d' := 3) (b := 28) (ci := 6) (As := [.ref 51]) (rest := [.int (18 : Int32), .ref 38]) mkX6_readKnownName miX6_readKnownName mvX6_readKnownName (by decide +kernel) (by decide +kernel) rfl (by decide +kernel) rfl ⟨by omega, by decide, Nat.le_of_ble_eq_true rfl⟩ rfl (c_X6_readKnownName_28_51 _ (g_X6_advance_28 I G ) G  hc) ?_
            rintro rz Iz Gz Pz ⟨e0, e1, e2, e3⟩
            rw [e0, e1, e2, e3]
            show am_V X 0 0 _ _ ad (126, [(0, .ref 28), (1, .int x1)], [.int r8, .int (18 : Int32), .ref 38], I8, G8, (gP rd))
            refine am_callV hX hi (M := mX3_add) (idx := 161) (d' := 2) (b := 38) (ci := 3) (As := [.int (18 : Int32), .int r8]) (rest := []) mkX3_add miX3_add mvX3_add (by decide +kernel) (by decide +kernel) rfl (by decide +kernel) rfl ⟨by omega, by decide, Nat.le_of_ble_eq_true rfl⟩ rfl (c_X3_add_38 _ I8 G8 (18 : Int32) r8) ?_
            rintro rz Iz Gz Pz ⟨e0, e1, e2, e3⟩
            rw [e0, e1, e2, e3]
            show am_V X 0 0 _ _ ad (129, [(0, .ref 28), (1, .int x1)], [], (g_X3_add_38 I8 G8 (18 : Int32) r8), G8, (gP rd))
            refine am_blk 129 [(.goto (30), 3, 0, 159, .null)] (159, [(0, .ref 28), (1, .int x1)], [], (g_X3_add_38 I8 G8 (18 : Int32) r8), G8, (gP rd)) (True) hX hi (by decide +kernel) rfl trivial ?_
            cases h
            refine am_vret hX hi rfl (by decide +kernel) ?_
            exact ⟨rfl, rfl, rfl, rfl⟩
        · rw [if_pos c73] at h
          refine am_blk 76 [(.aload_n 0, 1, 0, 0, .null)] (77, [(0, .ref 28), (1, .int x1)], [.ref 28], I, G, (gP rd)) (True) hX hi (by decide +kernel) rfl trivial ?_
          refine am_callV hX hi (M := mX6_advance) (idx := 100) (d' := 2) (b := 28) (ci := 6) (As := []) (rest := []) mkX6_advance miX6_advance mvX6_advance (by decide +kernel) (by decide +kernel) rfl (by decide +kernel) rfl ⟨by omega, by decide, Nat.le_of_ble_eq_true rfl⟩ rfl (c_X6_advance_28 _ I G ) ?_
          rintro rz Iz Gz Pz ⟨e0, e1, e2, e3⟩
          rw [e0, e1, e2, e3]
          show am_V X 0 0 _ _ ad (80, [(0, .ref 28), (1, .int x1)], [], (g_X6_advance_28 I G ), G, (gP rd))
          refine am_blk 80 [(.aload_n 0, 1, 0, 0, .null), (.iload_n 1, 1, 1, 0, .null), (.iconst (1), 1, 0, 0, .int (1 : Int32)), (.iadd, 1, 0, 0, .null)] (84, [(0, .ref 28), (1, .int x1)], [.int (x1 + (1 : Int32)), .ref 28], (g_X6_advance_28 I G ), G, (gP rd)) (True) hX hi (by decide +kernel) rfl trivial ?_
          obtain ⟨r9, I9, G9, hc, h⟩ := rb_some h
          refine am_callV hX hi (M := mX6_readTest) (idx := 103) (d' := (8 + n9)) (b := 28) (ci := 6) (As := [.int (x1 + (1 : Int32))]) (rest := []) mkX6_readTest miX6_readTest mvX6_readTest (by decide +kernel) (by decide +kernel) rfl (by decide +kernel) rfl ⟨by omega, by decide, Nat.le_of_ble_eq_true rfl⟩ rfl (h0 _ (g_X6_advance_28 I G ) G (x1 + (1 : Int32)) _ hc) ?_
          rintro rz Iz Gz Pz ⟨e0, e1, e2, e3⟩
          rw [e0, e1, e2, e3]
          show am_V X 0 0 _ _ ad (87, [(0, .ref 28), (1, .int x1)], [], I9, G9, (gP rd))
          refine am_blk 87 [(.aload_n 0, 1, 0, 0, .null), (.bipush (27), 2, 0, 0, .int (27 : Int32))] (90, [(0, .ref 28), (1, .int x1)], [.int (27 : Int32), .ref 28], I9, G9, (gP rd)) (True) hX hi (by decide +kernel) rfl trivial ?_
          refine am_callV hX hi (M := mX6_expect) (idx := 109) (d' := 3) (b := 28) (ci := 6) (As := [.int (27 : Int32)]) (rest := []) mkX6_expect miX6_expect mvX6_expect (by decide +kernel) (by decide +kernel) rfl (by decide +kernel) rfl ⟨by omega, by decide, Nat.le_of_ble_eq_true rfl⟩ rfl (c_X6_expect_28 _ I9 G9 (27 : Int32)) ?_
          rintro rz Iz Gz Pz ⟨e0, e1, e2, e3⟩
          rw [e0, e1, e2, e3]
          show am_V X 0 0 _ _ ad (93, [(0, .ref 28), (1, .int x1)], [], (g_X6_expect_28 I9 G9 (27 : Int32)), G9, (gP rd))
          refine am_blk 93 [(.goto (66), 3, 0, 159, .null)] (159, [(0, .ref 28), (1, .int x1)], [], (g_X6_expect_28 I9 G9 (27 : Int32)), G9, (gP rd)) (True) hX hi (by decide +kernel) rfl trivial ?_
          cases h
          refine am_vret hX hi rfl (by decide +kernel) ?_
          exact ⟨rfl, rfl, rfl, rfl⟩
      · rw [if_pos c37] at h
        refine am_blk 40 [(.aload_n 0, 1, 0, 0, .null)] (41, [(0, .ref 28), (1, .int x1)], [.ref 28], I, G, (gP rd)) (True) hX hi (by decide +kernel) rfl trivial ?_
        refine am_callV hX hi (M := mX6_advance) (idx := 100) (d' := 2) (b := 28) (ci := 6) (As := []) (rest := []) mkX6_advance miX6_advance mvX6_advance (by decide +kernel) (by decide +kernel) rfl (by decide +kernel) rfl ⟨by omega, by decide, Nat.le_of_ble_eq_true rfl⟩ rfl (c_X6_advance_28 _ I G ) ?_
        rintro rz Iz Gz Pz ⟨e0, e1, e2, e3⟩
        rw [e0, e1, e2, e3]
        show am_V X 0 0 _ _ ad (44, [(0, .ref 28), (1, .int x1)], [], (g_X6_advance_28 I G ), G, (gP rd))
        refine am_blk 44 [(.aload_n 0, 1, 0, 0, .null), (.iload_n 1, 1, 1, 0, .null), (.iconst (1), 1, 0, 0, .int (1 : Int32)), (.iadd, 1, 0, 0, .null)] (48, [(0, .ref 28), (1, .int x1)], [.int (x1 + (1 : Int32)), .ref 28], (g_X6_advance_28 I G ), G, (gP rd)) (True) hX hi (by decide +kernel) rfl trivial ?_
        obtain ⟨r10, I10, G10, hc, h⟩ := rb_some h
        refine am_callV hX hi (M := mX6_readSingle) (idx := 164) (d' := (8 + n9)) (b := 28) (ci := 6) (As := [.int (x1 + (1 : Int32))]) (rest := []) mkX6_readSingle miX6_readSingle mvX6_readSingle (by decide +kernel) (by decide +kernel) rfl (by decide +kernel) rfl ⟨by omega, by decide, Nat.le_of_ble_eq_true rfl⟩ rfl (h2 _ (g_X6_advance_28 I G ) G (x1 + (1 : Int32)) _ hc) ?_
        rintro rz Iz Gz Pz ⟨e0, e1, e2, e3⟩
        rw [e0, e1, e2, e3]
        show am_V X 0 0 _ _ ad (51, [(0, .ref 28), (1, .int x1)], [], I10, G10, (gP rd))
        refine am_blk 51 [(.aload_n 0, 1, 0, 0, .null), (.getfield 12, 3, 6, 1, .null), (.getfield 91, 3, 5, 8, .null), (.bipush (19), 2, 0, 0, .int (19 : Int32)), (.iconst (0), 1, 0, 0, .int (0 : Int32))] (61, [(0, .ref 28), (1, .int x1)], [.int (0 : Int32), .int (19 : Int32), .ref 38], I10, G10, (gP rd)) (True) hX hi (by decide +kernel) rfl trivial ?_
        refine am_callV hX hi (M := mX3_add) (idx := 161) (d' := 2) (b := 38) (ci := 3) (As := [.int (19 : Int32), .int (0 : Int32)]) (rest := []) mkX3_add miX3_add mvX3_add (by decide +kernel) (by decide +kernel) rfl (by decide +kernel) rfl ⟨by omega, by decide, Nat.le_of_ble_eq_true rfl⟩ rfl (c_X3_add_38 _ I10 G10 (19 : Int32) (0 : Int32)) ?_
        rintro rz Iz Gz Pz ⟨e0, e1, e2, e3⟩
        rw [e0, e1, e2, e3]
        show am_V X 0 0 _ _ ad (64, [(0, .ref 28), (1, .int x1)], [], (g_X3_add_38 I10 G10 (19 : Int32) (0 : Int32)), G10, (gP rd))
        refine am_blk 64 [(.goto (95), 3, 0, 159, .null)] (159, [(0, .ref 28), (1, .int x1)], [], (g_X3_add_38 I10 G10 (19 : Int32) (0 : Int32)), G10, (gP rd)) (True) hX hi (by decide +kernel) rfl trivial ?_
        cases h
        refine am_vret hX hi rfl (by decide +kernel) ?_
        exact ⟨rfl, rfl, rfl, rfl⟩
    · rw [if_pos c15] at h
      refine am_blk 18 [(.iload_n 1, 1, 1, 0, .null), (.bipush (8), 2, 0, 0, .int (8 : Int32))] (21, [(0, .ref 28), (1, .int x1)], [.int (8 : Int32), .int x1], I, G, (gP rd)) (True) hX hi (by decide +kernel) rfl trivial ?_
      refine am_icmp_lt (tgt := 31) hX hi (off := (10)) (by decide +kernel) (by decide) (fun c21 => ?_) (fun c21 => ?_)
      · rw [if_pos c21] at h
        refine am_blk 31 [(.aload_n 0, 1, 0, 0, .null), (.getfield 62, 3, 6, 6, .null), (.bipush (19), 2, 0, 0, .int (19 : Int32))] (37, [(0, .ref 28), (1, .int x1)], [.int (19 : Int32), .int (I 28 6)], I, G, (gP rd)) (True) hX hi (by decide +kernel) rfl trivial ?_
        refine am_icmp_ne (tgt := 67) hX hi (off := (30)) (by decide +kernel) (by decide) (fun c37 => ?_) (fun c37 => ?_)
        · rw [if_neg c37] at h
          refine am_blk 67 [(.aload_n 0, 1, 0, 0, .null), (.getfield 62, 3, 6, 6, .null), (.bipush (26), 2, 0, 0, .int (26 : Int32))] (73, [(0, .ref 28), (1, .int x1)], [.int (26 : Int32), .int (I 28 6)], I, G, (gP rd)) (True) hX hi (by decide +kernel) rfl trivial ?_
          refine am_icmp_ne (tgt := 96) hX hi (off := (23)) (by decide +kernel) (by decide) (fun c73 => ?_) (fun c73 => ?_)
          · rw [if_neg c73] at h
            refine am_blk 96 [(.aload_n 0, 1, 0, 0, .null), (.getfield 62, 3, 6, 6, .null), (.bipush (18), 2, 0, 0, .int (18 : Int32))] (102, [(0, .ref 28), (1, .int x1)], [.int (18 : Int32), .int (I 28 6)], I, G, (gP rd)) (True) hX hi (by decide +kernel) rfl trivial ?_
            refine am_icmp_ne (tgt := 132) hX hi (off := (30)) (by decide +kernel) (by decide) (fun c102 => ?_) (fun c102 => ?_)
            · rw [if_neg c102] at h
              refine am_blk 132 [(.aload_n 0, 1, 0, 0, .null), (.iload_n 1, 1, 1, 0, .null)] (134, [(0, .ref 28), (1, .int x1)], [.int x1, .ref 28], I, G, (gP rd)) (True) hX hi (by decide +kernel) rfl trivial ?_
              obtain ⟨r11, I11, G11, hc, h⟩ := rb_some h
              refine am_callV hX hi (M := mX6_readSum) (idx := 88) (d' := (8 + n9)) (b := 28) (ci := 6) (As := [.int x1]) (rest := []) mkX6_readSum miX6_readSum mvX6_readSum (by decide +kernel) (by decide +kernel) rfl (by decide +kernel) rfl ⟨by omega, by decide, Nat.le_of_ble_eq_true rfl⟩ rfl (h3 _ I G x1 _ hc) ?_
              rintro rz Iz Gz Pz ⟨e0, e1, e2, e3⟩
              rw [e0, e1, e2, e3]
              show am_V X 0 0 _ _ ad (137, [(0, .ref 28), (1, .int x1)], [], I11, G11, (gP rd))
              refine am_blk 137 [(.aload_n 0, 1, 0, 0, .null)] (138, [(0, .ref 28), (1, .int x1)], [.ref 28], I11, G11, (gP rd)) (True) hX hi (by decide +kernel) rfl trivial ?_
              refine am_callV hX hi (M := mX6_readComparison) (idx := 167) (d' := 3) (b := 28) (ci := 6) (As := []) (rest := []) mkX6_readComparison miX6_readComparison mvX6_readComparison (by decide +kernel) (by decide +kernel) rfl (by decide +kernel) rfl ⟨by omega, by decide, Nat.le_of_ble_eq_true rfl⟩ rfl (c_X6_readComparison_28 _ I11 G11 ) ?_
              rintro rz Iz Gz Pz ⟨e0, e1, e2, e3⟩
              rw [e0, e1, e2, e3]
              show am_V X 0 0 _ _ ad (141, [(0, .ref 28), (1, .int x1)], [.int (f_X6_readComparison_28 I11 G11 )], (g_X6_readComparison_28 I11 G11 ), G11, (gP rd))
              refine am_blk 141 [(.istore_n 2, 1, 2, 0, .null), (.aload_n 0, 1, 0, 0, .null), (.iload_n 1, 1, 1, 0, .null)] (144, [(0, .ref 28), (1, .int x1), (2, .int (f_X6_readComparison_28 I11 G11 ))], [.int x1, .ref 28], (g_X6_readComparison_28 I11 G11 ), G11, (gP rd)) (True) hX hi (by decide +kernel) rfl trivial ?_
              obtain ⟨r12, I12, G12, hc, h⟩ := rb_some h
              refine am_callV hX hi (M := mX6_readSum) (idx := 88) (d' := (8 + n9)) (b := 28) (ci := 6) (As := [.int x1]) (rest := []) mkX6_readSum miX6_readSum mvX6_readSum (by decide +kernel) (by decide +kernel) rfl (by decide +kernel) rfl ⟨by omega, by decide, Nat.le_of_ble_eq_true rfl⟩ rfl (h3 _ (g_X6_readComparison_28 I11 G11 ) G11 x1 _ hc) ?_
              rintro rz Iz Gz Pz ⟨e0, e1, e2, e3⟩
              rw [e0, e1, e2, e3]
              show am_V X 0 0 _ _ ad (147, [(0, .ref 28), (1, .int x1), (2, .int (f_X6_readComparison_28 I11 G11 ))], [], I12, G12, (gP rd))
              refine am_blk 147 [(.aload_n 0, 1, 0, 0, .null), (.getfield 12, 3, 6, 1, .null), (.getfield 91, 3, 5, 8, .null), (.iload_n 2, 1, 2, 0, .null), (.iconst (0), 1, 0, 0, .int (0 : Int32))] (156, [(0, .ref 28), (1, .int x1), (2, .int (f_X6_readComparison_28 I11 G11 ))], [.int (0 : Int32), .int (f_X6_readComparison_28 I11 G11 ), .ref 38], I12, G12, (gP rd)) (True) hX hi (by decide +kernel) rfl trivial ?_
              refine am_callV hX hi (M := mX3_add) (idx := 161) (d' := 2) (b := 38) (ci := 3) (As := [.int (f_X6_readComparison_28 I11 G11 ), .int (0 : Int32)]) (rest := []) mkX3_add miX3_add mvX3_add (by decide +kernel) (by decide +kernel) rfl (by decide +kernel) rfl ⟨by omega, by decide, Nat.le_of_ble_eq_true rfl⟩ rfl (c_X3_add_38 _ I12 G12 (f_X6_readComparison_28 I11 G11 ) (0 : Int32)) ?_
              rintro rz Iz Gz Pz ⟨e0, e1, e2, e3⟩
              rw [e0, e1, e2, e3]
              show am_V X 0 0 _ _ ad (159, [(0, .ref 28), (1, .int x1), (2, .int (f_X6_readComparison_28 I11 G11 ))], [], (g_X3_add_38 I12 G12 (f_X6_readComparison_28 I11 G11 ) (0 : Int32)), G12, (gP rd))
              cases h
              refine am_vret hX hi rfl (by decide +kernel) ?_
              exact ⟨rfl, rfl, rfl, rfl⟩
            · rw [if_pos c102] at h
              refine am_blk 105 [(.aload_n 0, 1, 0, 0, .null)] (106, [(0, .ref 28), (1, .int x1)], [.ref 28], I, G, (gP rd)) (True) hX hi (by decide +kernel) rfl trivial ?_
              refine am_callV hX hi (M := mX6_advance) (idx := 100) (d' := 2) (b := 28) (ci := 6) (As := []) (rest := []) mkX6_advance miX6_advance mvX6_advance (by decide +kernel) (by decide +kernel) rfl (by decide +kernel) rfl ⟨by omega, by decide, Nat.le_of_ble_eq_true rfl⟩ rfl (c_X6_advance_28 _ I G ) ?_
              rintro rz Iz Gz Pz ⟨e0, e1, e2, e3⟩
              rw [e0, e1, e2, e3]
              show am_V X 0 0 _ _ ad (109, [(0, .ref 28), (1, .int x1)], [], (g_X6_advance_28 I G ), G, (gP rd))
              refine am_blk 109 [(.aload_n 0, 1, 0, 0, .null), (.getfield 12, 3, 6, 1, .null), (.getfield 91, 3, 5, 8, .null), (.bipush (18), 2, 0, 0, .int (18 : Int32)), (.aload_n 0, 1, 0, 0, .null), (.aload_n 0, 1, 0, 0, .null), (.getfield 30, 3, 6, 4, .null)] (123, [(0, .ref 28), (1, .int x1)], [.ref 51, .ref 28, .int (18 : Int32), .ref 38], (g_X6_advance_28 I G ), G, (gP rd)) (True) hX hi (by decide +kernel) rfl trivial ?_
              obtain ⟨r13, I13, G13, hc, h⟩ := rb_some h
              refine am_callV hX hi (M := mX6_readKnownName) (idx := 150) (d' := 3) (b := 28) (ci := 6) (As := [.ref 51]) (rest := [.int (18 : Int32), .ref 38]) mkX6_readKnownName miX6_readKnownName mvX6_readKnownName (by decide +kernel) (by decide +kernel) rfl (by decide +kernel) rfl ⟨by omega, by decide, Nat.le_of_ble_eq_true rfl⟩ rfl (c_X6_readKnownName_28_51 _ (g_X6_advance_28 I G ) G  hc) ?_
              rintro rz Iz Gz Pz ⟨e0, e1, e2, e3⟩
              rw [e0, e1, e2, e3]
              show am_V X 0 0 _ _ ad (126, [(0, .ref 28), (1, .int x1)], [.int r13, .int (18 : Int32), .ref 38], I13, G13, (gP rd))
              refine am_callV hX hi (M := mX3_add) (idx := 161) (d' := 2) (b := 38) (ci := 3) (As := [.int (18 : Int32), .int r13]) (rest := []) mkX3_add miX3_add mvX3_add (by decide +kernel) (by decide +kernel) rfl (by decide +kernel) rfl ⟨by omega, by decide, Nat.le_of_ble_eq_true rfl⟩ rfl (c_X3_add_38 _ I13 G13 (18 : Int32) r13) ?_
              rintro rz Iz Gz Pz ⟨e0, e1, e2, e3⟩
              rw [e0, e1, e2, e3]
              show am_V X 0 0 _ _ ad (129, [(0, .ref 28), (1, .int x1)], [], (g_X3_add_38 I13 G13 (18 : Int32) r13), G13, (gP rd))
              refine am_blk 129 [(.goto (30), 3, 0, 159, .null)] (159, [(0, .ref 28), (1, .int x1)], [], (g_X3_add_38 I13 G13 (18 : Int32) r13), G13, (gP rd)) (True) hX hi (by decide +kernel) rfl trivial ?_
              cases h
              refine am_vret hX hi rfl (by decide +kernel) ?_
              exact ⟨rfl, rfl, rfl, rfl⟩
          · rw [if_pos c73] at h
            refine am_blk 76 [(.aload_n 0, 1, 0, 0, .null)] (77, [(0, .ref 28), (1, .int x1)], [.ref 28], I, G, (gP rd)) (True) hX hi (by decide +kernel) rfl trivial ?_
            refine am_callV hX hi (M := mX6_advance) (idx := 100) (d' := 2) (b := 28) (ci := 6) (As := []) (rest := []) mkX6_advance miX6_advance mvX6_advance (by decide +kernel) (by decide +kernel) rfl (by decide +kernel) rfl ⟨by omega, by decide, Nat.le_of_ble_eq_true rfl⟩ rfl (c_X6_advance_28 _ I G ) ?_
            rintro rz Iz Gz Pz ⟨e0, e1, e2, e3⟩
            rw [e0, e1, e2, e3]
            show am_V X 0 0 _ _ ad (80, [(0, .ref 28), (1, .int x1)], [], (g_X6_advance_28 I G ), G, (gP rd))
            refine am_blk 80 [(.aload_n 0, 1, 0, 0, .null), (.iload_n 1, 1, 1, 0, .null), (.iconst (1), 1, 0, 0, .int (1 : Int32)), (.iadd, 1, 0, 0, .null)] (84, [(0, .ref 28), (1, .int x1)], [.int (x1 + (1 : Int32)), .ref 28], (g_X6_advance_28 I G ), G, (gP rd)) (True) hX hi (by decide +kernel) rfl trivial ?_
            obtain ⟨r14, I14, G14, hc, h⟩ := rb_some h
            refine am_callV hX hi (M := mX6_readTest) (idx := 103) (d' := (8 + n9)) (b := 28) (ci := 6) (As := [.int (x1 + (1 : Int32))]) (rest := []) mkX6_readTest miX6_readTest mvX6_readTest (by decide +kernel) (by decide +kernel) rfl (by decide +kernel) rfl ⟨by omega, by decide, Nat.le_of_ble_eq_true rfl⟩ rfl (h0 _ (g_X6_advance_28 I G ) G (x1 + (1 : Int32)) _ hc) ?_
            rintro rz Iz Gz Pz ⟨e0, e1, e2, e3⟩
            rw [e0, e1, e2, e3]
            show am_V X 0 0 _ _ ad (87, [(0, .ref 28), (1, .int x1)], [], I14, G14, (gP rd))
            refine am_blk 87 [(.aload_n 0, 1, 0, 0, .null), (.bipush (27), 2, 0, 0, .int (27 : Int32))] (90, [(0, .ref 28), (1, .int x1)], [.int (27 : Int32), .ref 28], I14, G14, (gP rd)) (True) hX hi (by decide +kernel) rfl trivial ?_
            refine am_callV hX hi (M := mX6_expect) (idx := 109) (d' := 3) (b := 28) (ci := 6) (As := [.int (27 : Int32)]) (rest := []) mkX6_expect miX6_expect mvX6_expect (by decide +kernel) (by decide +kernel) rfl (by decide +kernel) rfl ⟨by omega, by decide, Nat.le_of_ble_eq_true rfl⟩ rfl (c_X6_expect_28 _ I14 G14 (27 : Int32)) ?_
            rintro rz Iz Gz Pz ⟨e0, e1, e2, e3⟩
            rw [e0, e1, e2, e3]
            show am_V X 0 0 _ _ ad (93, [(0, .ref 28), (1, .int x1)], [], (g_X6_expect_28 I14 G14 (27 : Int32)), G14, (gP rd))
            refine am_blk 93 [(.goto (66), 3, 0, 159, .null)] (159, [(0, .ref 28), (1, .int x1)], [], (g_X6_expect_28 I14 G14 (27 : Int32)), G14, (gP rd)) (True) hX hi (by decide +kernel) rfl trivial ?_
            cases h
            refine am_vret hX hi rfl (by decide +kernel) ?_
            exact ⟨rfl, rfl, rfl, rfl⟩
        · rw [if_pos c37] at h
          refine am_blk 40 [(.aload_n 0, 1, 0, 0, .null)] (41, [(0, .ref 28), (1, .int x1)], [.ref 28], I, G, (gP rd)) (True) hX hi (by decide +kernel) rfl trivial ?_
          refine am_callV hX hi (M := mX6_advance) (idx := 100) (d' := 2) (b := 28) (ci := 6) (As := []) (rest := []) mkX6_advance miX6_advance mvX6_advance (by decide +kernel) (by decide +kernel) rfl (by decide +kernel) rfl ⟨by omega, by decide, Nat.le_of_ble_eq_true rfl⟩ rfl (c_X6_advance_28 _ I G ) ?_
          rintro rz Iz Gz Pz ⟨e0, e1, e2, e3⟩
          rw [e0, e1, e2, e3]
          show am_V X 0 0 _ _ ad (44, [(0, .ref 28), (1, .int x1)], [], (g_X6_advance_28 I G ), G, (gP rd))
          refine am_blk 44 [(.aload_n 0, 1, 0, 0, .null), (.iload_n 1, 1, 1, 0, .null), (.iconst (1), 1, 0, 0, .int (1 : Int32)), (.iadd, 1, 0, 0, .null)] (48, [(0, .ref 28), (1, .int x1)], [.int (x1 + (1 : Int32)), .ref 28], (g_X6_advance_28 I G ), G, (gP rd)) (True) hX hi (by decide +kernel) rfl trivial ?_
          obtain ⟨r15, I15, G15, hc, h⟩ := rb_some h
          refine am_callV hX hi (M := mX6_readSingle) (idx := 164) (d' := (8 + n9)) (b := 28) (ci := 6) (As := [.int (x1 + (1 : Int32))]) (rest := []) mkX6_readSingle miX6_readSingle mvX6_readSingle (by decide +kernel) (by decide +kernel) rfl (by decide +kernel) rfl ⟨by omega, by decide, Nat.le_of_ble_eq_true rfl⟩ rfl (h2 _ (g_X6_advance_28 I G ) G (x1 + (1 : Int32)) _ hc) ?_
          rintro rz Iz Gz Pz ⟨e0, e1, e2, e3⟩
          rw [e0, e1, e2, e3]
          show am_V X 0 0 _ _ ad (51, [(0, .ref 28), (1, .int x1)], [], I15, G15, (gP rd))
          refine am_blk 51 [(.aload_n 0, 1, 0, 0, .null), (.getfield 12, 3, 6, 1, .null), (.getfield 91, 3, 5, 8, .null), (.bipush (19), 2, 0, 0, .int (19 : Int32)), (.iconst (0), 1, 0, 0, .int (0 : Int32))] (61, [(0, .ref 28), (1, .int x1)], [.int (0 : Int32), .int (19 : Int32), .ref 38], I15, G15, (gP rd)) (True) hX hi (by decide +kernel) rfl trivial ?_
          refine am_callV hX hi (M := mX3_add) (idx := 161) (d' := 2) (b := 38) (ci := 3) (As := [.int (19 : Int32), .int (0 : Int32)]) (rest := []) mkX3_add miX3_add mvX3_add (by decide +kernel) (by decide +kernel) rfl (by decide +kernel) rfl ⟨by omega, by decide, Nat.le_of_ble_eq_true rfl⟩ rfl (c_X3_add_38 _ I15 G15 (19 : Int32) (0 : Int32)) ?_
          rintro rz Iz Gz Pz ⟨e0, e1, e2, e3⟩
          rw [e0, e1, e2, e3]
          show am_V X 0 0 _ _ ad (64, [(0, .ref 28), (1, .int x1)], [], (g_X3_add_38 I15 G15 (19 : Int32) (0 : Int32)), G15, (gP rd))
          refine am_blk 64 [(.goto (95), 3, 0, 159, .null)] (159, [(0, .ref 28), (1, .int x1)], [], (g_X3_add_38 I15 G15 (19 : Int32) (0 : Int32)), G15, (gP rd)) (True) hX hi (by decide +kernel) rfl trivial ?_
          cases h
          refine am_vret hX hi rfl (by decide +kernel) ?_
          exact ⟨rfl, rfl, rfl, rfl⟩
      · rw [if_neg c21] at h
        refine am_blk 24 [(.aload_n 0, 1, 0, 0, .null)] (25, [(0, .ref 28), (1, .int x1)], [.ref 28], I, G, (gP rd)) (True) hX hi (by decide +kernel) rfl trivial ?_
        refine am_callV hX hi (M := mX6_refuse) (idx := 70) (d' := 2) (b := 28) (ci := 6) (As := []) (rest := []) mkX6_refuse miX6_refuse mvX6_refuse (by decide +kernel) (by decide +kernel) rfl (by decide +kernel) rfl ⟨by omega, by decide, Nat.le_of_ble_eq_true rfl⟩ rfl (c_X6_refuse_28 _ I G ) ?_
        rintro rz Iz Gz Pz ⟨e0, e1, e2, e3⟩
        rw [e0, e1, e2, e3]
        show am_V X 0 0 _ _ ad (28, [(0, .ref 28), (1, .int x1)], [], (g_X6_refuse_28 I G ), G, (gP rd))
        refine am_blk 28 [(.goto (131), 3, 0, 159, .null)] (159, [(0, .ref 28), (1, .int x1)], [], (g_X6_refuse_28 I G ), G, (gP rd)) (True) hX hi (by decide +kernel) rfl trivial ?_
        cases h
        refine am_vret hX hi rfl (by decide +kernel) ?_
        exact ⟨rfl, rfl, rfl, rfl⟩
noncomputable def L_X6_readSum_28 (cal : Nat → am_I → am_G → Int32 → Int32 → Option (Unit × am_I × am_G)) (n0 : Nat) (hd : Nat) (I : am_I) (G : am_G) (v1 : Int32) (v2 : Int32) : Option (Unit × am_I × am_G) := match n0 with
  | 0 => none
  | n + 1 => match hd with
    | _ => (if (400 : Int32) ≤ v2 then some ((), I, G) else (if (I 28 6) = (30 : Int32) then rb (cal 4 (g_X6_advance_28 I G ) G v1 (0 : Int32)) (fun r101 I101 G101 => L_X6_readSum_28 cal n 0 (g_X3_add_38 I101 G101 (I 28 6) (0 : Int32)) G101 v1 (v2 + (1 : Int32))) else (if (I 28 6) = (31 : Int32) then rb (cal 4 (g_X6_advance_28 I G ) G v1 (0 : Int32)) (fun r102 I102 G102 => L_X6_readSum_28 cal n 0 (g_X3_add_38 I102 G102 (I 28 6) (0 : Int32)) G102 v1 (v2 + (1 : Int32))) else some ((), I, G))))
theorem L_X6_readSum_28_0 (cal : Nat → am_I → am_G → Int32 → Int32 → Option (Unit × am_I × am_G)) (n : Nat) (I : am_I) (G : am_G) (v1 : Int32) (v2 : Int32) : L_X6_readSum_28 cal (n + 1) 0 I G v1 v2 = (if (400 : Int32) ≤ v2 then some ((), I, G) else (if (I 28 6) = (30 : Int32) then rb (cal 4 (g_X6_advance_28 I G ) G v1 (0 : Int32)) (fun r101 I101 G101 => L_X6_readSum_28 cal n 0 (g_X3_add_38 I101 G101 (I 28 6) (0 : Int32)) G101 v1 (v2 + (1 : Int32))) else (if (I 28 6) = (31 : Int32) then rb (cal 4 (g_X6_advance_28 I G ) G v1 (0 : Int32)) (fun r102 I102 G102 => L_X6_readSum_28 cal n 0 (g_X3_add_38 I102 G102 (I 28 6) (0 : Int32)) G102 v1 (v2 + (1 : Int32))) else some ((), I, G)))) := rfl
theorem L_X6_readSum_28_z (cal : Nat → am_I → am_G → Int32 → Int32 → Option (Unit × am_I × am_G)) (h : Nat) (I : am_I) (G : am_G) (v1 : Int32) (v2 : Int32) : L_X6_readSum_28 cal 0 h I G v1 v2 = none := rfl
noncomputable def R_X6_readSum_28 (cal : Nat → am_I → am_G → Int32 → Int32 → Option (Unit × am_I × am_G)) (I : am_I) (G : am_G) (x1 : Int32) : Option (Unit × am_I × am_G) := rb (cal 4 I G x1 (0 : Int32)) (fun r1 I1 G1 => L_X6_readSum_28 cal FU 0 I1 G1 x1 (0 : Int32))
set_option maxRecDepth 20000 in
set_option maxHeartbeats 4000000 in
theorem l_X6_readSum_28 {cal : Nat → am_I → am_G → Int32 → Int32 → Option (Unit × am_I × am_G)} {n9 : Nat} (h0 : ∀ (rd : Nat) (I : am_I) (G : am_G) (a : Int32) (out : Unit × am_I × am_G), cal 0 I G a (0 : Int32) = some out → am_Ct mX6_readTest (8 + n9) gS [.ref 28, .int a] I G (gP rd) (pV out.2.1 out.2.2 (gP rd))) (h1 : ∀ (rd : Nat) (I : am_I) (G : am_G) (a : Int32) (out : Unit × am_I × am_G), cal 1 I G a (0 : Int32) = some out → am_Ct mX6_readBoth (8 + n9) gS [.ref 28, .int a] I G (gP rd) (pV out.2.1 out.2.2 (gP rd))) (h2 : ∀ (rd : Nat) (I : am_I) (G : am_G) (a : Int32) (out : Unit × am_I × am_G), cal 2 I G a (0 : Int32) = some out → am_Ct mX6_readSingle (8 + n9) gS [.ref 28, .int a] I G (gP rd) (pV out.2.1 out.2.2 (gP rd))) (h3 : ∀ (rd : Nat) (I : am_I) (G : am_G) (a : Int32) (out : Unit × am_I × am_G), cal 3 I G a (0 : Int32) = some out → am_Ct mX6_readSum (8 + n9) gS [.ref 28, .int a] I G (gP rd) (pV out.2.1 out.2.2 (gP rd))) (h4 : ∀ (rd : Nat) (I : am_I) (G : am_G) (a : Int32) (out : Unit × am_I × am_G), cal 4 I G a (0 : Int32) = some out → am_Ct mX6_readProduct (8 + n9) gS [.ref 28, .int a] I G (gP rd) (pV out.2.1 out.2.2 (gP rd))) (h5 : ∀ (rd : Nat) (I : am_I) (G : am_G) (a : Int32) (out : Unit × am_I × am_G), cal 5 I G a (0 : Int32) = some out → am_Ct mX6_readValue (8 + n9) gS [.ref 28, .int a] I G (gP rd) (pV out.2.1 out.2.2 (gP rd))) (h6 : ∀ (rd : Nat) (I : am_I) (G : am_G) (a : Int32) (out : Unit × am_I × am_G), cal 6 I G a (0 : Int32) = some out → am_Ct mX6_readPair (8 + n9) gS [.ref 28, .int a] I G (gP rd) (pV out.2.1 out.2.2 (gP rd))) (rd : Nat) {X : am_X} {ad : Nat → Nat} (hX : am_okz X ad) (hi : am_info X 6 cX6_readSum 4 false none (8 + n9 + 1)) (n : Nat) : (∀ (I : am_I) (G : am_G) (v1 : Int32) (v2 : Int32) (out : Unit × am_I × am_G), L_X6_readSum_28 cal n 0 I G v1 v2 = some out → am_V X 0 0 (am_Rt X gS ad (pV out.2.1 out.2.2 (gP rd))) gS ad (7, [(0, .ref 28), (1, .int v1), (2, .int v2)], [], I, G, (gP rd))) := by
  induction n with
  | zero => exact fun I G v1 v2 out h => by rw [L_X6_readSum_28_z] at h; cases h
  | succ n ih =>
    · intro I G v1 v2 out h
      rw [L_X6_readSum_28_0] at h
      refine am_blk 7 [(.iload_n 2, 1, 2, 0, .null), (.sipush (400), 3, 0, 0, .int (400 : Int32))] (11, [(0, .ref 28), (1, .int v1), (2, .int v2)], [.int (400 : Int32), .int v2], I, G, (gP rd)) (True) hX hi (by decide +kernel) rfl trivial ?_
      refine am_icmp_ge (tgt := 64) hX hi (off := (53)) (by decide +kernel) (by decide) (fun c11 => ?_) (fun c11 => ?_)
      · rw [if_pos c11] at h
        cases h
        refine am_vret hX hi rfl (by decide +kernel) ?_
        exact ⟨rfl, rfl, rfl, rfl⟩
      · rw [if_neg c11] at h
        refine am_blk 14 [(.aload_n 0, 1, 0, 0, .null), (.getfield 62, 3, 6, 6, .null), (.bipush (30), 2, 0, 0, .int (30 : Int32))] (20, [(0, .ref 28), (1, .int v1), (2, .int v2)], [.int (30 : Int32), .int (I 28 6)], I, G, (gP rd)) (True) hX hi (by decide +kernel) rfl trivial ?_
        refine am_icmp_eq (tgt := 32) hX hi (off := (12)) (by decide +kernel) (by decide) (fun c20 => ?_) (fun c20 => ?_)
        · rw [if_pos c20] at h
          refine am_blk 32 [(.aload_n 0, 1, 0, 0, .null), (.getfield 62, 3, 6, 6, .null), (.istore_n 3, 1, 3, 0, .null), (.aload_n 0, 1, 0, 0, .null)] (38, [(0, .ref 28), (1, .int v1), (2, .int v2), (3, .int (I 28 6))], [.ref 28], I, G, (gP rd)) (True) hX hi (by decide +kernel) rfl trivial ?_
          refine am_callV hX hi (M := mX6_advance) (idx := 100) (d' := 2) (b := 28) (ci := 6) (As := []) (rest := []) mkX6_advance miX6_advance mvX6_advance (by decide +kernel) (by decide +kernel) rfl (by decide +kernel) rfl ⟨by omega, by decide, Nat.le_of_ble_eq_true rfl⟩ rfl (c_X6_advance_28 _ I G ) ?_
          rintro r9 I9 G9 P9 ⟨e0, e1, e2, e3⟩
          rw [e0, e1, e2, e3]
          show am_V X 0 0 _ _ ad (41, [(0, .ref 28), (1, .int v1), (2, .int v2), (3, .int (I 28 6))], [], (g_X6_advance_28 I G ), G, (gP rd))
          refine am_blk 41 [(.aload_n 0, 1, 0, 0, .null), (.iload_n 1, 1, 1, 0, .null)] (43, [(0, .ref 28), (1, .int v1), (2, .int v2), (3, .int (I 28 6))], [.int v1, .ref 28], (g_X6_advance_28 I G ), G, (gP rd)) (True) hX hi (by decide +kernel) rfl trivial ?_
          obtain ⟨r101, I101, G101, hc, h⟩ := rb_some h
          refine am_callV hX hi (M := mX6_readProduct) (idx := 170) (d' := (8 + n9)) (b := 28) (ci := 6) (As := [.int v1]) (rest := []) mkX6_readProduct miX6_readProduct mvX6_readProduct (by decide +kernel) (by decide +kernel) rfl (by decide +kernel) rfl ⟨by omega, by decide, Nat.le_of_ble_eq_true rfl⟩ rfl (h4 _ (g_X6_advance_28 I G ) G v1 _ hc) ?_
          rintro r9 I9 G9 P9 ⟨e0, e1, e2, e3⟩
          rw [e0, e1, e2, e3]
          show am_V X 0 0 _ _ ad (46, [(0, .ref 28), (1, .int v1), (2, .int v2), (3, .int (I 28 6))], [], I101, G101, (gP rd))
          refine am_blk 46 [(.aload_n 0, 1, 0, 0, .null), (.getfield 12, 3, 6, 1, .null), (.getfield 91, 3, 5, 8, .null), (.iload_n 3, 1, 3, 0, .null), (.iconst (0), 1, 0, 0, .int (0 : Int32))] (55, [(0, .ref 28), (1, .int v1), (2, .int v2), (3, .int (I 28 6))], [.int (0 : Int32), .int (I 28 6), .ref 38], I101, G101, (gP rd)) (True) hX hi (by decide +kernel) rfl trivial ?_
          refine am_callV hX hi (M := mX3_add) (idx := 161) (d' := 2) (b := 38) (ci := 3) (As := [.int (I 28 6), .int (0 : Int32)]) (rest := []) mkX3_add miX3_add mvX3_add (by decide +kernel) (by decide +kernel) rfl (by decide +kernel) rfl ⟨by omega, by decide, Nat.le_of_ble_eq_true rfl⟩ rfl (c_X3_add_38 _ I101 G101 (I 28 6) (0 : Int32)) ?_
          rintro r9 I9 G9 P9 ⟨e0, e1, e2, e3⟩
          rw [e0, e1, e2, e3]
          show am_V X 0 0 _ _ ad (58, [(0, .ref 28), (1, .int v1), (2, .int v2), (3, .int (I 28 6))], [], (g_X3_add_38 I101 G101 (I 28 6) (0 : Int32)), G101, (gP rd))
          refine am_blk 58 [(.iinc 2 (1), 3, 2, 0, .int (1 : Int32)), (.goto (-54), 3, 0, 7, .null)] (7, [(0, .ref 28), (1, .int v1), (2, .int (v2 + (1 : Int32))), (3, .int (I 28 6))], [], (g_X3_add_38 I101 G101 (I 28 6) (0 : Int32)), G101, (gP rd)) (True) hX hi (by decide +kernel) rfl trivial ?_
          refine am_sub (L' := [(0, .ref 28), (1, .int v1), (2, .int (v2 + (1 : Int32)))]) (by simp) ?_
          exact ih _ _ _ _ _ h
        · rw [if_neg c20] at h
          refine am_blk 23 [(.aload_n 0, 1, 0, 0, .null), (.getfield 62, 3, 6, 6, .null), (.bipush (31), 2, 0, 0, .int (31 : Int32))] (29, [(0, .ref 28), (1, .int v1), (2, .int v2)], [.int (31 : Int32), .int (I 28 6)], I, G, (gP rd)) (True) hX hi (by decide +kernel) rfl trivial ?_
          refine am_icmp_ne (tgt := 64) hX hi (off := (35)) (by decide +kernel) (by decide) (fun c29 => ?_) (fun c29 => ?_)
          · rw [if_neg c29] at h
            cases h
            refine am_vret hX hi rfl (by decide +kernel) ?_
            exact ⟨rfl, rfl, rfl, rfl⟩
          · rw [if_pos c29] at h
            refine am_blk 32 [(.aload_n 0, 1, 0, 0, .null), (.getfield 62, 3, 6, 6, .null), (.istore_n 3, 1, 3, 0, .null), (.aload_n 0, 1, 0, 0, .null)] (38, [(0, .ref 28), (1, .int v1), (2, .int v2), (3, .int (I 28 6))], [.ref 28], I, G, (gP rd)) (True) hX hi (by decide +kernel) rfl trivial ?_
            refine am_callV hX hi (M := mX6_advance) (idx := 100) (d' := 2) (b := 28) (ci := 6) (As := []) (rest := []) mkX6_advance miX6_advance mvX6_advance (by decide +kernel) (by decide +kernel) rfl (by decide +kernel) rfl ⟨by omega, by decide, Nat.le_of_ble_eq_true rfl⟩ rfl (c_X6_advance_28 _ I G ) ?_
            rintro r9 I9 G9 P9 ⟨e0, e1, e2, e3⟩
            rw [e0, e1, e2, e3]
            show am_V X 0 0 _ _ ad (41, [(0, .ref 28), (1, .int v1), (2, .int v2), (3, .int (I 28 6))], [], (g_X6_advance_28 I G ), G, (gP rd))
            refine am_blk 41 [(.aload_n 0, 1, 0, 0, .null), (.iload_n 1, 1, 1, 0, .null)] (43, [(0, .ref 28), (1, .int v1), (2, .int v2), (3, .int (I 28 6))], [.int v1, .ref 28], (g_X6_advance_28 I G ), G, (gP rd)) (True) hX hi (by decide +kernel) rfl trivial ?_
            obtain ⟨r102, I102, G102, hc, h⟩ := rb_some h
            refine am_callV hX hi (M := mX6_readProduct) (idx := 170) (d' := (8 + n9)) (b := 28) (ci := 6) (As := [.int v1]) (rest := []) mkX6_readProduct miX6_readProduct mvX6_readProduct (by decide +kernel) (by decide +kernel) rfl (by decide +kernel) rfl ⟨by omega, by decide, Nat.le_of_ble_eq_true rfl⟩ rfl (h4 _ (g_X6_advance_28 I G ) G v1 _ hc) ?_
            rintro r9 I9 G9 P9 ⟨e0, e1, e2, e3⟩
            rw [e0, e1, e2, e3]
            show am_V X 0 0 _ _ ad (46, [(0, .ref 28), (1, .int v1), (2, .int v2), (3, .int (I 28 6))], [], I102, G102, (gP rd))
            refine am_blk 46 [(.aload_n 0, 1, 0, 0, .null), (.getfield 12, 3, 6, 1, .null), (.getfield 91, 3, 5, 8, .null), (.iload_n 3, 1, 3, 0, .null), (.iconst (0), 1, 0, 0, .int (0 : Int32))] (55, [(0, .ref 28), (1, .int v1), (2, .int v2), (3, .int (I 28 6))], [.int (0 : Int32), .int (I 28 6), .ref 38], I102, G102, (gP rd)) (True) hX hi (by decide +kernel) rfl trivial ?_
            refine am_callV hX hi (M := mX3_add) (idx := 161) (d' := 2) (b := 38) (ci := 3) (As := [.int (I 28 6), .int (0 : Int32)]) (rest := []) mkX3_add miX3_add mvX3_add (by decide +kernel) (by decide +kernel) rfl (by decide +kernel) rfl ⟨by omega, by decide, Nat.le_of_ble_eq_true rfl⟩ rfl (c_X3_add_38 _ I102 G102 (I 28 6) (0 : Int32)) ?_
            rintro r9 I9 G9 P9 ⟨e0, e1, e2, e3⟩
            rw [e0, e1, e2, e3]
            show am_V X 0 0 _ _ ad (58, [(0, .ref 28), (1, .int v1), (2, .int v2), (3, .int (I 28 6))], [], (g_X3_add_38 I102 G102 (I 28 6) (0 : Int32)), G102, (gP rd))
            refine am_blk 58 [(.iinc 2 (1), 3, 2, 0, .int (1 : Int32)), (.goto (-54), 3, 0, 7, .null)] (7, [(0, .ref 28), (1, .int v1), (2, .int (v2 + (1 : Int32))), (3, .int (I 28 6))], [], (g_X3_add_38 I102 G102 (I 28 6) (0 : Int32)), G102, (gP rd)) (True) hX hi (by decide +kernel) rfl trivial ?_
            refine am_sub (L' := [(0, .ref 28), (1, .int v1), (2, .int (v2 + (1 : Int32)))]) (by simp) ?_
            exact ih _ _ _ _ _ h
set_option maxRecDepth 20000 in
set_option maxHeartbeats 4000000 in
theorem c_X6_readSum_28 {cal : Nat → am_I → am_G → Int32 → Int32 → Option (Unit × am_I × am_G)} {n9 : Nat} (h0 : ∀ (rd : Nat) (I : am_I) (G : am_G) (a : Int32) (out : Unit × am_I × am_G), cal 0 I G a (0 : Int32) = some out → am_Ct mX6_readTest (8 + n9) gS [.ref 28, .int a] I G (gP rd) (pV out.2.1 out.2.2 (gP rd))) (h1 : ∀ (rd : Nat) (I : am_I) (G : am_G) (a : Int32) (out : Unit × am_I × am_G), cal 1 I G a (0 : Int32) = some out → am_Ct mX6_readBoth (8 + n9) gS [.ref 28, .int a] I G (gP rd) (pV out.2.1 out.2.2 (gP rd))) (h2 : ∀ (rd : Nat) (I : am_I) (G : am_G) (a : Int32) (out : Unit × am_I × am_G), cal 2 I G a (0 : Int32) = some out → am_Ct mX6_readSingle (8 + n9) gS [.ref 28, .int a] I G (gP rd) (pV out.2.1 out.2.2 (gP rd))) (h3 : ∀ (rd : Nat) (I : am_I) (G : am_G) (a : Int32) (out : Unit × am_I × am_G), cal 3 I G a (0 : Int32) = some out → am_Ct mX6_readSum (8 + n9) gS [.ref 28, .int a] I G (gP rd) (pV out.2.1 out.2.2 (gP rd))) (h4 : ∀ (rd : Nat) (I : am_I) (G : am_G) (a : Int32) (out : Unit × am_I × am_G), cal 4 I G a (0 : Int32) = some out → am_Ct mX6_readProduct (8 + n9) gS [.ref 28, .int a] I G (gP rd) (pV out.2.1 out.2.2 (gP rd))) (h5 : ∀ (rd : Nat) (I : am_I) (G : am_G) (a : Int32) (out : Unit × am_I × am_G), cal 5 I G a (0 : Int32) = some out → am_Ct mX6_readValue (8 + n9) gS [.ref 28, .int a] I G (gP rd) (pV out.2.1 out.2.2 (gP rd))) (h6 : ∀ (rd : Nat) (I : am_I) (G : am_G) (a : Int32) (out : Unit × am_I × am_G), cal 6 I G a (0 : Int32) = some out → am_Ct mX6_readPair (8 + n9) gS [.ref 28, .int a] I G (gP rd) (pV out.2.1 out.2.2 (gP rd))) (rd : Nat) (I : am_I) (G : am_G) (x1 : Int32) {out : Unit × am_I × am_G} (h : R_X6_readSum_28 cal I G x1 = some out) : am_Ct mX6_readSum (8 + n9 + 1) gS [.ref 28, .int x1] I G (gP rd) (pV out.2.1 out.2.2 (gP rd)) := by
  refine am_ofF (by decide +kernel) rfl (by decide) (by omega) (Nat.le_of_ble_eq_true rfl) (fun X ad hX hi => ?_)
  have hi : am_info X 6 cX6_readSum 4 false none (8 + n9 + 1) := hi
  show am_V X 0 0 _ _ ad (0, [(0, .ref 28), (1, .int x1)], [], I, G, (gP rd))
  unfold R_X6_readSum_28 at h
  refine am_blk 0 [(.aload_n 0, 1, 0, 0, .null), (.iload_n 1, 1, 1, 0, .null)] (2, [(0, .ref 28), (1, .int x1)], [.int x1, .ref 28], I, G, (gP rd)) (True) hX hi (by decide +kernel) rfl trivial ?_
  obtain ⟨r1, I1, G1, hc, h⟩ := rb_some h
  refine am_callV hX hi (M := mX6_readProduct) (idx := 170) (d' := (8 + n9)) (b := 28) (ci := 6) (As := [.int x1]) (rest := []) mkX6_readProduct miX6_readProduct mvX6_readProduct (by decide +kernel) (by decide +kernel) rfl (by decide +kernel) rfl ⟨by omega, by decide, Nat.le_of_ble_eq_true rfl⟩ rfl (h4 _ I G x1 _ hc) ?_
  rintro r9 I9 G9 P9 ⟨e0, e1, e2, e3⟩
  rw [e0, e1, e2, e3]
  show am_V X 0 0 _ _ ad (5, [(0, .ref 28), (1, .int x1)], [], I1, G1, (gP rd))
  refine am_blk 5 [(.iconst (0), 1, 0, 0, .int (0 : Int32)), (.istore_n 2, 1, 2, 0, .null)] (7, [(0, .ref 28), (1, .int x1), (2, .int (0 : Int32))], [], I1, G1, (gP rd)) (True) hX hi (by decide +kernel) rfl trivial ?_
  exact (l_X6_readSum_28 h0 h1 h2 h3 h4 h5 h6 rd hX hi FU) _ _ _ _ _ h
noncomputable def L_X6_readProduct_28 (cal : Nat → am_I → am_G → Int32 → Int32 → Option (Unit × am_I × am_G)) (n0 : Nat) (hd : Nat) (I : am_I) (G : am_G) (v1 : Int32) (v2 : Int32) : Option (Unit × am_I × am_G) := match n0 with
  | 0 => none
  | n + 1 => match hd with
    | _ => (if (400 : Int32) ≤ v2 then some ((), I, G) else (if (I 28 6) = (32 : Int32) then rb (cal 5 (g_X6_advance_28 I G ) G v1 (0 : Int32)) (fun r101 I101 G101 => L_X6_readProduct_28 cal n 0 (g_X3_add_38 I101 G101 (I 28 6) (0 : Int32)) G101 v1 (v2 + (1 : Int32))) else (if (I 28 6) = (33 : Int32) then rb (cal 5 (g_X6_advance_28 I G ) G v1 (0 : Int32)) (fun r102 I102 G102 => L_X6_readProduct_28 cal n 0 (g_X3_add_38 I102 G102 (I 28 6) (0 : Int32)) G102 v1 (v2 + (1 : Int32))) else some ((), I, G))))
theorem L_X6_readProduct_28_0 (cal : Nat → am_I → am_G → Int32 → Int32 → Option (Unit × am_I × am_G)) (n : Nat) (I : am_I) (G : am_G) (v1 : Int32) (v2 : Int32) : L_X6_readProduct_28 cal (n + 1) 0 I G v1 v2 = (if (400 : Int32) ≤ v2 then some ((), I, G) else (if (I 28 6) = (32 : Int32) then rb (cal 5 (g_X6_advance_28 I G ) G v1 (0 : Int32)) (fun r101 I101 G101 => L_X6_readProduct_28 cal n 0 (g_X3_add_38 I101 G101 (I 28 6) (0 : Int32)) G101 v1 (v2 + (1 : Int32))) else (if (I 28 6) = (33 : Int32) then rb (cal 5 (g_X6_advance_28 I G ) G v1 (0 : Int32)) (fun r102 I102 G102 => L_X6_readProduct_28 cal n 0 (g_X3_add_38 I102 G102 (I 28 6) (0 : Int32)) G102 v1 (v2 + (1 : Int32))) else some ((), I, G)))) := rfl
theorem L_X6_readProduct_28_z (cal : Nat → am_I → am_G → Int32 → Int32 → Option (Unit × am_I × am_G)) (h : Nat) (I : am_I) (G : am_G) (v1 : Int32) (v2 : Int32) : L_X6_readProduct_28 cal 0 h I G v1 v2 = none := rfl
noncomputable def R_X6_readProduct_28 (cal : Nat → am_I → am_G → Int32 → Int32 → Option (Unit × am_I × am_G)) (I : am_I) (G : am_G) (x1 : Int32) : Option (Unit × am_I × am_G) := rb (cal 5 I G x1 (0 : Int32)) (fun r1 I1 G1 => L_X6_readProduct_28 cal FU 0 I1 G1 x1 (0 : Int32))
set_option maxRecDepth 20000 in
set_option maxHeartbeats 4000000 in
theorem l_X6_readProduct_28 {cal : Nat → am_I → am_G → Int32 → Int32 → Option (Unit × am_I × am_G)} {n9 : Nat} (h0 : ∀ (rd : Nat) (I : am_I) (G : am_G) (a : Int32) (out : Unit × am_I × am_G), cal 0 I G a (0 : Int32) = some out → am_Ct mX6_readTest (8 + n9) gS [.ref 28, .int a] I G (gP rd) (pV out.2.1 out.2.2 (gP rd))) (h1 : ∀ (rd : Nat) (I : am_I) (G : am_G) (a : Int32) (out : Unit × am_I × am_G), cal 1 I G a (0 : Int32) = some out → am_Ct mX6_readBoth (8 + n9) gS [.ref 28, .int a] I G (gP rd) (pV out.2.1 out.2.2 (gP rd))) (h2 : ∀ (rd : Nat) (I : am_I) (G : am_G) (a : Int32) (out : Unit × am_I × am_G), cal 2 I G a (0 : Int32) = some out → am_Ct mX6_readSingle (8 + n9) gS [.ref 28, .int a] I G (gP rd) (pV out.2.1 out.2.2 (gP rd))) (h3 : ∀ (rd : Nat) (I : am_I) (G : am_G) (a : Int32) (out : Unit × am_I × am_G), cal 3 I G a (0 : Int32) = some out → am_Ct mX6_readSum (8 + n9) gS [.ref 28, .int a] I G (gP rd) (pV out.2.1 out.2.2 (gP rd))) (h4 : ∀ (rd : Nat) (I : am_I) (G : am_G) (a : Int32) (out : Unit × am_I × am_G), cal 4 I G a (0 : Int32) = some out → am_Ct mX6_readProduct (8 + n9) gS [.ref 28, .int a] I G (gP rd) (pV out.2.1 out.2.2 (gP rd))) (h5 : ∀ (rd : Nat) (I : am_I) (G : am_G) (a : Int32) (out : Unit × am_I × am_G), cal 5 I G a (0 : Int32) = some out → am_Ct mX6_readValue (8 + n9) gS [.ref 28, .int a] I G (gP rd) (pV out.2.1 out.2.2 (gP rd))) (h6 : ∀ (rd : Nat) (I : am_I) (G : am_G) (a : Int32) (out : Unit × am_I × am_G), cal 6 I G a (0 : Int32) = some out → am_Ct mX6_readPair (8 + n9) gS [.ref 28, .int a] I G (gP rd) (pV out.2.1 out.2.2 (gP rd))) (rd : Nat) {X : am_X} {ad : Nat → Nat} (hX : am_okz X ad) (hi : am_info X 6 cX6_readProduct 4 false none (8 + n9 + 1)) (n : Nat) : (∀ (I : am_I) (G : am_G) (v1 : Int32) (v2 : Int32) (out : Unit × am_I × am_G), L_X6_readProduct_28 cal n 0 I G v1 v2 = some out → am_V X 0 0 (am_Rt X gS ad (pV out.2.1 out.2.2 (gP rd))) gS ad (7, [(0, .ref 28), (1, .int v1), (2, .int v2)], [], I, G, (gP rd))) := by
  induction n with
  | zero => exact fun I G v1 v2 out h => by rw [L_X6_readProduct_28_z] at h; cases h
  | succ n ih =>
    · intro I G v1 v2 out h
      rw [L_X6_readProduct_28_0] at h
      refine am_blk 7 [(.iload_n 2, 1, 2, 0, .null), (.sipush (400), 3, 0, 0, .int (400 : Int32))] (11, [(0, .ref 28), (1, .int v1), (2, .int v2)], [.int (400 : Int32), .int v2], I, G, (gP rd)) (True) hX hi (by decide +kernel) rfl trivial ?_
      refine am_icmp_ge (tgt := 64) hX hi (off := (53)) (by decide +kernel) (by decide) (fun c11 => ?_) (fun c11 => ?_)
      · rw [if_pos c11] at h
        cases h
        refine am_vret hX hi rfl (by decide +kernel) ?_
        exact ⟨rfl, rfl, rfl, rfl⟩
      · rw [if_neg c11] at h
        refine am_blk 14 [(.aload_n 0, 1, 0, 0, .null), (.getfield 62, 3, 6, 6, .null), (.bipush (32), 2, 0, 0, .int (32 : Int32))] (20, [(0, .ref 28), (1, .int v1), (2, .int v2)], [.int (32 : Int32), .int (I 28 6)], I, G, (gP rd)) (True) hX hi (by decide +kernel) rfl trivial ?_
        refine am_icmp_eq (tgt := 32) hX hi (off := (12)) (by decide +kernel) (by decide) (fun c20 => ?_) (fun c20 => ?_)
        · rw [if_pos c20] at h
          refine am_blk 32 [(.aload_n 0, 1, 0, 0, .null), (.getfield 62, 3, 6, 6, .null), (.istore_n 3, 1, 3, 0, .null), (.aload_n 0, 1, 0, 0, .null)] (38, [(0, .ref 28), (1, .int v1), (2, .int v2), (3, .int (I 28 6))], [.ref 28], I, G, (gP rd)) (True) hX hi (by decide +kernel) rfl trivial ?_
          refine am_callV hX hi (M := mX6_advance) (idx := 100) (d' := 2) (b := 28) (ci := 6) (As := []) (rest := []) mkX6_advance miX6_advance mvX6_advance (by decide +kernel) (by decide +kernel) rfl (by decide +kernel) rfl ⟨by omega, by decide, Nat.le_of_ble_eq_true rfl⟩ rfl (c_X6_advance_28 _ I G ) ?_
          rintro r9 I9 G9 P9 ⟨e0, e1, e2, e3⟩
          rw [e0, e1, e2, e3]
          show am_V X 0 0 _ _ ad (41, [(0, .ref 28), (1, .int v1), (2, .int v2), (3, .int (I 28 6))], [], (g_X6_advance_28 I G ), G, (gP rd))
          refine am_blk 41 [(.aload_n 0, 1, 0, 0, .null), (.iload_n 1, 1, 1, 0, .null)] (43, [(0, .ref 28), (1, .int v1), (2, .int v2), (3, .int (I 28 6))], [.int v1, .ref 28], (g_X6_advance_28 I G ), G, (gP rd)) (True) hX hi (by decide +kernel) rfl trivial ?_
          obtain ⟨r101, I101, G101, hc, h⟩ := rb_some h
          refine am_callV hX hi (M := mX6_readValue) (idx := 173) (d' := (8 + n9)) (b := 28) (ci := 6) (As := [.int v1]) (rest := []) mkX6_readValue miX6_readValue mvX6_readValue (by decide +kernel) (by decide +kernel) rfl (by decide +kernel) rfl ⟨by omega, by decide, Nat.le_of_ble_eq_true rfl⟩ rfl (h5 _ (g_X6_advance_28 I G ) G v1 _ hc) ?_
          rintro r9 I9 G9 P9 ⟨e0, e1, e2, e3⟩
          rw [e0, e1, e2, e3]
          show am_V X 0 0 _ _ ad (46, [(0, .ref 28), (1, .int v1), (2, .int v2), (3, .int (I 28 6))], [], I101, G101, (gP rd))
          refine am_blk 46 [(.aload_n 0, 1, 0, 0, .null), (.getfield 12, 3, 6, 1, .null), (.getfield 91, 3, 5, 8, .null), (.iload_n 3, 1, 3, 0, .null), (.iconst (0), 1, 0, 0, .int (0 : Int32))] (55, [(0, .ref 28), (1, .int v1), (2, .int v2), (3, .int (I 28 6))], [.int (0 : Int32), .int (I 28 6), .ref 38], I101, G101, (gP rd)) (True) hX hi (by decide +kernel) rfl trivial ?_
          refine am_callV hX hi (M := mX3_add) (idx := 161) (d' := 2) (b := 38) (ci := 3) (As := [.int (I 28 6), .int (0 : Int32)]) (rest := []) mkX3_add miX3_add mvX3_add (by decide +kernel) (by decide +kernel) rfl (by decide +kernel) rfl ⟨by omega, by decide, Nat.le_of_ble_eq_true rfl⟩ rfl (c_X3_add_38 _ I101 G101 (I 28 6) (0 : Int32)) ?_
          rintro r9 I9 G9 P9 ⟨e0, e1, e2, e3⟩
          rw [e0, e1, e2, e3]
          show am_V X 0 0 _ _ ad (58, [(0, .ref 28), (1, .int v1), (2, .int v2), (3, .int (I 28 6))], [], (g_X3_add_38 I101 G101 (I 28 6) (0 : Int32)), G101, (gP rd))
          refine am_blk 58 [(.iinc 2 (1), 3, 2, 0, .int (1 : Int32)), (.goto (-54), 3, 0, 7, .null)] (7, [(0, .ref 28), (1, .int v1), (2, .int (v2 + (1 : Int32))), (3, .int (I 28 6))], [], (g_X3_add_38 I101 G101 (I 28 6) (0 : Int32)), G101, (gP rd)) (True) hX hi (by decide +kernel) rfl trivial ?_
          refine am_sub (L' := [(0, .ref 28), (1, .int v1), (2, .int (v2 + (1 : Int32)))]) (by simp) ?_
          exact ih _ _ _ _ _ h
        · rw [if_neg c20] at h
          refine am_blk 23 [(.aload_n 0, 1, 0, 0, .null), (.getfield 62, 3, 6, 6, .null), (.bipush (33), 2, 0, 0, .int (33 : Int32))] (29, [(0, .ref 28), (1, .int v1), (2, .int v2)], [.int (33 : Int32), .int (I 28 6)], I, G, (gP rd)) (True) hX hi (by decide +kernel) rfl trivial ?_
          refine am_icmp_ne (tgt := 64) hX hi (off := (35)) (by decide +kernel) (by decide) (fun c29 => ?_) (fun c29 => ?_)
          · rw [if_neg c29] at h
            cases h
            refine am_vret hX hi rfl (by decide +kernel) ?_
            exact ⟨rfl, rfl, rfl, rfl⟩
          · rw [if_pos c29] at h
            refine am_blk 32 [(.aload_n 0, 1, 0, 0, .null), (.getfield 62, 3, 6, 6, .null), (.istore_n 3, 1, 3, 0, .null), (.aload_n 0, 1, 0, 0, .null)] (38, [(0, .ref 28), (1, .int v1), (2, .int v2), (3, .int (I 28 6))], [.ref 28], I, G, (gP rd)) (True) hX hi (by decide +kernel) rfl trivial ?_
            refine am_callV hX hi (M := mX6_advance) (idx := 100) (d' := 2) (b := 28) (ci := 6) (As := []) (rest := []) mkX6_advance miX6_advance mvX6_advance (by decide +kernel) (by decide +kernel) rfl (by decide +kernel) rfl ⟨by omega, by decide, Nat.le_of_ble_eq_true rfl⟩ rfl (c_X6_advance_28 _ I G ) ?_
            rintro r9 I9 G9 P9 ⟨e0, e1, e2, e3⟩
            rw [e0, e1, e2, e3]
            show am_V X 0 0 _ _ ad (41, [(0, .ref 28), (1, .int v1), (2, .int v2), (3, .int (I 28 6))], [], (g_X6_advance_28 I G ), G, (gP rd))
            refine am_blk 41 [(.aload_n 0, 1, 0, 0, .null), (.iload_n 1, 1, 1, 0, .null)] (43, [(0, .ref 28), (1, .int v1), (2, .int v2), (3, .int (I 28 6))], [.int v1, .ref 28], (g_X6_advance_28 I G ), G, (gP rd)) (True) hX hi (by decide +kernel) rfl trivial ?_
            obtain ⟨r102, I102, G102, hc, h⟩ := rb_some h
            refine am_callV hX hi (M := mX6_readValue) (idx := 173) (d' := (8 + n9)) (b := 28) (ci := 6) (As := [.int v1]) (rest := []) mkX6_readValue miX6_readValue mvX6_readValue (by decide +kernel) (by decide +kernel) rfl (by decide +kernel) rfl ⟨by omega, by decide, Nat.le_of_ble_eq_true rfl⟩ rfl (h5 _ (g_X6_advance_28 I G ) G v1 _ hc) ?_
            rintro r9 I9 G9 P9 ⟨e0, e1, e2, e3⟩
            rw [e0, e1, e2, e3]
            show am_V X 0 0 _ _ ad (46, [(0, .ref 28), (1, .int v1), (2, .int v2), (3, .int (I 28 6))], [], I102, G102, (gP rd))
            refine am_blk 46 [(.aload_n 0, 1, 0, 0, .null), (.getfield 12, 3, 6, 1, .null), (.getfield 91, 3, 5, 8, .null), (.iload_n 3, 1, 3, 0, .null), (.iconst (0), 1, 0, 0, .int (0 : Int32))] (55, [(0, .ref 28), (1, .int v1), (2, .int v2), (3, .int (I 28 6))], [.int (0 : Int32), .int (I 28 6), .ref 38], I102, G102, (gP rd)) (True) hX hi (by decide +kernel) rfl trivial ?_
            refine am_callV hX hi (M := mX3_add) (idx := 161) (d' := 2) (b := 38) (ci := 3) (As := [.int (I 28 6), .int (0 : Int32)]) (rest := []) mkX3_add miX3_add mvX3_add (by decide +kernel) (by decide +kernel) rfl (by decide +kernel) rfl ⟨by omega, by decide, Nat.le_of_ble_eq_true rfl⟩ rfl (c_X3_add_38 _ I102 G102 (I 28 6) (0 : Int32)) ?_
            rintro r9 I9 G9 P9 ⟨e0, e1, e2, e3⟩
            rw [e0, e1, e2, e3]
            show am_V X 0 0 _ _ ad (58, [(0, .ref 28), (1, .int v1), (2, .int v2), (3, .int (I 28 6))], [], (g_X3_add_38 I102 G102 (I 28 6) (0 : Int32)), G102, (gP rd))
            refine am_blk 58 [(.iinc 2 (1), 3, 2, 0, .int (1 : Int32)), (.goto (-54), 3, 0, 7, .null)] (7, [(0, .ref 28), (1, .int v1), (2, .int (v2 + (1 : Int32))), (3, .int (I 28 6))], [], (g_X3_add_38 I102 G102 (I 28 6) (0 : Int32)), G102, (gP rd)) (True) hX hi (by decide +kernel) rfl trivial ?_
            refine am_sub (L' := [(0, .ref 28), (1, .int v1), (2, .int (v2 + (1 : Int32)))]) (by simp) ?_
            exact ih _ _ _ _ _ h
set_option maxRecDepth 20000 in
set_option maxHeartbeats 4000000 in
theorem c_X6_readProduct_28 {cal : Nat → am_I → am_G → Int32 → Int32 → Option (Unit × am_I × am_G)} {n9 : Nat} (h0 : ∀ (rd : Nat) (I : am_I) (G : am_G) (a : Int32) (out : Unit × am_I × am_G), cal 0 I G a (0 : Int32) = some out → am_Ct mX6_readTest (8 + n9) gS [.ref 28, .int a] I G (gP rd) (pV out.2.1 out.2.2 (gP rd))) (h1 : ∀ (rd : Nat) (I : am_I) (G : am_G) (a : Int32) (out : Unit × am_I × am_G), cal 1 I G a (0 : Int32) = some out → am_Ct mX6_readBoth (8 + n9) gS [.ref 28, .int a] I G (gP rd) (pV out.2.1 out.2.2 (gP rd))) (h2 : ∀ (rd : Nat) (I : am_I) (G : am_G) (a : Int32) (out : Unit × am_I × am_G), cal 2 I G a (0 : Int32) = some out → am_Ct mX6_readSingle (8 + n9) gS [.ref 28, .int a] I G (gP rd) (pV out.2.1 out.2.2 (gP rd))) (h3 : ∀ (rd : Nat) (I : am_I) (G : am_G) (a : Int32) (out : Unit × am_I × am_G), cal 3 I G a (0 : Int32) = some out → am_Ct mX6_readSum (8 + n9) gS [.ref 28, .int a] I G (gP rd) (pV out.2.1 out.2.2 (gP rd))) (h4 : ∀ (rd : Nat) (I : am_I) (G : am_G) (a : Int32) (out : Unit × am_I × am_G), cal 4 I G a (0 : Int32) = some out → am_Ct mX6_readProduct (8 + n9) gS [.ref 28, .int a] I G (gP rd) (pV out.2.1 out.2.2 (gP rd))) (h5 : ∀ (rd : Nat) (I : am_I) (G : am_G) (a : Int32) (out : Unit × am_I × am_G), cal 5 I G a (0 : Int32) = some out → am_Ct mX6_readValue (8 + n9) gS [.ref 28, .int a] I G (gP rd) (pV out.2.1 out.2.2 (gP rd))) (h6 : ∀ (rd : Nat) (I : am_I) (G : am_G) (a : Int32) (out : Unit × am_I × am_G), cal 6 I G a (0 : Int32) = some out → am_Ct mX6_readPair (8 + n9) gS [.ref 28, .int a] I G (gP rd) (pV out.2.1 out.2.2 (gP rd))) (rd : Nat) (I : am_I) (G : am_G) (x1 : Int32) {out : Unit × am_I × am_G} (h : R_X6_readProduct_28 cal I G x1 = some out) : am_Ct mX6_readProduct (8 + n9 + 1) gS [.ref 28, .int x1] I G (gP rd) (pV out.2.1 out.2.2 (gP rd)) := by
  refine am_ofF (by decide +kernel) rfl (by decide) (by omega) (Nat.le_of_ble_eq_true rfl) (fun X ad hX hi => ?_)
  have hi : am_info X 6 cX6_readProduct 4 false none (8 + n9 + 1) := hi
  show am_V X 0 0 _ _ ad (0, [(0, .ref 28), (1, .int x1)], [], I, G, (gP rd))
  unfold R_X6_readProduct_28 at h
  refine am_blk 0 [(.aload_n 0, 1, 0, 0, .null), (.iload_n 1, 1, 1, 0, .null)] (2, [(0, .ref 28), (1, .int x1)], [.int x1, .ref 28], I, G, (gP rd)) (True) hX hi (by decide +kernel) rfl trivial ?_
  obtain ⟨r1, I1, G1, hc, h⟩ := rb_some h
  refine am_callV hX hi (M := mX6_readValue) (idx := 173) (d' := (8 + n9)) (b := 28) (ci := 6) (As := [.int x1]) (rest := []) mkX6_readValue miX6_readValue mvX6_readValue (by decide +kernel) (by decide +kernel) rfl (by decide +kernel) rfl ⟨by omega, by decide, Nat.le_of_ble_eq_true rfl⟩ rfl (h5 _ I G x1 _ hc) ?_
  rintro r9 I9 G9 P9 ⟨e0, e1, e2, e3⟩
  rw [e0, e1, e2, e3]
  show am_V X 0 0 _ _ ad (5, [(0, .ref 28), (1, .int x1)], [], I1, G1, (gP rd))
  refine am_blk 5 [(.iconst (0), 1, 0, 0, .int (0 : Int32)), (.istore_n 2, 1, 2, 0, .null)] (7, [(0, .ref 28), (1, .int x1), (2, .int (0 : Int32))], [], I1, G1, (gP rd)) (True) hX hi (by decide +kernel) rfl trivial ?_
  exact (l_X6_readProduct_28 h0 h1 h2 h3 h4 h5 h6 rd hX hi FU) _ _ _ _ _ h
noncomputable def L_X6_readValue_28 (cal : Nat → am_I → am_G → Int32 → Int32 → Option (Unit × am_I × am_G)) (n0 : Nat) (hd : Nat) (I : am_I) (G : am_G) (v1 : Int32) (v2 : Int32) : Option (Unit × am_I × am_G) := match n0 with
  | 0 => none
  | n + 1 => match hd with
    | _ => some ((), (g_X6_refuse_28 I G ), G)
theorem L_X6_readValue_28_0 (cal : Nat → am_I → am_G → Int32 → Int32 → Option (Unit × am_I × am_G)) (n : Nat) (I : am_I) (G : am_G) (v1 : Int32) (v2 : Int32) : L_X6_readValue_28 cal (n + 1) 0 I G v1 v2 = some ((), (g_X6_refuse_28 I G ), G) := rfl
theorem L_X6_readValue_28_z (cal : Nat → am_I → am_G → Int32 → Int32 → Option (Unit × am_I × am_G)) (h : Nat) (I : am_I) (G : am_G) (v1 : Int32) (v2 : Int32) : L_X6_readValue_28 cal 0 h I G v1 v2 = none := rfl
noncomputable def R_X6_readValue_28 (cal : Nat → am_I → am_G → Int32 → Int32 → Option (Unit × am_I × am_G)) (I : am_I) (G : am_G) (x1 : Int32) : Option (Unit × am_I × am_G) := (if (I 28 6) = (31 : Int32) then (if x1 < (8 : Int32) then (if (I 28 6) = (6 : Int32) then rb (R_X6_readKnownName_28_47 (g_X6_advance_28 I G ) G ) (fun r1 I1 G1 => some ((), (g_X3_add_38 I1 G1 (I 28 6) r1), G1)) else if (I 28 6) = (9 : Int32) then rb (R_X6_readKnownName_28_49 (g_X6_advance_28 I G ) G ) (fun r2 I2 G2 => some ((), (g_X3_add_38 I2 G2 (I 28 6) r2), G2)) else if (I 28 6) = (15 : Int32) then some ((), (g_X3_add_38 (g_X6_advance_28 I G ) G (I 28 6) (0 : Int32)), G) else if (I 28 6) = (16 : Int32) then rb (R_X6_readKnownName_28_51 (g_X6_advance_28 I G ) G ) (fun r3 I3 G3 => some ((), (g_X3_add_38 I3 G3 (I 28 6) r3), G3)) else if (I 28 6) = (17 : Int32) then rb (cal 6 (g_X6_advance_28 I G ) G x1 (0 : Int32)) (fun r4 I4 G4 => some ((), (g_X3_add_38 I4 G4 (I 28 6) (0 : Int32)), G4)) else if (I 28 6) = (22 : Int32) then rb (cal 6 (g_X6_advance_28 I G ) G x1 (0 : Int32)) (fun r5 I5 G5 => some ((), (g_X3_add_38 I5 G5 (I 28 6) (0 : Int32)), G5)) else if (I 28 6) = (23 : Int32) then rb (cal 6 (g_X6_advance_28 I G ) G x1 (0 : Int32)) (fun r6 I6 G6 => some ((), (g_X3_add_38 I6 G6 (I 28 6) (0 : Int32)), G6)) else if (I 28 6) = (24 : Int32) then rb (cal 3 (g_X6_advance_28 I G ) G (x1 + (1 : Int32)) (0 : Int32)) (fun r7 I7 G7 => some ((), (g_X6_expect_28 I7 G7 (25 : Int32)), G7)) else if (I 28 6) = (31 : Int32) then rb (cal 5 (g_X6_advance_28 I G ) G (x1 + (1 : Int32)) (0 : Int32)) (fun r8 I8 G8 => some ((), (g_X3_add_38 I8 G8 (43 : Int32) (0 : Int32)), G8)) else if (I 28 6) = (40 : Int32) then some ((), (g_X6_advance_28 (g_X3_add_38 I G (I 28 6) (f_X9_contentAt_1 I G (I 28 5)).toInt32) G ), G) else L_X6_readValue_28 cal FU 0 I G x1 (I 28 6)) else some ((), (g_X6_refuse_28 I G ), G)) else (if (I 28 6) = (24 : Int32) then (if x1 < (8 : Int32) then (if (I 28 6) = (6 : Int32) then rb (R_X6_readKnownName_28_47 (g_X6_advance_28 I G ) G ) (fun r17 I17 G17 => some ((), (g_X3_add_38 I17 G17 (I 28 6) r17), G17)) else if (I 28 6) = (9 : Int32) then rb (R_X6_readKnownName_28_49 (g_X6_advance_28 I G ) G ) (fun r18 I18 G18 => some ((), (g_X3_add_38 I18 G18 (I 28 6) r18), G18)) else if (I 28 6) = (15 : Int32) then some ((), (g_X3_add_38 (g_X6_advance_28 I G ) G (I 28 6) (0 : Int32)), G) else if (I 28 6) = (16 : Int32) then rb (R_X6_readKnownName_28_51 (g_X6_advance_28 I G ) G ) (fun r19 I19 G19 => some ((), (g_X3_add_38 I19 G19 (I 28 6) r19), G19)) else if (I 28 6) = (17 : Int32) then rb (cal 6 (g_X6_advance_28 I G ) G x1 (0 : Int32)) (fun r20 I20 G20 => some ((), (g_X3_add_38 I20 G20 (I 28 6) (0 : Int32)), G20)) else if (I 28 6) = (22 : Int32) then rb (cal 6 (g_X6_advance_28 I G ) G x1 (0 : Int32)) (fun r21 I21 G21 => some ((), (g_X3_add_38 I21 G21 (I 28 6) (0 : Int32)), G21)) else if (I 28 6) = (23 : Int32) then rb (cal 6 (g_X6_advance_28 I G ) G x1 (0 : Int32)) (fun r22 I22 G22 => some ((), (g_X3_add_38 I22 G22 (I 28 6) (0 : Int32)), G22)) else if (I 28 6) = (24 : Int32) then rb (cal 3 (g_X6_advance_28 I G ) G (x1 + (1 : Int32)) (0 : Int32)) (fun r23 I23 G23 => some ((), (g_X6_expect_28 I23 G23 (25 : Int32)), G23)) else if (I 28 6) = (31 : Int32) then rb (cal 5 (g_X6_advance_28 I G ) G (x1 + (1 : Int32)) (0 : Int32)) (fun r24 I24 G24 => some ((), (g_X3_add_38 I24 G24 (43 : Int32) (0 : Int32)), G24)) else if (I 28 6) = (40 : Int32) then some ((), (g_X6_advance_28 (g_X3_add_38 I G (I 28 6) (f_X9_contentAt_1 I G (I 28 5)).toInt32) G ), G) else L_X6_readValue_28 cal FU 0 I G x1 (I 28 6)) else some ((), (g_X6_refuse_28 I G ), G)) else (if (I 28 6) = (6 : Int32) then rb (R_X6_readKnownName_28_47 (g_X6_advance_28 I G ) G ) (fun r9 I9 G9 => some ((), (g_X3_add_38 I9 G9 (I 28 6) r9), G9)) else if (I 28 6) = (9 : Int32) then rb (R_X6_readKnownName_28_49 (g_X6_advance_28 I G ) G ) (fun r10 I10 G10 => some ((), (g_X3_add_38 I10 G10 (I 28 6) r10), G10)) else if (I 28 6) = (15 : Int32) then some ((), (g_X3_add_38 (g_X6_advance_28 I G ) G (I 28 6) (0 : Int32)), G) else if (I 28 6) = (16 : Int32) then rb (R_X6_readKnownName_28_51 (g_X6_advance_28 I G ) G ) (fun r11 I11 G11 => some ((), (g_X3_add_38 I11 G11 (I 28 6) r11), G11)) else if (I 28 6) = (17 : Int32) then rb (cal 6 (g_X6_advance_28 I G ) G x1 (0 : Int32)) (fun r12 I12 G12 => some ((), (g_X3_add_38 I12 G12 (I 28 6) (0 : Int32)), G12)) else if (I 28 6) = (22 : Int32) then rb (cal 6 (g_X6_advance_28 I G ) G x1 (0 : Int32)) (fun r13 I13 G13 => some ((), (g_X3_add_38 I13 G13 (I 28 6) (0 : Int32)), G13)) else if (I 28 6) = (23 : Int32) then rb (cal 6 (g_X6_advance_28 I G ) G x1 (0 : Int32)) (fun r14 I14 G14 => some ((), (g_X3_add_38 I14 G14 (I 28 6) (0 : Int32)), G14)) else if (I 28 6) = (24 : Int32) then rb (cal 3 (g_X6_advance_28 I G ) G (x1 + (1 : Int32)) (0 : Int32)) (fun r15 I15 G15 => some ((), (g_X6_expect_28 I15 G15 (25 : Int32)), G15)) else if (I 28 6) = (31 : Int32) then rb (cal 5 (g_X6_advance_28 I G ) G (x1 + (1 : Int32)) (0 : Int32)) (fun r16 I16 G16 => some ((), (g_X3_add_38 I16 G16 (43 : Int32) (0 : Int32)), G16)) else if (I 28 6) = (40 : Int32) then some ((), (g_X6_advance_28 (g_X3_add_38 I G (I 28 6) (f_X9_contentAt_1 I G (I 28 5)).toInt32) G ), G) else L_X6_readValue_28 cal FU 0 I G x1 (I 28 6))))
set_option maxRecDepth 20000 in
set_option maxHeartbeats 4000000 in
theorem l_X6_readValue_28 {cal : Nat → am_I → am_G → Int32 → Int32 → Option (Unit × am_I × am_G)} {n9 : Nat} (h0 : ∀ (rd : Nat) (I : am_I) (G : am_G) (a : Int32) (out : Unit × am_I × am_G), cal 0 I G a (0 : Int32) = some out → am_Ct mX6_readTest (8 + n9) gS [.ref 28, .int a] I G (gP rd) (pV out.2.1 out.2.2 (gP rd))) (h1 : ∀ (rd : Nat) (I : am_I) (G : am_G) (a : Int32) (out : Unit × am_I × am_G), cal 1 I G a (0 : Int32) = some out → am_Ct mX6_readBoth (8 + n9) gS [.ref 28, .int a] I G (gP rd) (pV out.2.1 out.2.2 (gP rd))) (h2 : ∀ (rd : Nat) (I : am_I) (G : am_G) (a : Int32) (out : Unit × am_I × am_G), cal 2 I G a (0 : Int32) = some out → am_Ct mX6_readSingle (8 + n9) gS [.ref 28, .int a] I G (gP rd) (pV out.2.1 out.2.2 (gP rd))) (h3 : ∀ (rd : Nat) (I : am_I) (G : am_G) (a : Int32) (out : Unit × am_I × am_G), cal 3 I G a (0 : Int32) = some out → am_Ct mX6_readSum (8 + n9) gS [.ref 28, .int a] I G (gP rd) (pV out.2.1 out.2.2 (gP rd))) (h4 : ∀ (rd : Nat) (I : am_I) (G : am_G) (a : Int32) (out : Unit × am_I × am_G), cal 4 I G a (0 : Int32) = some out → am_Ct mX6_readProduct (8 + n9) gS [.ref 28, .int a] I G (gP rd) (pV out.2.1 out.2.2 (gP rd))) (h5 : ∀ (rd : Nat) (I : am_I) (G : am_G) (a : Int32) (out : Unit × am_I × am_G), cal 5 I G a (0 : Int32) = some out → am_Ct mX6_readValue (8 + n9) gS [.ref 28, .int a] I G (gP rd) (pV out.2.1 out.2.2 (gP rd))) (h6 : ∀ (rd : Nat) (I : am_I) (G : am_G) (a : Int32) (out : Unit × am_I × am_G), cal 6 I G a (0 : Int32) = some out → am_Ct mX6_readPair (8 + n9) gS [.ref 28, .int a] I G (gP rd) (pV out.2.1 out.2.2 (gP rd))) (rd : Nat) {X : am_X} {ad : Nat → Nat} (hX : am_okz X ad) (hi : am_info X 6 cX6_readValue 3 false none (8 + n9 + 1)) (n : Nat) : (∀ (I : am_I) (G : am_G) (v1 : Int32) (v2 : Int32) (out : Unit × am_I × am_G), L_X6_readValue_28 cal n 0 I G v1 v2 = some out → am_V X 0 0 (am_Rt X gS ad (pV out.2.1 out.2.2 (gP rd))) gS ad (331, [(0, .ref 28), (1, .int v1), (2, .int v2)], [], I, G, (gP rd))) := by
  induction n with
  | zero => exact fun I G v1 v2 out h => by rw [L_X6_readValue_28_z] at h; cases h
  | succ n ih =>
    · intro I G v1 v2 out h
      rw [L_X6_readValue_28_0] at h
      refine am_blk 331 [(.aload_n 0, 1, 0, 0, .null)] (332, [(0, .ref 28), (1, .int v1), (2, .int v2)], [.ref 28], I, G, (gP rd)) (True) hX hi (by decide +kernel) rfl trivial ?_
      refine am_callV hX hi (M := mX6_refuse) (idx := 70) (d' := 2) (b := 28) (ci := 6) (As := []) (rest := []) mkX6_refuse miX6_refuse mvX6_refuse (by decide +kernel) (by decide +kernel) rfl (by decide +kernel) rfl ⟨by omega, by decide, Nat.le_of_ble_eq_true rfl⟩ rfl (c_X6_refuse_28 _ I G ) ?_
      rintro rz Iz Gz Pz ⟨e0, e1, e2, e3⟩
      rw [e0, e1, e2, e3]
      show am_V X 0 0 _ _ ad (335, [(0, .ref 28), (1, .int v1), (2, .int v2)], [], (g_X6_refuse_28 I G ), G, (gP rd))
      cases h
      refine am_vret hX hi rfl (by decide +kernel) ?_
      exact ⟨rfl, rfl, rfl, rfl⟩
set_option maxRecDepth 20000 in
set_option maxHeartbeats 4000000 in
theorem c_X6_readValue_28 {cal : Nat → am_I → am_G → Int32 → Int32 → Option (Unit × am_I × am_G)} {n9 : Nat} (h0 : ∀ (rd : Nat) (I : am_I) (G : am_G) (a : Int32) (out : Unit × am_I × am_G), cal 0 I G a (0 : Int32) = some out → am_Ct mX6_readTest (8 + n9) gS [.ref 28, .int a] I G (gP rd) (pV out.2.1 out.2.2 (gP rd))) (h1 : ∀ (rd : Nat) (I : am_I) (G : am_G) (a : Int32) (out : Unit × am_I × am_G), cal 1 I G a (0 : Int32) = some out → am_Ct mX6_readBoth (8 + n9) gS [.ref 28, .int a] I G (gP rd) (pV out.2.1 out.2.2 (gP rd))) (h2 : ∀ (rd : Nat) (I : am_I) (G : am_G) (a : Int32) (out : Unit × am_I × am_G), cal 2 I G a (0 : Int32) = some out → am_Ct mX6_readSingle (8 + n9) gS [.ref 28, .int a] I G (gP rd) (pV out.2.1 out.2.2 (gP rd))) (h3 : ∀ (rd : Nat) (I : am_I) (G : am_G) (a : Int32) (out : Unit × am_I × am_G), cal 3 I G a (0 : Int32) = some out → am_Ct mX6_readSum (8 + n9) gS [.ref 28, .int a] I G (gP rd) (pV out.2.1 out.2.2 (gP rd))) (h4 : ∀ (rd : Nat) (I : am_I) (G : am_G) (a : Int32) (out : Unit × am_I × am_G), cal 4 I G a (0 : Int32) = some out → am_Ct mX6_readProduct (8 + n9) gS [.ref 28, .int a] I G (gP rd) (pV out.2.1 out.2.2 (gP rd))) (h5 : ∀ (rd : Nat) (I : am_I) (G : am_G) (a : Int32) (out : Unit × am_I × am_G), cal 5 I G a (0 : Int32) = some out → am_Ct mX6_readValue (8 + n9) gS [.ref 28, .int a] I G (gP rd) (pV out.2.1 out.2.2 (gP rd))) (h6 : ∀ (rd : Nat) (I : am_I) (G : am_G) (a : Int32) (out : Unit × am_I × am_G), cal 6 I G a (0 : Int32) = some out → am_Ct mX6_readPair (8 + n9) gS [.ref 28, .int a] I G (gP rd) (pV out.2.1 out.2.2 (gP rd))) (rd : Nat) (I : am_I) (G : am_G) (x1 : Int32) {out : Unit × am_I × am_G} (h : R_X6_readValue_28 cal I G x1 = some out) : am_Ct mX6_readValue (8 + n9 + 1) gS [.ref 28, .int x1] I G (gP rd) (pV out.2.1 out.2.2 (gP rd)) := by
  refine am_ofF (by decide +kernel) rfl (by decide) (by omega) (Nat.le_of_ble_eq_true rfl) (fun X ad hX hi => ?_)
  have hi : am_info X 6 cX6_readValue 3 false none (8 + n9 + 1) := hi
  show am_V X 0 0 _ _ ad (0, [(0, .ref 28), (1, .int x1)], [], I, G, (gP rd))
  unfold R_X6_readValue_28 at h
  refine am_blk 0 [(.aload_n 0, 1, 0, 0, .null), (.getfield 62, 3, 6, 6, .null), (.istore_n 2, 1, 2, 0, .null), (.iload_n 2, 1, 2, 0, .null), (.bipush (31), 2, 0, 0, .int (31 : Int32))] (8, [(0, .ref 28), (1, .int x1), (2, .int (I 28 6))], [.int (31 : Int32), .int (I 28 6)], I, G, (gP rd)) (True) hX hi (by decide +kernel) rfl trivial ?_
  refine am_icmp_eq (tgt := 17) hX hi (off := (9)) (by decide +kernel) (by decide) (fun c8 => ?_) (fun c8 => ?_)
  · rw [if_pos c8] at h
    refine am_blk 17 [(.iload_n 1, 1, 1, 0, .null), (.bipush (8), 2, 0, 0, .int (8 : Int32))] (20, [(0, .ref 28), (1, .int x1), (2, .int (I 28 6))], [.int (8 : Int32), .int x1], I, G, (gP rd)) (True) hX hi (by decide +kernel) rfl trivial ?_
    refine am_icmp_lt (tgt := 28) hX hi (off := (8)) (by decide +kernel) (by decide) (fun c20 => ?_) (fun c20 => ?_)
    · rw [if_pos c20] at h
      refine am_blk 28 [(.iload_n 2, 1, 2, 0, .null)] (29, [(0, .ref 28), (1, .int x1), (2, .int (I 28 6))], [.int (I 28 6)], I, G, (gP rd)) (True) hX hi (by decide +kernel) rfl trivial ?_
      by_cases s29_6 : (I 28 6) = (6 : Int32)
      · rw [if_pos s29_6] at h
        refine am_tsi hX hi (dflt := (302)) (lo := (6)) (hi' := (40)) (offs := #[(204), (302), (302), (204), (302), (302), (302), (302), (302), (185), (204), (231), (302), (302), (302), (302), (231), (231), (282), (302), (302), (302), (302), (302), (302), (255), (302), (302), (302), (302), (302), (302), (302), (302), (155)]) (len := 155) (off := (204)) (tgt := 233) (by decide +kernel) (by rw [s29_6]; decide) (by rw [s29_6]; decide) (by rw [s29_6]; rfl) (by decide) ?_
        refine am_blk 233 [(.aload_n 0, 1, 0, 0, .null)] (234, [(0, .ref 28), (1, .int x1), (2, .int (I 28 6))], [.ref 28], I, G, (gP rd)) (True) hX hi (by decide +kernel) rfl trivial ?_
        refine am_callV hX hi (M := mX6_advance) (idx := 100) (d' := 2) (b := 28) (ci := 6) (As := []) (rest := []) mkX6_advance miX6_advance mvX6_advance (by decide +kernel) (by decide +kernel) rfl (by decide +kernel) rfl ⟨by omega, by decide, Nat.le_of_ble_eq_true rfl⟩ rfl (c_X6_advance_28 _ I G ) ?_
        rintro rz Iz Gz Pz ⟨e0, e1, e2, e3⟩
        rw [e0, e1, e2, e3]
        show am_V X 0 0 _ _ ad (237, [(0, .ref 28), (1, .int x1), (2, .int (I 28 6))], [], (g_X6_advance_28 I G ), G, (gP rd))
        refine am_blk 237 [(.aload_n 0, 1, 0, 0, .null), (.getfield 12, 3, 6, 1, .null), (.getfield 91, 3, 5, 8, .null), (.iload_n 2, 1, 2, 0, .null), (.aload_n 0, 1, 0, 0, .null), (.aload_n 0, 1, 0, 0, .null), (.iload_n 2, 1, 2, 0, .null)] (248, [(0, .ref 28), (1, .int x1), (2, .int (I 28 6))], [.int (I 28 6), .ref 28, .ref 28, .int (I 28 6), .ref 38], (g_X6_advance_28 I G ), G, (gP rd)) (True) hX hi (by decide +kernel) rfl trivial ?_
        refine am_callV hX hi (M := mX6_namesBehind) (idx := 180) (d' := 1) (b := 28) (ci := 6) (As := [.int (I 28 6)]) (rest := [.ref 28, .int (I 28 6), .ref 38]) mkX6_namesBehind miX6_namesBehind mvX6_namesBehind (by decide +kernel) (by decide +kernel) rfl (by decide +kernel) rfl ⟨by omega, by decide, Nat.le_of_ble_eq_true rfl⟩ rfl ((c_namesBehind _ (g_X6_advance_28 I G ) G (I 28 6)).mono (fun r I9 G9 P9 q => by rw [s29_6] at q; exact q)) ?_
        rintro rz Iz Gz Pz ⟨e0, e1, e2, e3⟩
        rw [e0, e1, e2, e3]
        show am_V X 0 0 _ _ ad (251, [(0, .ref 28), (1, .int x1), (2, .int (I 28 6))], [.ref 47, .ref 28, .int (I 28 6), .ref 38], (g_X6_advance_28 I G ), G, (gP rd))
        obtain ⟨r1, I1, G1, hc, h⟩ := rb_some h
        refine am_callV hX hi (M := mX6_readKnownName) (idx := 150) (d' := 3) (b := 28) (ci := 6) (As := [.ref 47]) (rest := [.int (I 28 6), .ref 38]) mkX6_readKnownName miX6_readKnownName mvX6_readKnownName (by decide +kernel) (by decide +kernel) rfl (by decide +kernel) rfl ⟨by omega, by decide, Nat.le_of_ble_eq_true rfl⟩ rfl (c_X6_readKnownName_28_47 _ (g_X6_advance_28 I G ) G  hc) ?_
        rintro rz Iz Gz Pz ⟨e0, e1, e2, e3⟩
        rw [e0, e1, e2, e3]
        show am_V X 0 0 _ _ ad (254, [(0, .ref 28), (1, .int x1), (2, .int (I 28 6))], [.int r1, .int (I 28 6), .ref 38], I1, G1, (gP rd))
        refine am_callV hX hi (M := mX3_add) (idx := 161) (d' := 2) (b := 38) (ci := 3) (As := [.int (I 28 6), .int r1]) (rest := []) mkX3_add miX3_add mvX3_add (by decide +kernel) (by decide +kernel) rfl (by decide +kernel) rfl ⟨by omega, by decide, Nat.le_of_ble_eq_true rfl⟩ rfl (c_X3_add_38 _ I1 G1 (I 28 6) r1) ?_
        rintro rz Iz Gz Pz ⟨e0, e1, e2, e3⟩
        rw [e0, e1, e2, e3]
        show am_V X 0 0 _ _ ad (257, [(0, .ref 28), (1, .int x1), (2, .int (I 28 6))], [], (g_X3_add_38 I1 G1 (I 28 6) r1), G1, (gP rd))
        refine am_blk 257 [(.goto (78), 3, 0, 335, .null)] (335, [(0, .ref 28), (1, .int x1), (2, .int (I 28 6))], [], (g_X3_add_38 I1 G1 (I 28 6) r1), G1, (gP rd)) (True) hX hi (by decide +kernel) rfl trivial ?_
        cases h
        refine am_vret hX hi rfl (by decide +kernel) ?_
        exact ⟨rfl, rfl, rfl, rfl⟩
      rw [if_neg s29_6] at h
      by_cases s29_9 : (I 28 6) = (9 : Int32)
      · rw [if_pos s29_9] at h
        refine am_tsi hX hi (dflt := (302)) (lo := (6)) (hi' := (40)) (offs := #[(204), (302), (302), (204), (302), (302), (302), (302), (302), (185), (204), (231), (302), (302), (302), (302), (231), (231), (282), (302), (302), (302), (302), (302), (302), (255), (302), (302), (302), (302), (302), (302), (302), (302), (155)]) (len := 155) (off := (204)) (tgt := 233) (by decide +kernel) (by rw [s29_9]; decide) (by rw [s29_9]; decide) (by rw [s29_9]; rfl) (by decide) ?_
        refine am_blk 233 [(.aload_n 0, 1, 0, 0, .null)] (234, [(0, .ref 28), (1, .int x1), (2, .int (I 28 6))], [.ref 28], I, G, (gP rd)) (True) hX hi (by decide +kernel) rfl trivial ?_
        refine am_callV hX hi (M := mX6_advance) (idx := 100) (d' := 2) (b := 28) (ci := 6) (As := []) (rest := []) mkX6_advance miX6_advance mvX6_advance (by decide +kernel) (by decide +kernel) rfl (by decide +kernel) rfl ⟨by omega, by decide, Nat.le_of_ble_eq_true rfl⟩ rfl (c_X6_advance_28 _ I G ) ?_
        rintro rz Iz Gz Pz ⟨e0, e1, e2, e3⟩
        rw [e0, e1, e2, e3]
        show am_V X 0 0 _ _ ad (237, [(0, .ref 28), (1, .int x1), (2, .int (I 28 6))], [], (g_X6_advance_28 I G ), G, (gP rd))
        refine am_blk 237 [(.aload_n 0, 1, 0, 0, .null), (.getfield 12, 3, 6, 1, .null), (.getfield 91, 3, 5, 8, .null), (.iload_n 2, 1, 2, 0, .null), (.aload_n 0, 1, 0, 0, .null), (.aload_n 0, 1, 0, 0, .null), (.iload_n 2, 1, 2, 0, .null)] (248, [(0, .ref 28), (1, .int x1), (2, .int (I 28 6))], [.int (I 28 6), .ref 28, .ref 28, .int (I 28 6), .ref 38], (g_X6_advance_28 I G ), G, (gP rd)) (True) hX hi (by decide +kernel) rfl trivial ?_
        refine am_callV hX hi (M := mX6_namesBehind) (idx := 180) (d' := 1) (b := 28) (ci := 6) (As := [.int (I 28 6)]) (rest := [.ref 28, .int (I 28 6), .ref 38]) mkX6_namesBehind miX6_namesBehind mvX6_namesBehind (by decide +kernel) (by decide +kernel) rfl (by decide +kernel) rfl ⟨by omega, by decide, Nat.le_of_ble_eq_true rfl⟩ rfl ((c_namesBehind _ (g_X6_advance_28 I G ) G (I 28 6)).mono (fun r I9 G9 P9 q => by rw [s29_9] at q; exact q)) ?_
        rintro rz Iz Gz Pz ⟨e0, e1, e2, e3⟩
        rw [e0, e1, e2, e3]
        show am_V X 0 0 _ _ ad (251, [(0, .ref 28), (1, .int x1), (2, .int (I 28 6))], [.ref 49, .ref 28, .int (I 28 6), .ref 38], (g_X6_advance_28 I G ), G, (gP rd))
        obtain ⟨r2, I2, G2, hc, h⟩ := rb_some h
        refine am_callV hX hi (M := mX6_readKnownName) (idx := 150) (d' := 3) (b := 28) (ci := 6) (As := [.ref 49]) (rest := [.int (I 28 6), .ref 38]) mkX6_readKnownName miX6_readKnownName mvX6_readKnownName (by decide +kernel) (by decide +kernel) rfl (by decide +kernel) rfl ⟨by omega, by decide, Nat.le_of_ble_eq_true rfl⟩ rfl (c_X6_readKnownName_28_49 _ (g_X6_advance_28 I G ) G  hc) ?_
        rintro rz Iz Gz Pz ⟨e0, e1, e2, e3⟩
        rw [e0, e1, e2, e3]
        show am_V X 0 0 _ _ ad (254, [(0, .ref 28), (1, .int x1), (2, .int (I 28 6))], [.int r2, .int (I 28 6), .ref 38], I2, G2, (gP rd))
        refine am_callV hX hi (M := mX3_add) (idx := 161) (d' := 2) (b := 38) (ci := 3) (As := [.int (I 28 6), .int r2]) (rest := []) mkX3_add miX3_add mvX3_add (by decide +kernel) (by decide +kernel) rfl (by decide +kernel) rfl ⟨by omega, by decide, Nat.le_of_ble_eq_true rfl⟩ rfl (c_X3_add_38 _ I2 G2 (I 28 6) r2) ?_
        rintro rz Iz Gz Pz ⟨e0, e1, e2, e3⟩
        rw [e0, e1, e2, e3]
        show am_V X 0 0 _ _ ad (257, [(0, .ref 28), (1, .int x1), (2, .int (I 28 6))], [], (g_X3_add_38 I2 G2 (I 28 6) r2), G2, (gP rd))
        refine am_blk 257 [(.goto (78), 3, 0, 335, .null)] (335, [(0, .ref 28), (1, .int x1), (2, .int (I 28 6))], [], (g_X3_add_38 I2 G2 (I 28 6) r2), G2, (gP rd)) (True) hX hi (by decide +kernel) rfl trivial ?_
        cases h
        refine am_vret hX hi rfl (by decide +kernel) ?_
        exact ⟨rfl, rfl, rfl, rfl⟩
      rw [if_neg s29_9] at h
      by_cases s29_15 : (I 28 6) = (15 : Int32)
      · rw [if_pos s29_15] at h
        refine am_tsi hX hi (dflt := (302)) (lo := (6)) (hi' := (40)) (offs := #[(204), (302), (302), (204), (302), (302), (302), (302), (302), (185), (204), (231), (302), (302), (302), (302), (231), (231), (282), (302), (302), (302), (302), (302), (302), (255), (302), (302), (302), (302), (302), (302), (302), (302), (155)]) (len := 155) (off := (185)) (tgt := 214) (by decide +kernel) (by rw [s29_15]; decide) (by rw [s29_15]; decide) (by rw [s29_15]; rfl) (by decide) ?_
        refine am_blk 214 [(.aload_n 0, 1, 0, 0, .null)] (215, [(0, .ref 28), (1, .int x1), (2, .int (I 28 6))], [.ref 28], I, G, (gP rd)) (True) hX hi (by decide +kernel) rfl trivial ?_
        refine am_callV hX hi (M := mX6_advance) (idx := 100) (d' := 2) (b := 28) (ci := 6) (As := []) (rest := []) mkX6_advance miX6_advance mvX6_advance (by decide +kernel) (by decide +kernel) rfl (by decide +kernel) rfl ⟨by omega, by decide, Nat.le_of_ble_eq_true rfl⟩ rfl (c_X6_advance_28 _ I G ) ?_
        rintro rz Iz Gz Pz ⟨e0, e1, e2, e3⟩
        rw [e0, e1, e2, e3]
        show am_V X 0 0 _ _ ad (218, [(0, .ref 28), (1, .int x1), (2, .int (I 28 6))], [], (g_X6_advance_28 I G ), G, (gP rd))
        refine am_blk 218 [(.aload_n 0, 1, 0, 0, .null), (.getfield 12, 3, 6, 1, .null), (.getfield 91, 3, 5, 8, .null), (.iload_n 2, 1, 2, 0, .null), (.iconst (0), 1, 0, 0, .int (0 : Int32))] (227, [(0, .ref 28), (1, .int x1), (2, .int (I 28 6))], [.int (0 : Int32), .int (I 28 6), .ref 38], (g_X6_advance_28 I G ), G, (gP rd)) (True) hX hi (by decide +kernel) rfl trivial ?_
        refine am_callV hX hi (M := mX3_add) (idx := 161) (d' := 2) (b := 38) (ci := 3) (As := [.int (I 28 6), .int (0 : Int32)]) (rest := []) mkX3_add miX3_add mvX3_add (by decide +kernel) (by decide +kernel) rfl (by decide +kernel) rfl ⟨by omega, by decide, Nat.le_of_ble_eq_true rfl⟩ rfl (c_X3_add_38 _ (g_X6_advance_28 I G ) G (I 28 6) (0 : Int32)) ?_
        rintro rz Iz Gz Pz ⟨e0, e1, e2, e3⟩
        rw [e0, e1, e2, e3]
        show am_V X 0 0 _ _ ad (230, [(0, .ref 28), (1, .int x1), (2, .int (I 28 6))], [], (g_X3_add_38 (g_X6_advance_28 I G ) G (I 28 6) (0 : Int32)), G, (gP rd))
        refine am_blk 230 [(.goto (105), 3, 0, 335, .null)] (335, [(0, .ref 28), (1, .int x1), (2, .int (I 28 6))], [], (g_X3_add_38 (g_X6_advance_28 I G ) G (I 28 6) (0 : Int32)), G, (gP rd)) (True) hX hi (by decide +kernel) rfl trivial ?_
        cases h
        refine am_vret hX hi rfl (by decide +kernel) ?_
        exact ⟨rfl, rfl, rfl, rfl⟩
      rw [if_neg s29_15] at h
      by_cases s29_16 : (I 28 6) = (16 : Int32)
      · rw [if_pos s29_16] at h
        refine am_tsi hX hi (dflt := (302)) (lo := (6)) (hi' := (40)) (offs := #[(204), (302), (302), (204), (302), (302), (302), (302), (302), (185), (204), (231), (302), (302), (302), (302), (231), (231), (282), (302), (302), (302), (302), (302), (302), (255), (302), (302), (302), (302), (302), (302), (302), (302), (155)]) (len := 155) (off := (204)) (tgt := 233) (by decide +kernel) (by rw [s29_16]; decide) (by rw [s29_16]; decide) (by rw [s29_16]; rfl) (by decide) ?_
        refine am_blk 233 [(.aload_n 0, 1, 0, 0, .null)] (234, [(0, .ref 28), (1, .int x1), (2, .int (I 28 6))], [.ref 28], I, G, (gP rd)) (True) hX hi (by decide +kernel) rfl trivial ?_
        refine am_callV hX hi (M := mX6_advance) (idx := 100) (d' := 2) (b := 28) (ci := 6) (As := []) (rest := []) mkX6_advance miX6_advance mvX6_advance (by decide +kernel) (by decide +kernel) rfl (by decide +kernel) rfl ⟨by omega, by decide, Nat.le_of_ble_eq_true rfl⟩ rfl (c_X6_advance_28 _ I G ) ?_
        rintro rz Iz Gz Pz ⟨e0, e1, e2, e3⟩
        rw [e0, e1, e2, e3]
        show am_V X 0 0 _ _ ad (237, [(0, .ref 28), (1, .int x1), (2, .int (I 28 6))], [], (g_X6_advance_28 I G ), G, (gP rd))
        refine am_blk 237 [(.aload_n 0, 1, 0, 0, .null), (.getfield 12, 3, 6, 1, .null), (.getfield 91, 3, 5, 8, .null), (.iload_n 2, 1, 2, 0, .null), (.aload_n 0, 1, 0, 0, .null), (.aload_n 0, 1, 0, 0, .null), (.iload_n 2, 1, 2, 0, .null)] (248, [(0, .ref 28), (1, .int x1), (2, .int (I 28 6))], [.int (I 28 6), .ref 28, .ref 28, .int (I 28 6), .ref 38], (g_X6_advance_28 I G ), G, (gP rd)) (True) hX hi (by decide +kernel) rfl trivial ?_
        refine am_callV hX hi (M := mX6_namesBehind) (idx := 180) (d' := 1) (b := 28) (ci := 6) (As := [.int (I 28 6)]) (rest := [.ref 28, .int (I 28 6), .ref 38]) mkX6_namesBehind miX6_namesBehind mvX6_namesBehind (by decide +kernel) (by decide +kernel) rfl (by decide +kernel) rfl ⟨by omega, by decide, Nat.le_of_ble_eq_true rfl⟩ rfl ((c_namesBehind _ (g_X6_advance_28 I G ) G (I 28 6)).mono (fun r I9 G9 P9 q => by rw [s29_16] at q; exact q)) ?_
        rintro rz Iz Gz Pz ⟨e0, e1, e2, e3⟩
        rw [e0, e1, e2, e3]
        show am_V X 0 0 _ _ ad (251, [(0, .ref 28), (1, .int x1), (2, .int (I 28 6))], [.ref 51, .ref 28, .int (I 28 6), .ref 38], (g_X6_advance_28 I G ), G, (gP rd))
        obtain ⟨r3, I3, G3, hc, h⟩ := rb_some h
        refine am_callV hX hi (M := mX6_readKnownName) (idx := 150) (d' := 3) (b := 28) (ci := 6) (As := [.ref 51]) (rest := [.int (I 28 6), .ref 38]) mkX6_readKnownName miX6_readKnownName mvX6_readKnownName (by decide +kernel) (by decide +kernel) rfl (by decide +kernel) rfl ⟨by omega, by decide, Nat.le_of_ble_eq_true rfl⟩ rfl (c_X6_readKnownName_28_51 _ (g_X6_advance_28 I G ) G  hc) ?_
        rintro rz Iz Gz Pz ⟨e0, e1, e2, e3⟩
        rw [e0, e1, e2, e3]
        show am_V X 0 0 _ _ ad (254, [(0, .ref 28), (1, .int x1), (2, .int (I 28 6))], [.int r3, .int (I 28 6), .ref 38], I3, G3, (gP rd))
        refine am_callV hX hi (M := mX3_add) (idx := 161) (d' := 2) (b := 38) (ci := 3) (As := [.int (I 28 6), .int r3]) (rest := []) mkX3_add miX3_add mvX3_add (by decide +kernel) (by decide +kernel) rfl (by decide +kernel) rfl ⟨by omega, by decide, Nat.le_of_ble_eq_true rfl⟩ rfl (c_X3_add_38 _ I3 G3 (I 28 6) r3) ?_
        rintro rz Iz Gz Pz ⟨e0, e1, e2, e3⟩
        rw [e0, e1, e2, e3]
        show am_V X 0 0 _ _ ad (257, [(0, .ref 28), (1, .int x1), (2, .int (I 28 6))], [], (g_X3_add_38 I3 G3 (I 28 6) r3), G3, (gP rd))
        refine am_blk 257 [(.goto (78), 3, 0, 335, .null)] (335, [(0, .ref 28), (1, .int x1), (2, .int (I 28 6))], [], (g_X3_add_38 I3 G3 (I 28 6) r3), G3, (gP rd)) (True) hX hi (by decide +kernel) rfl trivial ?_
        cases h
        refine am_vret hX hi rfl (by decide +kernel) ?_
        exact ⟨rfl, rfl, rfl, rfl⟩
      rw [if_neg s29_16] at h
      by_cases s29_17 : (I 28 6) = (17 : Int32)
      · rw [if_pos s29_17] at h
        refine am_tsi hX hi (dflt := (302)) (lo := (6)) (hi' := (40)) (offs := #[(204), (302), (302), (204), (302), (302), (302), (302), (302), (185), (204), (231), (302), (302), (302), (302), (231), (231), (282), (302), (302), (302), (302), (302), (302), (255), (302), (302), (302), (302), (302), (302), (302), (302), (155)]) (len := 155) (off := (231)) (tgt := 260) (by decide +kernel) (by rw [s29_17]; decide) (by rw [s29_17]; decide) (by rw [s29_17]; rfl) (by decide) ?_
        refine am_blk 260 [(.aload_n 0, 1, 0, 0, .null)] (261, [(0, .ref 28), (1, .int x1), (2, .int (I 28 6))], [.ref 28], I, G, (gP rd)) (True) hX hi (by decide +kernel) rfl trivial ?_
        refine am_callV hX hi (M := mX6_advance) (idx := 100) (d' := 2) (b := 28) (ci := 6) (As := []) (rest := []) mkX6_advance miX6_advance mvX6_advance (by decide +kernel) (by decide +kernel) rfl (by decide +kernel) rfl ⟨by omega, by decide, Nat.le_of_ble_eq_true rfl⟩ rfl (c_X6_advance_28 _ I G ) ?_
        rintro rz Iz Gz Pz ⟨e0, e1, e2, e3⟩
        rw [e0, e1, e2, e3]
        show am_V X 0 0 _ _ ad (264, [(0, .ref 28), (1, .int x1), (2, .int (I 28 6))], [], (g_X6_advance_28 I G ), G, (gP rd))
        refine am_blk 264 [(.aload_n 0, 1, 0, 0, .null), (.iload_n 1, 1, 1, 0, .null)] (266, [(0, .ref 28), (1, .int x1), (2, .int (I 28 6))], [.int x1, .ref 28], (g_X6_advance_28 I G ), G, (gP rd)) (True) hX hi (by decide +kernel) rfl trivial ?_
        obtain ⟨r4, I4, G4, hc, h⟩ := rb_some h
        refine am_callV hX hi (M := mX6_readPair) (idx := 184) (d' := (8 + n9)) (b := 28) (ci := 6) (As := [.int x1]) (rest := []) mkX6_readPair miX6_readPair mvX6_readPair (by decide +kernel) (by decide +kernel) rfl (by decide +kernel) rfl ⟨by omega, by decide, Nat.le_of_ble_eq_true rfl⟩ rfl (h6 _ (g_X6_advance_28 I G ) G x1 _ hc) ?_
        rintro rz Iz Gz Pz ⟨e0, e1, e2, e3⟩
        rw [e0, e1, e2, e3]
        show am_V X 0 0 _ _ ad (269, [(0, .ref 28), (1, .int x1), (2, .int (I 28 6))], [], I4, G4, (gP rd))
        refine am_blk 269 [(.aload_n 0, 1, 0, 0, .null), (.getfield 12, 3, 6, 1, .null), (.getfield 91, 3, 5, 8, .null), (.iload_n 2, 1, 2, 0, .null), (.iconst (0), 1, 0, 0, .int (0 : Int32))] (278, [(0, .ref 28), (1, .int x1), (2, .int (I 28 6))], [.int (0 : Int32), .int (I 28 6), .ref 38], I4, G4, (gP rd)) (True) hX hi (by decide +kernel) rfl trivial ?_
        refine am_callV hX hi (M := mX3_add) (idx := 161) (d' := 2) (b := 38) (ci := 3) (As := [.int (I 28 6), .int (0 : Int32)]) (rest := []) mkX3_add miX3_add mvX3_add (by decide +kernel) (by decide +kernel) rfl (by decide +kernel) rfl ⟨by omega, by decide, Nat.le_of_ble_eq_true rfl⟩ rfl (c_X3_add_38 _ I4 G4 (I 28 6) (0 : Int32)) ?_
        rintro rz Iz Gz Pz ⟨e0, e1, e2, e3⟩
        rw [e0, e1, e2, e3]
        show am_V X 0 0 _ _ ad (281, [(0, .ref 28), (1, .int x1), (2, .int (I 28 6))], [], (g_X3_add_38 I4 G4 (I 28 6) (0 : Int32)), G4, (gP rd))
        refine am_blk 281 [(.goto (54), 3, 0, 335, .null)] (335, [(0, .ref 28), (1, .int x1), (2, .int (I 28 6))], [], (g_X3_add_38 I4 G4 (I 28 6) (0 : Int32)), G4, (gP rd)) (True) hX hi (by decide +kernel) rfl trivial ?_
        cases h
        refine am_vret hX hi rfl (by decide +kernel) ?_
        exact ⟨rfl, rfl, rfl, rfl⟩
      rw [if_neg s29_17] at h
      by_cases s29_22 : (I 28 6) = (22 : Int32)
      · rw [if_pos s29_22] at h
        refine am_tsi hX hi (dflt := (302)) (lo := (6)) (hi' := (40)) (offs := #[(204), (302), (302), (204), (302), (302), (302), (302), (302), (185), (204), (231), (302), (302), (302), (302), (231), (231), (282), (302), (302), (302), (302), (302), (302), (255), (302), (302), (302), (302), (302), (302), (302), (302), (155)]) (len := 155) (off := (231)) (tgt := 260) (by decide +kernel) (by rw [s29_22]; decide) (by rw [s29_22]; decide) (by rw [s29_22]; rfl) (by decide) ?_
        refine am_blk 260 [(.aload_n 0, 1, 0, 0, .null)] (261, [(0, .ref 28), (1, .int x1), (2, .int (I 28 6))], [.ref 28], I, G, (gP rd)) (True) hX hi (by decide +kernel) rfl trivial ?_
        refine am_callV hX hi (M := mX6_advance) (idx := 100) (d' := 2) (b := 28) (ci := 6) (As := []) (rest := []) mkX6_advance miX6_advance mvX6_advance (by decide +kernel) (by decide +kernel) rfl (by decide +kernel) rfl ⟨by omega, by decide, Nat.le_of_ble_eq_true rfl⟩ rfl (c_X6_advance_28 _ I G ) ?_
        rintro rz Iz Gz Pz ⟨e0, e1, e2, e3⟩
        rw [e0, e1, e2, e3]
        show am_V X 0 0 _ _ ad (264, [(0, .ref 28), (1, .int x1), (2, .int (I 28 6))], [], (g_X6_advance_28 I G ), G, (gP rd))
        refine am_blk 264 [(.aload_n 0, 1, 0, 0, .null), (.iload_n 1, 1, 1, 0, .null)] (266, [(0, .ref 28), (1, .int x1), (2, .int (I 28 6))], [.int x1, .ref 28], (g_X6_advance_28 I G ), G, (gP rd)) (True) hX hi (by decide +kernel) rfl trivial ?_
        obtain ⟨r5, I5, G5, hc, h⟩ := rb_some h
        refine am_callV hX hi (M := mX6_readPair) (idx := 184) (d' := (8 + n9)) (b := 28) (ci := 6) (As := [.int x1]) (rest := []) mkX6_readPair miX6_readPair mvX6_readPair (by decide +kernel) (by decide +kernel) rfl (by decide +kernel) rfl ⟨by omega, by decide, Nat.le_of_ble_eq_true rfl⟩ rfl (h6 _ (g_X6_advance_28 I G ) G x1 _ hc) ?_
        rintro rz Iz Gz Pz ⟨e0, e1, e2, e3⟩
        rw [e0, e1, e2, e3]
        show am_V X 0 0 _ _ ad (269, [(0, .ref 28), (1, .int x1), (2, .int (I 28 6))], [], I5, G5, (gP rd))
        refine am_blk 269 [(.aload_n 0, 1, 0, 0, .null), (.getfield 12, 3, 6, 1, .null), (.getfield 91, 3, 5, 8, .null), (.iload_n 2, 1, 2, 0, .null), (.iconst (0), 1, 0, 0, .int (0 : Int32))] (278, [(0, .ref 28), (1, .int x1), (2, .int (I 28 6))], [.int (0 : Int32), .int (I 28 6), .ref 38], I5, G5, (gP rd)) (True) hX hi (by decide +kernel) rfl trivial ?_
        refine am_callV hX hi (M := mX3_add) (idx := 161) (d' := 2) (b := 38) (ci := 3) (As := [.int (I 28 6), .int (0 : Int32)]) (rest := []) mkX3_add miX3_add mvX3_add (by decide +kernel) (by decide +kernel) rfl (by decide +kernel) rfl ⟨by omega, by decide, Nat.le_of_ble_eq_true rfl⟩ rfl (c_X3_add_38 _ I5 G5 (I 28 6) (0 : Int32)) ?_
        rintro rz Iz Gz Pz ⟨e0, e1, e2, e3⟩
        rw [e0, e1, e2, e3]
        show am_V X 0 0 _ _ ad (281, [(0, .ref 28), (1, .int x1), (2, .int (I 28 6))], [], (g_X3_add_38 I5 G5 (I 28 6) (0 : Int32)), G5, (gP rd))
        refine am_blk 281 [(.goto (54), 3, 0, 335, .null)] (335, [(0, .ref 28), (1, .int x1), (2, .int (I 28 6))], [], (g_X3_add_38 I5 G5 (I 28 6) (0 : Int32)), G5, (gP rd)) (True) hX hi (by decide +kernel) rfl trivial ?_
        cases h
        refine am_vret hX hi rfl (by decide +kernel) ?_
        exact ⟨rfl, rfl, rfl, rfl⟩
      rw [if_neg s29_22] at h
      by_cases s29_23 : (I 28 6) = (23 : Int32)
      · rw [if_pos s29_23] at h
        refine am_tsi hX hi (dflt := (302)) (lo := (6)) (hi' := (40)) (offs := #[(204), (302), (302), (204), (302), (302), (302), (302), (302), (185), (204), (231), (302), (302), (302), (302), (231), (231), (282), (302), (302), (302), (302), (302), (302), (255), (302), (302), (302), (302), (302), (302), (302), (302), (155)]) (len := 155) (off := (231)) (tgt := 260) (by decide +kernel) (by rw [s29_23]; decide) (by rw [s29_23]; decide) (by rw [s29_23]; rfl) (by decide) ?_
        refine am_blk 260 [(.aload_n 0, 1, 0, 0, .null)] (261, [(0, .ref 28), (1, .int x1), (2, .int (I 28 6))], [.ref 28], I, G, (gP rd)) (True) hX hi (by decide +kernel) rfl trivial ?_
        refine am_callV hX hi (M := mX6_advance) (idx := 100) (d' := 2) (b := 28) (ci := 6) (As := []) (rest := []) mkX6_advance miX6_advance mvX6_advance (by decide +kernel) (by decide +kernel) rfl (by decide +kernel) rfl ⟨by omega, by decide, Nat.le_of_ble_eq_true rfl⟩ rfl (c_X6_advance_28 _ I G ) ?_
        rintro rz Iz Gz Pz ⟨e0, e1, e2, e3⟩
        rw [e0, e1, e2, e3]
        show am_V X 0 0 _ _ ad (264, [(0, .ref 28), (1, .int x1), (2, .int (I 28 6))], [], (g_X6_advance_28 I G ), G, (gP rd))
        refine am_blk 264 [(.aload_n 0, 1, 0, 0, .null), (.iload_n 1, 1, 1, 0, .null)] (266, [(0, .ref 28), (1, .int x1), (2, .int (I 28 6))], [.int x1, .ref 28], (g_X6_advance_28 I G ), G, (gP rd)) (True) hX hi (by decide +kernel) rfl trivial ?_
        obtain ⟨r6, I6, G6, hc, h⟩ := rb_some h
        refine am_callV hX hi (M := mX6_readPair) (idx := 184) (d' := (8 + n9)) (b := 28) (ci := 6) (As := [.int x1]) (rest := []) mkX6_readPair miX6_readPair mvX6_readPair (by decide +kernel) (by decide +kernel) rfl (by decide +kernel) rfl ⟨by omega, by decide, Nat.le_of_ble_eq_true rfl⟩ rfl (h6 _ (g_X6_advance_28 I G ) G x1 _ hc) ?_
        rintro rz Iz Gz Pz ⟨e0, e1, e2, e3⟩
        rw [e0, e1, e2, e3]
        show am_V X 0 0 _ _ ad (269, [(0, .ref 28), (1, .int x1), (2, .int (I 28 6))], [], I6, G6, (gP rd))
        refine am_blk 269 [(.aload_n 0, 1, 0, 0, .null), (.getfield 12, 3, 6, 1, .null), (.getfield 91, 3, 5, 8, .null), (.iload_n 2, 1, 2, 0, .null), (.iconst (0), 1, 0, 0, .int (0 : Int32))] (278, [(0, .ref 28), (1, .int x1), (2, .int (I 28 6))], [.int (0 : Int32), .int (I 28 6), .ref 38], I6, G6, (gP rd)) (True) hX hi (by decide +kernel) rfl trivial ?_
        refine am_callV hX hi (M := mX3_add) (idx := 161) (d' := 2) (b := 38) (ci := 3) (As := [.int (I 28 6), .int (0 : Int32)]) (rest := []) mkX3_add miX3_add mvX3_add (by decide +kernel) (by decide +kernel) rfl (by decide +kernel) rfl ⟨by omega, by decide, Nat.le_of_ble_eq_true rfl⟩ rfl (c_X3_add_38 _ I6 G6 (I 28 6) (0 : Int32)) ?_
        rintro rz Iz Gz Pz ⟨e0, e1, e2, e3⟩
        rw [e0, e1, e2, e3]
        show am_V X 0 0 _ _ ad (281, [(0, .ref 28), (1, .int x1), (2, .int (I 28 6))], [], (g_X3_add_38 I6 G6 (I 28 6) (0 : Int32)), G6, (gP rd))
        refine am_blk 281 [(.goto (54), 3, 0, 335, .null)] (335, [(0, .ref 28), (1, .int x1), (2, .int (I 28 6))], [], (g_X3_add_38 I6 G6 (I 28 6) (0 : Int32)), G6, (gP rd)) (True) hX hi (by decide +kernel) rfl trivial ?_
        cases h
        refine am_vret hX hi rfl (by decide +kernel) ?_
        exact ⟨rfl, rfl, rfl, rfl⟩
      rw [if_neg s29_23] at h
      by_cases s29_24 : (I 28 6) = (24 : Int32)
      · rw [if_pos s29_24] at h
        refine am_tsi hX hi (dflt := (302)) (lo := (6)) (hi' := (40)) (offs := #[(204), (302), (302), (204), (302), (302), (302), (302), (302), (185), (204), (231), (302), (302), (302), (302), (231), (231), (282), (302), (302), (302), (302), (302), (302), (255), (302), (302), (302), (302), (302), (302), (302), (302), (155)]) (len := 155) (off := (282)) (tgt := 311) (by decide +kernel) (by rw [s29_24]; decide) (by rw [s29_24]; decide) (by rw [s29_24]; rfl) (by decide) ?_
        refine am_blk 311 [(.aload_n 0, 1, 0, 0, .null)] (312, [(0, .ref 28), (1, .int x1), (2, .int (I 28 6))], [.ref 28], I, G, (gP rd)) (True) hX hi (by decide +kernel) rfl trivial ?_
        refine am_callV hX hi (M := mX6_advance) (idx := 100) (d' := 2) (b := 28) (ci := 6) (As := []) (rest := []) mkX6_advance miX6_advance mvX6_advance (by decide +kernel) (by decide +kernel) rfl (by decide +kernel) rfl ⟨by omega, by decide, Nat.le_of_ble_eq_true rfl⟩ rfl (c_X6_advance_28 _ I G ) ?_
        rintro rz Iz Gz Pz ⟨e0, e1, e2, e3⟩
        rw [e0, e1, e2, e3]
        show am_V X 0 0 _ _ ad (315, [(0, .ref 28), (1, .int x1), (2, .int (I 28 6))], [], (g_X6_advance_28 I G ), G, (gP rd))
        refine am_blk 315 [(.aload_n 0, 1, 0, 0, .null), (.iload_n 1, 1, 1, 0, .null), (.iconst (1), 1, 0, 0, .int (1 : Int32)), (.iadd, 1, 0, 0, .null)] (319, [(0, .ref 28), (1, .int x1), (2, .int (I 28 6))], [.int (x1 + (1 : Int32)), .ref 28], (g_X6_advance_28 I G ), G, (gP rd)) (True) hX hi (by decide +kernel) rfl trivial ?_
        obtain ⟨r7, I7, G7, hc, h⟩ := rb_some h
        refine am_callV hX hi (M := mX6_readSum) (idx := 88) (d' := (8 + n9)) (b := 28) (ci := 6) (As := [.int (x1 + (1 : Int32))]) (rest := []) mkX6_readSum miX6_readSum mvX6_readSum (by decide +kernel) (by decide +kernel) rfl (by decide +kernel) rfl ⟨by omega, by decide, Nat.le_of_ble_eq_true rfl⟩ rfl (h3 _ (g_X6_advance_28 I G ) G (x1 + (1 : Int32)) _ hc) ?_
        rintro rz Iz Gz Pz ⟨e0, e1, e2, e3⟩
        rw [e0, e1, e2, e3]
        show am_V X 0 0 _ _ ad (322, [(0, .ref 28), (1, .int x1), (2, .int (I 28 6))], [], I7, G7, (gP rd))
        refine am_blk 322 [(.aload_n 0, 1, 0, 0, .null), (.bipush (25), 2, 0, 0, .int (25 : Int32))] (325, [(0, .ref 28), (1, .int x1), (2, .int (I 28 6))], [.int (25 : Int32), .ref 28], I7, G7, (gP rd)) (True) hX hi (by decide +kernel) rfl trivial ?_
        refine am_callV hX hi (M := mX6_expect) (idx := 109) (d' := 3) (b := 28) (ci := 6) (As := [.int (25 : Int32)]) (rest := []) mkX6_expect miX6_expect mvX6_expect (by decide +kernel) (by decide +kernel) rfl (by decide +kernel) rfl ⟨by omega, by decide, Nat.le_of_ble_eq_true rfl⟩ rfl (c_X6_expect_28 _ I7 G7 (25 : Int32)) ?_
        rintro rz Iz Gz Pz ⟨e0, e1, e2, e3⟩
        rw [e0, e1, e2, e3]
        show am_V X 0 0 _ _ ad (328, [(0, .ref 28), (1, .int x1), (2, .int (I 28 6))], [], (g_X6_expect_28 I7 G7 (25 : Int32)), G7, (gP rd))
        refine am_blk 328 [(.goto (7), 3, 0, 335, .null)] (335, [(0, .ref 28), (1, .int x1), (2, .int (I 28 6))], [], (g_X6_expect_28 I7 G7 (25 : Int32)), G7, (gP rd)) (True) hX hi (by decide +kernel) rfl trivial ?_
        cases h
        refine am_vret hX hi rfl (by decide +kernel) ?_
        exact ⟨rfl, rfl, rfl, rfl⟩
      rw [if_neg s29_24] at h
      by_cases s29_31 : (I 28 6) = (31 : Int32)
      · rw [if_pos s29_31] at h
        refine am_tsi hX hi (dflt := (302)) (lo := (6)) (hi' := (40)) (offs := #[(204), (302), (302), (204), (302), (302), (302), (302), (302), (185), (204), (231), (302), (302), (302), (302), (231), (231), (282), (302), (302), (302), (302), (302), (302), (255), (302), (302), (302), (302), (302), (302), (302), (302), (155)]) (len := 155) (off := (255)) (tgt := 284) (by decide +kernel) (by rw [s29_31]; decide) (by rw [s29_31]; decide) (by rw [s29_31]; rfl) (by decide) ?_
        refine am_blk 284 [(.aload_n 0, 1, 0, 0, .null)] (285, [(0, .ref 28), (1, .int x1), (2, .int (I 28 6))], [.ref 28], I, G, (gP rd)) (True) hX hi (by decide +kernel) rfl trivial ?_
        refine am_callV hX hi (M := mX6_advance) (idx := 100) (d' := 2) (b := 28) (ci := 6) (As := []) (rest := []) mkX6_advance miX6_advance mvX6_advance (by decide +kernel) (by decide +kernel) rfl (by decide +kernel) rfl ⟨by omega, by decide, Nat.le_of_ble_eq_true rfl⟩ rfl (c_X6_advance_28 _ I G ) ?_
        rintro rz Iz Gz Pz ⟨e0, e1, e2, e3⟩
        rw [e0, e1, e2, e3]
        show am_V X 0 0 _ _ ad (288, [(0, .ref 28), (1, .int x1), (2, .int (I 28 6))], [], (g_X6_advance_28 I G ), G, (gP rd))
        refine am_blk 288 [(.aload_n 0, 1, 0, 0, .null), (.iload_n 1, 1, 1, 0, .null), (.iconst (1), 1, 0, 0, .int (1 : Int32)), (.iadd, 1, 0, 0, .null)] (292, [(0, .ref 28), (1, .int x1), (2, .int (I 28 6))], [.int (x1 + (1 : Int32)), .ref 28], (g_X6_advance_28 I G ), G, (gP rd)) (True) hX hi (by decide +kernel) rfl trivial ?_
        obtain ⟨r8, I8, G8, hc, h⟩ := rb_some h
        refine am_callV hX hi (M := mX6_readValue) (idx := 173) (d' := (8 + n9)) (b := 28) (ci := 6) (As := [.int (x1 + (1 : Int32))]) (rest := []) mkX6_readValue miX6_readValue mvX6_readValue (by decide +kernel) (by decide +kernel) rfl (by decide +kernel) rfl ⟨by omega, by decide, Nat.le_of_ble_eq_true rfl⟩ rfl (h5 _ (g_X6_advance_28 I G ) G (x1 + (1 : Int32)) _ hc) ?_
        rintro rz Iz Gz Pz ⟨e0, e1, e2, e3⟩
        rw [e0, e1, e2, e3]
        show am_V X 0 0 _ _ ad (295, [(0, .ref 28), (1, .int x1), (2, .int (I 28 6))], [], I8, G8, (gP rd))
        refine am_blk 295 [(.aload_n 0, 1, 0, 0, .null), (.getfield 12, 3, 6, 1, .null), (.getfield 91, 3, 5, 8, .null), (.bipush (43), 2, 0, 0, .int (43 : Int32)), (.iconst (0), 1, 0, 0, .int (0 : Int32))] (305, [(0, .ref 28), (1, .int x1), (2, .int (I 28 6))], [.int (0 : Int32), .int (43 : Int32), .ref 38], I8, G8, (gP rd)) (True) hX hi (by decide +kernel) rfl trivial ?_
        refine am_callV hX hi (M := mX3_add) (idx := 161) (d' := 2) (b := 38) (ci := 3) (As := [.int (43 : Int32), .int (0 : Int32)]) (rest := []) mkX3_add miX3_add mvX3_add (by decide +kernel) (by decide +kernel) rfl (by decide +kernel) rfl ⟨by omega, by decide, Nat.le_of_ble_eq_true rfl⟩ rfl (c_X3_add_38 _ I8 G8 (43 : Int32) (0 : Int32)) ?_
        rintro rz Iz Gz Pz ⟨e0, e1, e2, e3⟩
        rw [e0, e1, e2, e3]
        show am_V X 0 0 _ _ ad (308, [(0, .ref 28), (1, .int x1), (2, .int (I 28 6))], [], (g_X3_add_38 I8 G8 (43 : Int32) (0 : Int32)), G8, (gP rd))
        refine am_blk 308 [(.goto (27), 3, 0, 335, .null)] (335, [(0, .ref 28), (1, .int x1), (2, .int (I 28 6))], [], (g_X3_add_38 I8 G8 (43 : Int32) (0 : Int32)), G8, (gP rd)) (True) hX hi (by decide +kernel) rfl trivial ?_
        cases h
        refine am_vret hX hi rfl (by decide +kernel) ?_
        exact ⟨rfl, rfl, rfl, rfl⟩
      rw [if_neg s29_31] at h
      by_cases s29_40 : (I 28 6) = (40 : Int32)
      · rw [if_pos s29_40] at h
        refine am_tsi hX hi (dflt := (302)) (lo := (6)) (hi' := (40)) (offs := #[(204), (302), (302), (204), (302), (302), (302), (302), (302), (185), (204), (231), (302), (302), (302), (302), (231), (231), (282), (302), (302), (302), (302), (302), (302), (255), (302), (302), (302), (302), (302), (302), (302), (302), (155)]) (len := 155) (off := (155)) (tgt := 184) (by decide +kernel) (by rw [s29_40]; decide) (by rw [s29_40]; decide) (by rw [s29_40]; rfl) (by decide) ?_
        refine am_blk 184 [(.aload_n 0, 1, 0, 0, .null), (.getfield 12, 3, 6, 1, .null), (.getfield 91, 3, 5, 8, .null), (.iload_n 2, 1, 2, 0, .null), (.aload_n 0, 1, 0, 0, .null), (.getfield 33, 3, 6, 0, .null), (.aload_n 0, 1, 0, 0, .null), (.getfield 55, 3, 6, 5, .null)] (200, [(0, .ref 28), (1, .int x1), (2, .int (I 28 6))], [.int (I 28 5), .ref 1, .int (I 28 6), .ref 38], I, G, (gP rd)) (True) hX hi (by decide +kernel) rfl trivial ?_
        refine am_callV hX hi (M := mX9_contentAt) (idx := 176) (d' := 1) (b := 1) (ci := 9) (As := [.int (I 28 5)]) (rest := [.int (I 28 6), .ref 38]) mkX9_contentAt miX9_contentAt mvX9_contentAt (by decide +kernel) (by decide +kernel) rfl (by decide +kernel) rfl ⟨by omega, by decide, Nat.le_of_ble_eq_true rfl⟩ rfl (c_X9_contentAt_1 _ I G (I 28 5)) ?_
        rintro rz Iz Gz Pz ⟨e0, e1, e2, e3⟩
        rw [e0, e1, e2, e3]
        show am_V X 0 0 _ _ ad (203, [(0, .ref 28), (1, .int x1), (2, .int (I 28 6))], [.long (f_X9_contentAt_1 I G (I 28 5)), .int (I 28 6), .ref 38], I, G, (gP rd))
        refine am_blk 203 [(.l2i, 1, 0, 0, .null)] (204, [(0, .ref 28), (1, .int x1), (2, .int (I 28 6))], [.int (f_X9_contentAt_1 I G (I 28 5)).toInt32, .int (I 28 6), .ref 38], I, G, (gP rd)) (True) hX hi (by decide +kernel) rfl trivial ?_
        refine am_callV hX hi (M := mX3_add) (idx := 161) (d' := 2) (b := 38) (ci := 3) (As := [.int (I 28 6), .int (f_X9_contentAt_1 I G (I 28 5)).toInt32]) (rest := []) mkX3_add miX3_add mvX3_add (by decide +kernel) (by decide +kernel) rfl (by decide +kernel) rfl ⟨by omega, by decide, Nat.le_of_ble_eq_true rfl⟩ rfl (c_X3_add_38 _ I G (I 28 6) (f_X9_contentAt_1 I G (I 28 5)).toInt32) ?_
        rintro rz Iz Gz Pz ⟨e0, e1, e2, e3⟩
        rw [e0, e1, e2, e3]
        show am_V X 0 0 _ _ ad (207, [(0, .ref 28), (1, .int x1), (2, .int (I 28 6))], [], (g_X3_add_38 I G (I 28 6) (f_X9_contentAt_1 I G (I 28 5)).toInt32), G, (gP rd))
        refine am_blk 207 [(.aload_n 0, 1, 0, 0, .null)] (208, [(0, .ref 28), (1, .int x1), (2, .int (I 28 6))], [.ref 28], (g_X3_add_38 I G (I 28 6) (f_X9_contentAt_1 I G (I 28 5)).toInt32), G, (gP rd)) (True) hX hi (by decide +kernel) rfl trivial ?_
        refine am_callV hX hi (M := mX6_advance) (idx := 100) (d' := 2) (b := 28) (ci := 6) (As := []) (rest := []) mkX6_advance miX6_advance mvX6_advance (by decide +kernel) (by decide +kernel) rfl (by decide +kernel) rfl ⟨by omega, by decide, Nat.le_of_ble_eq_true rfl⟩ rfl (c_X6_advance_28 _ (g_X3_add_38 I G (I 28 6) (f_X9_contentAt_1 I G (I 28 5)).toInt32) G ) ?_
        rintro rz Iz Gz Pz ⟨e0, e1, e2, e3⟩
        rw [e0, e1, e2, e3]
        show am_V X 0 0 _ _ ad (211, [(0, .ref 28), (1, .int x1), (2, .int (I 28 6))], [], (g_X6_advance_28 (g_X3_add_38 I G (I 28 6) (f_X9_contentAt_1 I G (I 28 5)).toInt32) G ), G, (gP rd))
        refine am_blk 211 [(.goto (124), 3, 0, 335, .null)] (335, [(0, .ref 28), (1, .int x1), (2, .int (I 28 6))], [], (g_X6_advance_28 (g_X3_add_38 I G (I 28 6) (f_X9_contentAt_1 I G (I 28 5)).toInt32) G ), G, (gP rd)) (True) hX hi (by decide +kernel) rfl trivial ?_
        cases h
        refine am_vret hX hi rfl (by decide +kernel) ?_
        exact ⟨rfl, rfl, rfl, rfl⟩
      rw [if_neg s29_40] at h
      by_cases s29_7 : (I 28 6) = (7 : Int32)
      · refine am_tsi hX hi (dflt := (302)) (lo := (6)) (hi' := (40)) (offs := #[(204), (302), (302), (204), (302), (302), (302), (302), (302), (185), (204), (231), (302), (302), (302), (302), (231), (231), (282), (302), (302), (302), (302), (302), (302), (255), (302), (302), (302), (302), (302), (302), (302), (302), (155)]) (len := 155) (off := (302)) (tgt := 331) (by decide +kernel) (by rw [s29_7]; decide) (by rw [s29_7]; decide) (by rw [s29_7]; rfl) (by decide) ?_
        exact (l_X6_readValue_28 h0 h1 h2 h3 h4 h5 h6 rd hX hi FU) _ _ _ _ _ h
      by_cases s29_8 : (I 28 6) = (8 : Int32)
      · refine am_tsi hX hi (dflt := (302)) (lo := (6)) (hi' := (40)) (offs := #[(204), (302), (302), (204), (302), (302), (302), (302), (302), (185), (204), (231), (302), (302), (302), (302), (231), (231), (282), (302), (302), (302), (302), (302), (302), (255), (302), (302), (302), (302), (302), (302), (302), (302), (155)]) (len := 155) (off := (302)) (tgt := 331) (by decide +kernel) (by rw [s29_8]; decide) (by rw [s29_8]; decide) (by rw [s29_8]; rfl) (by decide) ?_
        exact (l_X6_readValue_28 h0 h1 h2 h3 h4 h5 h6 rd hX hi FU) _ _ _ _ _ h
      by_cases s29_10 : (I 28 6) = (10 : Int32)
      · refine am_tsi hX hi (dflt := (302)) (lo := (6)) (hi' := (40)) (offs := #[(204), (302), (302), (204), (302), (302), (302), (302), (302), (185), (204), (231), (302), (302), (302), (302), (231), (231), (282), (302), (302), (302), (302), (302), (302), (255), (302), (302), (302), (302), (302), (302), (302), (302), (155)]) (len := 155) (off := (302)) (tgt := 331) (by decide +kernel) (by rw [s29_10]; decide) (by rw [s29_10]; decide) (by rw [s29_10]; rfl) (by decide) ?_
        exact (l_X6_readValue_28 h0 h1 h2 h3 h4 h5 h6 rd hX hi FU) _ _ _ _ _ h
      by_cases s29_11 : (I 28 6) = (11 : Int32)
      · refine am_tsi hX hi (dflt := (302)) (lo := (6)) (hi' := (40)) (offs := #[(204), (302), (302), (204), (302), (302), (302), (302), (302), (185), (204), (231), (302), (302), (302), (302), (231), (231), (282), (302), (302), (302), (302), (302), (302), (255), (302), (302), (302), (302), (302), (302), (302), (302), (155)]) (len := 155) (off := (302)) (tgt := 331) (by decide +kernel) (by rw [s29_11]; decide) (by rw [s29_11]; decide) (by rw [s29_11]; rfl) (by decide) ?_
        exact (l_X6_readValue_28 h0 h1 h2 h3 h4 h5 h6 rd hX hi FU) _ _ _ _ _ h
      by_cases s29_12 : (I 28 6) = (12 : Int32)
      · refine am_tsi hX hi (dflt := (302)) (lo := (6)) (hi' := (40)) (offs := #[(204), (302), (302), (204), (302), (302), (302), (302), (302), (185), (204), (231), (302), (302), (302), (302), (231), (231), (282), (302), (302), (302), (302), (302), (302), (255), (302), (302), (302), (302), (302), (302), (302), (302), (155)]) (len := 155) (off := (302)) (tgt := 331) (by decide +kernel) (by rw [s29_12]; decide) (by rw [s29_12]; decide) (by rw [s29_12]; rfl) (by decide) ?_
        exact (l_X6_readValue_28 h0 h1 h2 h3 h4 h5 h6 rd hX hi FU) _ _ _ _ _ h
      by_cases s29_13 : (I 28 6) = (13 : Int32)
      · refine am_tsi hX hi (dflt := (302)) (lo := (6)) (hi' := (40)) (offs := #[(204), (302), (302), (204), (302), (302), (302), (302), (302), (185), (204), (231), (302), (302), (302), (302), (231), (231), (282), (302), (302), (302), (302), (302), (302), (255), (302), (302), (302), (302), (302), (302), (302), (302), (155)]) (len := 155) (off := (302)) (tgt := 331) (by decide +kernel) (by rw [s29_13]; decide) (by rw [s29_13]; decide) (by rw [s29_13]; rfl) (by decide) ?_
        exact (l_X6_readValue_28 h0 h1 h2 h3 h4 h5 h6 rd hX hi FU) _ _ _ _ _ h
      by_cases s29_14 : (I 28 6) = (14 : Int32)
      · refine am_tsi hX hi (dflt := (302)) (lo := (6)) (hi' := (40)) (offs := #[(204), (302), (302), (204), (302), (302), (302), (302), (302), (185), (204), (231), (302), (302), (302), (302), (231), (231), (282), (302), (302), (302), (302), (302), (302), (255), (302), (302), (302), (302), (302), (302), (302), (302), (155)]) (len := 155) (off := (302)) (tgt := 331) (by decide +kernel) (by rw [s29_14]; decide) (by rw [s29_14]; decide) (by rw [s29_14]; rfl) (by decide) ?_
        exact (l_X6_readValue_28 h0 h1 h2 h3 h4 h5 h6 rd hX hi FU) _ _ _ _ _ h
      by_cases s29_18 : (I 28 6) = (18 : Int32)
      · refine am_tsi hX hi (dflt := (302)) (lo := (6)) (hi' := (40)) (offs := #[(204), (302), (302), (204), (302), (302), (302), (302), (302), (185), (204), (231), (302), (302), (302), (302), (231), (231), (282), (302), (302), (302), (302), (302), (302), (255), (302), (302), (302), (302), (302), (302), (302), (302), (155)]) (len := 155) (off := (302)) (tgt := 331) (by decide +kernel) (by rw [s29_18]; decide) (by rw [s29_18]; decide) (by rw [s29_18]; rfl) (by decide) ?_
        exact (l_X6_readValue_28 h0 h1 h2 h3 h4 h5 h6 rd hX hi FU) _ _ _ _ _ h
      by_cases s29_19 : (I 28 6) = (19 : Int32)
      · refine am_tsi hX hi (dflt := (302)) (lo := (6)) (hi' := (40)) (offs := #[(204), (302), (302), (204), (302), (302), (302), (302), (302), (185), (204), (231), (302), (302), (302), (302), (231), (231), (282), (302), (302), (302), (302), (302), (302), (255), (302), (302), (302), (302), (302), (302), (302), (302), (155)]) (len := 155) (off := (302)) (tgt := 331) (by decide +kernel) (by rw [s29_19]; decide) (by rw [s29_19]; decide) (by rw [s29_19]; rfl) (by decide) ?_
        exact (l_X6_readValue_28 h0 h1 h2 h3 h4 h5 h6 rd hX hi FU) _ _ _ _ _ h
      by_cases s29_20 : (I 28 6) = (20 : Int32)
      · refine am_tsi hX hi (dflt := (302)) (lo := (6)) (hi' := (40)) (offs := #[(204), (302), (302), (204), (302), (302), (302), (302), (302), (185), (204), (231), (302), (302), (302), (302), (231), (231), (282), (302), (302), (302), (302), (302), (302), (255), (302), (302), (302), (302), (302), (302), (302), (302), (155)]) (len := 155) (off := (302)) (tgt := 331) (by decide +kernel) (by rw [s29_20]; decide) (by rw [s29_20]; decide) (by rw [s29_20]; rfl) (by decide) ?_
        exact (l_X6_readValue_28 h0 h1 h2 h3 h4 h5 h6 rd hX hi FU) _ _ _ _ _ h
      by_cases s29_21 : (I 28 6) = (21 : Int32)
      · refine am_tsi hX hi (dflt := (302)) (lo := (6)) (hi' := (40)) (offs := #[(204), (302), (302), (204), (302), (302), (302), (302), (302), (185), (204), (231), (302), (302), (302), (302), (231), (231), (282), (302), (302), (302), (302), (302), (302), (255), (302), (302), (302), (302), (302), (302), (302), (302), (155)]) (len := 155) (off := (302)) (tgt := 331) (by decide +kernel) (by rw [s29_21]; decide) (by rw [s29_21]; decide) (by rw [s29_21]; rfl) (by decide) ?_
        exact (l_X6_readValue_28 h0 h1 h2 h3 h4 h5 h6 rd hX hi FU) _ _ _ _ _ h
      by_cases s29_25 : (I 28 6) = (25 : Int32)
      · refine am_tsi hX hi (dflt := (302)) (lo := (6)) (hi' := (40)) (offs := #[(204), (302), (302), (204), (302), (302), (302), (302), (302), (185), (204), (231), (302), (302), (302), (302), (231), (231), (282), (302), (302), (302), (302), (302), (302), (255), (302), (302), (302), (302), (302), (302), (302), (302), (155)]) (len := 155) (off := (302)) (tgt := 331) (by decide +kernel) (by rw [s29_25]; decide) (by rw [s29_25]; decide) (by rw [s29_25]; rfl) (by decide) ?_
        exact (l_X6_readValue_28 h0 h1 h2 h3 h4 h5 h6 rd hX hi FU) _ _ _ _ _ h
      by_cases s29_26 : (I 28 6) = (26 : Int32)
      · refine am_tsi hX hi (dflt := (302)) (lo := (6)) (hi' := (40)) (offs := #[(204), (302), (302), (204), (302), (302), (302), (302), (302), (185), (204), (231), (302), (302), (302), (302), (231), (231), (282), (302), (302), (302), (302), (302), (302), (255), (302), (302), (302), (302), (302), (302), (302), (302), (155)]) (len := 155) (off := (302)) (tgt := 331) (by decide +kernel) (by rw [s29_26]; decide) (by rw [s29_26]; decide) (by rw [s29_26]; rfl) (by decide) ?_
        exact (l_X6_readValue_28 h0 h1 h2 h3 h4 h5 h6 rd hX hi FU) _ _ _ _ _ h
      by_cases s29_27 : (I 28 6) = (27 : Int32)
      · refine am_tsi hX hi (dflt := (302)) (lo := (6)) (hi' := (40)) (offs := #[(204), (302), (302), (204), (302), (302), (302), (302), (302), (185), (204), (231), (302), (302), (302), (302), (231), (231), (282), (302), (302), (302), (302), (302), (302), (255), (302), (302), (302), (302), (302), (302), (302), (302), (155)]) (len := 155) (off := (302)) (tgt := 331) (by decide +kernel) (by rw [s29_27]; decide) (by rw [s29_27]; decide) (by rw [s29_27]; rfl) (by decide) ?_
        exact (l_X6_readValue_28 h0 h1 h2 h3 h4 h5 h6 rd hX hi FU) _ _ _ _ _ h
      by_cases s29_28 : (I 28 6) = (28 : Int32)
      · refine am_tsi hX hi (dflt := (302)) (lo := (6)) (hi' := (40)) (offs := #[(204), (302), (302), (204), (302), (302), (302), (302), (302), (185), (204), (231), (302), (302), (302), (302), (231), (231), (282), (302), (302), (302), (302), (302), (302), (255), (302), (302), (302), (302), (302), (302), (302), (302), (155)]) (len := 155) (off := (302)) (tgt := 331) (by decide +kernel) (by rw [s29_28]; decide) (by rw [s29_28]; decide) (by rw [s29_28]; rfl) (by decide) ?_
        exact (l_X6_readValue_28 h0 h1 h2 h3 h4 h5 h6 rd hX hi FU) _ _ _ _ _ h
      by_cases s29_29 : (I 28 6) = (29 : Int32)
      · refine am_tsi hX hi (dflt := (302)) (lo := (6)) (hi' := (40)) (offs := #[(204), (302), (302), (204), (302), (302), (302), (302), (302), (185), (204), (231), (302), (302), (302), (302), (231), (231), (282), (302), (302), (302), (302), (302), (302), (255), (302), (302), (302), (302), (302), (302), (302), (302), (155)]) (len := 155) (off := (302)) (tgt := 331) (by decide +kernel) (by rw [s29_29]; decide) (by rw [s29_29]; decide) (by rw [s29_29]; rfl) (by decide) ?_
        exact (l_X6_readValue_28 h0 h1 h2 h3 h4 h5 h6 rd hX hi FU) _ _ _ _ _ h
      by_cases s29_30 : (I 28 6) = (30 : Int32)
      · refine am_tsi hX hi (dflt := (302)) (lo := (6)) (hi' := (40)) (offs := #[(204), (302), (302), (204), (302), (302), (302), (302), (302), (185), (204), (231), (302), (302), (302), (302), (231), (231), (282), (302), (302), (302), (302), (302), (302), (255), (302), (302), (302), (302), (302), (302), (302), (302), (155)]) (len := 155) (off := (302)) (tgt := 331) (by decide +kernel) (by rw [s29_30]; decide) (by rw [s29_30]; decide) (by rw [s29_30]; rfl) (by decide) ?_
        exact (l_X6_readValue_28 h0 h1 h2 h3 h4 h5 h6 rd hX hi FU) _ _ _ _ _ h
      by_cases s29_32 : (I 28 6) = (32 : Int32)
      · refine am_tsi hX hi (dflt := (302)) (lo := (6)) (hi' := (40)) (offs := #[(204), (302), (302), (204), (302), (302), (302), (302), (302), (185), (204), (231), (302), (302), (302), (302), (231), (231), (282), (302), (302), (302), (302), (302), (302), (255), (302), (302), (302), (302), (302), (302), (302), (302), (155)]) (len := 155) (off := (302)) (tgt := 331) (by decide +kernel) (by rw [s29_32]; decide) (by rw [s29_32]; decide) (by rw [s29_32]; rfl) (by decide) ?_
        exact (l_X6_readValue_28 h0 h1 h2 h3 h4 h5 h6 rd hX hi FU) _ _ _ _ _ h
      by_cases s29_33 : (I 28 6) = (33 : Int32)
      · refine am_tsi hX hi (dflt := (302)) (lo := (6)) (hi' := (40)) (offs := #[(204), (302), (302), (204), (302), (302), (302), (302), (302), (185), (204), (231), (302), (302), (302), (302), (231), (231), (282), (302), (302), (302), (302), (302), (302), (255), (302), (302), (302), (302), (302), (302), (302), (302), (155)]) (len := 155) (off := (302)) (tgt := 331) (by decide +kernel) (by rw [s29_33]; decide) (by rw [s29_33]; decide) (by rw [s29_33]; rfl) (by decide) ?_
        exact (l_X6_readValue_28 h0 h1 h2 h3 h4 h5 h6 rd hX hi FU) _ _ _ _ _ h
      by_cases s29_34 : (I 28 6) = (34 : Int32)
      · refine am_tsi hX hi (dflt := (302)) (lo := (6)) (hi' := (40)) (offs := #[(204), (302), (302), (204), (302), (302), (302), (302), (302), (185), (204), (231), (302), (302), (302), (302), (231), (231), (282), (302), (302), (302), (302), (302), (302), (255), (302), (302), (302), (302), (302), (302), (302), (302), (155)]) (len := 155) (off := (302)) (tgt := 331) (by decide +kernel) (by rw [s29_34]; decide) (by rw [s29_34]; decide) (by rw [s29_34]; rfl) (by decide) ?_
        exact (l_X6_readValue_28 h0 h1 h2 h3 h4 h5 h6 rd hX hi FU) _ _ _ _ _ h
      by_cases s29_35 : (I 28 6) = (35 : Int32)
      · refine am_tsi hX hi (dflt := (302)) (lo := (6)) (hi' := (40)) (offs := #[(204), (302), (302), (204), (302), (302), (302), (302), (302), (185), (204), (231), (302), (302), (302), (302), (231), (231), (282), (302), (302), (302), (302), (302), (302), (255), (302), (302), (302), (302), (302), (302), (302), (302), (155)]) (len := 155) (off := (302)) (tgt := 331) (by decide +kernel) (by rw [s29_35]; decide) (by rw [s29_35]; decide) (by rw [s29_35]; rfl) (by decide) ?_
        exact (l_X6_readValue_28 h0 h1 h2 h3 h4 h5 h6 rd hX hi FU) _ _ _ _ _ h
      by_cases s29_36 : (I 28 6) = (36 : Int32)
      · refine am_tsi hX hi (dflt := (302)) (lo := (6)) (hi' := (40)) (offs := #[(204), (302), (302), (204), (302), (302), (302), (302), (302), (185), (204), (231), (302), (302), (302), (302), (231), (231), (282), (302), (302), (302), (302), (302), (302), (255), (302), (302), (302), (302), (302), (302), (302), (302), (155)]) (len := 155) (off := (302)) (tgt := 331) (by decide +kernel) (by rw [s29_36]; decide) (by rw [s29_36]; decide) (by rw [s29_36]; rfl) (by decide) ?_
        exact (l_X6_readValue_28 h0 h1 h2 h3 h4 h5 h6 rd hX hi FU) _ _ _ _ _ h
      by_cases s29_37 : (I 28 6) = (37 : Int32)
      · refine am_tsi hX hi (dflt := (302)) (lo := (6)) (hi' := (40)) (offs := #[(204), (302), (302), (204), (302), (302), (302), (302), (302), (185), (204), (231), (302), (302), (302), (302), (231), (231), (282), (302), (302), (302), (302), (302), (302), (255), (302), (302), (302), (302), (302), (302), (302), (302), (155)]) (len := 155) (off := (302)) (tgt := 331) (by decide +kernel) (by rw [s29_37]; decide) (by rw [s29_37]; decide) (by rw [s29_37]; rfl) (by decide) ?_
        exact (l_X6_readValue_28 h0 h1 h2 h3 h4 h5 h6 rd hX hi FU) _ _ _ _ _ h
      by_cases s29_38 : (I 28 6) = (38 : Int32)
      · refine am_tsi hX hi (dflt := (302)) (lo := (6)) (hi' := (40)) (offs := #[(204), (302), (302), (204), (302), (302), (302), (302), (302), (185), (204), (231), (302), (302), (302), (302), (231), (231), (282), (302), (302), (302), (302), (302), (302), (255), (302), (302), (302), (302), (302), (302), (302), (302), (155)]) (len := 155) (off := (302)) (tgt := 331) (by decide +kernel) (by rw [s29_38]; decide) (by rw [s29_38]; decide) (by rw [s29_38]; rfl) (by decide) ?_
        exact (l_X6_readValue_28 h0 h1 h2 h3 h4 h5 h6 rd hX hi FU) _ _ _ _ _ h
      by_cases s29_39 : (I 28 6) = (39 : Int32)
      · refine am_tsi hX hi (dflt := (302)) (lo := (6)) (hi' := (40)) (offs := #[(204), (302), (302), (204), (302), (302), (302), (302), (302), (185), (204), (231), (302), (302), (302), (302), (231), (231), (282), (302), (302), (302), (302), (302), (302), (255), (302), (302), (302), (302), (302), (302), (302), (302), (155)]) (len := 155) (off := (302)) (tgt := 331) (by decide +kernel) (by rw [s29_39]; decide) (by rw [s29_39]; decide) (by rw [s29_39]; rfl) (by decide) ?_
        exact (l_X6_readValue_28 h0 h1 h2 h3 h4 h5 h6 rd hX hi FU) _ _ _ _ _ h
      refine am_tso hX hi (dflt := (302)) (lo := (6)) (hi' := (40)) (offs := #[(204), (302), (302), (204), (302), (302), (302), (302), (302), (185), (204), (231), (302), (302), (302), (302), (231), (231), (282), (302), (302), (302), (302), (302), (302), (255), (302), (302), (302), (302), (302), (302), (302), (302), (155)]) (len := 155) (tgt := 331) (by decide +kernel) ?_ (by decide) ?_
      · have eF : ∀ v : Int32, ¬ (I 28 6) = v → ¬ ((I 28 6)).toInt = v.toInt := fun v q z => q ((i_eq _ _).mpr z)
        have e6 := eF (6 : Int32) s29_6
        have e9 := eF (9 : Int32) s29_9
        have e15 := eF (15 : Int32) s29_15
        have e16 := eF (16 : Int32) s29_16
        have e17 := eF (17 : Int32) s29_17
        have e22 := eF (22 : Int32) s29_22
        have e23 := eF (23 : Int32) s29_23
        have e24 := eF (24 : Int32) s29_24
        have e31 := eF (31 : Int32) s29_31
        have e40 := eF (40 : Int32) s29_40
        have e7 := eF (7 : Int32) s29_7
        have e8 := eF (8 : Int32) s29_8
        have e10 := eF (10 : Int32) s29_10
        have e11 := eF (11 : Int32) s29_11
        have e12 := eF (12 : Int32) s29_12
        have e13 := eF (13 : Int32) s29_13
        have e14 := eF (14 : Int32) s29_14
        have e18 := eF (18 : Int32) s29_18
        have e19 := eF (19 : Int32) s29_19
        have e20 := eF (20 : Int32) s29_20
        have e21 := eF (21 : Int32) s29_21
        have e25 := eF (25 : Int32) s29_25
        have e26 := eF (26 : Int32) s29_26
        have e27 := eF (27 : Int32) s29_27
        have e28 := eF (28 : Int32) s29_28
        have e29 := eF (29 : Int32) s29_29
        have e30 := eF (30 : Int32) s29_30
        have e32 := eF (32 : Int32) s29_32
        have e33 := eF (33 : Int32) s29_33
        have e34 := eF (34 : Int32) s29_34
        have e35 := eF (35 : Int32) s29_35
        have e36 := eF (36 : Int32) s29_36
        have e37 := eF (37 : Int32) s29_37
        have e38 := eF (38 : Int32) s29_38
        have e39 := eF (39 : Int32) s29_39
        simp only [show ((6 : Int32) : Int32).toInt = 6 from rfl, show ((9 : Int32) : Int32).toInt = 9 from rfl, show ((15 : Int32) : Int32).toInt = 15 from rfl, show ((16 : Int32) : Int32).toInt = 16 from rfl, show ((17 : Int32) : Int32).toInt = 17 from rfl, show ((22 : Int32) : Int32).toInt = 22 from rfl, show ((23 : Int32) : Int32).toInt = 23 from rfl, show ((24 : Int32) : Int32).toInt = 24 from rfl, show ((31 : Int32) : Int32).toInt = 31 from rfl, show ((40 : Int32) : Int32).toInt = 40 from rfl, show ((7 : Int32) : Int32).toInt = 7 from rfl, show ((8 : Int32) : Int32).toInt = 8 from rfl, show ((10 : Int32) : Int32).toInt = 10 from rfl, show ((11 : Int32) : Int32).toInt = 11 from rfl, show ((12 : Int32) : Int32).toInt = 12 from rfl, show ((13 : Int32) : Int32).toInt = 13 from rfl, show ((14 : Int32) : Int32).toInt = 14 from rfl, show ((18 : Int32) : Int32).toInt = 18 from rfl, show ((19 : Int32) : Int32).toInt = 19 from rfl, show ((20 : Int32) : Int32).toInt = 20 from rfl, show ((21 : Int32) : Int32).toInt = 21 from rfl, show ((25 : Int32) : Int32).toInt = 25 from rfl, show ((26 : Int32) : Int32).toInt = 26 from rfl, show ((27 : Int32) : Int32).toInt = 27 from rfl, show ((28 : Int32) : Int32).toInt = 28 from rfl, show ((29 : Int32) : Int32).toInt = 29 from rfl, show ((30 : Int32) : Int32).toInt = 30 from rfl, show ((32 : Int32) : Int32).toInt = 32 from rfl, show ((33 : Int32) : Int32).toInt = 33 from rfl, show ((34 : Int32) : Int32).toInt = 34 from rfl, show ((35 : Int32) : Int32).toInt = 35 from rfl, show ((36 : Int32) : Int32).toInt = 36 from rfl, show ((37 : Int32) : Int32).toInt = 37 from rfl, show ((38 : Int32) : Int32).toInt = 38 from rfl, show ((39 : Int32) : Int32).toInt = 39 from rfl] at e6 e9 e15 e16 e17 e22 e23 e24 e31 e40 e7 e8 e10 e11 e12 e13 e14 e18 e19 e20 e21 e25 e26 e27 e28 e29 e30 e32 e33 e34 e35 e36 e37 e38 e39
        omega
      exact (l_X6_readValue_28 h0 h1 h2 h3 h4 h5 h6 rd hX hi FU) _ _ _ _ _ h
    · rw [if_neg c20] at h
      refine am_blk 23 [(.aload_n 0, 1, 0, 0, .null)] (24, [(0, .ref 28), (1, .int x1), (2, .int (I 28 6))], [.ref 28], I, G, (gP rd)) (True) hX hi (by decide +kernel) rfl trivial ?_
      refine am_callV hX hi (M := mX6_refuse) (idx := 70) (d' := 2) (b := 28) (ci := 6) (As := []) (rest := []) mkX6_refuse miX6_refuse mvX6_refuse (by decide +kernel) (by decide +kernel) rfl (by decide +kernel) rfl ⟨by omega, by decide, Nat.le_of_ble_eq_true rfl⟩ rfl (c_X6_refuse_28 _ I G ) ?_
      rintro rz Iz Gz Pz ⟨e0, e1, e2, e3⟩
      rw [e0, e1, e2, e3]
      show am_V X 0 0 _ _ ad (27, [(0, .ref 28), (1, .int x1), (2, .int (I 28 6))], [], (g_X6_refuse_28 I G ), G, (gP rd))
      cases h
      refine am_vret hX hi rfl (by decide +kernel) ?_
      exact ⟨rfl, rfl, rfl, rfl⟩
  · rw [if_neg c8] at h
    refine am_blk 11 [(.iload_n 2, 1, 2, 0, .null), (.bipush (24), 2, 0, 0, .int (24 : Int32))] (14, [(0, .ref 28), (1, .int x1), (2, .int (I 28 6))], [.int (24 : Int32), .int (I 28 6)], I, G, (gP rd)) (True) hX hi (by decide +kernel) rfl trivial ?_
    refine am_icmp_ne (tgt := 28) hX hi (off := (14)) (by decide +kernel) (by decide) (fun c14 => ?_) (fun c14 => ?_)
    · rw [if_neg c14] at h
      refine am_blk 28 [(.iload_n 2, 1, 2, 0, .null)] (29, [(0, .ref 28), (1, .int x1), (2, .int (I 28 6))], [.int (I 28 6)], I, G, (gP rd)) (True) hX hi (by decide +kernel) rfl trivial ?_
      by_cases s29_6 : (I 28 6) = (6 : Int32)
      · rw [if_pos s29_6] at h
        refine am_tsi hX hi (dflt := (302)) (lo := (6)) (hi' := (40)) (offs := #[(204), (302), (302), (204), (302), (302), (302), (302), (302), (185), (204), (231), (302), (302), (302), (302), (231), (231), (282), (302), (302), (302), (302), (302), (302), (255), (302), (302), (302), (302), (302), (302), (302), (302), (155)]) (len := 155) (off := (204)) (tgt := 233) (by decide +kernel) (by rw [s29_6]; decide) (by rw [s29_6]; decide) (by rw [s29_6]; rfl) (by decide) ?_
        refine am_blk 233 [(.aload_n 0, 1, 0, 0, .null)] (234, [(0, .ref 28), (1, .int x1), (2, .int (I 28 6))], [.ref 28], I, G, (gP rd)) (True) hX hi (by decide +kernel) rfl trivial ?_
        refine am_callV hX hi (M := mX6_advance) (idx := 100) (d' := 2) (b := 28) (ci := 6) (As := []) (rest := []) mkX6_advance miX6_advance mvX6_advance (by decide +kernel) (by decide +kernel) rfl (by decide +kernel) rfl ⟨by omega, by decide, Nat.le_of_ble_eq_true rfl⟩ rfl (c_X6_advance_28 _ I G ) ?_
        rintro rz Iz Gz Pz ⟨e0, e1, e2, e3⟩
        rw [e0, e1, e2, e3]
        show am_V X 0 0 _ _ ad (237, [(0, .ref 28), (1, .int x1), (2, .int (I 28 6))], [], (g_X6_advance_28 I G ), G, (gP rd))
        refine am_blk 237 [(.aload_n 0, 1, 0, 0, .null), (.getfield 12, 3, 6, 1, .null), (.getfield 91, 3, 5, 8, .null), (.iload_n 2, 1, 2, 0, .null), (.aload_n 0, 1, 0, 0, .null), (.aload_n 0, 1, 0, 0, .null), (.iload_n 2, 1, 2, 0, .null)] (248, [(0, .ref 28), (1, .int x1), (2, .int (I 28 6))], [.int (I 28 6), .ref 28, .ref 28, .int (I 28 6), .ref 38], (g_X6_advance_28 I G ), G, (gP rd)) (True) hX hi (by decide +kernel) rfl trivial ?_
        refine am_callV hX hi (M := mX6_namesBehind) (idx := 180) (d' := 1) (b := 28) (ci := 6) (As := [.int (I 28 6)]) (rest := [.ref 28, .int (I 28 6), .ref 38]) mkX6_namesBehind miX6_namesBehind mvX6_namesBehind (by decide +kernel) (by decide +kernel) rfl (by decide +kernel) rfl ⟨by omega, by decide, Nat.le_of_ble_eq_true rfl⟩ rfl ((c_namesBehind _ (g_X6_advance_28 I G ) G (I 28 6)).mono (fun r I9 G9 P9 q => by rw [s29_6] at q; exact q)) ?_
        rintro rz Iz Gz Pz ⟨e0, e1, e2, e3⟩
        rw [e0, e1, e2, e3]
        show am_V X 0 0 _ _ ad (251, [(0, .ref 28), (1, .int x1), (2, .int (I 28 6))], [.ref 47, .ref 28, .int (I 28 6), .ref 38], (g_X6_advance_28 I G ), G, (gP rd))
        obtain ⟨r9, I9, G9, hc, h⟩ := rb_some h
        refine am_callV hX hi (M := mX6_readKnownName) (idx := 150) (d' := 3) (b := 28) (ci := 6) (As := [.ref 47]) (rest := [.int (I 28 6), .ref 38]) mkX6_readKnownName miX6_readKnownName mvX6_readKnownName (by decide +kernel) (by decide +kernel) rfl (by decide +kernel) rfl ⟨by omega, by decide, Nat.le_of_ble_eq_true rfl⟩ rfl (c_X6_readKnownName_28_47 _ (g_X6_advance_28 I G ) G  hc) ?_
        rintro rz Iz Gz Pz ⟨e0, e1, e2, e3⟩
        rw [e0, e1, e2, e3]
        show am_V X 0 0 _ _ ad (254, [(0, .ref 28), (1, .int x1), (2, .int (I 28 6))], [.int r9, .int (I 28 6), .ref 38], I9, G9, (gP rd))
        refine am_callV hX hi (M := mX3_add) (idx := 161) (d' := 2) (b := 38) (ci := 3) (As := [.int (I 28 6), .int r9]) (rest := []) mkX3_add miX3_add mvX3_add (by decide +kernel) (by decide +kernel) rfl (by decide +kernel) rfl ⟨by omega, by decide, Nat.le_of_ble_eq_true rfl⟩ rfl (c_X3_add_38 _ I9 G9 (I 28 6) r9) ?_
        rintro rz Iz Gz Pz ⟨e0, e1, e2, e3⟩
        rw [e0, e1, e2, e3]
        show am_V X 0 0 _ _ ad (257, [(0, .ref 28), (1, .int x1), (2, .int (I 28 6))], [], (g_X3_add_38 I9 G9 (I 28 6) r9), G9, (gP rd))
        refine am_blk 257 [(.goto (78), 3, 0, 335, .null)] (335, [(0, .ref 28), (1, .int x1), (2, .int (I 28 6))], [], (g_X3_add_38 I9 G9 (I 28 6) r9), G9, (gP rd)) (True) hX hi (by decide +kernel) rfl trivial ?_
        cases h
        refine am_vret hX hi rfl (by decide +kernel) ?_
        exact ⟨rfl, rfl, rfl, rfl⟩
      rw [if_neg s29_6] at h
      by_cases s29_9 : (I 28 6) = (9 : Int32)
      · rw [if_pos s29_9] at h
        refine am_tsi hX hi (dflt := (302)) (lo := (6)) (hi' := (40)) (offs := #[(204), (302), (302), (204), (302), (302), (302), (302), (302), (185), (204), (231), (302), (302), (302), (302), (231), (231), (282), (302), (302), (302), (302), (302), (302), (255), (302), (302), (302), (302), (302), (302), (302), (302), (155)]) (len := 155) (off := (204)) (tgt := 233) (by decide +kernel) (by rw [s29_9]; decide) (by rw [s29_9]; decide) (by rw [s29_9]; rfl) (by decide) ?_
        refine am_blk 233 [(.aload_n 0, 1, 0, 0, .null)] (234, [(0, .ref 28), (1, .int x1), (2, .int (I 28 6))], [.ref 28], I, G, (gP rd)) (True) hX hi (by decide +kernel) rfl trivial ?_
        refine am_callV hX hi (M := mX6_advance) (idx := 100) (d' := 2) (b := 28) (ci := 6) (As := []) (rest := []) mkX6_advance miX6_advance mvX6_advance (by decide +kernel) (by decide +kernel) rfl (by decide +kernel) rfl ⟨by omega, by decide, Nat.le_of_ble_eq_true rfl⟩ rfl (c_X6_advance_28 _ I G ) ?_
        rintro rz Iz Gz Pz ⟨e0, e1, e2, e3⟩
        rw [e0, e1, e2, e3]
        show am_V X 0 0 _ _ ad (237, [(0, .ref 28), (1, .int x1), (2, .int (I 28 6))], [], (g_X6_advance_28 I G ), G, (gP rd))
        refine am_blk 237 [(.aload_n 0, 1, 0, 0, .null), (.getfield 12, 3, 6, 1, .null), (.getfield 91, 3, 5, 8, .null), (.iload_n 2, 1, 2, 0, .null), (.aload_n 0, 1, 0, 0, .null), (.aload_n 0, 1, 0, 0, .null), (.iload_n 2, 1, 2, 0, .null)] (248, [(0, .ref 28), (1, .int x1), (2, .int (I 28 6))], [.int (I 28 6), .ref 28, .ref 28, .int (I 28 6), .ref 38], (g_X6_advance_28 I G ), G, (gP rd)) (True) hX hi (by decide +kernel) rfl trivial ?_
        refine am_callV hX hi (M := mX6_namesBehind) (idx := 180) (d' := 1) (b := 28) (ci := 6) (As := [.int (I 28 6)]) (rest := [.ref 28, .int (I 28 6), .ref 38]) mkX6_namesBehind miX6_namesBehind mvX6_namesBehind (by decide +kernel) (by decide +kernel) rfl (by decide +kernel) rfl ⟨by omega, by decide, Nat.le_of_ble_eq_true rfl⟩ rfl ((c_namesBehind _ (g_X6_advance_28 I G ) G (I 28 6)).mono (fun r I9 G9 P9 q => by rw [s29_9] at q; exact q)) ?_
        rintro rz Iz Gz Pz ⟨e0, e1, e2, e3⟩
        rw [e0, e1, e2, e3]
        show am_V X 0 0 _ _ ad (251, [(0, .ref 28), (1, .int x1), (2, .int (I 28 6))], [.ref 49, .ref 28, .int (I 28 6), .ref 38], (g_X6_advance_28 I G ), G, (gP rd))
        obtain ⟨r10, I10, G10, hc, h⟩ := rb_some h
        refine am_callV hX hi (M := mX6_readKnownName) (idx := 150) (d' := 3) (b := 28) (ci := 6) (As := [.ref 49]) (rest := [.int (I 28 6), .ref 38]) mkX6_readKnownName miX6_readKnownName mvX6_readKnownName (by decide +kernel) (by decide +kernel) rfl (by decide +kernel) rfl ⟨by omega, by decide, Nat.le_of_ble_eq_true rfl⟩ rfl (c_X6_readKnownName_28_49 _ (g_X6_advance_28 I G ) G  hc) ?_
        rintro rz Iz Gz Pz ⟨e0, e1, e2, e3⟩
        rw [e0, e1, e2, e3]
        show am_V X 0 0 _ _ ad (254, [(0, .ref 28), (1, .int x1), (2, .int (I 28 6))], [.int r10, .int (I 28 6), .ref 38], I10, G10, (gP rd))
        refine am_callV hX hi (M := mX3_add) (idx := 161) (d' := 2) (b := 38) (ci := 3) (As := [.int (I 28 6), .int r10]) (rest := []) mkX3_add miX3_add mvX3_add (by decide +kernel) (by decide +kernel) rfl (by decide +kernel) rfl ⟨by omega, by decide, Nat.le_of_ble_eq_true rfl⟩ rfl (c_X3_add_38 _ I10 G10 (I 28 6) r10) ?_
        rintro rz Iz Gz Pz ⟨e0, e1, e2, e3⟩
        rw [e0, e1, e2, e3]
        show am_V X 0 0 _ _ ad (257, [(0, .ref 28), (1, .int x1), (2, .int (I 28 6))], [], (g_X3_add_38 I10 G10 (I 28 6) r10), G10, (gP rd))
        refine am_blk 257 [(.goto (78), 3, 0, 335, .null)] (335, [(0, .ref 28), (1, .int x1), (2, .int (I 28 6))], [], (g_X3_add_38 I10 G10 (I 28 6) r10), G10, (gP rd)) (True) hX hi (by decide +kernel) rfl trivial ?_
        cases h
        refine am_vret hX hi rfl (by decide +kernel) ?_
        exact ⟨rfl, rfl, rfl, rfl⟩
      rw [if_neg s29_9] at h
      by_cases s29_15 : (I 28 6) = (15 : Int32)
      · rw [if_pos s29_15] at h
        refine am_tsi hX hi (dflt := (302)) (lo := (6)) (hi' := (40)) (offs := #[(204), (302), (302), (204), (302), (302), (302), (302), (302), (185), (204), (231), (302), (302), (302), (302), (231), (231), (282), (302), (302), (302), (302), (302), (302), (255), (302), (302), (302), (302), (302), (302), (302), (302), (155)]) (len := 155) (off := (185)) (tgt := 214) (by decide +kernel) (by rw [s29_15]; decide) (by rw [s29_15]; decide) (by rw [s29_15]; rfl) (by decide) ?_
        refine am_blk 214 [(.aload_n 0, 1, 0, 0, .null)] (215, [(0, .ref 28), (1, .int x1), (2, .int (I 28 6))], [.ref 28], I, G, (gP rd)) (True) hX hi (by decide +kernel) rfl trivial ?_
        refine am_callV hX hi (M := mX6_advance) (idx := 100) (d' := 2) (b := 28) (ci := 6) (As := []) (rest := []) mkX6_advance miX6_advance mvX6_advance (by decide +kernel) (by decide +kernel) rfl (by decide +kernel) rfl ⟨by omega, by decide, Nat.le_of_ble_eq_true rfl⟩ rfl (c_X6_advance_28 _ I G ) ?_
        rintro rz Iz Gz Pz ⟨e0, e1, e2, e3⟩
        rw [e0, e1, e2, e3]
        show am_V X 0 0 _ _ ad (218, [(0, .ref 28), (1, .int x1), (2, .int (I 28 6))], [], (g_X6_advance_28 I G ), G, (gP rd))
        refine am_blk 218 [(.aload_n 0, 1, 0, 0, .null), (.getfield 12, 3, 6, 1, .null), (.getfield 91, 3, 5, 8, .null), (.iload_n 2, 1, 2, 0, .null), (.iconst (0), 1, 0, 0, .int (0 : Int32))] (227, [(0, .ref 28), (1, .int x1), (2, .int (I 28 6))], [.int (0 : Int32), .int (I 28 6), .ref 38], (g_X6_advance_28 I G ), G, (gP rd)) (True) hX hi (by decide +kernel) rfl trivial ?_
        refine am_callV hX hi (M := mX3_add) (idx := 161) (d' := 2) (b := 38) (ci := 3) (As := [.int (I 28 6), .int (0 : Int32)]) (rest := []) mkX3_add miX3_add mvX3_add (by decide +kernel) (by decide +kernel) rfl (by decide +kernel) rfl ⟨by omega, by decide, Nat.le_of_ble_eq_true rfl⟩ rfl (c_X3_add_38 _ (g_X6_advance_28 I G ) G (I 28 6) (0 : Int32)) ?_
        rintro rz Iz Gz Pz ⟨e0, e1, e2, e3⟩
        rw [e0, e1, e2, e3]
        show am_V X 0 0 _ _ ad (230, [(0, .ref 28), (1, .int x1), (2, .int (I 28 6))], [], (g_X3_add_38 (g_X6_advance_28 I G ) G (I 28 6) (0 : Int32)), G, (gP rd))
        refine am_blk 230 [(.goto (105), 3, 0, 335, .null)] (335, [(0, .ref 28), (1, .int x1), (2, .int (I 28 6))], [], (g_X3_add_38 (g_X6_advance_28 I G ) G (I 28 6) (0 : Int32)), G, (gP rd)) (True) hX hi (by decide +kernel) rfl trivial ?_
        cases h
        refine am_vret hX hi rfl (by decide +kernel) ?_
        exact ⟨rfl, rfl, rfl, rfl⟩
      rw [if_neg s29_15] at h
      by_cases s29_16 : (I 28 6) = (16 : Int32)
      · rw [if_pos s29_16] at h
        refine am_tsi hX hi (dflt := (302)) (lo := (6)) (hi' := (40)) (offs := #[(204), (302), (302), (204), (302), (302), (302), (302), (302), (185), (204), (231), (302), (302), (302), (302), (231), (231), (282), (302), (302), (302), (302), (302), (302), (255), (302), (302), (302), (302), (302), (302), (302), (302), (155)]) (len := 155) (off := (204)) (tgt := 233) (by decide +kernel) (by rw [s29_16]; decide) (by rw [s29_16]; decide) (by rw [s29_16]; rfl) (by decide) ?_
        refine am_blk 233 [(.aload_n 0, 1, 0, 0, .null)] (234, [(0, .ref 28), (1, .int x1), (2, .int (I 28 6))], [.ref 28], I, G, (gP rd)) (True) hX hi (by decide +kernel) rfl trivial ?_
        refine am_callV hX hi (M := mX6_advance) (idx := 100) (d' := 2) (b := 28) (ci := 6) (As := []) (rest := []) mkX6_advance miX6_advance mvX6_advance (by decide +kernel) (by decide +kernel) rfl (by decide +kernel) rfl ⟨by omega, by decide, Nat.le_of_ble_eq_true rfl⟩ rfl (c_X6_advance_28 _ I G ) ?_
        rintro rz Iz Gz Pz ⟨e0, e1, e2, e3⟩
        rw [e0, e1, e2, e3]
        show am_V X 0 0 _ _ ad (237, [(0, .ref 28), (1, .int x1), (2, .int (I 28 6))], [], (g_X6_advance_28 I G ), G, (gP rd))
        refine am_blk 237 [(.aload_n 0, 1, 0, 0, .null), (.getfield 12, 3, 6, 1, .null), (.getfield 91, 3, 5, 8, .null), (.iload_n 2, 1, 2, 0, .null), (.aload_n 0, 1, 0, 0, .null), (.aload_n 0, 1, 0, 0, .null), (.iload_n 2, 1, 2, 0, .null)] (248, [(0, .ref 28), (1, .int x1), (2, .int (I 28 6))], [.int (I 28 6), .ref 28, .ref 28, .int (I 28 6), .ref 38], (g_X6_advance_28 I G ), G, (gP rd)) (True) hX hi (by decide +kernel) rfl trivial ?_
        refine am_callV hX hi (M := mX6_namesBehind) (idx := 180) (d' := 1) (b := 28) (ci := 6) (As := [.int (I 28 6)]) (rest := [.ref 28, .int (I 28 6), .ref 38]) mkX6_namesBehind miX6_namesBehind mvX6_namesBehind (by decide +kernel) (by decide +kernel) rfl (by decide +kernel) rfl ⟨by omega, by decide, Nat.le_of_ble_eq_true rfl⟩ rfl ((c_namesBehind _ (g_X6_advance_28 I G ) G (I 28 6)).mono (fun r I9 G9 P9 q => by rw [s29_16] at q; exact q)) ?_
        rintro rz Iz Gz Pz ⟨e0, e1, e2, e3⟩
        rw [e0, e1, e2, e3]
        show am_V X 0 0 _ _ ad (251, [(0, .ref 28), (1, .int x1), (2, .int (I 28 6))], [.ref 51, .ref 28, .int (I 28 6), .ref 38], (g_X6_advance_28 I G ), G, (gP rd))
        obtain ⟨r11, I11, G11, hc, h⟩ := rb_some h
        refine am_callV hX hi (M := mX6_readKnownName) (idx := 150) (d' := 3) (b := 28) (ci := 6) (As := [.ref 51]) (rest := [.int (I 28 6), .ref 38]) mkX6_readKnownName miX6_readKnownName mvX6_readKnownName (by decide +kernel) (by decide +kernel) rfl (by decide +kernel) rfl ⟨by omega, by decide, Nat.le_of_ble_eq_true rfl⟩ rfl (c_X6_readKnownName_28_51 _ (g_X6_advance_28 I G ) G  hc) ?_
        rintro rz Iz Gz Pz ⟨e0, e1, e2, e3⟩
        rw [e0, e1, e2, e3]
        show am_V X 0 0 _ _ ad (254, [(0, .ref 28), (1, .int x1), (2, .int (I 28 6))], [.int r11, .int (I 28 6), .ref 38], I11, G11, (gP rd))
        refine am_callV hX hi (M := mX3_add) (idx := 161) (d' := 2) (b := 38) (ci := 3) (As := [.int (I 28 6), .int r11]) (rest := []) mkX3_add miX3_add mvX3_add (by decide +kernel) (by decide +kernel) rfl (by decide +kernel) rfl ⟨by omega, by decide, Nat.le_of_ble_eq_true rfl⟩ rfl (c_X3_add_38 _ I11 G11 (I 28 6) r11) ?_
        rintro rz Iz Gz Pz ⟨e0, e1, e2, e3⟩
        rw [e0, e1, e2, e3]
        show am_V X 0 0 _ _ ad (257, [(0, .ref 28), (1, .int x1), (2, .int (I 28 6))], [], (g_X3_add_38 I11 G11 (I 28 6) r11), G11, (gP rd))
        refine am_blk 257 [(.goto (78), 3, 0, 335, .null)] (335, [(0, .ref 28), (1, .int x1), (2, .int (I 28 6))], [], (g_X3_add_38 I11 G11 (I 28 6) r11), G11, (gP rd)) (True) hX hi (by decide +kernel) rfl trivial ?_
        cases h
        refine am_vret hX hi rfl (by decide +kernel) ?_
        exact ⟨rfl, rfl, rfl, rfl⟩
      rw [if_neg s29_16] at h
      by_cases s29_17 : (I 28 6) = (17 : Int32)
      · rw [if_pos s29_17] at h
        refine am_tsi hX hi (dflt := (302)) (lo := (6)) (hi' := (40)) (offs := #[(204), (302), (302), (204), (302), (302), (302), (302), (302), (185), (204), (231), (302), (302), (302), (302), (231), (231), (282), (302), (302), (302), (302), (302), (302), (255), (302), (302), (302), (302), (302), (302), (302), (302), (155)]) (len := 155) (off := (231)) (tgt := 260) (by decide +kernel) (by rw [s29_17]; decide) (by rw [s29_17]; decide) (by rw [s29_17]; rfl) (by decide) ?_
        refine am_blk 260 [(.aload_n 0, 1, 0, 0, .null)] (261, [(0, .ref 28), (1, .int x1), (2, .int (I 28 6))], [.ref 28], I, G, (gP rd)) (True) hX hi (by decide +kernel) rfl trivial ?_
        refine am_callV hX hi (M := mX6_advance) (idx := 100) (d' := 2) (b := 28) (ci := 6) (As := []) (rest := []) mkX6_advance miX6_advance mvX6_advance (by decide +kernel) (by decide +kernel) rfl (by decide +kernel) rfl ⟨by omega, by decide, Nat.le_of_ble_eq_true rfl⟩ rfl (c_X6_advance_28 _ I G ) ?_
        rintro rz Iz Gz Pz ⟨e0, e1, e2, e3⟩
        rw [e0, e1, e2, e3]
        show am_V X 0 0 _ _ ad (264, [(0, .ref 28), (1, .int x1), (2, .int (I 28 6))], [], (g_X6_advance_28 I G ), G, (gP rd))
        refine am_blk 264 [(.aload_n 0, 1, 0, 0, .null), (.iload_n 1, 1, 1, 0, .null)] (266, [(0, .ref 28), (1, .int x1), (2, .int (I 28 6))], [.int x1, .ref 28], (g_X6_advance_28 I G ), G, (gP rd)) (True) hX hi (by decide +kernel) rfl trivial ?_
        obtain ⟨r12, I12, G12, hc, h⟩ := rb_some h
        refine am_callV hX hi (M := mX6_readPair) (idx := 184) (d' := (8 + n9)) (b := 28) (ci := 6) (As := [.int x1]) (rest := []) mkX6_readPair miX6_readPair mvX6_readPair (by decide +kernel) (by decide +kernel) rfl (by decide +kernel) rfl ⟨by omega, by decide, Nat.le_of_ble_eq_true rfl⟩ rfl (h6 _ (g_X6_advance_28 I G ) G x1 _ hc) ?_
        rintro rz Iz Gz Pz ⟨e0, e1, e2, e3⟩
        rw [e0, e1, e2, e3]
        show am_V X 0 0 _ _ ad (269, [(0, .ref 28), (1, .int x1), (2, .int (I 28 6))], [], I12, G12, (gP rd))
        refine am_blk 269 [(.aload_n 0, 1, 0, 0, .null), (.getfield 12, 3, 6, 1, .null), (.getfield 91, 3, 5, 8, .null), (.iload_n 2, 1, 2, 0, .null), (.iconst (0), 1, 0, 0, .int (0 : Int32))] (278, [(0, .ref 28), (1, .int x1), (2, .int (I 28 6))], [.int (0 : Int32), .int (I 28 6), .ref 38], I12, G12, (gP rd)) (True) hX hi (by decide +kernel) rfl trivial ?_
        refine am_callV hX hi (M := mX3_add) (idx := 161) (d' := 2) (b := 38) (ci := 3) (As := [.int (I 28 6), .int (0 : Int32)]) (rest := []) mkX3_add miX3_add mvX3_add (by decide +kernel) (by decide +kernel) rfl (by decide +kernel) rfl ⟨by omega, by decide, Nat.le_of_ble_eq_true rfl⟩ rfl (c_X3_add_38 _ I12 G12 (I 28 6) (0 : Int32)) ?_
        rintro rz Iz Gz Pz ⟨e0, e1, e2, e3⟩
        rw [e0, e1, e2, e3]
        show am_V X 0 0 _ _ ad (281, [(0, .ref 28), (1, .int x1), (2, .int (I 28 6))], [], (g_X3_add_38 I12 G12 (I 28 6) (0 : Int32)), G12, (gP rd))
        refine am_blk 281 [(.goto (54), 3, 0, 335, .null)] (335, [(0, .ref 28), (1, .int x1), (2, .int (I 28 6))], [], (g_X3_add_38 I12 G12 (I 28 6) (0 : Int32)), G12, (gP rd)) (True) hX hi (by decide +kernel) rfl trivial ?_
        cases h
        refine am_vret hX hi rfl (by decide +kernel) ?_
        exact ⟨rfl, rfl, rfl, rfl⟩
      rw [if_neg s29_17] at h
      by_cases s29_22 : (I 28 6) = (22 : Int32)
      · rw [if_pos s29_22] at h
        refine am_tsi hX hi (dflt := (302)) (lo := (6)) (hi' := (40)) (offs := #[(204), (302), (302), (204), (302), (302), (302), (302), (302), (185), (204), (231), (302), (302), (302), (302), (231), (231), (282), (302), (302), (302), (302), (302), (302), (255), (302), (302), (302), (302), (302), (302), (302), (302), (155)]) (len := 155) (off := (231)) (tgt := 260) (by decide +kernel) (by rw [s29_22]; decide) (by rw [s29_22]; decide) (by rw [s29_22]; rfl) (by decide) ?_
        refine am_blk 260 [(.aload_n 0, 1, 0, 0, .null)] (261, [(0, .ref 28), (1, .int x1), (2, .int (I 28 6))], [.ref 28], I, G, (gP rd)) (True) hX hi (by decide +kernel) rfl trivial ?_
        refine am_callV hX hi (M := mX6_advance) (idx := 100) (d' := 2) (b := 28) (ci := 6) (As := []) (rest := []) mkX6_advance miX6_advance mvX6_advance (by decide +kernel) (by decide +kernel) rfl (by decide +kernel) rfl ⟨by omega, by decide, Nat.le_of_ble_eq_true rfl⟩ rfl (c_X6_advance_28 _ I G ) ?_
        rintro rz Iz Gz Pz ⟨e0, e1, e2, e3⟩
        rw [e0, e1, e2, e3]
        show am_V X 0 0 _ _ ad (264, [(0, .ref 28), (1, .int x1), (2, .int (I 28 6))], [], (g_X6_advance_28 I G ), G, (gP rd))
        refine am_blk 264 [(.aload_n 0, 1, 0, 0, .null), (.iload_n 1, 1, 1, 0, .null)] (266, [(0, .ref 28), (1, .int x1), (2, .int (I 28 6))], [.int x1, .ref 28], (g_X6_advance_28 I G ), G, (gP rd)) (True) hX hi (by decide +kernel) rfl trivial ?_
        obtain ⟨r13, I13, G13, hc, h⟩ := rb_some h
        refine am_callV hX hi (M := mX6_readPair) (idx := 184) (d' := (8 + n9)) (b := 28) (ci := 6) (As := [.int x1]) (rest := []) mkX6_readPair miX6_readPair mvX6_readPair (by decide +kernel) (by decide +kernel) rfl (by decide +kernel) rfl ⟨by omega, by decide, Nat.le_of_ble_eq_true rfl⟩ rfl (h6 _ (g_X6_advance_28 I G ) G x1 _ hc) ?_
        rintro rz Iz Gz Pz ⟨e0, e1, e2, e3⟩
        rw [e0, e1, e2, e3]
        show am_V X 0 0 _ _ ad (269, [(0, .ref 28), (1, .int x1), (2, .int (I 28 6))], [], I13, G13, (gP rd))
        refine am_blk 269 [(.aload_n 0, 1, 0, 0, .null), (.getfield 12, 3, 6, 1, .null), (.getfield 91, 3, 5, 8, .null), (.iload_n 2, 1, 2, 0, .null), (.iconst (0), 1, 0, 0, .int (0 : Int32))] (278, [(0, .ref 28), (1, .int x1), (2, .int (I 28 6))], [.int (0 : Int32), .int (I 28 6), .ref 38], I13, G13, (gP rd)) (True) hX hi (by decide +kernel) rfl trivial ?_
        refine am_callV hX hi (M := mX3_add) (idx := 161) (d' := 2) (b := 38) (ci := 3) (As := [.int (I 28 6), .int (0 : Int32)]) (rest := []) mkX3_add miX3_add mvX3_add (by decide +kernel) (by decide +kernel) rfl (by decide +kernel) rfl ⟨by omega, by decide, Nat.le_of_ble_eq_true rfl⟩ rfl (c_X3_add_38 _ I13 G13 (I 28 6) (0 : Int32)) ?_
        rintro rz Iz Gz Pz ⟨e0, e1, e2, e3⟩
        rw [e0, e1, e2, e3]
        show am_V X 0 0 _ _ ad (281, [(0, .ref 28), (1, .int x1), (2, .int (I 28 6))], [], (g_X3_add_38 I13 G13 (I 28 6) (0 : Int32)), G13, (gP rd))
        refine am_blk 281 [(.goto (54), 3, 0, 335, .null)] (335, [(0, .ref 28), (1, .int x1), (2, .int (I 28 6))], [], (g_X3_add_38 I13 G13 (I 28 6) (0 : Int32)), G13, (gP rd)) (True) hX hi (by decide +kernel) rfl trivial ?_
        cases h
        refine am_vret hX hi rfl (by decide +kernel) ?_
        exact ⟨rfl, rfl, rfl, rfl⟩
      rw [if_neg s29_22] at h
      by_cases s29_23 : (I 28 6) = (23 : Int32)
      · rw [if_pos s29_23] at h
        refine am_tsi hX hi (dflt := (302)) (lo := (6)) (hi' := (40)) (offs := #[(204), (302), (302), (204), (302), (302), (302), (302), (302), (185), (204), (231), (302), (302), (302), (302), (231), (231), (282), (302), (302), (302), (302), (302), (302), (255), (302), (302), (302), (302), (302), (302), (302), (302), (155)]) (len := 155) (off := (231)) (tgt := 260) (by decide +kernel) (by rw [s29_23]; decide) (by rw [s29_23]; decide) (by rw [s29_23]; rfl) (by decide) ?_
        refine am_blk 260 [(.aload_n 0, 1, 0, 0, .null)] (261, [(0, .ref 28), (1, .int x1), (2, .int (I 28 6))], [.ref 28], I, G, (gP rd)) (True) hX hi (by decide +kernel) rfl trivial ?_
        refine am_callV hX hi (M := mX6_advance) (idx := 100) (d' := 2) (b := 28) (ci := 6) (As := []) (rest := []) mkX6_advance miX6_advance mvX6_advance (by decide +kernel) (by decide +kernel) rfl (by decide +kernel) rfl ⟨by omega, by decide, Nat.le_of_ble_eq_true rfl⟩ rfl (c_X6_advance_28 _ I G ) ?_
        rintro rz Iz Gz Pz ⟨e0, e1, e2, e3⟩
        rw [e0, e1, e2, e3]
        show am_V X 0 0 _ _ ad (264, [(0, .ref 28), (1, .int x1), (2, .int (I 28 6))], [], (g_X6_advance_28 I G ), G, (gP rd))
        refine am_blk 264 [(.aload_n 0, 1, 0, 0, .null), (.iload_n 1, 1, 1, 0, .null)] (266, [(0, .ref 28), (1, .int x1), (2, .int (I 28 6))], [.int x1, .ref 28], (g_X6_advance_28 I G ), G, (gP rd)) (True) hX hi (by decide +kernel) rfl trivial ?_
        obtain ⟨r14, I14, G14, hc, h⟩ := rb_some h
        refine am_callV hX hi (M := mX6_readPair) (idx := 184) (d' := (8 + n9)) (b := 28) (ci := 6) (As := [.int x1]) (rest := []) mkX6_readPair miX6_readPair mvX6_readPair (by decide +kernel) (by decide +kernel) rfl (by decide +kernel) rfl ⟨by omega, by decide, Nat.le_of_ble_eq_true rfl⟩ rfl (h6 _ (g_X6_advance_28 I G ) G x1 _ hc) ?_
        rintro rz Iz Gz Pz ⟨e0, e1, e2, e3⟩
        rw [e0, e1, e2, e3]
        show am_V X 0 0 _ _ ad (269, [(0, .ref 28), (1, .int x1), (2, .int (I 28 6))], [], I14, G14, (gP rd))
        refine am_blk 269 [(.aload_n 0, 1, 0, 0, .null), (.getfield 12, 3, 6, 1, .null), (.getfield 91, 3, 5, 8, .null), (.iload_n 2, 1, 2, 0, .null), (.iconst (0), 1, 0, 0, .int (0 : Int32))] (278, [(0, .ref 28), (1, .int x1), (2, .int (I 28 6))], [.int (0 : Int32), .int (I 28 6), .ref 38], I14, G14, (gP rd)) (True) hX hi (by decide +kernel) rfl trivial ?_
        refine am_callV hX hi (M := mX3_add) (idx := 161) (d' := 2) (b := 38) (ci := 3) (As := [.int (I 28 6), .int (0 : Int32)]) (rest := []) mkX3_add miX3_add mvX3_add (by decide +kernel) (by decide +kernel) rfl (by decide +kernel) rfl ⟨by omega, by decide, Nat.le_of_ble_eq_true rfl⟩ rfl (c_X3_add_38 _ I14 G14 (I 28 6) (0 : Int32)) ?_
        rintro rz Iz Gz Pz ⟨e0, e1, e2, e3⟩
        rw [e0, e1, e2, e3]
        show am_V X 0 0 _ _ ad (281, [(0, .ref 28), (1, .int x1), (2, .int (I 28 6))], [], (g_X3_add_38 I14 G14 (I 28 6) (0 : Int32)), G14, (gP rd))
        refine am_blk 281 [(.goto (54), 3, 0, 335, .null)] (335, [(0, .ref 28), (1, .int x1), (2, .int (I 28 6))], [], (g_X3_add_38 I14 G14 (I 28 6) (0 : Int32)), G14, (gP rd)) (True) hX hi (by decide +kernel) rfl trivial ?_
        cases h
        refine am_vret hX hi rfl (by decide +kernel) ?_
        exact ⟨rfl, rfl, rfl, rfl⟩
      rw [if_neg s29_23] at h
      by_cases s29_24 : (I 28 6) = (24 : Int32)
      · rw [if_pos s29_24] at h
        refine am_tsi hX hi (dflt := (302)) (lo := (6)) (hi' := (40)) (offs := #[(204), (302), (302), (204), (302), (302), (302), (302), (302), (185), (204), (231), (302), (302), (302), (302), (231), (231), (282), (302), (302), (302), (302), (302), (302), (255), (302), (302), (302), (302), (302), (302), (302), (302), (155)]) (len := 155) (off := (282)) (tgt := 311) (by decide +kernel) (by rw [s29_24]; decide) (by rw [s29_24]; decide) (by rw [s29_24]; rfl) (by decide) ?_
        refine am_blk 311 [(.aload_n 0, 1, 0, 0, .null)] (312, [(0, .ref 28), (1, .int x1), (2, .int (I 28 6))], [.ref 28], I, G, (gP rd)) (True) hX hi (by decide +kernel) rfl trivial ?_
        refine am_callV hX hi (M := mX6_advance) (idx := 100) (d' := 2) (b := 28) (ci := 6) (As := []) (rest := []) mkX6_advance miX6_advance mvX6_advance (by decide +kernel) (by decide +kernel) rfl (by decide +kernel) rfl ⟨by omega, by decide, Nat.le_of_ble_eq_true rfl⟩ rfl (c_X6_advance_28 _ I G ) ?_
        rintro rz Iz Gz Pz ⟨e0, e1, e2, e3⟩
        rw [e0, e1, e2, e3]
        show am_V X 0 0 _ _ ad (315, [(0, .ref 28), (1, .int x1), (2, .int (I 28 6))], [], (g_X6_advance_28 I G ), G, (gP rd))
        refine am_blk 315 [(.aload_n 0, 1, 0, 0, .null), (.iload_n 1, 1, 1, 0, .null), (.iconst (1), 1, 0, 0, .int (1 : Int32)), (.iadd, 1, 0, 0, .null)] (319, [(0, .ref 28), (1, .int x1), (2, .int (I 28 6))], [.int (x1 + (1 : Int32)), .ref 28], (g_X6_advance_28 I G ), G, (gP rd)) (True) hX hi (by decide +kernel) rfl trivial ?_
        obtain ⟨r15, I15, G15, hc, h⟩ := rb_some h
        refine am_callV hX hi (M := mX6_readSum) (idx := 88) (d' := (8 + n9)) (b := 28) (ci := 6) (As := [.int (x1 + (1 : Int32))]) (rest := []) mkX6_readSum miX6_readSum mvX6_readSum (by decide +kernel) (by decide +kernel) rfl (by decide +kernel) rfl ⟨by omega, by decide, Nat.le_of_ble_eq_true rfl⟩ rfl (h3 _ (g_X6_advance_28 I G ) G (x1 + (1 : Int32)) _ hc) ?_
        rintro rz Iz Gz Pz ⟨e0, e1, e2, e3⟩
        rw [e0, e1, e2, e3]
        show am_V X 0 0 _ _ ad (322, [(0, .ref 28), (1, .int x1), (2, .int (I 28 6))], [], I15, G15, (gP rd))
        refine am_blk 322 [(.aload_n 0, 1, 0, 0, .null), (.bipush (25), 2, 0, 0, .int (25 : Int32))] (325, [(0, .ref 28), (1, .int x1), (2, .int (I 28 6))], [.int (25 : Int32), .ref 28], I15, G15, (gP rd)) (True) hX hi (by decide +kernel) rfl trivial ?_
        refine am_callV hX hi (M := mX6_expect) (idx := 109) (d' := 3) (b := 28) (ci := 6) (As := [.int (25 : Int32)]) (rest := []) mkX6_expect miX6_expect mvX6_expect (by decide +kernel) (by decide +kernel) rfl (by decide +kernel) rfl ⟨by omega, by decide, Nat.le_of_ble_eq_true rfl⟩ rfl (c_X6_expect_28 _ I15 G15 (25 : Int32)) ?_
        rintro rz Iz Gz Pz ⟨e0, e1, e2, e3⟩
        rw [e0, e1, e2, e3]
        show am_V X 0 0 _ _ ad (328, [(0, .ref 28), (1, .int x1), (2, .int (I 28 6))], [], (g_X6_expect_28 I15 G15 (25 : Int32)), G15, (gP rd))
        refine am_blk 328 [(.goto (7), 3, 0, 335, .null)] (335, [(0, .ref 28), (1, .int x1), (2, .int (I 28 6))], [], (g_X6_expect_28 I15 G15 (25 : Int32)), G15, (gP rd)) (True) hX hi (by decide +kernel) rfl trivial ?_
        cases h
        refine am_vret hX hi rfl (by decide +kernel) ?_
        exact ⟨rfl, rfl, rfl, rfl⟩
      rw [if_neg s29_24] at h
      by_cases s29_31 : (I 28 6) = (31 : Int32)
      · rw [if_pos s29_31] at h
        refine am_tsi hX hi (dflt := (302)) (lo := (6)) (hi' := (40)) (offs := #[(204), (302), (302), (204), (302), (302), (302), (302), (302), (185), (204), (231), (302), (302), (302), (302), (231), (231), (282), (302), (302), (302), (302), (302), (302), (255), (302), (302), (302), (302), (302), (302), (302), (302), (155)]) (len := 155) (off := (255)) (tgt := 284) (by decide +kernel) (by rw [s29_31]; decide) (by rw [s29_31]; decide) (by rw [s29_31]; rfl) (by decide) ?_
        refine am_blk 284 [(.aload_n 0, 1, 0, 0, .null)] (285, [(0, .ref 28), (1, .int x1), (2, .int (I 28 6))], [.ref 28], I, G, (gP rd)) (True) hX hi (by decide +kernel) rfl trivial ?_
        refine am_callV hX hi (M := mX6_advance) (idx := 100) (d' := 2) (b := 28) (ci := 6) (As := []) (rest := []) mkX6_advance miX6_advance mvX6_advance (by decide +kernel) (by decide +kernel) rfl (by decide +kernel) rfl ⟨by omega, by decide, Nat.le_of_ble_eq_true rfl⟩ rfl (c_X6_advance_28 _ I G ) ?_
        rintro rz Iz Gz Pz ⟨e0, e1, e2, e3⟩
        rw [e0, e1, e2, e3]
        show am_V X 0 0 _ _ ad (288, [(0, .ref 28), (1, .int x1), (2, .int (I 28 6))], [], (g_X6_advance_28 I G ), G, (gP rd))
        refine am_blk 288 [(.aload_n 0, 1, 0, 0, .null), (.iload_n 1, 1, 1, 0, .null), (.iconst (1), 1, 0, 0, .int (1 : Int32)), (.iadd, 1, 0, 0, .null)] (292, [(0, .ref 28), (1, .int x1), (2, .int (I 28 6))], [.int (x1 + (1 : Int32)), .ref 28], (g_X6_advance_28 I G ), G, (gP rd)) (True) hX hi (by decide +kernel) rfl trivial ?_
        obtain ⟨r16, I16, G16, hc, h⟩ := rb_some h
        refine am_callV hX hi (M := mX6_readValue) (idx := 173) (d' := (8 + n9)) (b := 28) (ci := 6) (As := [.int (x1 + (1 : Int32))]) (rest := []) mkX6_readValue miX6_readValue mvX6_readValue (by decide +kernel) (by decide +kernel) rfl (by decide +kernel) rfl ⟨by omega, by decide, Nat.le_of_ble_eq_true rfl⟩ rfl (h5 _ (g_X6_advance_28 I G ) G (x1 + (1 : Int32)) _ hc) ?_
        rintro rz Iz Gz Pz ⟨e0, e1, e2, e3⟩
        rw [e0, e1, e2, e3]
        show am_V X 0 0 _ _ ad (295, [(0, .ref 28), (1, .int x1), (2, .int (I 28 6))], [], I16, G16, (gP rd))
        refine am_blk 295 [(.aload_n 0, 1, 0, 0, .null), (.getfield 12, 3, 6, 1, .null), (.getfield 91, 3, 5, 8, .null), (.bipush (43), 2, 0, 0, .int (43 : Int32)), (.iconst (0), 1, 0, 0, .int (0 : Int32))] (305, [(0, .ref 28), (1, .int x1), (2, .int (I 28 6))], [.int (0 : Int32), .int (43 : Int32), .ref 38], I16, G16, (gP rd)) (True) hX hi (by decide +kernel) rfl trivial ?_
        refine am_callV hX hi (M := mX3_add) (idx := 161) (d' := 2) (b := 38) (ci := 3) (As := [.int (43 : Int32), .int (0 : Int32)]) (rest := []) mkX3_add miX3_add mvX3_add (by decide +kernel) (by decide +kernel) rfl (by decide +kernel) rfl ⟨by omega, by decide, Nat.le_of_ble_eq_true rfl⟩ rfl (c_X3_add_38 _ I16 G16 (43 : Int32) (0 : Int32)) ?_
        rintro rz Iz Gz Pz ⟨e0, e1, e2, e3⟩
        rw [e0, e1, e2, e3]
        show am_V X 0 0 _ _ ad (308, [(0, .ref 28), (1, .int x1), (2, .int (I 28 6))], [], (g_X3_add_38 I16 G16 (43 : Int32) (0 : Int32)), G16, (gP rd))
        refine am_blk 308 [(.goto (27), 3, 0, 335, .null)] (335, [(0, .ref 28), (1, .int x1), (2, .int (I 28 6))], [], (g_X3_add_38 I16 G16 (43 : Int32) (0 : Int32)), G16, (gP rd)) (True) hX hi (by decide +kernel) rfl trivial ?_
        cases h
        refine am_vret hX hi rfl (by decide +kernel) ?_
        exact ⟨rfl, rfl, rfl, rfl⟩
      rw [if_neg s29_31] at h
      by_cases s29_40 : (I 28 6) = (40 : Int32)
      · rw [if_pos s29_40] at h
        refine am_tsi hX hi (dflt := (302)) (lo := (6)) (hi' := (40)) (offs := #[(204), (302), (302), (204), (302), (302), (302), (302), (302), (185), (204), (231), (302), (302), (302), (302), (231), (231), (282), (302), (302), (302), (302), (302), (302), (255), (302), (302), (302), (302), (302), (302), (302), (302), (155)]) (len := 155) (off := (155)) (tgt := 184) (by decide +kernel) (by rw [s29_40]; decide) (by rw [s29_40]; decide) (by rw [s29_40]; rfl) (by decide) ?_
        refine am_blk 184 [(.aload_n 0, 1, 0, 0, .null), (.getfield 12, 3, 6, 1, .null), (.getfield 91, 3, 5, 8, .null), (.iload_n 2, 1, 2, 0, .null), (.aload_n 0, 1, 0, 0, .null), (.getfield 33, 3, 6, 0, .null), (.aload_n 0, 1, 0, 0, .null), (.getfield 55, 3, 6, 5, .null)] (200, [(0, .ref 28), (1, .int x1), (2, .int (I 28 6))], [.int (I 28 5), .ref 1, .int (I 28 6), .ref 38], I, G, (gP rd)) (True) hX hi (by decide +kernel) rfl trivial ?_
        refine am_callV hX hi (M := mX9_contentAt) (idx := 176) (d' := 1) (b := 1) (ci := 9) (As := [.int (I 28 5)]) (rest := [.int (I 28 6), .ref 38]) mkX9_contentAt miX9_contentAt mvX9_contentAt (by decide +kernel) (by decide +kernel) rfl (by decide +kernel) rfl ⟨by omega, by decide, Nat.le_of_ble_eq_true rfl⟩ rfl (c_X9_contentAt_1 _ I G (I 28 5)) ?_
        rintro rz Iz Gz Pz ⟨e0, e1, e2, e3⟩
        rw [e0, e1, e2, e3]
        show am_V X 0 0 _ _ ad (203, [(0, .ref 28), (1, .int x1), (2, .int (I 28 6))], [.long (f_X9_contentAt_1 I G (I 28 5)), .int (I 28 6), .ref 38], I, G, (gP rd))
        refine am_blk 203 [(.l2i, 1, 0, 0, .null)] (204, [(0, .ref 28), (1, .int x1), (2, .int (I 28 6))], [.int (f_X9_contentAt_1 I G (I 28 5)).toInt32, .int (I 28 6), .ref 38], I, G, (gP rd)) (True) hX hi (by decide +kernel) rfl trivial ?_
        refine am_callV hX hi (M := mX3_add) (idx := 161) (d' := 2) (b := 38) (ci := 3) (As := [.int (I 28 6), .int (f_X9_contentAt_1 I G (I 28 5)).toInt32]) (rest := []) mkX3_add miX3_add mvX3_add (by decide +kernel) (by decide +kernel) rfl (by decide +kernel) rfl ⟨by omega, by decide, Nat.le_of_ble_eq_true rfl⟩ rfl (c_X3_add_38 _ I G (I 28 6) (f_X9_contentAt_1 I G (I 28 5)).toInt32) ?_
        rintro rz Iz Gz Pz ⟨e0, e1, e2, e3⟩
        rw [e0, e1, e2, e3]
        show am_V X 0 0 _ _ ad (207, [(0, .ref 28), (1, .int x1), (2, .int (I 28 6))], [], (g_X3_add_38 I G (I 28 6) (f_X9_contentAt_1 I G (I 28 5)).toInt32), G, (gP rd))
        refine am_blk 207 [(.aload_n 0, 1, 0, 0, .null)] (208, [(0, .ref 28), (1, .int x1), (2, .int (I 28 6))], [.ref 28], (g_X3_add_38 I G (I 28 6) (f_X9_contentAt_1 I G (I 28 5)).toInt32), G, (gP rd)) (True) hX hi (by decide +kernel) rfl trivial ?_
        refine am_callV hX hi (M := mX6_advance) (idx := 100) (d' := 2) (b := 28) (ci := 6) (As := []) (rest := []) mkX6_advance miX6_advance mvX6_advance (by decide +kernel) (by decide +kernel) rfl (by decide +kernel) rfl ⟨by omega, by decide, Nat.le_of_ble_eq_true rfl⟩ rfl (c_X6_advance_28 _ (g_X3_add_38 I G (I 28 6) (f_X9_contentAt_1 I G (I 28 5)).toInt32) G ) ?_
        rintro rz Iz Gz Pz ⟨e0, e1, e2, e3⟩
        rw [e0, e1, e2, e3]
        show am_V X 0 0 _ _ ad (211, [(0, .ref 28), (1, .int x1), (2, .int (I 28 6))], [], (g_X6_advance_28 (g_X3_add_38 I G (I 28 6) (f_X9_contentAt_1 I G (I 28 5)).toInt32) G ), G, (gP rd))
        refine am_blk 211 [(.goto (124), 3, 0, 335, .null)] (335, [(0, .ref 28), (1, .int x1), (2, .int (I 28 6))], [], (g_X6_advance_28 (g_X3_add_38 I G (I 28 6) (f_X9_contentAt_1 I G (I 28 5)).toInt32) G ), G, (gP rd)) (True) hX hi (by decide +kernel) rfl trivial ?_
        cases h
        refine am_vret hX hi rfl (by decide +kernel) ?_
        exact ⟨rfl, rfl, rfl, rfl⟩
      rw [if_neg s29_40] at h
      by_cases s29_7 : (I 28 6) = (7 : Int32)
      · refine am_tsi hX hi (dflt := (302)) (lo := (6)) (hi' := (40)) (offs := #[(204), (302), (302), (204), (302), (302), (302), (302), (302), (185), (204), (231), (302), (302), (302), (302), (231), (231), (282), (302), (302), (302), (302), (302), (302), (255), (302), (302), (302), (302), (302), (302), (302), (302), (155)]) (len := 155) (off := (302)) (tgt := 331) (by decide +kernel) (by rw [s29_7]; decide) (by rw [s29_7]; decide) (by rw [s29_7]; rfl) (by decide) ?_
        exact (l_X6_readValue_28 h0 h1 h2 h3 h4 h5 h6 rd hX hi FU) _ _ _ _ _ h
      by_cases s29_8 : (I 28 6) = (8 : Int32)
      · refine am_tsi hX hi (dflt := (302)) (lo := (6)) (hi' := (40)) (offs := #[(204), (302), (302), (204), (302), (302), (302), (302), (302), (185), (204), (231), (302), (302), (302), (302), (231), (231), (282), (302), (302), (302), (302), (302), (302), (255), (302), (302), (302), (302), (302), (302), (302), (302), (155)]) (len := 155) (off := (302)) (tgt := 331) (by decide +kernel) (by rw [s29_8]; decide) (by rw [s29_8]; decide) (by rw [s29_8]; rfl) (by decide) ?_
        exact (l_X6_readValue_28 h0 h1 h2 h3 h4 h5 h6 rd hX hi FU) _ _ _ _ _ h
      by_cases s29_10 : (I 28 6) = (10 : Int32)
      · refine am_tsi hX hi (dflt := (302)) (lo := (6)) (hi' := (40)) (offs := #[(204), (302), (302), (204), (302), (302), (302), (302), (302), (185), (204), (231), (302), (302), (302), (302), (231), (231), (282), (302), (302), (302), (302), (302), (302), (255), (302), (302), (302), (302), (302), (302), (302), (302), (155)]) (len := 155) (off := (302)) (tgt := 331) (by decide +kernel) (by rw [s29_10]; decide) (by rw [s29_10]; decide) (by rw [s29_10]; rfl) (by decide) ?_
        exact (l_X6_readValue_28 h0 h1 h2 h3 h4 h5 h6 rd hX hi FU) _ _ _ _ _ h
      by_cases s29_11 : (I 28 6) = (11 : Int32)
      · refine am_tsi hX hi (dflt := (302)) (lo := (6)) (hi' := (40)) (offs := #[(204), (302), (302), (204), (302), (302), (302), (302), (302), (185), (204), (231), (302), (302), (302), (302), (231), (231), (282), (302), (302), (302), (302), (302), (302), (255), (302), (302), (302), (302), (302), (302), (302), (302), (155)]) (len := 155) (off := (302)) (tgt := 331) (by decide +kernel) (by rw [s29_11]; decide) (by rw [s29_11]; decide) (by rw [s29_11]; rfl) (by decide) ?_
        exact (l_X6_readValue_28 h0 h1 h2 h3 h4 h5 h6 rd hX hi FU) _ _ _ _ _ h
      by_cases s29_12 : (I 28 6) = (12 : Int32)
      · refine am_tsi hX hi (dflt := (302)) (lo := (6)) (hi' := (40)) (offs := #[(204), (302), (302), (204), (302), (302), (302), (302), (302), (185), (204), (231), (302), (302), (302), (302), (231), (231), (282), (302), (302), (302), (302), (302), (302), (255), (302), (302), (302), (302), (302), (302), (302), (302), (155)]) (len := 155) (off := (302)) (tgt := 331) (by decide +kernel) (by rw [s29_12]; decide) (by rw [s29_12]; decide) (by rw [s29_12]; rfl) (by decide) ?_
        exact (l_X6_readValue_28 h0 h1 h2 h3 h4 h5 h6 rd hX hi FU) _ _ _ _ _ h
      by_cases s29_13 : (I 28 6) = (13 : Int32)
      · refine am_tsi hX hi (dflt := (302)) (lo := (6)) (hi' := (40)) (offs := #[(204), (302), (302), (204), (302), (302), (302), (302), (302), (185), (204), (231), (302), (302), (302), (302), (231), (231), (282), (302), (302), (302), (302), (302), (302), (255), (302), (302), (302), (302), (302), (302), (302), (302), (155)]) (len := 155) (off := (302)) (tgt := 331) (by decide +kernel) (by rw [s29_13]; decide) (by rw [s29_13]; decide) (by rw [s29_13]; rfl) (by decide) ?_
        exact (l_X6_readValue_28 h0 h1 h2 h3 h4 h5 h6 rd hX hi FU) _ _ _ _ _ h
      by_cases s29_14 : (I 28 6) = (14 : Int32)
      · refine am_tsi hX hi (dflt := (302)) (lo := (6)) (hi' := (40)) (offs := #[(204), (302), (302), (204), (302), (302), (302), (302), (302), (185), (204), (231), (302), (302), (302), (302), (231), (231), (282), (302), (302), (302), (302), (302), (302), (255), (302), (302), (302), (302), (302), (302), (302), (302), (155)]) (len := 155) (off := (302)) (tgt := 331) (by decide +kernel) (by rw [s29_14]; decide) (by rw [s29_14]; decide) (by rw [s29_14]; rfl) (by decide) ?_
        exact (l_X6_readValue_28 h0 h1 h2 h3 h4 h5 h6 rd hX hi FU) _ _ _ _ _ h
      by_cases s29_18 : (I 28 6) = (18 : Int32)
      · refine am_tsi hX hi (dflt := (302)) (lo := (6)) (hi' := (40)) (offs := #[(204), (302), (302), (204), (302), (302), (302), (302), (302), (185), (204), (231), (302), (302), (302), (302), (231), (231), (282), (302), (302), (302), (302), (302), (302), (255), (302), (302), (302), (302), (302), (302), (302), (302), (155)]) (len := 155) (off := (302)) (tgt := 331) (by decide +kernel) (by rw [s29_18]; decide) (by rw [s29_18]; decide) (by rw [s29_18]; rfl) (by decide) ?_
        exact (l_X6_readValue_28 h0 h1 h2 h3 h4 h5 h6 rd hX hi FU) _ _ _ _ _ h
      by_cases s29_19 : (I 28 6) = (19 : Int32)
      · refine am_tsi hX hi (dflt := (302)) (lo := (6)) (hi' := (40)) (offs := #[(204), (302), (302), (204), (302), (302), (302), (302), (302), (185), (204), (231), (302), (302), (302), (302), (231), (231), (282), (302), (302), (302), (302), (302), (302), (255), (302), (302), (302), (302), (302), (302), (302), (302), (155)]) (len := 155) (off := (302)) (tgt := 331) (by decide +kernel) (by rw [s29_19]; decide) (by rw [s29_19]; decide) (by rw [s29_19]; rfl) (by decide) ?_
        exact (l_X6_readValue_28 h0 h1 h2 h3 h4 h5 h6 rd hX hi FU) _ _ _ _ _ h
      by_cases s29_20 : (I 28 6) = (20 : Int32)
      · refine am_tsi hX hi (dflt := (302)) (lo := (6)) (hi' := (40)) (offs := #[(204), (302), (302), (204), (302), (302), (302), (302), (302), (185), (204), (231), (302), (302), (302), (302), (231), (231), (282), (302), (302), (302), (302), (302), (302), (255), (302), (302), (302), (302), (302), (302), (302), (302), (155)]) (len := 155) (off := (302)) (tgt := 331) (by decide +kernel) (by rw [s29_20]; decide) (by rw [s29_20]; decide) (by rw [s29_20]; rfl) (by decide) ?_
        exact (l_X6_readValue_28 h0 h1 h2 h3 h4 h5 h6 rd hX hi FU) _ _ _ _ _ h
      by_cases s29_21 : (I 28 6) = (21 : Int32)
      · refine am_tsi hX hi (dflt := (302)) (lo := (6)) (hi' := (40)) (offs := #[(204), (302), (302), (204), (302), (302), (302), (302), (302), (185), (204), (231), (302), (302), (302), (302), (231), (231), (282), (302), (302), (302), (302), (302), (302), (255), (302), (302), (302), (302), (302), (302), (302), (302), (155)]) (len := 155) (off := (302)) (tgt := 331) (by decide +kernel) (by rw [s29_21]; decide) (by rw [s29_21]; decide) (by rw [s29_21]; rfl) (by decide) ?_
        exact (l_X6_readValue_28 h0 h1 h2 h3 h4 h5 h6 rd hX hi FU) _ _ _ _ _ h
      by_cases s29_25 : (I 28 6) = (25 : Int32)
      · refine am_tsi hX hi (dflt := (302)) (lo := (6)) (hi' := (40)) (offs := #[(204), (302), (302), (204), (302), (302), (302), (302), (302), (185), (204), (231), (302), (302), (302), (302), (231), (231), (282), (302), (302), (302), (302), (302), (302), (255), (302), (302), (302), (302), (302), (302), (302), (302), (155)]) (len := 155) (off := (302)) (tgt := 331) (by decide +kernel) (by rw [s29_25]; decide) (by rw [s29_25]; decide) (by rw [s29_25]; rfl) (by decide) ?_
        exact (l_X6_readValue_28 h0 h1 h2 h3 h4 h5 h6 rd hX hi FU) _ _ _ _ _ h
      by_cases s29_26 : (I 28 6) = (26 : Int32)
      · refine am_tsi hX hi (dflt := (302)) (lo := (6)) (hi' := (40)) (offs := #[(204), (302), (302), (204), (302), (302), (302), (302), (302), (185), (204), (231), (302), (302), (302), (302), (231), (231), (282), (302), (302), (302), (302), (302), (302), (255), (302), (302), (302), (302), (302), (302), (302), (302), (155)]) (len := 155) (off := (302)) (tgt := 331) (by decide +kernel) (by rw [s29_26]; decide) (by rw [s29_26]; decide) (by rw [s29_26]; rfl) (by decide) ?_
        exact (l_X6_readValue_28 h0 h1 h2 h3 h4 h5 h6 rd hX hi FU) _ _ _ _ _ h
      by_cases s29_27 : (I 28 6) = (27 : Int32)
      · refine am_tsi hX hi (dflt := (302)) (lo := (6)) (hi' := (40)) (offs := #[(204), (302), (302), (204), (302), (302), (302), (302), (302), (185), (204), (231), (302), (302), (302), (302), (231), (231), (282), (302), (302), (302), (302), (302), (302), (255), (302), (302), (302), (302), (302), (302), (302), (302), (155)]) (len := 155) (off := (302)) (tgt := 331) (by decide +kernel) (by rw [s29_27]; decide) (by rw [s29_27]; decide) (by rw [s29_27]; rfl) (by decide) ?_
        exact (l_X6_readValue_28 h0 h1 h2 h3 h4 h5 h6 rd hX hi FU) _ _ _ _ _ h
      by_cases s29_28 : (I 28 6) = (28 : Int32)
      · refine am_tsi hX hi (dflt := (302)) (lo := (6)) (hi' := (40)) (offs := #[(204), (302), (302), (204), (302), (302), (302), (302), (302), (185), (204), (231), (302), (302), (302), (302), (231), (231), (282), (302), (302), (302), (302), (302), (302), (255), (302), (302), (302), (302), (302), (302), (302), (302), (155)]) (len := 155) (off := (302)) (tgt := 331) (by decide +kernel) (by rw [s29_28]; decide) (by rw [s29_28]; decide) (by rw [s29_28]; rfl) (by decide) ?_
        exact (l_X6_readValue_28 h0 h1 h2 h3 h4 h5 h6 rd hX hi FU) _ _ _ _ _ h
      by_cases s29_29 : (I 28 6) = (29 : Int32)
      · refine am_tsi hX hi (dflt := (302)) (lo := (6)) (hi' := (40)) (offs := #[(204), (302), (302), (204), (302), (302), (302), (302), (302), (185), (204), (231), (302), (302), (302), (302), (231), (231), (282), (302), (302), (302), (302), (302), (302), (255), (302), (302), (302), (302), (302), (302), (302), (302), (155)]) (len := 155) (off := (302)) (tgt := 331) (by decide +kernel) (by rw [s29_29]; decide) (by rw [s29_29]; decide) (by rw [s29_29]; rfl) (by decide) ?_
        exact (l_X6_readValue_28 h0 h1 h2 h3 h4 h5 h6 rd hX hi FU) _ _ _ _ _ h
      by_cases s29_30 : (I 28 6) = (30 : Int32)
      · refine am_tsi hX hi (dflt := (302)) (lo := (6)) (hi' := (40)) (offs := #[(204), (302), (302), (204), (302), (302), (302), (302), (302), (185), (204), (231), (302), (302), (302), (302), (231), (231), (282), (302), (302), (302), (302), (302), (302), (255), (302), (302), (302), (302), (302), (302), (302), (302), (155)]) (len := 155) (off := (302)) (tgt := 331) (by decide +kernel) (by rw [s29_30]; decide) (by rw [s29_30]; decide) (by rw [s29_30]; rfl) (by decide) ?_
        exact (l_X6_readValue_28 h0 h1 h2 h3 h4 h5 h6 rd hX hi FU) _ _ _ _ _ h
      by_cases s29_32 : (I 28 6) = (32 : Int32)
      · refine am_tsi hX hi (dflt := (302)) (lo := (6)) (hi' := (40)) (offs := #[(204), (302), (302), (204), (302), (302), (302), (302), (302), (185), (204), (231), (302), (302), (302), (302), (231), (231), (282), (302), (302), (302), (302), (302), (302), (255), (302), (302), (302), (302), (302), (302), (302), (302), (155)]) (len := 155) (off := (302)) (tgt := 331) (by decide +kernel) (by rw [s29_32]; decide) (by rw [s29_32]; decide) (by rw [s29_32]; rfl) (by decide) ?_
        exact (l_X6_readValue_28 h0 h1 h2 h3 h4 h5 h6 rd hX hi FU) _ _ _ _ _ h
      by_cases s29_33 : (I 28 6) = (33 : Int32)
      · refine am_tsi hX hi (dflt := (302)) (lo := (6)) (hi' := (40)) (offs := #[(204), (302), (302), (204), (302), (302), (302), (302), (302), (185), (204), (231), (302), (302), (302), (302), (231), (231), (282), (302), (302), (302), (302), (302), (302), (255), (302), (302), (302), (302), (302), (302), (302), (302), (155)]) (len := 155) (off := (302)) (tgt := 331) (by decide +kernel) (by rw [s29_33]; decide) (by rw [s29_33]; decide) (by rw [s29_33]; rfl) (by decide) ?_
        exact (l_X6_readValue_28 h0 h1 h2 h3 h4 h5 h6 rd hX hi FU) _ _ _ _ _ h
      by_cases s29_34 : (I 28 6) = (34 : Int32)
      · refine am_tsi hX hi (dflt := (302)) (lo := (6)) (hi' := (40)) (offs := #[(204), (302), (302), (204), (302), (302), (302), (302), (302), (185), (204), (231), (302), (302), (302), (302), (231), (231), (282), (302), (302), (302), (302), (302), (302), (255), (302), (302), (302), (302), (302), (302), (302), (302), (155)]) (len := 155) (off := (302)) (tgt := 331) (by decide +kernel) (by rw [s29_34]; decide) (by rw [s29_34]; decide) (by rw [s29_34]; rfl) (by decide) ?_
        exact (l_X6_readValue_28 h0 h1 h2 h3 h4 h5 h6 rd hX hi FU) _ _ _ _ _ h
      by_cases s29_35 : (I 28 6) = (35 : Int32)
      · refine am_tsi hX hi (dflt := (302)) (lo := (6)) (hi' := (40)) (offs := #[(204), (302), (302), (204), (302), (302), (302), (302), (302), (185), (204), (231), (302), (302), (302), (302), (231), (231), (282), (302), (302), (302), (302), (302), (302), (255), (302), (302), (302), (302), (302), (302), (302), (302), (155)]) (len := 155) (off := (302)) (tgt := 331) (by decide +kernel) (by rw [s29_35]; decide) (by rw [s29_35]; decide) (by rw [s29_35]; rfl) (by decide) ?_
        exact (l_X6_readValue_28 h0 h1 h2 h3 h4 h5 h6 rd hX hi FU) _ _ _ _ _ h
      by_cases s29_36 : (I 28 6) = (36 : Int32)
      · refine am_tsi hX hi (dflt := (302)) (lo := (6)) (hi' := (40)) (offs := #[(204), (302), (302), (204), (302), (302), (302), (302), (302), (185), (204), (231), (302), (302), (302), (302), (231), (231), (282), (302), (302), (302), (302), (302), (302), (255), (302), (302), (302), (302), (302), (302), (302), (302), (155)]) (len := 155) (off := (302)) (tgt := 331) (by decide +kernel) (by rw [s29_36]; decide) (by rw [s29_36]; decide) (by rw [s29_36]; rfl) (by decide) ?_
        exact (l_X6_readValue_28 h0 h1 h2 h3 h4 h5 h6 rd hX hi FU) _ _ _ _ _ h
      by_cases s29_37 : (I 28 6) = (37 : Int32)
      · refine am_tsi hX hi (dflt := (302)) (lo := (6)) (hi' := (40)) (offs := #[(204), (302), (302), (204), (302), (302), (302), (302), (302), (185), (204), (231), (302), (302), (302), (302), (231), (231), (282), (302), (302), (302), (302), (302), (302), (255), (302), (302), (302), (302), (302), (302), (302), (302), (155)]) (len := 155) (off := (302)) (tgt := 331) (by decide +kernel) (by rw [s29_37]; decide) (by rw [s29_37]; decide) (by rw [s29_37]; rfl) (by decide) ?_
        exact (l_X6_readValue_28 h0 h1 h2 h3 h4 h5 h6 rd hX hi FU) _ _ _ _ _ h
      by_cases s29_38 : (I 28 6) = (38 : Int32)
      · refine am_tsi hX hi (dflt := (302)) (lo := (6)) (hi' := (40)) (offs := #[(204), (302), (302), (204), (302), (302), (302), (302), (302), (185), (204), (231), (302), (302), (302), (302), (231), (231), (282), (302), (302), (302), (302), (302), (302), (255), (302), (302), (302), (302), (302), (302), (302), (302), (155)]) (len := 155) (off := (302)) (tgt := 331) (by decide +kernel) (by rw [s29_38]; decide) (by rw [s29_38]; decide) (by rw [s29_38]; rfl) (by decide) ?_
        exact (l_X6_readValue_28 h0 h1 h2 h3 h4 h5 h6 rd hX hi FU) _ _ _ _ _ h
      by_cases s29_39 : (I 28 6) = (39 : Int32)
      · refine am_tsi hX hi (dflt := (302)) (lo := (6)) (hi' := (40)) (offs := #[(204), (302), (302), (204), (302), (302), (302), (302), (302), (185), (204), (231), (302), (302), (302), (302), (231), (231), (282), (302), (302), (302), (302), (302), (302), (255), (302), (302), (302), (302), (302), (302), (302), (302), (155)]) (len := 155) (off := (302)) (tgt := 331) (by decide +kernel) (by rw [s29_39]; decide) (by rw [s29_39]; decide) (by rw [s29_39]; rfl) (by decide) ?_
        exact (l_X6_readValue_28 h0 h1 h2 h3 h4 h5 h6 rd hX hi FU) _ _ _ _ _ h
      refine am_tso hX hi (dflt := (302)) (lo := (6)) (hi' := (40)) (offs := #[(204), (302), (302), (204), (302), (302), (302), (302), (302), (185), (204), (231), (302), (302), (302), (302), (231), (231), (282), (302), (302), (302), (302), (302), (302), (255), (302), (302), (302), (302), (302), (302), (302), (302), (155)]) (len := 155) (tgt := 331) (by decide +kernel) ?_ (by decide) ?_
      · have eF : ∀ v : Int32, ¬ (I 28 6) = v → ¬ ((I 28 6)).toInt = v.toInt := fun v q z => q ((i_eq _ _).mpr z)
        have e6 := eF (6 : Int32) s29_6
        have e9 := eF (9 : Int32) s29_9
        have e15 := eF (15 : Int32) s29_15
        have e16 := eF (16 : Int32) s29_16
        have e17 := eF (17 : Int32) s29_17
        have e22 := eF (22 : Int32) s29_22
        have e23 := eF (23 : Int32) s29_23
        have e24 := eF (24 : Int32) s29_24
        have e31 := eF (31 : Int32) s29_31
        have e40 := eF (40 : Int32) s29_40
        have e7 := eF (7 : Int32) s29_7
        have e8 := eF (8 : Int32) s29_8
        have e10 := eF (10 : Int32) s29_10
        have e11 := eF (11 : Int32) s29_11
        have e12 := eF (12 : Int32) s29_12
        have e13 := eF (13 : Int32) s29_13
        have e14 := eF (14 : Int32) s29_14
        have e18 := eF (18 : Int32) s29_18
        have e19 := eF (19 : Int32) s29_19
        have e20 := eF (20 : Int32) s29_20
        have e21 := eF (21 : Int32) s29_21
        have e25 := eF (25 : Int32) s29_25
        have e26 := eF (26 : Int32) s29_26
        have e27 := eF (27 : Int32) s29_27
        have e28 := eF (28 : Int32) s29_28
        have e29 := eF (29 : Int32) s29_29
        have e30 := eF (30 : Int32) s29_30
        have e32 := eF (32 : Int32) s29_32
        have e33 := eF (33 : Int32) s29_33
        have e34 := eF (34 : Int32) s29_34
        have e35 := eF (35 : Int32) s29_35
        have e36 := eF (36 : Int32) s29_36
        have e37 := eF (37 : Int32) s29_37
        have e38 := eF (38 : Int32) s29_38
        have e39 := eF (39 : Int32) s29_39
        simp only [show ((6 : Int32) : Int32).toInt = 6 from rfl, show ((9 : Int32) : Int32).toInt = 9 from rfl, show ((15 : Int32) : Int32).toInt = 15 from rfl, show ((16 : Int32) : Int32).toInt = 16 from rfl, show ((17 : Int32) : Int32).toInt = 17 from rfl, show ((22 : Int32) : Int32).toInt = 22 from rfl, show ((23 : Int32) : Int32).toInt = 23 from rfl, show ((24 : Int32) : Int32).toInt = 24 from rfl, show ((31 : Int32) : Int32).toInt = 31 from rfl, show ((40 : Int32) : Int32).toInt = 40 from rfl, show ((7 : Int32) : Int32).toInt = 7 from rfl, show ((8 : Int32) : Int32).toInt = 8 from rfl, show ((10 : Int32) : Int32).toInt = 10 from rfl, show ((11 : Int32) : Int32).toInt = 11 from rfl, show ((12 : Int32) : Int32).toInt = 12 from rfl, show ((13 : Int32) : Int32).toInt = 13 from rfl, show ((14 : Int32) : Int32).toInt = 14 from rfl, show ((18 : Int32) : Int32).toInt = 18 from rfl, show ((19 : Int32) : Int32).toInt = 19 from rfl, show ((20 : Int32) : Int32).toInt = 20 from rfl, show ((21 : Int32) : Int32).toInt = 21 from rfl, show ((25 : Int32) : Int32).toInt = 25 from rfl, show ((26 : Int32) : Int32).toInt = 26 from rfl, show ((27 : Int32) : Int32).toInt = 27 from rfl, show ((28 : Int32) : Int32).toInt = 28 from rfl, show ((29 : Int32) : Int32).toInt = 29 from rfl, show ((30 : Int32) : Int32).toInt = 30 from rfl, show ((32 : Int32) : Int32).toInt = 32 from rfl, show ((33 : Int32) : Int32).toInt = 33 from rfl, show ((34 : Int32) : Int32).toInt = 34 from rfl, show ((35 : Int32) : Int32).toInt = 35 from rfl, show ((36 : Int32) : Int32).toInt = 36 from rfl, show ((37 : Int32) : Int32).toInt = 37 from rfl, show ((38 : Int32) : Int32).toInt = 38 from rfl, show ((39 : Int32) : Int32).toInt = 39 from rfl] at e6 e9 e15 e16 e17 e22 e23 e24 e31 e40 e7 e8 e10 e11 e12 e13 e14 e18 e19 e20 e21 e25 e26 e27 e28 e29 e30 e32 e33 e34 e35 e36 e37 e38 e39
        omega
      exact (l_X6_readValue_28 h0 h1 h2 h3 h4 h5 h6 rd hX hi FU) _ _ _ _ _ h
    · rw [if_pos c14] at h
      refine am_blk 17 [(.iload_n 1, 1, 1, 0, .null), (.bipush (8), 2, 0, 0, .int (8 : Int32))] (20, [(0, .ref 28), (1, .int x1), (2, .int (I 28 6))], [.int (8 : Int32), .int x1], I, G, (gP rd)) (True) hX hi (by decide +kernel) rfl trivial ?_
      refine am_icmp_lt (tgt := 28) hX hi (off := (8)) (by decide +kernel) (by decide) (fun c20 => ?_) (fun c20 => ?_)
      · rw [if_pos c20] at h
        refine am_blk 28 [(.iload_n 2, 1, 2, 0, .null)] (29, [(0, .ref 28), (1, .int x1), (2, .int (I 28 6))], [.int (I 28 6)], I, G, (gP rd)) (True) hX hi (by decide +kernel) rfl trivial ?_
        by_cases s29_6 : (I 28 6) = (6 : Int32)
        · rw [if_pos s29_6] at h
          refine am_tsi hX hi (dflt := (302)) (lo := (6)) (hi' := (40)) (offs := #[(204), (302), (302), (204), (302), (302), (302), (302), (302), (185), (204), (231), (302), (302), (302), (302), (231), (231), (282), (302), (302), (302), (302), (302), (302), (255), (302), (302), (302), (302), (302), (302), (302), (302), (155)]) (len := 155) (off := (204)) (tgt := 233) (by decide +kernel) (by rw [s29_6]; decide) (by rw [s29_6]; decide) (by rw [s29_6]; rfl) (by decide) ?_
          refine am_blk 233 [(.aload_n 0, 1, 0, 0, .null)] (234, [(0, .ref 28), (1, .int x1), (2, .int (I 28 6))], [.ref 28], I, G, (gP rd)) (True) hX hi (by decide +kernel) rfl trivial ?_
          refine am_callV hX hi (M := mX6_advance) (idx := 100) (d' := 2) (b := 28) (ci := 6) (As := []) (rest := []) mkX6_advance miX6_advance mvX6_advance (by decide +kernel) (by decide +kernel) rfl (by decide +kernel) rfl ⟨by omega, by decide, Nat.le_of_ble_eq_true rfl⟩ rfl (c_X6_advance_28 _ I G ) ?_
          rintro rz Iz Gz Pz ⟨e0, e1, e2, e3⟩
          rw [e0, e1, e2, e3]
          show am_V X 0 0 _ _ ad (237, [(0, .ref 28), (1, .int x1), (2, .int (I 28 6))], [], (g_X6_advance_28 I G ), G, (gP rd))
          refine am_blk 237 [(.aload_n 0, 1, 0, 0, .null), (.getfield 12, 3, 6, 1, .null), (.getfield 91, 3, 5, 8, .null), (.iload_n 2, 1, 2, 0, .null), (.aload_n 0, 1, 0, 0, .null), (.aload_n 0, 1, 0, 0, .null), (.iload_n 2, 1, 2, 0, .null)] (248, [(0, .ref 28), (1, .int x1), (2, .int (I 28 6))], [.int (I 28 6), .ref 28, .ref 28, .int (I 28 6), .ref 38], (g_X6_advance_28 I G ), G, (gP rd)) (True) hX hi (by decide +kernel) rfl trivial ?_
          refine am_callV hX hi (M := mX6_namesBehind) (idx := 180) (d' := 1) (b := 28) (ci := 6) (As := [.int (I 28 6)]) (rest := [.ref 28, .int (I 28 6), .ref 38]) mkX6_namesBehind miX6_namesBehind mvX6_namesBehind (by decide +kernel) (by decide +kernel) rfl (by decide +kernel) rfl ⟨by omega, by decide, Nat.le_of_ble_eq_true rfl⟩ rfl ((c_namesBehind _ (g_X6_advance_28 I G ) G (I 28 6)).mono (fun r I9 G9 P9 q => by rw [s29_6] at q; exact q)) ?_
          rintro rz Iz Gz Pz ⟨e0, e1, e2, e3⟩
          rw [e0, e1, e2, e3]
          show am_V X 0 0 _ _ ad (251, [(0, .ref 28), (1, .int x1), (2, .int (I 28 6))], [.ref 47, .ref 28, .int (I 28 6), .ref 38], (g_X6_advance_28 I G ), G, (gP rd))
          obtain ⟨r17, I17, G17, hc, h⟩ := rb_some h
          refine am_callV hX hi (M := mX6_readKnownName) (idx := 150) (d' := 3) (b := 28) (ci := 6) (As := [.ref 47]) (rest := [.int (I 28 6), .ref 38]) mkX6_readKnownName miX6_readKnownName mvX6_readKnownName (by decide +kernel) (by decide +kernel) rfl (by decide +kernel) rfl ⟨by omega, by decide, Nat.le_of_ble_eq_true rfl⟩ rfl (c_X6_readKnownName_28_47 _ (g_X6_advance_28 I G ) G  hc) ?_
          rintro rz Iz Gz Pz ⟨e0, e1, e2, e3⟩
          rw [e0, e1, e2, e3]
          show am_V X 0 0 _ _ ad (254, [(0, .ref 28), (1, .int x1), (2, .int (I 28 6))], [.int r17, .int (I 28 6), .ref 38], I17, G17, (gP rd))
          refine am_callV hX hi (M := mX3_add) (idx := 161) (d' := 2) (b := 38) (ci := 3) (As := [.int (I 28 6), .int r17]) (rest := []) mkX3_add miX3_add mvX3_add (by decide +kernel) (by decide +kernel) rfl (by decide +kernel) rfl ⟨by omega, by decide, Nat.le_of_ble_eq_true rfl⟩ rfl (c_X3_add_38 _ I17 G17 (I 28 6) r17) ?_
          rintro rz Iz Gz Pz ⟨e0, e1, e2, e3⟩
          rw [e0, e1, e2, e3]
          show am_V X 0 0 _ _ ad (257, [(0, .ref 28), (1, .int x1), (2, .int (I 28 6))], [], (g_X3_add_38 I17 G17 (I 28 6) r17), G17, (gP rd))
          refine am_blk 257 [(.goto (78), 3, 0, 335, .null)] (335, [(0, .ref 28), (1, .int x1), (2, .int (I 28 6))], [], (g_X3_add_38 I17 G17 (I 28 6) r17), G17, (gP rd)) (True) hX hi (by decide +kernel) rfl trivial ?_
          cases h
          refine am_vret hX hi rfl (by decide +kernel) ?_
          exact ⟨rfl, rfl, rfl, rfl⟩
        rw [if_neg s29_6] at h
        by_cases s29_9 : (I 28 6) = (9 : Int32)
        · rw [if_pos s29_9] at h
          refine am_tsi hX hi (dflt := (302)) (lo := (6)) (hi' := (40)) (offs := #[(204), (302), (302), (204), (302), (302), (302), (302), (302), (185), (204), (231), (302), (302), (302), (302), (231), (231), (282), (302), (302), (302), (302), (302), (302), (255), (302), (302), (302), (302), (302), (302), (302), (302), (155)]) (len := 155) (off := (204)) (tgt := 233) (by decide +kernel) (by rw [s29_9]; decide) (by rw [s29_9]; decide) (by rw [s29_9]; rfl) (by decide) ?_
          refine am_blk 233 [(.aload_n 0, 1, 0, 0, .null)] (234, [(0, .ref 28), (1, .int x1), (2, .int (I 28 6))], [.ref 28], I, G, (gP rd)) (True) hX hi (by decide +kernel) rfl trivial ?_
          refine am_callV hX hi (M := mX6_advance) (idx := 100) (d' := 2) (b := 28) (ci := 6) (As := []) (rest := []) mkX6_advance miX6_advance mvX6_advance (by decide +kernel) (by decide +kernel) rfl (by decide +kernel) rfl ⟨by omega, by decide, Nat.le_of_ble_eq_true rfl⟩ rfl (c_X6_advance_28 _ I G ) ?_
          rintro rz Iz Gz Pz ⟨e0, e1, e2, e3⟩
          rw [e0, e1, e2, e3]
          show am_V X 0 0 _ _ ad (237, [(0, .ref 28), (1, .int x1), (2, .int (I 28 6))], [], (g_X6_advance_28 I G ), G, (gP rd))
          refine am_blk 237 [(.aload_n 0, 1, 0, 0, .null), (.getfield 12, 3, 6, 1, .null), (.getfield 91, 3, 5, 8, .null), (.iload_n 2, 1, 2, 0, .null), (.aload_n 0, 1, 0, 0, .null), (.aload_n 0, 1, 0, 0, .null), (.iload_n 2, 1, 2, 0, .null)] (248, [(0, .ref 28), (1, .int x1), (2, .int (I 28 6))], [.int (I 28 6), .ref 28, .ref 28, .int (I 28 6), .ref 38], (g_X6_advance_28 I G ), G, (gP rd)) (True) hX hi (by decide +kernel) rfl trivial ?_
          refine am_callV hX hi (M := mX6_namesBehind) (idx := 180) (d' := 1) (b := 28) (ci := 6) (As := [.int (I 28 6)]) (rest := [.ref 28, .int (I 28 6), .ref 38]) mkX6_namesBehind miX6_namesBehind mvX6_namesBehind (by decide +kernel) (by decide +kernel) rfl (by decide +kernel) rfl ⟨by omega, by decide, Nat.le_of_ble_eq_true rfl⟩ rfl ((c_namesBehind _ (g_X6_advance_28 I G ) G (I 28 6)).mono (fun r I9 G9 P9 q => by rw [s29_9] at q; exact q)) ?_
          rintro rz Iz Gz Pz ⟨e0, e1, e2, e3⟩
          rw [e0, e1, e2, e3]
          show am_V X 0 0 _ _ ad (251, [(0, .ref 28), (1, .int x1), (2, .int (I 28 6))], [.ref 49, .ref 28, .int (I 28 6), .ref 38], (g_X6_advance_28 I G ), G, (gP rd))
          obtain ⟨r18, I18, G18, hc, h⟩ := rb_some h
          refine am_callV hX hi (M := mX6_readKnownName) (idx := 150) (d' := 3) (b := 28) (ci := 6) (As := [.ref 49]) (rest := [.int (I 28 6), .ref 38]) mkX6_readKnownName miX6_readKnownName mvX6_readKnownName (by decide +kernel) (by decide +kernel) rfl (by decide +kernel) rfl ⟨by omega, by decide, Nat.le_of_ble_eq_true rfl⟩ rfl (c_X6_readKnownName_28_49 _ (g_X6_advance_28 I G ) G  hc) ?_
          rintro rz Iz Gz Pz ⟨e0, e1, e2, e3⟩
          rw [e0, e1, e2, e3]
          show am_V X 0 0 _ _ ad (254, [(0, .ref 28), (1, .int x1), (2, .int (I 28 6))], [.int r18, .int (I 28 6), .ref 38], I18, G18, (gP rd))
          refine am_callV hX hi (M := mX3_add) (idx := 161) (d' := 2) (b := 38) (ci := 3) (As := [.int (I 28 6), .int r18]) (rest := []) mkX3_add miX3_add mvX3_add (by decide +kernel) (by decide +kernel) rfl (by decide +kernel) rfl ⟨by omega, by decide, Nat.le_of_ble_eq_true rfl⟩ rfl (c_X3_add_38 _ I18 G18 (I 28 6) r18) ?_
          rintro rz Iz Gz Pz ⟨e0, e1, e2, e3⟩
          rw [e0, e1, e2, e3]
          show am_V X 0 0 _ _ ad (257, [(0, .ref 28), (1, .int x1), (2, .int (I 28 6))], [], (g_X3_add_38 I18 G18 (I 28 6) r18), G18, (gP rd))
          refine am_blk 257 [(.goto (78), 3, 0, 335, .null)] (335, [(0, .ref 28), (1, .int x1), (2, .int (I 28 6))], [], (g_X3_add_38 I18 G18 (I 28 6) r18), G18, (gP rd)) (True) hX hi (by decide +kernel) rfl trivial ?_
          cases h
          refine am_vret hX hi rfl (by decide +kernel) ?_
          exact ⟨rfl, rfl, rfl, rfl⟩
        rw [if_neg s29_9] at h
        by_cases s29_15 : (I 28 6) = (15 : Int32)
        · rw [if_pos s29_15] at h
          refine am_tsi hX hi (dflt := (302)) (lo := (6)) (hi' := (40)) (offs := #[(204), (302), (302), (204), (302), (302), (302), (302), (302), (185), (204), (231), (302), (302), (302), (302), (231), (231), (282), (302), (302), (302), (302), (302), (302), (255), (302), (302), (302), (302), (302), (302), (302), (302), (155)]) (len := 155) (off := (185)) (tgt := 214) (by decide +kernel) (by rw [s29_15]; decide) (by rw [s29_15]; decide) (by rw [s29_15]; rfl) (by decide) ?_
          refine am_blk 214 [(.aload_n 0, 1, 0, 0, .null)] (215, [(0, .ref 28), (1, .int x1), (2, .int (I 28 6))], [.ref 28], I, G, (gP rd)) (True) hX hi (by decide +kernel) rfl trivial ?_
          refine am_callV hX hi (M := mX6_advance) (idx := 100) (d' := 2) (b := 28) (ci := 6) (As := []) (rest := []) mkX6_advance miX6_advance mvX6_advance (by decide +kernel) (by decide +kernel) rfl (by decide +kernel) rfl ⟨by omega, by decide, Nat.le_of_ble_eq_true rfl⟩ rfl (c_X6_advance_28 _ I G ) ?_
          rintro rz Iz Gz Pz ⟨e0, e1, e2, e3⟩
          rw [e0, e1, e2, e3]
          show am_V X 0 0 _ _ ad (218, [(0, .ref 28), (1, .int x1), (2, .int (I 28 6))], [], (g_X6_advance_28 I G ), G, (gP rd))
          refine am_blk 218 [(.aload_n 0, 1, 0, 0, .null), (.getfield 12, 3, 6, 1, .null), (.getfield 91, 3, 5, 8, .null), (.iload_n 2, 1, 2, 0, .null), (.iconst (0), 1, 0, 0, .int (0 : Int32))] (227, [(0, .ref 28), (1, .int x1), (2, .int (I 28 6))], [.int (0 : Int32), .int (I 28 6), .ref 38], (g_X6_advance_28 I G ), G, (gP rd)) (True) hX hi (by decide +kernel) rfl trivial ?_
          refine am_callV hX hi (M := mX3_add) (idx := 161) (d' := 2) (b := 38) (ci := 3) (As := [.int (I 28 6), .int (0 : Int32)]) (rest := []) mkX3_add miX3_add mvX3_add (by decide +kernel) (by decide +kernel) rfl (by decide +kernel) rfl ⟨by omega, by decide, Nat.le_of_ble_eq_true rfl⟩ rfl (c_X3_add_38 _ (g_X6_advance_28 I G ) G (I 28 6) (0 : Int32)) ?_
          rintro rz Iz Gz Pz ⟨e0, e1, e2, e3⟩
          rw [e0, e1, e2, e3]
          show am_V X 0 0 _ _ ad (230, [(0, .ref 28), (1, .int x1), (2, .int (I 28 6))], [], (g_X3_add_38 (g_X6_advance_28 I G ) G (I 28 6) (0 : Int32)), G, (gP rd))
          refine am_blk 230 [(.goto (105), 3, 0, 335, .null)] (335, [(0, .ref 28), (1, .int x1), (2, .int (I 28 6))], [], (g_X3_add_38 (g_X6_advance_28 I G ) G (I 28 6) (0 : Int32)), G, (gP rd)) (True) hX hi (by decide +kernel) rfl trivial ?_
          cases h
          refine am_vret hX hi rfl (by decide +kernel) ?_
          exact ⟨rfl, rfl, rfl, rfl⟩
        rw [if_neg s29_15] at h
        by_cases s29_16 : (I 28 6) = (16 : Int32)
        · rw [if_pos s29_16] at h
          refine am_tsi hX hi (dflt := (302)) (lo := (6)) (hi' := (40)) (offs := #[(204), (302), (302), (204), (302), (302), (302), (302), (302), (185), (204), (231), (302), (302), (302), (302), (231), (231), (282), (302), (302), (302), (302), (302), (302), (255), (302), (302), (302), (302), (302), (302), (302), (302), (155)]) (len := 155) (off := (204)) (tgt := 233) (by decide +kernel) (by rw [s29_16]; decide) (by rw [s29_16]; decide) (by rw [s29_16]; rfl) (by decide) ?_
          refine am_blk 233 [(.aload_n 0, 1, 0, 0, .null)] (234, [(0, .ref 28), (1, .int x1), (2, .int (I 28 6))], [.ref 28], I, G, (gP rd)) (True) hX hi (by decide +kernel) rfl trivial ?_
          refine am_callV hX hi (M := mX6_advance) (idx := 100) (d' := 2) (b := 28) (ci := 6) (As := []) (rest := []) mkX6_advance miX6_advance mvX6_advance (by decide +kernel) (by decide +kernel) rfl (by decide +kernel) rfl ⟨by omega, by decide, Nat.le_of_ble_eq_true rfl⟩ rfl (c_X6_advance_28 _ I G ) ?_
          rintro rz Iz Gz Pz ⟨e0, e1, e2, e3⟩
          rw [e0, e1, e2, e3]
          show am_V X 0 0 _ _ ad (237, [(0, .ref 28), (1, .int x1), (2, .int (I 28 6))], [], (g_X6_advance_28 I G ), G, (gP rd))
          refine am_blk 237 [(.aload_n 0, 1, 0, 0, .null), (.getfield 12, 3, 6, 1, .null), (.getfield 91, 3, 5, 8, .null), (.iload_n 2, 1, 2, 0, .null), (.aload_n 0, 1, 0, 0, .null), (.aload_n 0, 1, 0, 0, .null), (.iload_n 2, 1, 2, 0, .null)] (248, [(0, .ref 28), (1, .int x1), (2, .int (I 28 6))], [.int (I 28 6), .ref 28, .ref 28, .int (I 28 6), .ref 38], (g_X6_advance_28 I G ), G, (gP rd)) (True) hX hi (by decide +kernel) rfl trivial ?_
          refine am_callV hX hi (M := mX6_namesBehind) (idx := 180) (d' := 1) (b := 28) (ci := 6) (As := [.int (I 28 6)]) (rest := [.ref 28, .int (I 28 6), .ref 38]) mkX6_namesBehind miX6_namesBehind mvX6_namesBehind (by decide +kernel) (by decide +kernel) rfl (by decide +kernel) rfl ⟨by omega, by decide, Nat.le_of_ble_eq_true rfl⟩ rfl ((c_namesBehind _ (g_X6_advance_28 I G ) G (I 28 6)).mono (fun r I9 G9 P9 q => by rw [s29_16] at q; exact q)) ?_
          rintro rz Iz Gz Pz ⟨e0, e1, e2, e3⟩
          rw [e0, e1, e2, e3]
          show am_V X 0 0 _ _ ad (251, [(0, .ref 28), (1, .int x1), (2, .int (I 28 6))], [.ref 51, .ref 28, .int (I 28 6), .ref 38], (g_X6_advance_28 I G ), G, (gP rd))
          obtain ⟨r19, I19, G19, hc, h⟩ := rb_some h
          refine am_callV hX hi (M := mX6_readKnownName) (idx := 150) (d' := 3) (b := 28) (ci := 6) (As := [.ref 51]) (rest := [.int (I 28 6), .ref 38]) mkX6_readKnownName miX6_readKnownName mvX6_readKnownName (by decide +kernel) (by decide +kernel) rfl (by decide +kernel) rfl ⟨by omega, by decide, Nat.le_of_ble_eq_true rfl⟩ rfl (c_X6_readKnownName_28_51 _ (g_X6_advance_28 I G ) G  hc) ?_
          rintro rz Iz Gz Pz ⟨e0, e1, e2, e3⟩
          rw [e0, e1, e2, e3]
          show am_V X 0 0 _ _ ad (254, [(0, .ref 28), (1, .int x1), (2, .int (I 28 6))], [.int r19, .int (I 28 6), .ref 38], I19, G19, (gP rd))
          refine am_callV hX hi (M := mX3_add) (idx := 161) (d' := 2) (b := 38) (ci := 3) (As := [.int (I 28 6), .int r19]) (rest := []) mkX3_add miX3_add mvX3_add (by decide +kernel) (by decide +kernel) rfl (by decide +kernel) rfl ⟨by omega, by decide, Nat.le_of_ble_eq_true rfl⟩ rfl (c_X3_add_38 _ I19 G19 (I 28 6) r19) ?_
          rintro rz Iz Gz Pz ⟨e0, e1, e2, e3⟩
          rw [e0, e1, e2, e3]
          show am_V X 0 0 _ _ ad (257, [(0, .ref 28), (1, .int x1), (2, .int (I 28 6))], [], (g_X3_add_38 I19 G19 (I 28 6) r19), G19, (gP rd))
          refine am_blk 257 [(.goto (78), 3, 0, 335, .null)] (335, [(0, .ref 28), (1, .int x1), (2, .int (I 28 6))], [], (g_X3_add_38 I19 G19 (I 28 6) r19), G19, (gP rd)) (True) hX hi (by decide +kernel) rfl trivial ?_
          cases h
          refine am_vret hX hi rfl (by decide +kernel) ?_
          exact ⟨rfl, rfl, rfl, rfl⟩
        rw [if_neg s29_16] at h
        by_cases s29_17 : (I 28 6) = (17 : Int32)
        · rw [if_pos s29_17] at h
          refine am_tsi hX hi (dflt := (302)) (lo := (6)) (hi' := (40)) (offs := #[(204), (302), (302), (204), (302), (302), (302), (302), (302), (185), (204), (231), (302), (302), (302), (302), (231), (231), (282), (302), (302), (302), (302), (302), (302), (255), (302), (302), (302), (302), (302), (302), (302), (302), (155)]) (len := 155) (off := (231)) (tgt := 260) (by decide +kernel) (by rw [s29_17]; decide) (by rw [s29_17]; decide) (by rw [s29_17]; rfl) (by decide) ?_
          refine am_blk 260 [(.aload_n 0, 1, 0, 0, .null)] (261, [(0, .ref 28), (1, .int x1), (2, .int (I 28 6))], [.ref 28], I, G, (gP rd)) (True) hX hi (by decide +kernel) rfl trivial ?_
          refine am_callV hX hi (M := mX6_advance) (idx := 100) (d' := 2) (b := 28) (ci := 6) (As := []) (rest := []) mkX6_advance miX6_advance mvX6_advance (by decide +kernel) (by decide +kernel) rfl (by decide +kernel) rfl ⟨by omega, by decide, Nat.le_of_ble_eq_true rfl⟩ rfl (c_X6_advance_28 _ I G ) ?_
          rintro rz Iz Gz Pz ⟨e0, e1, e2, e3⟩
          rw [e0, e1, e2, e3]
          show am_V X 0 0 _ _ ad (264, [(0, .ref 28), (1, .int x1), (2, .int (I 28 6))], [], (g_X6_advance_28 I G ), G, (gP rd))
          refine am_blk 264 [(.aload_n 0, 1, 0, 0, .null), (.iload_n 1, 1, 1, 0, .null)] (266, [(0, .ref 28), (1, .int x1), (2, .int (I 28 6))], [.int x1, .ref 28], (g_X6_advance_28 I G ), G, (gP rd)) (True) hX hi (by decide +kernel) rfl trivial ?_
          obtain ⟨r20, I20, G20, hc, h⟩ := rb_some h
          refine am_callV hX hi (M := mX6_readPair) (idx := 184) (d' := (8 + n9)) (b := 28) (ci := 6) (As := [.int x1]) (rest := []) mkX6_readPair miX6_readPair mvX6_readPair (by decide +kernel) (by decide +kernel) rfl (by decide +kernel) rfl ⟨by omega, by decide, Nat.le_of_ble_eq_true rfl⟩ rfl (h6 _ (g_X6_advance_28 I G ) G x1 _ hc) ?_
          rintro rz Iz Gz Pz ⟨e0, e1, e2, e3⟩
          rw [e0, e1, e2, e3]
          show am_V X 0 0 _ _ ad (269, [(0, .ref 28), (1, .int x1), (2, .int (I 28 6))], [], I20, G20, (gP rd))
          refine am_blk 269 [(.aload_n 0, 1, 0, 0, .null), (.getfield 12, 3, 6, 1, .null), (.getfield 91, 3, 5, 8, .null), (.iload_n 2, 1, 2, 0, .null), (.iconst (0), 1, 0, 0, .int (0 : Int32))] (278, [(0, .ref 28), (1, .int x1), (2, .int (I 28 6))], [.int (0 : Int32), .int (I 28 6), .ref 38], I20, G20, (gP rd)) (True) hX hi (by decide +kernel) rfl trivial ?_
          refine am_callV hX hi (M := mX3_add) (idx := 161) (d' := 2) (b := 38) (ci := 3) (As := [.int (I 28 6), .int (0 : Int32)]) (rest := []) mkX3_add miX3_add mvX3_add (by decide +kernel) (by decide +kernel) rfl (by decide +kernel) rfl ⟨by omega, by decide, Nat.le_of_ble_eq_true rfl⟩ rfl (c_X3_add_38 _ I20 G20 (I 28 6) (0 : Int32)) ?_
          rintro rz Iz Gz Pz ⟨e0, e1, e2, e3⟩
          rw [e0, e1, e2, e3]
          show am_V X 0 0 _ _ ad (281, [(0, .ref 28), (1, .int x1), (2, .int (I 28 6))], [], (g_X3_add_38 I20 G20 (I 28 6) (0 : Int32)), G20, (gP rd))
          refine am_blk 281 [(.goto (54), 3, 0, 335, .null)] (335, [(0, .ref 28), (1, .int x1), (2, .int (I 28 6))], [], (g_X3_add_38 I20 G20 (I 28 6) (0 : Int32)), G20, (gP rd)) (True) hX hi (by decide +kernel) rfl trivial ?_
          cases h
          refine am_vret hX hi rfl (by decide +kernel) ?_
          exact ⟨rfl, rfl, rfl, rfl⟩
        rw [if_neg s29_17] at h
        by_cases s29_22 : (I 28 6) = (22 : Int32)
        · rw [if_pos s29_22] at h
          refine am_tsi hX hi (dflt := (302)) (lo := (6)) (hi' := (40)) (offs := #[(204), (302), (302), (204), (302), (302), (302), (302), (302), (185), (204), (231), (302), (302), (302), (302), (231), (231), (282), (302), (302), (302), (302), (302), (302), (255), (302), (302), (302), (302), (302), (302), (302), (302), (155)]) (len := 155) (off := (231)) (tgt := 260) (by decide +kernel) (by rw [s29_22]; decide) (by rw [s29_22]; decide) (by rw [s29_22]; rfl) (by decide) ?_
          refine am_blk 260 [(.aload_n 0, 1, 0, 0, .null)] (261, [(0, .ref 28), (1, .int x1), (2, .int (I 28 6))], [.ref 28], I, G, (gP rd)) (True) hX hi (by decide +kernel) rfl trivial ?_
          refine am_callV hX hi (M := mX6_advance) (idx := 100) (d' := 2) (b := 28) (ci := 6) (As := []) (rest := []) mkX6_advance miX6_advance mvX6_advance (by decide +kernel) (by decide +kernel) rfl (by decide +kernel) rfl ⟨by omega, by decide, Nat.le_of_ble_eq_true rfl⟩ rfl (c_X6_advance_28 _ I G ) ?_
          rintro rz Iz Gz Pz ⟨e0, e1, e2, e3⟩
          rw [e0, e1, e2, e3]
          show am_V X 0 0 _ _ ad (264, [(0, .ref 28), (1, .int x1), (2, .int (I 28 6))], [], (g_X6_advance_28 I G ), G, (gP rd))
          refine am_blk 264 [(.aload_n 0, 1, 0, 0, .null), (.iload_n 1, 1, 1, 0, .null)] (266, [(0, .ref 28), (1, .int x1), (2, .int (I 28 6))], [.int x1, .ref 28], (g_X6_advance_28 I G ), G, (gP rd)) (True) hX hi (by decide +kernel) rfl trivial ?_
          obtain ⟨r21, I21, G21, hc, h⟩ := rb_some h
          refine am_callV hX hi (M := mX6_readPair) (idx := 184) (d' := (8 + n9)) (b := 28) (ci := 6) (As := [.int x1]) (rest := []) mkX6_readPair miX6_readPair mvX6_readPair (by decide +kernel) (by decide +kernel) rfl (by decide +kernel) rfl ⟨by omega, by decide, Nat.le_of_ble_eq_true rfl⟩ rfl (h6 _ (g_X6_advance_28 I G ) G x1 _ hc) ?_
          rintro rz Iz Gz Pz ⟨e0, e1, e2, e3⟩
          rw [e0, e1, e2, e3]
          show am_V X 0 0 _ _ ad (269, [(0, .ref 28), (1, .int x1), (2, .int (I 28 6))], [], I21, G21, (gP rd))
          refine am_blk 269 [(.aload_n 0, 1, 0, 0, .null), (.getfield 12, 3, 6, 1, .null), (.getfield 91, 3, 5, 8, .null), (.iload_n 2, 1, 2, 0, .null), (.iconst (0), 1, 0, 0, .int (0 : Int32))] (278, [(0, .ref 28), (1, .int x1), (2, .int (I 28 6))], [.int (0 : Int32), .int (I 28 6), .ref 38], I21, G21, (gP rd)) (True) hX hi (by decide +kernel) rfl trivial ?_
          refine am_callV hX hi (M := mX3_add) (idx := 161) (d' := 2) (b := 38) (ci := 3) (As := [.int (I 28 6), .int (0 : Int32)]) (rest := []) mkX3_add miX3_add mvX3_add (by decide +kernel) (by decide +kernel) rfl (by decide +kernel) rfl ⟨by omega, by decide, Nat.le_of_ble_eq_true rfl⟩ rfl (c_X3_add_38 _ I21 G21 (I 28 6) (0 : Int32)) ?_
          rintro rz Iz Gz Pz ⟨e0, e1, e2, e3⟩
          rw [e0, e1, e2, e3]
          show am_V X 0 0 _ _ ad (281, [(0, .ref 28), (1, .int x1), (2, .int (I 28 6))], [], (g_X3_add_38 I21 G21 (I 28 6) (0 : Int32)), G21, (gP rd))
          refine am_blk 281 [(.goto (54), 3, 0, 335, .null)] (335, [(0, .ref 28), (1, .int x1), (2, .int (I 28 6))], [], (g_X3_add_38 I21 G21 (I 28 6) (0 : Int32)), G21, (gP rd)) (True) hX hi (by decide +kernel) rfl trivial ?_
          cases h
          refine am_vret hX hi rfl (by decide +kernel) ?_
          exact ⟨rfl, rfl, rfl, rfl⟩
        rw [if_neg s29_22] at h
        by_cases s29_23 : (I 28 6) = (23 : Int32)
        · rw [if_pos s29_23] at h
          refine am_tsi hX hi (dflt := (302)) (lo := (6)) (hi' := (40)) (offs := #[(204), (302), (302), (204), (302), (302), (302), (302), (302), (185), (204), (231), (302), (302), (302), (302), (231), (231), (282), (302), (302), (302), (302), (302), (302), (255), (302), (302), (302), (302), (302), (302), (302), (302), (155)]) (len := 155) (off := (231)) (tgt := 260) (by decide +kernel) (by rw [s29_23]; decide) (by rw [s29_23]; decide) (by rw [s29_23]; rfl) (by decide) ?_
          refine am_blk 260 [(.aload_n 0, 1, 0, 0, .null)] (261, [(0, .ref 28), (1, .int x1), (2, .int (I 28 6))], [.ref 28], I, G, (gP rd)) (True) hX hi (by decide +kernel) rfl trivial ?_
          refine am_callV hX hi (M := mX6_advance) (idx := 100) (d' := 2) (b := 28) (ci := 6) (As := []) (rest := []) mkX6_advance miX6_advance mvX6_advance (by decide +kernel) (by decide +kernel) rfl (by decide +kernel) rfl ⟨by omega, by decide, Nat.le_of_ble_eq_true rfl⟩ rfl (c_X6_advance_28 _ I G ) ?_
          rintro rz Iz Gz Pz ⟨e0, e1, e2, e3⟩
          rw [e0, e1, e2, e3]
          show am_V X 0 0 _ _ ad (264, [(0, .ref 28), (1, .int x1), (2, .int (I 28 6))], [], (g_X6_advance_28 I G ), G, (gP rd))
          refine am_blk 264 [(.aload_n 0, 1, 0, 0, .null), (.iload_n 1, 1, 1, 0, .null)] (266, [(0, .ref 28), (1, .int x1), (2, .int (I 28 6))], [.int x1, .ref 28], (g_X6_advance_28 I G ), G, (gP rd)) (True) hX hi (by decide +kernel) rfl trivial ?_
          obtain ⟨r22, I22, G22, hc, h⟩ := rb_some h
          refine am_callV hX hi (M := mX6_readPair) (idx := 184) (d' := (8 + n9)) (b := 28) (ci := 6) (As := [.int x1]) (rest := []) mkX6_readPair miX6_readPair mvX6_readPair (by decide +kernel) (by decide +kernel) rfl (by decide +kernel) rfl ⟨by omega, by decide, Nat.le_of_ble_eq_true rfl⟩ rfl (h6 _ (g_X6_advance_28 I G ) G x1 _ hc) ?_
          rintro rz Iz Gz Pz ⟨e0, e1, e2, e3⟩
          rw [e0, e1, e2, e3]
          show am_V X 0 0 _ _ ad (269, [(0, .ref 28), (1, .int x1), (2, .int (I 28 6))], [], I22, G22, (gP rd))
          refine am_blk 269 [(.aload_n 0, 1, 0, 0, .null), (.getfield 12, 3, 6, 1, .null), (.getfield 91, 3, 5, 8, .null), (.iload_n 2, 1, 2, 0, .null), (.iconst (0), 1, 0, 0, .int (0 : Int32))] (278, [(0, .ref 28), (1, .int x1), (2, .int (I 28 6))], [.int (0 : Int32), .int (I 28 6), .ref 38], I22, G22, (gP rd)) (True) hX hi (by decide +kernel) rfl trivial ?_
          refine am_callV hX hi (M := mX3_add) (idx := 161) (d' := 2) (b := 38) (ci := 3) (As := [.int (I 28 6), .int (0 : Int32)]) (rest := []) mkX3_add miX3_add mvX3_add (by decide +kernel) (by decide +kernel) rfl (by decide +kernel) rfl ⟨by omega, by decide, Nat.le_of_ble_eq_true rfl⟩ rfl (c_X3_add_38 _ I22 G22 (I 28 6) (0 : Int32)) ?_
          rintro rz Iz Gz Pz ⟨e0, e1, e2, e3⟩
          rw [e0, e1, e2, e3]
          show am_V X 0 0 _ _ ad (281, [(0, .ref 28), (1, .int x1), (2, .int (I 28 6))], [], (g_X3_add_38 I22 G22 (I 28 6) (0 : Int32)), G22, (gP rd))
          refine am_blk 281 [(.goto (54), 3, 0, 335, .null)] (335, [(0, .ref 28), (1, .int x1), (2, .int (I 28 6))], [], (g_X3_add_38 I22 G22 (I 28 6) (0 : Int32)), G22, (gP rd)) (True) hX hi (by decide +kernel) rfl trivial ?_
          cases h
          refine am_vret hX hi rfl (by decide +kernel) ?_
          exact ⟨rfl, rfl, rfl, rfl⟩
        rw [if_neg s29_23] at h
        by_cases s29_24 : (I 28 6) = (24 : Int32)
        · rw [if_pos s29_24] at h
          refine am_tsi hX hi (dflt := (302)) (lo := (6)) (hi' := (40)) (offs := #[(204), (302), (302), (204), (302), (302), (302), (302), (302), (185), (204), (231), (302), (302), (302), (302), (231), (231), (282), (302), (302), (302), (302), (302), (302), (255), (302), (302), (302), (302), (302), (302), (302), (302), (155)]) (len := 155) (off := (282)) (tgt := 311) (by decide +kernel) (by rw [s29_24]; decide) (by rw [s29_24]; decide) (by rw [s29_24]; rfl) (by decide) ?_
          refine am_blk 311 [(.aload_n 0, 1, 0, 0, .null)] (312, [(0, .ref 28), (1, .int x1), (2, .int (I 28 6))], [.ref 28], I, G, (gP rd)) (True) hX hi (by decide +kernel) rfl trivial ?_
          refine am_callV hX hi (M := mX6_advance) (idx := 100) (d' := 2) (b := 28) (ci := 6) (As := []) (rest := []) mkX6_advance miX6_advance mvX6_advance (by decide +kernel) (by decide +kernel) rfl (by decide +kernel) rfl ⟨by omega, by decide, Nat.le_of_ble_eq_true rfl⟩ rfl (c_X6_advance_28 _ I G ) ?_
          rintro rz Iz Gz Pz ⟨e0, e1, e2, e3⟩
          rw [e0, e1, e2, e3]
          show am_V X 0 0 _ _ ad (315, [(0, .ref 28), (1, .int x1), (2, .int (I 28 6))], [], (g_X6_advance_28 I G ), G, (gP rd))
          refine am_blk 315 [(.aload_n 0, 1, 0, 0, .null), (.iload_n 1, 1, 1, 0, .null), (.iconst (1), 1, 0, 0, .int (1 : Int32)), (.iadd, 1, 0, 0, .null)] (319, [(0, .ref 28), (1, .int x1), (2, .int (I 28 6))], [.int (x1 + (1 : Int32)), .ref 28], (g_X6_advance_28 I G ), G, (gP rd)) (True) hX hi (by decide +kernel) rfl trivial ?_
          obtain ⟨r23, I23, G23, hc, h⟩ := rb_some h
          refine am_callV hX hi (M := mX6_readSum) (idx := 88) (d' := (8 + n9)) (b := 28) (ci := 6) (As := [.int (x1 + (1 : Int32))]) (rest := []) mkX6_readSum miX6_readSum mvX6_readSum (by decide +kernel) (by decide +kernel) rfl (by decide +kernel) rfl ⟨by omega, by decide, Nat.le_of_ble_eq_true rfl⟩ rfl (h3 _ (g_X6_advance_28 I G ) G (x1 + (1 : Int32)) _ hc) ?_
          rintro rz Iz Gz Pz ⟨e0, e1, e2, e3⟩
          rw [e0, e1, e2, e3]
          show am_V X 0 0 _ _ ad (322, [(0, .ref 28), (1, .int x1), (2, .int (I 28 6))], [], I23, G23, (gP rd))
          refine am_blk 322 [(.aload_n 0, 1, 0, 0, .null), (.bipush (25), 2, 0, 0, .int (25 : Int32))] (325, [(0, .ref 28), (1, .int x1), (2, .int (I 28 6))], [.int (25 : Int32), .ref 28], I23, G23, (gP rd)) (True) hX hi (by decide +kernel) rfl trivial ?_
          refine am_callV hX hi (M := mX6_expect) (idx := 109) (d' := 3) (b := 28) (ci := 6) (As := [.int (25 : Int32)]) (rest := []) mkX6_expect miX6_expect mvX6_expect (by decide +kernel) (by decide +kernel) rfl (by decide +kernel) rfl ⟨by omega, by decide, Nat.le_of_ble_eq_true rfl⟩ rfl (c_X6_expect_28 _ I23 G23 (25 : Int32)) ?_
          rintro rz Iz Gz Pz ⟨e0, e1, e2, e3⟩
          rw [e0, e1, e2, e3]
          show am_V X 0 0 _ _ ad (328, [(0, .ref 28), (1, .int x1), (2, .int (I 28 6))], [], (g_X6_expect_28 I23 G23 (25 : Int32)), G23, (gP rd))
          refine am_blk 328 [(.goto (7), 3, 0, 335, .null)] (335, [(0, .ref 28), (1, .int x1), (2, .int (I 28 6))], [], (g_X6_expect_28 I23 G23 (25 : Int32)), G23, (gP rd)) (True) hX hi (by decide +kernel) rfl trivial ?_
          cases h
          refine am_vret hX hi rfl (by decide +kernel) ?_
          exact ⟨rfl, rfl, rfl, rfl⟩
        rw [if_neg s29_24] at h
        by_cases s29_31 : (I 28 6) = (31 : Int32)
        · rw [if_pos s29_31] at h
          refine am_tsi hX hi (dflt := (302)) (lo := (6)) (hi' := (40)) (offs := #[(204), (302), (302), (204), (302), (302), (302), (302), (302), (185), (204), (231), (302), (302), (302), (302), (231), (231), (282), (302), (302), (302), (302), (302), (302), (255), (302), (302), (302), (302), (302), (302), (302), (302), (155)]) (len := 155) (off := (255)) (tgt := 284) (by decide +kernel) (by rw [s29_31]; decide) (by rw [s29_31]; decide) (by rw [s29_31]; rfl) (by decide) ?_
          refine am_blk 284 [(.aload_n 0, 1, 0, 0, .null)] (285, [(0, .ref 28), (1, .int x1), (2, .int (I 28 6))], [.ref 28], I, G, (gP rd)) (True) hX hi (by decide +kernel) rfl trivial ?_
          refine am_callV hX hi (M := mX6_advance) (idx := 100) (d' := 2) (b := 28) (ci := 6) (As := []) (rest := []) mkX6_advance miX6_advance mvX6_advance (by decide +kernel) (by decide +kernel) rfl (by decide +kernel) rfl ⟨by omega, by decide, Nat.le_of_ble_eq_true rfl⟩ rfl (c_X6_advance_28 _ I G ) ?_
          rintro rz Iz Gz Pz ⟨e0, e1, e2, e3⟩
          rw [e0, e1, e2, e3]
          show am_V X 0 0 _ _ ad (288, [(0, .ref 28), (1, .int x1), (2, .int (I 28 6))], [], (g_X6_advance_28 I G ), G, (gP rd))
          refine am_blk 288 [(.aload_n 0, 1, 0, 0, .null), (.iload_n 1, 1, 1, 0, .null), (.iconst (1), 1, 0, 0, .int (1 : Int32)), (.iadd, 1, 0, 0, .null)] (292, [(0, .ref 28), (1, .int x1), (2, .int (I 28 6))], [.int (x1 + (1 : Int32)), .ref 28], (g_X6_advance_28 I G ), G, (gP rd)) (True) hX hi (by decide +kernel) rfl trivial ?_
          obtain ⟨r24, I24, G24, hc, h⟩ := rb_some h
          refine am_callV hX hi (M := mX6_readValue) (idx := 173) (d' := (8 + n9)) (b := 28) (ci := 6) (As := [.int (x1 + (1 : Int32))]) (rest := []) mkX6_readValue miX6_readValue mvX6_readValue (by decide +kernel) (by decide +kernel) rfl (by decide +kernel) rfl ⟨by omega, by decide, Nat.le_of_ble_eq_true rfl⟩ rfl (h5 _ (g_X6_advance_28 I G ) G (x1 + (1 : Int32)) _ hc) ?_
          rintro rz Iz Gz Pz ⟨e0, e1, e2, e3⟩
          rw [e0, e1, e2, e3]
          show am_V X 0 0 _ _ ad (295, [(0, .ref 28), (1, .int x1), (2, .int (I 28 6))], [], I24, G24, (gP rd))
          refine am_blk 295 [(.aload_n 0, 1, 0, 0, .null), (.getfield 12, 3, 6, 1, .null), (.getfield 91, 3, 5, 8, .null), (.bipush (43), 2, 0, 0, .int (43 : Int32)), (.iconst (0), 1, 0, 0, .int (0 : Int32))] (305, [(0, .ref 28), (1, .int x1), (2, .int (I 28 6))], [.int (0 : Int32), .int (43 : Int32), .ref 38], I24, G24, (gP rd)) (True) hX hi (by decide +kernel) rfl trivial ?_
          refine am_callV hX hi (M := mX3_add) (idx := 161) (d' := 2) (b := 38) (ci := 3) (As := [.int (43 : Int32), .int (0 : Int32)]) (rest := []) mkX3_add miX3_add mvX3_add (by decide +kernel) (by decide +kernel) rfl (by decide +kernel) rfl ⟨by omega, by decide, Nat.le_of_ble_eq_true rfl⟩ rfl (c_X3_add_38 _ I24 G24 (43 : Int32) (0 : Int32)) ?_
          rintro rz Iz Gz Pz ⟨e0, e1, e2, e3⟩
          rw [e0, e1, e2, e3]
          show am_V X 0 0 _ _ ad (308, [(0, .ref 28), (1, .int x1), (2, .int (I 28 6))], [], (g_X3_add_38 I24 G24 (43 : Int32) (0 : Int32)), G24, (gP rd))
          refine am_blk 308 [(.goto (27), 3, 0, 335, .null)] (335, [(0, .ref 28), (1, .int x1), (2, .int (I 28 6))], [], (g_X3_add_38 I24 G24 (43 : Int32) (0 : Int32)), G24, (gP rd)) (True) hX hi (by decide +kernel) rfl trivial ?_
          cases h
          refine am_vret hX hi rfl (by decide +kernel) ?_
          exact ⟨rfl, rfl, rfl, rfl⟩
        rw [if_neg s29_31] at h
        by_cases s29_40 : (I 28 6) = (40 : Int32)
        · rw [if_pos s29_40] at h
          refine am_tsi hX hi (dflt := (302)) (lo := (6)) (hi' := (40)) (offs := #[(204), (302), (302), (204), (302), (302), (302), (302), (302), (185), (204), (231), (302), (302), (302), (302), (231), (231), (282), (302), (302), (302), (302), (302), (302), (255), (302), (302), (302), (302), (302), (302), (302), (302), (155)]) (len := 155) (off := (155)) (tgt := 184) (by decide +kernel) (by rw [s29_40]; decide) (by rw [s29_40]; decide) (by rw [s29_40]; rfl) (by decide) ?_
          refine am_blk 184 [(.aload_n 0, 1, 0, 0, .null), (.getfield 12, 3, 6, 1, .null), (.getfield 91, 3, 5, 8, .null), (.iload_n 2, 1, 2, 0, .null), (.aload_n 0, 1, 0, 0, .null), (.getfield 33, 3, 6, 0, .null), (.aload_n 0, 1, 0, 0, .null), (.getfield 55, 3, 6, 5, .null)] (200, [(0, .ref 28), (1, .int x1), (2, .int (I 28 6))], [.int (I 28 5), .ref 1, .int (I 28 6), .ref 38], I, G, (gP rd)) (True) hX hi (by decide +kernel) rfl trivial ?_
          refine am_callV hX hi (M := mX9_contentAt) (idx := 176) (d' := 1) (b := 1) (ci := 9) (As := [.int (I 28 5)]) (rest := [.int (I 28 6), .ref 38]) mkX9_contentAt miX9_contentAt mvX9_contentAt (by decide +kernel) (by decide +kernel) rfl (by decide +kernel) rfl ⟨by omega, by decide, Nat.le_of_ble_eq_true rfl⟩ rfl (c_X9_contentAt_1 _ I G (I 28 5)) ?_
          rintro rz Iz Gz Pz ⟨e0, e1, e2, e3⟩
          rw [e0, e1, e2, e3]
          show am_V X 0 0 _ _ ad (203, [(0, .ref 28), (1, .int x1), (2, .int (I 28 6))], [.long (f_X9_contentAt_1 I G (I 28 5)), .int (I 28 6), .ref 38], I, G, (gP rd))
          refine am_blk 203 [(.l2i, 1, 0, 0, .null)] (204, [(0, .ref 28), (1, .int x1), (2, .int (I 28 6))], [.int (f_X9_contentAt_1 I G (I 28 5)).toInt32, .int (I 28 6), .ref 38], I, G, (gP rd)) (True) hX hi (by decide +kernel) rfl trivial ?_
          refine am_callV hX hi (M := mX3_add) (idx := 161) (d' := 2) (b := 38) (ci := 3) (As := [.int (I 28 6), .int (f_X9_contentAt_1 I G (I 28 5)).toInt32]) (rest := []) mkX3_add miX3_add mvX3_add (by decide +kernel) (by decide +kernel) rfl (by decide +kernel) rfl ⟨by omega, by decide, Nat.le_of_ble_eq_true rfl⟩ rfl (c_X3_add_38 _ I G (I 28 6) (f_X9_contentAt_1 I G (I 28 5)).toInt32) ?_
          rintro rz Iz Gz Pz ⟨e0, e1, e2, e3⟩
          rw [e0, e1, e2, e3]
          show am_V X 0 0 _ _ ad (207, [(0, .ref 28), (1, .int x1), (2, .int (I 28 6))], [], (g_X3_add_38 I G (I 28 6) (f_X9_contentAt_1 I G (I 28 5)).toInt32), G, (gP rd))
          refine am_blk 207 [(.aload_n 0, 1, 0, 0, .null)] (208, [(0, .ref 28), (1, .int x1), (2, .int (I 28 6))], [.ref 28], (g_X3_add_38 I G (I 28 6) (f_X9_contentAt_1 I G (I 28 5)).toInt32), G, (gP rd)) (True) hX hi (by decide +kernel) rfl trivial ?_
          refine am_callV hX hi (M := mX6_advance) (idx := 100) (d' := 2) (b := 28) (ci := 6) (As := []) (rest := []) mkX6_advance miX6_advance mvX6_advance (by decide +kernel) (by decide +kernel) rfl (by decide +kernel) rfl ⟨by omega, by decide, Nat.le_of_ble_eq_true rfl⟩ rfl (c_X6_advance_28 _ (g_X3_add_38 I G (I 28 6) (f_X9_contentAt_1 I G (I 28 5)).toInt32) G ) ?_
          rintro rz Iz Gz Pz ⟨e0, e1, e2, e3⟩
          rw [e0, e1, e2, e3]
          show am_V X 0 0 _ _ ad (211, [(0, .ref 28), (1, .int x1), (2, .int (I 28 6))], [], (g_X6_advance_28 (g_X3_add_38 I G (I 28 6) (f_X9_contentAt_1 I G (I 28 5)).toInt32) G ), G, (gP rd))
          refine am_blk 211 [(.goto (124), 3, 0, 335, .null)] (335, [(0, .ref 28), (1, .int x1), (2, .int (I 28 6))], [], (g_X6_advance_28 (g_X3_add_38 I G (I 28 6) (f_X9_contentAt_1 I G (I 28 5)).toInt32) G ), G, (gP rd)) (True) hX hi (by decide +kernel) rfl trivial ?_
          cases h
          refine am_vret hX hi rfl (by decide +kernel) ?_
          exact ⟨rfl, rfl, rfl, rfl⟩
        rw [if_neg s29_40] at h
        by_cases s29_7 : (I 28 6) = (7 : Int32)
        · refine am_tsi hX hi (dflt := (302)) (lo := (6)) (hi' := (40)) (offs := #[(204), (302), (302), (204), (302), (302), (302), (302), (302), (185), (204), (231), (302), (302), (302), (302), (231), (231), (282), (302), (302), (302), (302), (302), (302), (255), (302), (302), (302), (302), (302), (302), (302), (302), (155)]) (len := 155) (off := (302)) (tgt := 331) (by decide +kernel) (by rw [s29_7]; decide) (by rw [s29_7]; decide) (by rw [s29_7]; rfl) (by decide) ?_
          exact (l_X6_readValue_28 h0 h1 h2 h3 h4 h5 h6 rd hX hi FU) _ _ _ _ _ h
        by_cases s29_8 : (I 28 6) = (8 : Int32)
        · refine am_tsi hX hi (dflt := (302)) (lo := (6)) (hi' := (40)) (offs := #[(204), (302), (302), (204), (302), (302), (302), (302), (302), (185), (204), (231), (302), (302), (302), (302), (231), (231), (282), (302), (302), (302), (302), (302), (302), (255), (302), (302), (302), (302), (302), (302), (302), (302), (155)]) (len := 155) (off := (302)) (tgt := 331) (by decide +kernel) (by rw [s29_8]; decide) (by rw [s29_8]; decide) (by rw [s29_8]; rfl) (by decide) ?_
          exact (l_X6_readValue_28 h0 h1 h2 h3 h4 h5 h6 rd hX hi FU) _ _ _ _ _ h
        by_cases s29_10 : (I 28 6) = (10 : Int32)
        · refine am_tsi hX hi (dflt := (302)) (lo := (6)) (hi' := (40)) (offs := #[(204), (302), (302), (204), (302), (302), (302), (302), (302), (185), (204), (231), (302), (302), (302), (302), (231), (231), (282), (302), (302), (302), (302), (302), (302), (255), (302), (302), (302), (302), (302), (302), (302), (302), (155)]) (len := 155) (off := (302)) (tgt := 331) (by decide +kernel) (by rw [s29_10]; decide) (by rw [s29_10]; decide) (by rw [s29_10]; rfl) (by decide) ?_
          exact (l_X6_readValue_28 h0 h1 h2 h3 h4 h5 h6 rd hX hi FU) _ _ _ _ _ h
        by_cases s29_11 : (I 28 6) = (11 : Int32)
        · refine am_tsi hX hi (dflt := (302)) (lo := (6)) (hi' := (40)) (offs := #[(204), (302), (302), (204), (302), (302), (302), (302), (302), (185), (204), (231), (302), (302), (302), (302), (231), (231), (282), (302), (302), (302), (302), (302), (302), (255), (302), (302), (302), (302), (302), (302), (302), (302), (155)]) (len := 155) (off := (302)) (tgt := 331) (by decide +kernel) (by rw [s29_11]; decide) (by rw [s29_11]; decide) (by rw [s29_11]; rfl) (by decide) ?_
          exact (l_X6_readValue_28 h0 h1 h2 h3 h4 h5 h6 rd hX hi FU) _ _ _ _ _ h
        by_cases s29_12 : (I 28 6) = (12 : Int32)
        · refine am_tsi hX hi (dflt := (302)) (lo := (6)) (hi' := (40)) (offs := #[(204), (302), (302), (204), (302), (302), (302), (302), (302), (185), (204), (231), (302), (302), (302), (302), (231), (231), (282), (302), (302), (302), (302), (302), (302), (255), (302), (302), (302), (302), (302), (302), (302), (302), (155)]) (len := 155) (off := (302)) (tgt := 331) (by decide +kernel) (by rw [s29_12]; decide) (by rw [s29_12]; decide) (by rw [s29_12]; rfl) (by decide) ?_
          exact (l_X6_readValue_28 h0 h1 h2 h3 h4 h5 h6 rd hX hi FU) _ _ _ _ _ h
        by_cases s29_13 : (I 28 6) = (13 : Int32)
        · refine am_tsi hX hi (dflt := (302)) (lo := (6)) (hi' := (40)) (offs := #[(204), (302), (302), (204), (302), (302), (302), (302), (302), (185), (204), (231), (302), (302), (302), (302), (231), (231), (282), (302), (302), (302), (302), (302), (302), (255), (302), (302), (302), (302), (302), (302), (302), (302), (155)]) (len := 155) (off := (302)) (tgt := 331) (by decide +kernel) (by rw [s29_13]; decide) (by rw [s29_13]; decide) (by rw [s29_13]; rfl) (by decide) ?_
          exact (l_X6_readValue_28 h0 h1 h2 h3 h4 h5 h6 rd hX hi FU) _ _ _ _ _ h
        by_cases s29_14 : (I 28 6) = (14 : Int32)
        · refine am_tsi hX hi (dflt := (302)) (lo := (6)) (hi' := (40)) (offs := #[(204), (302), (302), (204), (302), (302), (302), (302), (302), (185), (204), (231), (302), (302), (302), (302), (231), (231), (282), (302), (302), (302), (302), (302), (302), (255), (302), (302), (302), (302), (302), (302), (302), (302), (155)]) (len := 155) (off := (302)) (tgt := 331) (by decide +kernel) (by rw [s29_14]; decide) (by rw [s29_14]; decide) (by rw [s29_14]; rfl) (by decide) ?_
          exact (l_X6_readValue_28 h0 h1 h2 h3 h4 h5 h6 rd hX hi FU) _ _ _ _ _ h
        by_cases s29_18 : (I 28 6) = (18 : Int32)
        · refine am_tsi hX hi (dflt := (302)) (lo := (6)) (hi' := (40)) (offs := #[(204), (302), (302), (204), (302), (302), (302), (302), (302), (185), (204), (231), (302), (302), (302), (302), (231), (231), (282), (302), (302), (302), (302), (302), (302), (255), (302), (302), (302), (302), (302), (302), (302), (302), (155)]) (len := 155) (off := (302)) (tgt := 331) (by decide +kernel) (by rw [s29_18]; decide) (by rw [s29_18]; decide) (by rw [s29_18]; rfl) (by decide) ?_
          exact (l_X6_readValue_28 h0 h1 h2 h3 h4 h5 h6 rd hX hi FU) _ _ _ _ _ h
        by_cases s29_19 : (I 28 6) = (19 : Int32)
        · refine am_tsi hX hi (dflt := (302)) (lo := (6)) (hi' := (40)) (offs := #[(204), (302), (302), (204), (302), (302), (302), (302), (302), (185), (204), (231), (302), (302), (302), (302), (231), (231), (282), (302), (302), (302), (302), (302), (302), (255), (302), (302), (302), (302), (302), (302), (302), (302), (155)]) (len := 155) (off := (302)) (tgt := 331) (by decide +kernel) (by rw [s29_19]; decide) (by rw [s29_19]; decide) (by rw [s29_19]; rfl) (by decide) ?_
          exact (l_X6_readValue_28 h0 h1 h2 h3 h4 h5 h6 rd hX hi FU) _ _ _ _ _ h
        by_cases s29_20 : (I 28 6) = (20 : Int32)
        · refine am_tsi hX hi (dflt := (302)) (lo := (6)) (hi' := (40)) (offs := #[(204), (302), (302), (204), (302), (302), (302), (302), (302), (185), (204), (231), (302), (302), (302), (302), (231), (231), (282), (302), (302), (302), (302), (302), (302), (255), (302), (302), (302), (302), (302), (302), (302), (302), (155)]) (len := 155) (off := (302)) (tgt := 331) (by decide +kernel) (by rw [s29_20]; decide) (by rw [s29_20]; decide) (by rw [s29_20]; rfl) (by decide) ?_
          exact (l_X6_readValue_28 h0 h1 h2 h3 h4 h5 h6 rd hX hi FU) _ _ _ _ _ h
        by_cases s29_21 : (I 28 6) = (21 : Int32)
        · refine am_tsi hX hi (dflt := (302)) (lo := (6)) (hi' := (40)) (offs := #[(204), (302), (302), (204), (302), (302), (302), (302), (302), (185), (204), (231), (302), (302), (302), (302), (231), (231), (282), (302), (302), (302), (302), (302), (302), (255), (302), (302), (302), (302), (302), (302), (302), (302), (155)]) (len := 155) (off := (302)) (tgt := 331) (by decide +kernel) (by rw [s29_21]; decide) (by rw [s29_21]; decide) (by rw [s29_21]; rfl) (by decide) ?_
          exact (l_X6_readValue_28 h0 h1 h2 h3 h4 h5 h6 rd hX hi FU) _ _ _ _ _ h
        by_cases s29_25 : (I 28 6) = (25 : Int32)
        · refine am_tsi hX hi (dflt := (302)) (lo := (6)) (hi' := (40)) (offs := #[(204), (302), (302), (204), (302), (302), (302), (302), (302), (185), (204), (231), (302), (302), (302), (302), (231), (231), (282), (302), (302), (302), (302), (302), (302), (255), (302), (302), (302), (302), (302), (302), (302), (302), (155)]) (len := 155) (off := (302)) (tgt := 331) (by decide +kernel) (by rw [s29_25]; decide) (by rw [s29_25]; decide) (by rw [s29_25]; rfl) (by decide) ?_
          exact (l_X6_readValue_28 h0 h1 h2 h3 h4 h5 h6 rd hX hi FU) _ _ _ _ _ h
        by_cases s29_26 : (I 28 6) = (26 : Int32)
        · refine am_tsi hX hi (dflt := (302)) (lo := (6)) (hi' := (40)) (offs := #[(204), (302), (302), (204), (302), (302), (302), (302), (302), (185), (204), (231), (302), (302), (302), (302), (231), (231), (282), (302), (302), (302), (302), (302), (302), (255), (302), (302), (302), (302), (302), (302), (302), (302), (155)]) (len := 155) (off := (302)) (tgt := 331) (by decide +kernel) (by rw [s29_26]; decide) (by rw [s29_26]; decide) (by rw [s29_26]; rfl) (by decide) ?_
          exact (l_X6_readValue_28 h0 h1 h2 h3 h4 h5 h6 rd hX hi FU) _ _ _ _ _ h
        by_cases s29_27 : (I 28 6) = (27 : Int32)
        · refine am_tsi hX hi (dflt := (302)) (lo := (6)) (hi' := (40)) (offs := #[(204), (302), (302), (204), (302), (302), (302), (302), (302), (185), (204), (231), (302), (302), (302), (302), (231), (231), (282), (302), (302), (302), (302), (302), (302), (255), (302), (302), (302), (302), (302), (302), (302), (302), (155)]) (len := 155) (off := (302)) (tgt := 331) (by decide +kernel) (by rw [s29_27]; decide) (by rw [s29_27]; decide) (by rw [s29_27]; rfl) (by decide) ?_
          exact (l_X6_readValue_28 h0 h1 h2 h3 h4 h5 h6 rd hX hi FU) _ _ _ _ _ h
        by_cases s29_28 : (I 28 6) = (28 : Int32)
        · refine am_tsi hX hi (dflt := (302)) (lo := (6)) (hi' := (40)) (offs := #[(204), (302), (302), (204), (302), (302), (302), (302), (302), (185), (204), (231), (302), (302), (302), (302), (231), (231), (282), (302), (302), (302), (302), (302), (302), (255), (302), (302), (302), (302), (302), (302), (302), (302), (155)]) (len := 155) (off := (302)) (tgt := 331) (by decide +kernel) (by rw [s29_28]; decide) (by rw [s29_28]; decide) (by rw [s29_28]; rfl) (by decide) ?_
          exact (l_X6_readValue_28 h0 h1 h2 h3 h4 h5 h6 rd hX hi FU) _ _ _ _ _ h
        by_cases s29_29 : (I 28 6) = (29 : Int32)
        · refine am_tsi hX hi (dflt := (302)) (lo := (6)) (hi' := (40)) (offs := #[(204), (302), (302), (204), (302), (302), (302), (302), (302), (185), (204), (231), (302), (302), (302), (302), (231), (231), (282), (302), (302), (302), (302), (302), (302), (255), (302), (302), (302), (302), (302), (302), (302), (302), (155)]) (len := 155) (off := (302)) (tgt := 331) (by decide +kernel) (by rw [s29_29]; decide) (by rw [s29_29]; decide) (by rw [s29_29]; rfl) (by decide) ?_
          exact (l_X6_readValue_28 h0 h1 h2 h3 h4 h5 h6 rd hX hi FU) _ _ _ _ _ h
        by_cases s29_30 : (I 28 6) = (30 : Int32)
        · refine am_tsi hX hi (dflt := (302)) (lo := (6)) (hi' := (40)) (offs := #[(204), (302), (302), (204), (302), (302), (302), (302), (302), (185), (204), (231), (302), (302), (302), (302), (231), (231), (282), (302), (302), (302), (302), (302), (302), (255), (302), (302), (302), (302), (302), (302), (302), (302), (155)]) (len := 155) (off := (302)) (tgt := 331) (by decide +kernel) (by rw [s29_30]; decide) (by rw [s29_30]; decide) (by rw [s29_30]; rfl) (by decide) ?_
          exact (l_X6_readValue_28 h0 h1 h2 h3 h4 h5 h6 rd hX hi FU) _ _ _ _ _ h
        by_cases s29_32 : (I 28 6) = (32 : Int32)
        · refine am_tsi hX hi (dflt := (302)) (lo := (6)) (hi' := (40)) (offs := #[(204), (302), (302), (204), (302), (302), (302), (302), (302), (185), (204), (231), (302), (302), (302), (302), (231), (231), (282), (302), (302), (302), (302), (302), (302), (255), (302), (302), (302), (302), (302), (302), (302), (302), (155)]) (len := 155) (off := (302)) (tgt := 331) (by decide +kernel) (by rw [s29_32]; decide) (by rw [s29_32]; decide) (by rw [s29_32]; rfl) (by decide) ?_
          exact (l_X6_readValue_28 h0 h1 h2 h3 h4 h5 h6 rd hX hi FU) _ _ _ _ _ h
        by_cases s29_33 : (I 28 6) = (33 : Int32)
        · refine am_tsi hX hi (dflt := (302)) (lo := (6)) (hi' := (40)) (offs := #[(204), (302), (302), (204), (302), (302), (302), (302), (302), (185), (204), (231), (302), (302), (302), (302), (231), (231), (282), (302), (302), (302), (302), (302), (302), (255), (302), (302), (302), (302), (302), (302), (302), (302), (155)]) (len := 155) (off := (302)) (tgt := 331) (by decide +kernel) (by rw [s29_33]; decide) (by rw [s29_33]; decide) (by rw [s29_33]; rfl) (by decide) ?_
          exact (l_X6_readValue_28 h0 h1 h2 h3 h4 h5 h6 rd hX hi FU) _ _ _ _ _ h
        by_cases s29_34 : (I 28 6) = (34 : Int32)
        · refine am_tsi hX hi (dflt := (302)) (lo := (6)) (hi' := (40)) (offs := #[(204), (302), (302), (204), (302), (302), (302), (302), (302), (185), (204), (231), (302), (302), (302), (302), (231), (231), (282), (302), (302), (302), (302), (302), (302), (255), (302), (302), (302), (302), (302), (302), (302), (302), (155)]) (len := 155) (off := (302)) (tgt := 331) (by decide +kernel) (by rw [s29_34]; decide) (by rw [s29_34]; decide) (by rw [s29_34]; rfl) (by decide) ?_
          exact (l_X6_readValue_28 h0 h1 h2 h3 h4 h5 h6 rd hX hi FU) _ _ _ _ _ h
        by_cases s29_35 : (I 28 6) = (35 : Int32)
        · refine am_tsi hX hi (dflt := (302)) (lo := (6)) (hi' := (40)) (offs := #[(204), (302), (302), (204), (302), (302), (302), (302), (302), (185), (204), (231), (302), (302), (302), (302), (231), (231), (282), (302), (302), (302), (302), (302), (302), (255), (302), (302), (302), (302), (302), (302), (302), (302), (155)]) (len := 155) (off := (302)) (tgt := 331) (by decide +kernel) (by rw [s29_35]; decide) (by rw [s29_35]; decide) (by rw [s29_35]; rfl) (by decide) ?_
          exact (l_X6_readValue_28 h0 h1 h2 h3 h4 h5 h6 rd hX hi FU) _ _ _ _ _ h
        by_cases s29_36 : (I 28 6) = (36 : Int32)
        · refine am_tsi hX hi (dflt := (302)) (lo := (6)) (hi' := (40)) (offs := #[(204), (302), (302), (204), (302), (302), (302), (302), (302), (185), (204), (231), (302), (302), (302), (302), (231), (231), (282), (302), (302), (302), (302), (302), (302), (255), (302), (302), (302), (302), (302), (302), (302), (302), (155)]) (len := 155) (off := (302)) (tgt := 331) (by decide +kernel) (by rw [s29_36]; decide) (by rw [s29_36]; decide) (by rw [s29_36]; rfl) (by decide) ?_
          exact (l_X6_readValue_28 h0 h1 h2 h3 h4 h5 h6 rd hX hi FU) _ _ _ _ _ h
        by_cases s29_37 : (I 28 6) = (37 : Int32)
        · refine am_tsi hX hi (dflt := (302)) (lo := (6)) (hi' := (40)) (offs := #[(204), (302), (302), (204), (302), (302), (302), (302), (302), (185), (204), (231), (302), (302), (302), (302), (231), (231), (282), (302), (302), (302), (302), (302), (302), (255), (302), (302), (302), (302), (302), (302), (302), (302), (155)]) (len := 155) (off := (302)) (tgt := 331) (by decide +kernel) (by rw [s29_37]; decide) (by rw [s29_37]; decide) (by rw [s29_37]; rfl) (by decide) ?_
          exact (l_X6_readValue_28 h0 h1 h2 h3 h4 h5 h6 rd hX hi FU) _ _ _ _ _ h
        by_cases s29_38 : (I 28 6) = (38 : Int32)
        · refine am_tsi hX hi (dflt := (302)) (lo := (6)) (hi' := (40)) (offs := #[(204), (302), (302), (204), (302), (302), (302), (302), (302), (185), (204), (231), (302), (302), (302), (302), (231), (231), (282), (302), (302), (302), (302), (302), (302), (255), (302), (302), (302), (302), (302), (302), (302), (302), (155)]) (len := 155) (off := (302)) (tgt := 331) (by decide +kernel) (by rw [s29_38]; decide) (by rw [s29_38]; decide) (by rw [s29_38]; rfl) (by decide) ?_
          exact (l_X6_readValue_28 h0 h1 h2 h3 h4 h5 h6 rd hX hi FU) _ _ _ _ _ h
        by_cases s29_39 : (I 28 6) = (39 : Int32)
        · refine am_tsi hX hi (dflt := (302)) (lo := (6)) (hi' := (40)) (offs := #[(204), (302), (302), (204), (302), (302), (302), (302), (302), (185), (204), (231), (302), (302), (302), (302), (231), (231), (282), (302), (302), (302), (302), (302), (302), (255), (302), (302), (302), (302), (302), (302), (302), (302), (155)]) (len := 155) (off := (302)) (tgt := 331) (by decide +kernel) (by rw [s29_39]; decide) (by rw [s29_39]; decide) (by rw [s29_39]; rfl) (by decide) ?_
          exact (l_X6_readValue_28 h0 h1 h2 h3 h4 h5 h6 rd hX hi FU) _ _ _ _ _ h
        refine am_tso hX hi (dflt := (302)) (lo := (6)) (hi' := (40)) (offs := #[(204), (302), (302), (204), (302), (302), (302), (302), (302), (185), (204), (231), (302), (302), (302), (302), (231), (231), (282), (302), (302), (302), (302), (302), (302), (255), (302), (302), (302), (302), (302), (302), (302), (302), (155)]) (len := 155) (tgt := 331) (by decide +kernel) ?_ (by decide) ?_
        · have eF : ∀ v : Int32, ¬ (I 28 6) = v → ¬ ((I 28 6)).toInt = v.toInt := fun v q z => q ((i_eq _ _).mpr z)
          have e6 := eF (6 : Int32) s29_6
          have e9 := eF (9 : Int32) s29_9
          have e15 := eF (15 : Int32) s29_15
          have e16 := eF (16 : Int32) s29_16
          have e17 := eF (17 : Int32) s29_17
          have e22 := eF (22 : Int32) s29_22
          have e23 := eF (23 : Int32) s29_23
          have e24 := eF (24 : Int32) s29_24
          have e31 := eF (31 : Int32) s29_31
          have e40 := eF (40 : Int32) s29_40
          have e7 := eF (7 : Int32) s29_7
          have e8 := eF (8 : Int32) s29_8
          have e10 := eF (10 : Int32) s29_10
          have e11 := eF (11 : Int32) s29_11
          have e12 := eF (12 : Int32) s29_12
          have e13 := eF (13 : Int32) s29_13
          have e14 := eF (14 : Int32) s29_14
          have e18 := eF (18 : Int32) s29_18
          have e19 := eF (19 : Int32) s29_19
          have e20 := eF (20 : Int32) s29_20
          have e21 := eF (21 : Int32) s29_21
          have e25 := eF (25 : Int32) s29_25
          have e26 := eF (26 : Int32) s29_26
          have e27 := eF (27 : Int32) s29_27
          have e28 := eF (28 : Int32) s29_28
          have e29 := eF (29 : Int32) s29_29
          have e30 := eF (30 : Int32) s29_30
          have e32 := eF (32 : Int32) s29_32
          have e33 := eF (33 : Int32) s29_33
          have e34 := eF (34 : Int32) s29_34
          have e35 := eF (35 : Int32) s29_35
          have e36 := eF (36 : Int32) s29_36
          have e37 := eF (37 : Int32) s29_37
          have e38 := eF (38 : Int32) s29_38
          have e39 := eF (39 : Int32) s29_39
          simp only [show ((6 : Int32) : Int32).toInt = 6 from rfl, show ((9 : Int32) : Int32).toInt = 9 from rfl, show ((15 : Int32) : Int32).toInt = 15 from rfl, show ((16 : Int32) : Int32).toInt = 16 from rfl, show ((17 : Int32) : Int32).toInt = 17 from rfl, show ((22 : Int32) : Int32).toInt = 22 from rfl, show ((23 : Int32) : Int32).toInt = 23 from rfl, show ((24 : Int32) : Int32).toInt = 24 from rfl, show ((31 : Int32) : Int32).toInt = 31 from rfl, show ((40 : Int32) : Int32).toInt = 40 from rfl, show ((7 : Int32) : Int32).toInt = 7 from rfl, show ((8 : Int32) : Int32).toInt = 8 from rfl, show ((10 : Int32) : Int32).toInt = 10 from rfl, show ((11 : Int32) : Int32).toInt = 11 from rfl, show ((12 : Int32) : Int32).toInt = 12 from rfl, show ((13 : Int32) : Int32).toInt = 13 from rfl, show ((14 : Int32) : Int32).toInt = 14 from rfl, show ((18 : Int32) : Int32).toInt = 18 from rfl, show ((19 : Int32) : Int32).toInt = 19 from rfl, show ((20 : Int32) : Int32).toInt = 20 from rfl, show ((21 : Int32) : Int32).toInt = 21 from rfl, show ((25 : Int32) : Int32).toInt = 25 from rfl, show ((26 : Int32) : Int32).toInt = 26 from rfl, show ((27 : Int32) : Int32).toInt = 27 from rfl, show ((28 : Int32) : Int32).toInt = 28 from rfl, show ((29 : Int32) : Int32).toInt = 29 from rfl, show ((30 : Int32) : Int32).toInt = 30 from rfl, show ((32 : Int32) : Int32).toInt = 32 from rfl, show ((33 : Int32) : Int32).toInt = 33 from rfl, show ((34 : Int32) : Int32).toInt = 34 from rfl, show ((35 : Int32) : Int32).toInt = 35 from rfl, show ((36 : Int32) : Int32).toInt = 36 from rfl, show ((37 : Int32) : Int32).toInt = 37 from rfl, show ((38 : Int32) : Int32).toInt = 38 from rfl, show ((39 : Int32) : Int32).toInt = 39 from rfl] at e6 e9 e15 e16 e17 e22 e23 e24 e31 e40 e7 e8 e10 e11 e12 e13 e14 e18 e19 e20 e21 e25 e26 e27 e28 e29 e30 e32 e33 e34 e35 e36 e37 e38 e39
          omega
        exact (l_X6_readValue_28 h0 h1 h2 h3 h4 h5 h6 rd hX hi FU) _ _ _ _ _ h
      · rw [if_neg c20] at h
        refine am_blk 23 [(.aload_n 0, 1, 0, 0, .null)] (24, [(0, .ref 28), (1, .int x1), (2, .int (I 28 6))], [.ref 28], I, G, (gP rd)) (True) hX hi (by decide +kernel) rfl trivial ?_
        refine am_callV hX hi (M := mX6_refuse) (idx := 70) (d' := 2) (b := 28) (ci := 6) (As := []) (rest := []) mkX6_refuse miX6_refuse mvX6_refuse (by decide +kernel) (by decide +kernel) rfl (by decide +kernel) rfl ⟨by omega, by decide, Nat.le_of_ble_eq_true rfl⟩ rfl (c_X6_refuse_28 _ I G ) ?_
        rintro rz Iz Gz Pz ⟨e0, e1, e2, e3⟩
        rw [e0, e1, e2, e3]
        show am_V X 0 0 _ _ ad (27, [(0, .ref 28), (1, .int x1), (2, .int (I 28 6))], [], (g_X6_refuse_28 I G ), G, (gP rd))
        cases h
        refine am_vret hX hi rfl (by decide +kernel) ?_
        exact ⟨rfl, rfl, rfl, rfl⟩
noncomputable def R_X6_readPair_28 (cal : Nat → am_I → am_G → Int32 → Int32 → Option (Unit × am_I × am_G)) (I : am_I) (G : am_G) (x1 : Int32) : Option (Unit × am_I × am_G) := (if (I 28 6) = (24 : Int32) then (if x1 < (8 : Int32) then rb (cal 3 (g_X6_advance_28 I G ) G (x1 + (1 : Int32)) (0 : Int32)) (fun r1 I1 G1 => rb (cal 3 (g_X6_expect_28 I1 G1 (29 : Int32)) G1 (x1 + (1 : Int32)) (0 : Int32)) (fun r2 I2 G2 => some ((), (g_X6_expect_28 I2 G2 (25 : Int32)), G2))) else some ((), (g_X6_refuse_28 I G ), G)) else some ((), (g_X6_refuse_28 I G ), G))
set_option maxRecDepth 20000 in
set_option maxHeartbeats 4000000 in
theorem c_X6_readPair_28 {cal : Nat → am_I → am_G → Int32 → Int32 → Option (Unit × am_I × am_G)} {n9 : Nat} (h0 : ∀ (rd : Nat) (I : am_I) (G : am_G) (a : Int32) (out : Unit × am_I × am_G), cal 0 I G a (0 : Int32) = some out → am_Ct mX6_readTest (8 + n9) gS [.ref 28, .int a] I G (gP rd) (pV out.2.1 out.2.2 (gP rd))) (h1 : ∀ (rd : Nat) (I : am_I) (G : am_G) (a : Int32) (out : Unit × am_I × am_G), cal 1 I G a (0 : Int32) = some out → am_Ct mX6_readBoth (8 + n9) gS [.ref 28, .int a] I G (gP rd) (pV out.2.1 out.2.2 (gP rd))) (h2 : ∀ (rd : Nat) (I : am_I) (G : am_G) (a : Int32) (out : Unit × am_I × am_G), cal 2 I G a (0 : Int32) = some out → am_Ct mX6_readSingle (8 + n9) gS [.ref 28, .int a] I G (gP rd) (pV out.2.1 out.2.2 (gP rd))) (h3 : ∀ (rd : Nat) (I : am_I) (G : am_G) (a : Int32) (out : Unit × am_I × am_G), cal 3 I G a (0 : Int32) = some out → am_Ct mX6_readSum (8 + n9) gS [.ref 28, .int a] I G (gP rd) (pV out.2.1 out.2.2 (gP rd))) (h4 : ∀ (rd : Nat) (I : am_I) (G : am_G) (a : Int32) (out : Unit × am_I × am_G), cal 4 I G a (0 : Int32) = some out → am_Ct mX6_readProduct (8 + n9) gS [.ref 28, .int a] I G (gP rd) (pV out.2.1 out.2.2 (gP rd))) (h5 : ∀ (rd : Nat) (I : am_I) (G : am_G) (a : Int32) (out : Unit × am_I × am_G), cal 5 I G a (0 : Int32) = some out → am_Ct mX6_readValue (8 + n9) gS [.ref 28, .int a] I G (gP rd) (pV out.2.1 out.2.2 (gP rd))) (h6 : ∀ (rd : Nat) (I : am_I) (G : am_G) (a : Int32) (out : Unit × am_I × am_G), cal 6 I G a (0 : Int32) = some out → am_Ct mX6_readPair (8 + n9) gS [.ref 28, .int a] I G (gP rd) (pV out.2.1 out.2.2 (gP rd))) (rd : Nat) (I : am_I) (G : am_G) (x1 : Int32) {out : Unit × am_I × am_G} (h : R_X6_readPair_28 cal I G x1 = some out) : am_Ct mX6_readPair (8 + n9 + 1) gS [.ref 28, .int x1] I G (gP rd) (pV out.2.1 out.2.2 (gP rd)) := by
  refine am_ofF (by decide +kernel) rfl (by decide) (by omega) (Nat.le_of_ble_eq_true rfl) (fun X ad hX hi => ?_)
  have hi : am_info X 6 cX6_readPair 2 false none (8 + n9 + 1) := hi
  show am_V X 0 0 _ _ ad (0, [(0, .ref 28), (1, .int x1)], [], I, G, (gP rd))
  unfold R_X6_readPair_28 at h
  refine am_blk 0 [(.aload_n 0, 1, 0, 0, .null), (.getfield 62, 3, 6, 6, .null), (.bipush (24), 2, 0, 0, .int (24 : Int32))] (6, [(0, .ref 28), (1, .int x1)], [.int (24 : Int32), .int (I 28 6)], I, G, (gP rd)) (True) hX hi (by decide +kernel) rfl trivial ?_
  refine am_icmp_ne (tgt := 15) hX hi (off := (9)) (by decide +kernel) (by decide) (fun c6 => ?_) (fun c6 => ?_)
  · rw [if_neg c6] at h
    refine am_blk 15 [(.aload_n 0, 1, 0, 0, .null)] (16, [(0, .ref 28), (1, .int x1)], [.ref 28], I, G, (gP rd)) (True) hX hi (by decide +kernel) rfl trivial ?_
    refine am_callV hX hi (M := mX6_refuse) (idx := 70) (d' := 2) (b := 28) (ci := 6) (As := []) (rest := []) mkX6_refuse miX6_refuse mvX6_refuse (by decide +kernel) (by decide +kernel) rfl (by decide +kernel) rfl ⟨by omega, by decide, Nat.le_of_ble_eq_true rfl⟩ rfl (c_X6_refuse_28 _ I G ) ?_
    rintro r9 I9 G9 P9 ⟨e0, e1, e2, e3⟩
    rw [e0, e1, e2, e3]
    show am_V X 0 0 _ _ ad (19, [(0, .ref 28), (1, .int x1)], [], (g_X6_refuse_28 I G ), G, (gP rd))
    cases h
    refine am_vret hX hi rfl (by decide +kernel) ?_
    exact ⟨rfl, rfl, rfl, rfl⟩
  · rw [if_pos c6] at h
    refine am_blk 9 [(.iload_n 1, 1, 1, 0, .null), (.bipush (8), 2, 0, 0, .int (8 : Int32))] (12, [(0, .ref 28), (1, .int x1)], [.int (8 : Int32), .int x1], I, G, (gP rd)) (True) hX hi (by decide +kernel) rfl trivial ?_
    refine am_icmp_lt (tgt := 20) hX hi (off := (8)) (by decide +kernel) (by decide) (fun c12 => ?_) (fun c12 => ?_)
    · rw [if_pos c12] at h
      refine am_blk 20 [(.aload_n 0, 1, 0, 0, .null)] (21, [(0, .ref 28), (1, .int x1)], [.ref 28], I, G, (gP rd)) (True) hX hi (by decide +kernel) rfl trivial ?_
      refine am_callV hX hi (M := mX6_advance) (idx := 100) (d' := 2) (b := 28) (ci := 6) (As := []) (rest := []) mkX6_advance miX6_advance mvX6_advance (by decide +kernel) (by decide +kernel) rfl (by decide +kernel) rfl ⟨by omega, by decide, Nat.le_of_ble_eq_true rfl⟩ rfl (c_X6_advance_28 _ I G ) ?_
      rintro r9 I9 G9 P9 ⟨e0, e1, e2, e3⟩
      rw [e0, e1, e2, e3]
      show am_V X 0 0 _ _ ad (24, [(0, .ref 28), (1, .int x1)], [], (g_X6_advance_28 I G ), G, (gP rd))
      refine am_blk 24 [(.aload_n 0, 1, 0, 0, .null), (.iload_n 1, 1, 1, 0, .null), (.iconst (1), 1, 0, 0, .int (1 : Int32)), (.iadd, 1, 0, 0, .null)] (28, [(0, .ref 28), (1, .int x1)], [.int (x1 + (1 : Int32)), .ref 28], (g_X6_advance_28 I G ), G, (gP rd)) (True) hX hi (by decide +kernel) rfl trivial ?_
      obtain ⟨r1, I1, G1, hc, h⟩ := rb_some h
      refine am_callV hX hi (M := mX6_readSum) (idx := 88) (d' := (8 + n9)) (b := 28) (ci := 6) (As := [.int (x1 + (1 : Int32))]) (rest := []) mkX6_readSum miX6_readSum mvX6_readSum (by decide +kernel) (by decide +kernel) rfl (by decide +kernel) rfl ⟨by omega, by decide, Nat.le_of_ble_eq_true rfl⟩ rfl (h3 _ (g_X6_advance_28 I G ) G (x1 + (1 : Int32)) _ hc) ?_
      rintro r9 I9 G9 P9 ⟨e0, e1, e2, e3⟩
      rw [e0, e1, e2, e3]
      show am_V X 0 0 _ _ ad (31, [(0, .ref 28), (1, .int x1)], [], I1, G1, (gP rd))
      refine am_blk 31 [(.aload_n 0, 1, 0, 0, .null), (.bipush (29), 2, 0, 0, .int (29 : Int32))] (34, [(0, .ref 28), (1, .int x1)], [.int (29 : Int32), .ref 28], I1, G1, (gP rd)) (True) hX hi (by decide +kernel) rfl trivial ?_
      refine am_callV hX hi (M := mX6_expect) (idx := 109) (d' := 3) (b := 28) (ci := 6) (As := [.int (29 : Int32)]) (rest := []) mkX6_expect miX6_expect mvX6_expect (by decide +kernel) (by decide +kernel) rfl (by decide +kernel) rfl ⟨by omega, by decide, Nat.le_of_ble_eq_true rfl⟩ rfl (c_X6_expect_28 _ I1 G1 (29 : Int32)) ?_
      rintro r9 I9 G9 P9 ⟨e0, e1, e2, e3⟩
      rw [e0, e1, e2, e3]
      show am_V X 0 0 _ _ ad (37, [(0, .ref 28), (1, .int x1)], [], (g_X6_expect_28 I1 G1 (29 : Int32)), G1, (gP rd))
      refine am_blk 37 [(.aload_n 0, 1, 0, 0, .null), (.iload_n 1, 1, 1, 0, .null), (.iconst (1), 1, 0, 0, .int (1 : Int32)), (.iadd, 1, 0, 0, .null)] (41, [(0, .ref 28), (1, .int x1)], [.int (x1 + (1 : Int32)), .ref 28], (g_X6_expect_28 I1 G1 (29 : Int32)), G1, (gP rd)) (True) hX hi (by decide +kernel) rfl trivial ?_
      obtain ⟨r2, I2, G2, hc, h⟩ := rb_some h
      refine am_callV hX hi (M := mX6_readSum) (idx := 88) (d' := (8 + n9)) (b := 28) (ci := 6) (As := [.int (x1 + (1 : Int32))]) (rest := []) mkX6_readSum miX6_readSum mvX6_readSum (by decide +kernel) (by decide +kernel) rfl (by decide +kernel) rfl ⟨by omega, by decide, Nat.le_of_ble_eq_true rfl⟩ rfl (h3 _ (g_X6_expect_28 I1 G1 (29 : Int32)) G1 (x1 + (1 : Int32)) _ hc) ?_
      rintro r9 I9 G9 P9 ⟨e0, e1, e2, e3⟩
      rw [e0, e1, e2, e3]
      show am_V X 0 0 _ _ ad (44, [(0, .ref 28), (1, .int x1)], [], I2, G2, (gP rd))
      refine am_blk 44 [(.aload_n 0, 1, 0, 0, .null), (.bipush (25), 2, 0, 0, .int (25 : Int32))] (47, [(0, .ref 28), (1, .int x1)], [.int (25 : Int32), .ref 28], I2, G2, (gP rd)) (True) hX hi (by decide +kernel) rfl trivial ?_
      refine am_callV hX hi (M := mX6_expect) (idx := 109) (d' := 3) (b := 28) (ci := 6) (As := [.int (25 : Int32)]) (rest := []) mkX6_expect miX6_expect mvX6_expect (by decide +kernel) (by decide +kernel) rfl (by decide +kernel) rfl ⟨by omega, by decide, Nat.le_of_ble_eq_true rfl⟩ rfl (c_X6_expect_28 _ I2 G2 (25 : Int32)) ?_
      rintro r9 I9 G9 P9 ⟨e0, e1, e2, e3⟩
      rw [e0, e1, e2, e3]
      show am_V X 0 0 _ _ ad (50, [(0, .ref 28), (1, .int x1)], [], (g_X6_expect_28 I2 G2 (25 : Int32)), G2, (gP rd))
      cases h
      refine am_vret hX hi rfl (by decide +kernel) ?_
      exact ⟨rfl, rfl, rfl, rfl⟩
    · rw [if_neg c12] at h
      refine am_blk 15 [(.aload_n 0, 1, 0, 0, .null)] (16, [(0, .ref 28), (1, .int x1)], [.ref 28], I, G, (gP rd)) (True) hX hi (by decide +kernel) rfl trivial ?_
      refine am_callV hX hi (M := mX6_refuse) (idx := 70) (d' := 2) (b := 28) (ci := 6) (As := []) (rest := []) mkX6_refuse miX6_refuse mvX6_refuse (by decide +kernel) (by decide +kernel) rfl (by decide +kernel) rfl ⟨by omega, by decide, Nat.le_of_ble_eq_true rfl⟩ rfl (c_X6_refuse_28 _ I G ) ?_
      rintro r9 I9 G9 P9 ⟨e0, e1, e2, e3⟩
      rw [e0, e1, e2, e3]
      show am_V X 0 0 _ _ ad (19, [(0, .ref 28), (1, .int x1)], [], (g_X6_refuse_28 I G ), G, (gP rd))
      cases h
      refine am_vret hX hi rfl (by decide +kernel) ?_
      exact ⟨rfl, rfl, rfl, rfl⟩
noncomputable def PG_X6_readTest : Nat → Nat → am_I → am_G → Int32 → Int32 → Option (Unit × am_I × am_G)
  | 0 => fun _ _ _ _ _ => none
  | n + 1 => fun k I G a b => if k = 0 then R_X6_readTest_28 (PG_X6_readTest n) I G a else if k = 1 then R_X6_readBoth_28 (PG_X6_readTest n) I G a else if k = 2 then R_X6_readSingle_28 (PG_X6_readTest n) I G a else if k = 3 then R_X6_readSum_28 (PG_X6_readTest n) I G a else if k = 4 then R_X6_readProduct_28 (PG_X6_readTest n) I G a else if k = 5 then R_X6_readValue_28 (PG_X6_readTest n) I G a else if k = 6 then R_X6_readPair_28 (PG_X6_readTest n) I G a else none
theorem PG_X6_readTest_0 (n : Nat) (I : am_I) (G : am_G) (a b : Int32) : PG_X6_readTest (n + 1) 0 I G a b = R_X6_readTest_28 (PG_X6_readTest n) I G a := rfl
theorem PG_X6_readTest_1 (n : Nat) (I : am_I) (G : am_G) (a b : Int32) : PG_X6_readTest (n + 1) 1 I G a b = R_X6_readBoth_28 (PG_X6_readTest n) I G a := rfl
theorem PG_X6_readTest_2 (n : Nat) (I : am_I) (G : am_G) (a b : Int32) : PG_X6_readTest (n + 1) 2 I G a b = R_X6_readSingle_28 (PG_X6_readTest n) I G a := rfl
theorem PG_X6_readTest_3 (n : Nat) (I : am_I) (G : am_G) (a b : Int32) : PG_X6_readTest (n + 1) 3 I G a b = R_X6_readSum_28 (PG_X6_readTest n) I G a := rfl
theorem PG_X6_readTest_4 (n : Nat) (I : am_I) (G : am_G) (a b : Int32) : PG_X6_readTest (n + 1) 4 I G a b = R_X6_readProduct_28 (PG_X6_readTest n) I G a := rfl
theorem PG_X6_readTest_5 (n : Nat) (I : am_I) (G : am_G) (a b : Int32) : PG_X6_readTest (n + 1) 5 I G a b = R_X6_readValue_28 (PG_X6_readTest n) I G a := rfl
theorem PG_X6_readTest_6 (n : Nat) (I : am_I) (G : am_G) (a b : Int32) : PG_X6_readTest (n + 1) 6 I G a b = R_X6_readPair_28 (PG_X6_readTest n) I G a := rfl
set_option maxHeartbeats 4000000 in
theorem cg_X6_readTest (n : Nat) : (∀ (rd : Nat) (I : am_I) (G : am_G) (a : Int32) (out : Unit × am_I × am_G), PG_X6_readTest n 0 I G a (0 : Int32) = some out → am_Ct mX6_readTest (8 + n) gS [.ref 28, .int a] I G (gP rd) (pV out.2.1 out.2.2 (gP rd))) ∧ (∀ (rd : Nat) (I : am_I) (G : am_G) (a : Int32) (out : Unit × am_I × am_G), PG_X6_readTest n 1 I G a (0 : Int32) = some out → am_Ct mX6_readBoth (8 + n) gS [.ref 28, .int a] I G (gP rd) (pV out.2.1 out.2.2 (gP rd))) ∧ (∀ (rd : Nat) (I : am_I) (G : am_G) (a : Int32) (out : Unit × am_I × am_G), PG_X6_readTest n 2 I G a (0 : Int32) = some out → am_Ct mX6_readSingle (8 + n) gS [.ref 28, .int a] I G (gP rd) (pV out.2.1 out.2.2 (gP rd))) ∧ (∀ (rd : Nat) (I : am_I) (G : am_G) (a : Int32) (out : Unit × am_I × am_G), PG_X6_readTest n 3 I G a (0 : Int32) = some out → am_Ct mX6_readSum (8 + n) gS [.ref 28, .int a] I G (gP rd) (pV out.2.1 out.2.2 (gP rd))) ∧ (∀ (rd : Nat) (I : am_I) (G : am_G) (a : Int32) (out : Unit × am_I × am_G), PG_X6_readTest n 4 I G a (0 : Int32) = some out → am_Ct mX6_readProduct (8 + n) gS [.ref 28, .int a] I G (gP rd) (pV out.2.1 out.2.2 (gP rd))) ∧ (∀ (rd : Nat) (I : am_I) (G : am_G) (a : Int32) (out : Unit × am_I × am_G), PG_X6_readTest n 5 I G a (0 : Int32) = some out → am_Ct mX6_readValue (8 + n) gS [.ref 28, .int a] I G (gP rd) (pV out.2.1 out.2.2 (gP rd))) ∧ (∀ (rd : Nat) (I : am_I) (G : am_G) (a : Int32) (out : Unit × am_I × am_G), PG_X6_readTest n 6 I G a (0 : Int32) = some out → am_Ct mX6_readPair (8 + n) gS [.ref 28, .int a] I G (gP rd) (pV out.2.1 out.2.2 (gP rd))) := by
  induction n with
  | zero => refine ⟨?_, ?_, ?_, ?_, ?_, ?_, ?_⟩ <;> (intros; rename_i h; cases h)
  | succ n ih =>
    obtain ⟨h0, h1, h2, h3, h4, h5, h6⟩ := ih
    refine ⟨?_, ?_, ?_, ?_, ?_, ?_, ?_⟩
    · intro rd I G a out h; rw [PG_X6_readTest_0] at h; exact c_X6_readTest_28 h0 h1 h2 h3 h4 h5 h6  rd I G a h
    · intro rd I G a out h; rw [PG_X6_readTest_1] at h; exact c_X6_readBoth_28 h0 h1 h2 h3 h4 h5 h6  rd I G a h
    · intro rd I G a out h; rw [PG_X6_readTest_2] at h; exact c_X6_readSingle_28 h0 h1 h2 h3 h4 h5 h6  rd I G a h
    · intro rd I G a out h; rw [PG_X6_readTest_3] at h; exact c_X6_readSum_28 h0 h1 h2 h3 h4 h5 h6  rd I G a h
    · intro rd I G a out h; rw [PG_X6_readTest_4] at h; exact c_X6_readProduct_28 h0 h1 h2 h3 h4 h5 h6  rd I G a h
    · intro rd I G a out h; rw [PG_X6_readTest_5] at h; exact c_X6_readValue_28 h0 h1 h2 h3 h4 h5 h6  rd I G a h
    · intro rd I G a out h; rw [PG_X6_readTest_6] at h; exact c_X6_readPair_28 h0 h1 h2 h3 h4 h5 h6  rd I G a h

noncomputable def L_X4_find_60_58 (n0 : Nat) (hd : Nat) (I : am_I) (G : am_G) (v2 : Int32) (v3 : Int32) (v4 : Int32) (v5 : Int32) : Option (Unit × am_I × am_G) := match n0 with
  | 0 => none
  | n + 1 => match hd with
    | 0 => (if v4 ≤ v5 then L_X4_find_60_58 n 1 I G v2 v3 v4 (0 : Int32) else L_X4_find_60_58 n 0 (gPut I 61 576 v5 (-1 : Int32)) G v2 v3 v4 (v5 + (1 : Int32)))
    | _ => (if v4 ≤ v5 then some ((), I, G) else (if (gAt (I 58) 576 (f_X4_rightOf I G v5 v2)) = (gAt (I 58) 576 v5) then (if (gAt (I 58) 576 (f_X4_below I G v5 v2 v4)) = (gAt (I 58) 576 v5) then (if 0 ≤ (gAt (I 61) 576 v5) then L_X4_find_60_58 n 1 I G v2 v3 v4 (v5 + (1 : Int32)) else rb (R_X4_spread_60_58 I G v5 v2 v4) (fun r201 I201 G201 => L_X4_find_60_58 n 1 I201 G201 v2 v3 v4 (v5 + (1 : Int32)))) else (if 0 ≤ (gAt ((am_up I 60 5 ((I 60 5) + (1 : Int32))) 61) 576 v5) then L_X4_find_60_58 n 1 (am_up I 60 5 ((I 60 5) + (1 : Int32))) G v2 v3 v4 (v5 + (1 : Int32)) else rb (R_X4_spread_60_58 (am_up I 60 5 ((I 60 5) + (1 : Int32))) G v5 v2 v4) (fun r202 I202 G202 => L_X4_find_60_58 n 1 I202 G202 v2 v3 v4 (v5 + (1 : Int32))))) else (if (gAt ((am_up I 60 5 ((I 60 5) + (1 : Int32))) 58) 576 (f_X4_below (am_up I 60 5 ((I 60 5) + (1 : Int32))) G v5 v2 v4)) = (gAt (I 58) 576 v5) then (if 0 ≤ (gAt ((am_up I 60 5 ((I 60 5) + (1 : Int32))) 61) 576 v5) then L_X4_find_60_58 n 1 (am_up I 60 5 ((I 60 5) + (1 : Int32))) G v2 v3 v4 (v5 + (1 : Int32)) else rb (R_X4_spread_60_58 (am_up I 60 5 ((I 60 5) + (1 : Int32))) G v5 v2 v4) (fun r203 I203 G203 => L_X4_find_60_58 n 1 I203 G203 v2 v3 v4 (v5 + (1 : Int32)))) else (if 0 ≤ (gAt ((am_up (am_up I 60 5 ((I 60 5) + (1 : Int32))) 60 5 (((I 60 5) + (1 : Int32)) + (1 : Int32))) 61) 576 v5) then L_X4_find_60_58 n 1 (am_up (am_up I 60 5 ((I 60 5) + (1 : Int32))) 60 5 (((I 60 5) + (1 : Int32)) + (1 : Int32))) G v2 v3 v4 (v5 + (1 : Int32)) else rb (R_X4_spread_60_58 (am_up (am_up I 60 5 ((I 60 5) + (1 : Int32))) 60 5 (((I 60 5) + (1 : Int32)) + (1 : Int32))) G v5 v2 v4) (fun r204 I204 G204 => L_X4_find_60_58 n 1 I204 G204 v2 v3 v4 (v5 + (1 : Int32)))))))
theorem L_X4_find_60_58_0 (n : Nat) (I : am_I) (G : am_G) (v2 : Int32) (v3 : Int32) (v4 : Int32) (v5 : Int32) : L_X4_find_60_58 (n + 1) 0 I G v2 v3 v4 v5 = (if v4 ≤ v5 then L_X4_find_60_58 n 1 I G v2 v3 v4 (0 : Int32) else L_X4_find_60_58 n 0 (gPut I 61 576 v5 (-1 : Int32)) G v2 v3 v4 (v5 + (1 : Int32))) := rfl
theorem L_X4_find_60_58_1 (n : Nat) (I : am_I) (G : am_G) (v2 : Int32) (v3 : Int32) (v4 : Int32) (v5 : Int32) : L_X4_find_60_58 (n + 1) 1 I G v2 v3 v4 v5 = (if v4 ≤ v5 then some ((), I, G) else (if (gAt (I 58) 576 (f_X4_rightOf I G v5 v2)) = (gAt (I 58) 576 v5) then (if (gAt (I 58) 576 (f_X4_below I G v5 v2 v4)) = (gAt (I 58) 576 v5) then (if 0 ≤ (gAt (I 61) 576 v5) then L_X4_find_60_58 n 1 I G v2 v3 v4 (v5 + (1 : Int32)) else rb (R_X4_spread_60_58 I G v5 v2 v4) (fun r201 I201 G201 => L_X4_find_60_58 n 1 I201 G201 v2 v3 v4 (v5 + (1 : Int32)))) else (if 0 ≤ (gAt ((am_up I 60 5 ((I 60 5) + (1 : Int32))) 61) 576 v5) then L_X4_find_60_58 n 1 (am_up I 60 5 ((I 60 5) + (1 : Int32))) G v2 v3 v4 (v5 + (1 : Int32)) else rb (R_X4_spread_60_58 (am_up I 60 5 ((I 60 5) + (1 : Int32))) G v5 v2 v4) (fun r202 I202 G202 => L_X4_find_60_58 n 1 I202 G202 v2 v3 v4 (v5 + (1 : Int32))))) else (if (gAt ((am_up I 60 5 ((I 60 5) + (1 : Int32))) 58) 576 (f_X4_below (am_up I 60 5 ((I 60 5) + (1 : Int32))) G v5 v2 v4)) = (gAt (I 58) 576 v5) then (if 0 ≤ (gAt ((am_up I 60 5 ((I 60 5) + (1 : Int32))) 61) 576 v5) then L_X4_find_60_58 n 1 (am_up I 60 5 ((I 60 5) + (1 : Int32))) G v2 v3 v4 (v5 + (1 : Int32)) else rb (R_X4_spread_60_58 (am_up I 60 5 ((I 60 5) + (1 : Int32))) G v5 v2 v4) (fun r203 I203 G203 => L_X4_find_60_58 n 1 I203 G203 v2 v3 v4 (v5 + (1 : Int32)))) else (if 0 ≤ (gAt ((am_up (am_up I 60 5 ((I 60 5) + (1 : Int32))) 60 5 (((I 60 5) + (1 : Int32)) + (1 : Int32))) 61) 576 v5) then L_X4_find_60_58 n 1 (am_up (am_up I 60 5 ((I 60 5) + (1 : Int32))) 60 5 (((I 60 5) + (1 : Int32)) + (1 : Int32))) G v2 v3 v4 (v5 + (1 : Int32)) else rb (R_X4_spread_60_58 (am_up (am_up I 60 5 ((I 60 5) + (1 : Int32))) 60 5 (((I 60 5) + (1 : Int32)) + (1 : Int32))) G v5 v2 v4) (fun r204 I204 G204 => L_X4_find_60_58 n 1 I204 G204 v2 v3 v4 (v5 + (1 : Int32))))))) := rfl
theorem L_X4_find_60_58_z (h : Nat) (I : am_I) (G : am_G) (v2 : Int32) (v3 : Int32) (v4 : Int32) (v5 : Int32) : L_X4_find_60_58 0 h I G v2 v3 v4 v5 = none := rfl
noncomputable def R_X4_find_60_58 (I : am_I) (G : am_G) (x1 : Int32) (x2 : Int32) : Option (Unit × am_I × am_G) := L_X4_find_60_58 FU 0 (am_up (am_up I 60 4 (0 : Int32)) 60 5 (0 : Int32)) G x1 x2 (x1 * x2) (0 : Int32)
set_option maxRecDepth 20000 in
set_option maxHeartbeats 4000000 in
theorem l_X4_find_60_58 (rd : Nat) {X : am_X} {ad : Nat → Nat} (hX : am_okz X ad) (hi : am_info X 4 cX4_find 7 false none 5) (n : Nat) : (∀ (I : am_I) (G : am_G) (v2 : Int32) (v3 : Int32) (v4 : Int32) (v5 : Int32) (out : Unit × am_I × am_G), L_X4_find_60_58 n 0 I G v2 v3 v4 v5 = some out → am_V X 0 0 (am_Rt X gS ad (pV out.2.1 out.2.2 (gP rd))) gS ad (18, [(0, .ref 60), (1, .ref 58), (2, .int v2), (3, .int v3), (4, .int v4), (5, .int v5)], [], I, G, (gP rd))) ∧ (∀ (I : am_I) (G : am_G) (v2 : Int32) (v3 : Int32) (v4 : Int32) (v5 : Int32) (out : Unit × am_I × am_G), L_X4_find_60_58 n 1 I G v2 v3 v4 v5 = some out → am_V X 0 0 (am_Rt X gS ad (pV out.2.1 out.2.2 (gP rd))) gS ad (44, [(0, .ref 60), (1, .ref 58), (2, .int v2), (3, .int v3), (4, .int v4), (5, .int v5)], [], I, G, (gP rd))) := by
  induction n with
  | zero => exact ⟨(fun I G v2 v3 v4 v5 out h => by rw [L_X4_find_60_58_z] at h; cases h), (fun I G v2 v3 v4 v5 out h => by rw [L_X4_find_60_58_z] at h; cases h)⟩
  | succ n ih =>
    refine ⟨?_, ?_⟩
    · intro I G v2 v3 v4 v5 out h
      rw [L_X4_find_60_58_0] at h
      refine am_blk 18 [(.iload 5, 2, 5, 0, .null), (.iload 4, 2, 4, 0, .null)] (22, [(0, .ref 60), (1, .ref 58), (2, .int v2), (3, .int v3), (4, .int v4), (5, .int v5)], [.int v4, .int v5], I, G, (gP rd)) (True) hX hi (by decide +kernel) rfl trivial ?_
      refine am_icmp_ge (tgt := 41) hX hi (off := (19)) (by decide +kernel) (by decide) (fun c22 => ?_) (fun c22 => ?_)
      · rw [if_pos c22] at h
        refine am_blk 41 [(.iconst (0), 1, 0, 0, .int (0 : Int32)), (.istore 5, 2, 5, 0, .null)] (44, [(0, .ref 60), (1, .ref 58), (2, .int v2), (3, .int v3), (4, .int v4), (5, .int (0 : Int32))], [], I, G, (gP rd)) (True) hX hi (by decide +kernel) rfl trivial ?_
        exact ih.2 _ _ _ _ _ _ _ h
      · rw [if_neg c22] at h
        refine am_blk 25 [(.aload_n 0, 1, 0, 0, .null), (.getfield 9, 3, 4, 0, .null), (.iload 5, 2, 5, 0, .null), (.iconst (-1), 1, 0, 0, .int (-1 : Int32))] (32, [(0, .ref 60), (1, .ref 58), (2, .int v2), (3, .int v3), (4, .int v4), (5, .int v5)], [.int (-1 : Int32), .int v5, .ref 61], I, G, (gP rd)) (True) hX hi (by decide +kernel) rfl trivial ?_
        refine am_callS hX hi (M := mX0_put) (idx := 28) (d' := 1) (As := [.ref 61, .int v5, .int (-1 : Int32)]) (rest := []) mkX0_put msX0_put (by decide +kernel) (by decide +kernel) rfl ⟨by omega, by decide, Nat.le_of_ble_eq_true rfl⟩ rfl (c_put rfl (by decide) v5 (-1 : Int32)) ?_
        rintro r9 I9 G9 P9 ⟨e0, e1, e2, e3⟩
        rw [e0, e1, e2, e3]
        show am_V X 0 0 _ _ ad (35, [(0, .ref 60), (1, .ref 58), (2, .int v2), (3, .int v3), (4, .int v4), (5, .int v5)], [], (gPut I 61 576 v5 (-1 : Int32)), G, (gP rd))
        refine am_blk 35 [(.iinc 5 (1), 3, 5, 0, .int (1 : Int32)), (.goto (-20), 3, 0, 18, .null)] (18, [(0, .ref 60), (1, .ref 58), (2, .int v2), (3, .int v3), (4, .int v4), (5, .int (v5 + (1 : Int32)))], [], (gPut I 61 576 v5 (-1 : Int32)), G, (gP rd)) (True) hX hi (by decide +kernel) rfl trivial ?_
        exact ih.1 _ _ _ _ _ _ _ h
    · intro I G v2 v3 v4 v5 out h
      rw [L_X4_find_60_58_1] at h
      refine am_blk 44 [(.iload 5, 2, 5, 0, .null), (.iload 4, 2, 4, 0, .null)] (48, [(0, .ref 60), (1, .ref 58), (2, .int v2), (3, .int v3), (4, .int v4), (5, .int v5)], [.int v4, .int v5], I, G, (gP rd)) (True) hX hi (by decide +kernel) rfl trivial ?_
      refine am_icmp_ge (tgt := 139) hX hi (off := (91)) (by decide +kernel) (by decide) (fun c48 => ?_) (fun c48 => ?_)
      · rw [if_pos c48] at h
        cases h
        refine am_vret hX hi rfl (by decide +kernel) ?_
        exact ⟨rfl, rfl, rfl, rfl⟩
      · rw [if_neg c48] at h
        refine am_blk 51 [(.aload_n 1, 1, 1, 0, .null), (.iload 5, 2, 5, 0, .null)] (54, [(0, .ref 60), (1, .ref 58), (2, .int v2), (3, .int v3), (4, .int v4), (5, .int v5)], [.int v5, .ref 58], I, G, (gP rd)) (True) hX hi (by decide +kernel) rfl trivial ?_
        refine am_callS hX hi (M := mX0_at) (idx := 34) (d' := 1) (As := [.ref 58, .int v5]) (rest := []) mkX0_at msX0_at (by decide +kernel) (by decide +kernel) rfl ⟨by omega, by decide, Nat.le_of_ble_eq_true rfl⟩ rfl (c_at rfl (by decide) v5) ?_
        rintro r9 I9 G9 P9 ⟨e0, e1, e2, e3⟩
        rw [e0, e1, e2, e3]
        show am_V X 0 0 _ _ ad (57, [(0, .ref 60), (1, .ref 58), (2, .int v2), (3, .int v3), (4, .int v4), (5, .int v5)], [.int (gAt (I 58) 576 v5)], I, G, (gP rd))
        refine am_blk 57 [(.istore 6, 2, 6, 0, .null), (.aload_n 1, 1, 1, 0, .null), (.iload 5, 2, 5, 0, .null), (.iload_n 2, 1, 2, 0, .null)] (63, [(0, .ref 60), (1, .ref 58), (2, .int v2), (3, .int v3), (4, .int v4), (5, .int v5), (6, .int (gAt (I 58) 576 v5))], [.int v2, .int v5, .ref 58], I, G, (gP rd)) (True) hX hi (by decide +kernel) rfl trivial ?_
        refine am_callS hX hi (M := mX4_rightOf) (idx := 38) (d' := 1) (As := [.int v5, .int v2]) (rest := [.ref 58]) mkX4_rightOf msX4_rightOf (by decide +kernel) (by decide +kernel) rfl ⟨by omega, by decide, Nat.le_of_ble_eq_true rfl⟩ rfl (c_X4_rightOf I G v5 v2) ?_
        rintro r9 I9 G9 P9 ⟨e0, e1, e2, e3⟩
        rw [e0, e1, e2, e3]
        show am_V X 0 0 _ _ ad (66, [(0, .ref 60), (1, .ref 58), (2, .int v2), (3, .int v3), (4, .int v4), (5, .int v5), (6, .int (gAt (I 58) 576 v5))], [.int (f_X4_rightOf I G v5 v2), .ref 58], I, G, (gP rd))
        refine am_callS hX hi (M := mX0_at) (idx := 34) (d' := 1) (As := [.ref 58, .int (f_X4_rightOf I G v5 v2)]) (rest := []) mkX0_at msX0_at (by decide +kernel) (by decide +kernel) rfl ⟨by omega, by decide, Nat.le_of_ble_eq_true rfl⟩ rfl (c_at rfl (by decide) (f_X4_rightOf I G v5 v2)) ?_
        rintro r9 I9 G9 P9 ⟨e0, e1, e2, e3⟩
        rw [e0, e1, e2, e3]
        show am_V X 0 0 _ _ ad (69, [(0, .ref 60), (1, .ref 58), (2, .int v2), (3, .int v3), (4, .int v4), (5, .int v5), (6, .int (gAt (I 58) 576 v5))], [.int (gAt (I 58) 576 (f_X4_rightOf I G v5 v2))], I, G, (gP rd))
        refine am_blk 69 [(.iload 6, 2, 6, 0, .null)] (71, [(0, .ref 60), (1, .ref 58), (2, .int v2), (3, .int v3), (4, .int v4), (5, .int v5), (6, .int (gAt (I 58) 576 v5))], [.int (gAt (I 58) 576 v5), .int (gAt (I 58) 576 (f_X4_rightOf I G v5 v2))], I, G, (gP rd)) (True) hX hi (by decide +kernel) rfl trivial ?_
        refine am_icmp_eq (tgt := 84) hX hi (off := (13)) (by decide +kernel) (by decide) (fun c71 => ?_) (fun c71 => ?_)
        · rw [if_pos c71] at h
          refine am_blk 84 [(.aload_n 1, 1, 1, 0, .null), (.iload 5, 2, 5, 0, .null), (.iload_n 2, 1, 2, 0, .null), (.iload 4, 2, 4, 0, .null)] (90, [(0, .ref 60), (1, .ref 58), (2, .int v2), (3, .int v3), (4, .int v4), (5, .int v5), (6, .int (gAt (I 58) 576 v5))], [.int v4, .int v2, .int v5, .ref 58], I, G, (gP rd)) (True) hX hi (by decide +kernel) rfl trivial ?_
          refine am_callS hX hi (M := mX4_below) (idx := 42) (d' := 1) (As := [.int v5, .int v2, .int v4]) (rest := [.ref 58]) mkX4_below msX4_below (by decide +kernel) (by decide +kernel) rfl ⟨by omega, by decide, Nat.le_of_ble_eq_true rfl⟩ rfl (c_X4_below I G v5 v2 v4) ?_
          rintro r9 I9 G9 P9 ⟨e0, e1, e2, e3⟩
          rw [e0, e1, e2, e3]
          show am_V X 0 0 _ _ ad (93, [(0, .ref 60), (1, .ref 58), (2, .int v2), (3, .int v3), (4, .int v4), (5, .int v5), (6, .int (gAt (I 58) 576 v5))], [.int (f_X4_below I G v5 v2 v4), .ref 58], I, G, (gP rd))
          refine am_callS hX hi (M := mX0_at) (idx := 34) (d' := 1) (As := [.ref 58, .int (f_X4_below I G v5 v2 v4)]) (rest := []) mkX0_at msX0_at (by decide +kernel) (by decide +kernel) rfl ⟨by omega, by decide, Nat.le_of_ble_eq_true rfl⟩ rfl (c_at rfl (by decide) (f_X4_below I G v5 v2 v4)) ?_
          rintro r9 I9 G9 P9 ⟨e0, e1, e2, e3⟩
          rw [e0, e1, e2, e3]
          show am_V X 0 0 _ _ ad (96, [(0, .ref 60), (1, .ref 58), (2, .int v2), (3, .int v3), (4, .int v4), (5, .int v5), (6, .int (gAt (I 58) 576 v5))], [.int (gAt (I 58) 576 (f_X4_below I G v5 v2 v4))], I, G, (gP rd))
          refine am_blk 96 [(.iload 6, 2, 6, 0, .null)] (98, [(0, .ref 60), (1, .ref 58), (2, .int v2), (3, .int v3), (4, .int v4), (5, .int v5), (6, .int (gAt (I 58) 576 v5))], [.int (gAt (I 58) 576 v5), .int (gAt (I 58) 576 (f_X4_below I G v5 v2 v4))], I, G, (gP rd)) (True) hX hi (by decide +kernel) rfl trivial ?_
          refine am_icmp_eq (tgt := 111) hX hi (off := (13)) (by decide +kernel) (by decide) (fun c98 => ?_) (fun c98 => ?_)
          · rw [if_pos c98] at h
            refine am_blk 111 [(.aload_n 0, 1, 0, 0, .null), (.getfield 9, 3, 4, 0, .null), (.iload 5, 2, 5, 0, .null)] (117, [(0, .ref 60), (1, .ref 58), (2, .int v2), (3, .int v3), (4, .int v4), (5, .int v5), (6, .int (gAt (I 58) 576 v5))], [.int v5, .ref 61], I, G, (gP rd)) (True) hX hi (by decide +kernel) rfl trivial ?_
            refine am_callS hX hi (M := mX0_at) (idx := 34) (d' := 1) (As := [.ref 61, .int v5]) (rest := []) mkX0_at msX0_at (by decide +kernel) (by decide +kernel) rfl ⟨by omega, by decide, Nat.le_of_ble_eq_true rfl⟩ rfl (c_at rfl (by decide) v5) ?_
            rintro r9 I9 G9 P9 ⟨e0, e1, e2, e3⟩
            rw [e0, e1, e2, e3]
            show am_V X 0 0 _ _ ad (120, [(0, .ref 60), (1, .ref 58), (2, .int v2), (3, .int v3), (4, .int v4), (5, .int v5), (6, .int (gAt (I 58) 576 v5))], [.int (gAt (I 61) 576 v5)], I, G, (gP rd))
            refine am_if_ge (tgt := 133) hX hi (off := (13)) (by decide +kernel) (by decide) (fun c120 => ?_) (fun c120 => ?_)
            · rw [if_pos c120] at h
              refine am_blk 133 [(.iinc 5 (1), 3, 5, 0, .int (1 : Int32)), (.goto (-92), 3, 0, 44, .null)] (44, [(0, .ref 60), (1, .ref 58), (2, .int v2), (3, .int v3), (4, .int v4), (5, .int (v5 + (1 : Int32))), (6, .int (gAt (I 58) 576 v5))], [], I, G, (gP rd)) (True) hX hi (by decide +kernel) rfl trivial ?_
              refine am_sub (L' := [(0, .ref 60), (1, .ref 58), (2, .int v2), (3, .int v3), (4, .int v4), (5, .int (v5 + (1 : Int32)))]) (by simp) ?_
              exact ih.2 _ _ _ _ _ _ _ h
            · rw [if_neg c120] at h
              refine am_blk 123 [(.aload_n 0, 1, 0, 0, .null), (.aload_n 1, 1, 1, 0, .null), (.iload 5, 2, 5, 0, .null), (.iload_n 2, 1, 2, 0, .null), (.iload 4, 2, 4, 0, .null)] (130, [(0, .ref 60), (1, .ref 58), (2, .int v2), (3, .int v3), (4, .int v4), (5, .int v5), (6, .int (gAt (I 58) 576 v5))], [.int v4, .int v2, .int v5, .ref 58, .ref 60], I, G, (gP rd)) (True) hX hi (by decide +kernel) rfl trivial ?_
              obtain ⟨r201, I201, G201, hc, h⟩ := rb_some h
              refine am_callV2 hX hi (M := mX4_spread) (idx := 46) (d' := 3) (b := 60) (ci := 4) (As := [.ref 58, .int v5, .int v2, .int v4]) (rest := []) mkX4_spread miX4_spread mvX4_spread (by decide +kernel) (by decide +kernel) rfl (by decide +kernel) rfl ⟨by omega, by (show 19 + 12 + 30 * _ ≤ 30 * _; omega), Nat.le_of_ble_eq_true rfl⟩ rfl (c_X4_spread_60_58 _ I G v5 v2 v4 hc) ?_
              rintro r9 I9 G9 P9 ⟨e0, e1, e2, e3⟩
              rw [e0, e1, e2, e3]
              show am_V X 0 0 _ _ ad (133, [(0, .ref 60), (1, .ref 58), (2, .int v2), (3, .int v3), (4, .int v4), (5, .int v5), (6, .int (gAt (I 58) 576 v5))], [], I201, G201, (gP rd))
              refine am_blk 133 [(.iinc 5 (1), 3, 5, 0, .int (1 : Int32)), (.goto (-92), 3, 0, 44, .null)] (44, [(0, .ref 60), (1, .ref 58), (2, .int v2), (3, .int v3), (4, .int v4), (5, .int (v5 + (1 : Int32))), (6, .int (gAt (I 58) 576 v5))], [], I201, G201, (gP rd)) (True) hX hi (by decide +kernel) rfl trivial ?_
              refine am_sub (L' := [(0, .ref 60), (1, .ref 58), (2, .int v2), (3, .int v3), (4, .int v4), (5, .int (v5 + (1 : Int32)))]) (by simp) ?_
              exact ih.2 _ _ _ _ _ _ _ h
          · rw [if_neg c98] at h
            refine am_blk 101 [(.aload_n 0, 1, 0, 0, .null), (.dup, 1, 0, 0, .null), (.getfield 25, 3, 4, 5, .null), (.iconst (1), 1, 0, 0, .int (1 : Int32)), (.iadd, 1, 0, 0, .null), (.putfield 25, 3, 4, 5, .null), (.aload_n 0, 1, 0, 0, .null), (.getfield 9, 3, 4, 0, .null), (.iload 5, 2, 5, 0, .null)] (117, [(0, .ref 60), (1, .ref 58), (2, .int v2), (3, .int v3), (4, .int v4), (5, .int v5), (6, .int (gAt (I 58) 576 v5))], [.int v5, .ref 61], (am_up I 60 5 ((I 60 5) + (1 : Int32))), G, (gP rd)) (True) hX hi (by decide +kernel) rfl trivial ?_
            refine am_callS hX hi (M := mX0_at) (idx := 34) (d' := 1) (As := [.ref 61, .int v5]) (rest := []) mkX0_at msX0_at (by decide +kernel) (by decide +kernel) rfl ⟨by omega, by decide, Nat.le_of_ble_eq_true rfl⟩ rfl (c_at rfl (by decide) v5) ?_
            rintro r9 I9 G9 P9 ⟨e0, e1, e2, e3⟩
            rw [e0, e1, e2, e3]
            show am_V X 0 0 _ _ ad (120, [(0, .ref 60), (1, .ref 58), (2, .int v2), (3, .int v3), (4, .int v4), (5, .int v5), (6, .int (gAt (I 58) 576 v5))], [.int (gAt ((am_up I 60 5 ((I 60 5) + (1 : Int32))) 61) 576 v5)], (am_up I 60 5 ((I 60 5) + (1 : Int32))), G, (gP rd))
            refine am_if_ge (tgt := 133) hX hi (off := (13)) (by decide +kernel) (by decide) (fun c120 => ?_) (fun c120 => ?_)
            · rw [if_pos c120] at h
              refine am_blk 133 [(.iinc 5 (1), 3, 5, 0, .int (1 : Int32)), (.goto (-92), 3, 0, 44, .null)] (44, [(0, .ref 60), (1, .ref 58), (2, .int v2), (3, .int v3), (4, .int v4), (5, .int (v5 + (1 : Int32))), (6, .int (gAt (I 58) 576 v5))], [], (am_up I 60 5 ((I 60 5) + (1 : Int32))), G, (gP rd)) (True) hX hi (by decide +kernel) rfl trivial ?_
              refine am_sub (L' := [(0, .ref 60), (1, .ref 58), (2, .int v2), (3, .int v3), (4, .int v4), (5, .int (v5 + (1 : Int32)))]) (by simp) ?_
              exact ih.2 _ _ _ _ _ _ _ h
            · rw [if_neg c120] at h
              refine am_blk 123 [(.aload_n 0, 1, 0, 0, .null), (.aload_n 1, 1, 1, 0, .null), (.iload 5, 2, 5, 0, .null), (.iload_n 2, 1, 2, 0, .null), (.iload 4, 2, 4, 0, .null)] (130, [(0, .ref 60), (1, .ref 58), (2, .int v2), (3, .int v3), (4, .int v4), (5, .int v5), (6, .int (gAt (I 58) 576 v5))], [.int v4, .int v2, .int v5, .ref 58, .ref 60], (am_up I 60 5 ((I 60 5) + (1 : Int32))), G, (gP rd)) (True) hX hi (by decide +kernel) rfl trivial ?_
              obtain ⟨r202, I202, G202, hc, h⟩ := rb_some h
              refine am_callV2 hX hi (M := mX4_spread) (idx := 46) (d' := 3) (b := 60) (ci := 4) (As := [.ref 58, .int v5, .int v2, .int v4]) (rest := []) mkX4_spread miX4_spread mvX4_spread (by decide +kernel) (by decide +kernel) rfl (by decide +kernel) rfl ⟨by omega, by (show 19 + 12 + 30 * _ ≤ 30 * _; omega), Nat.le_of_ble_eq_true rfl⟩ rfl (c_X4_spread_60_58 _ (am_up I 60 5 ((I 60 5) + (1 : Int32))) G v5 v2 v4 hc) ?_
              rintro r9 I9 G9 P9 ⟨e0, e1, e2, e3⟩
              rw [e0, e1, e2, e3]
              show am_V X 0 0 _ _ ad (133, [(0, .ref 60), (1, .ref 58), (2, .int v2), (3, .int v3), (4, .int v4), (5, .int v5), (6, .int (gAt (I 58) 576 v5))], [], I202, G202, (gP rd))
              refine am_blk 133 [(.iinc 5 (1), 3, 5, 0, .int (1 : Int32)), (.goto (-92), 3, 0, 44, .null)] (44, [(0, .ref 60), (1, .ref 58), (2, .int v2), (3, .int v3), (4, .int v4), (5, .int (v5 + (1 : Int32))), (6, .int (gAt (I 58) 576 v5))], [], I202, G202, (gP rd)) (True) hX hi (by decide +kernel) rfl trivial ?_
              refine am_sub (L' := [(0, .ref 60), (1, .ref 58), (2, .int v2), (3, .int v3), (4, .int v4), (5, .int (v5 + (1 : Int32)))]) (by simp) ?_
              exact ih.2 _ _ _ _ _ _ _ h
        · rw [if_neg c71] at h
          refine am_blk 74 [(.aload_n 0, 1, 0, 0, .null), (.dup, 1, 0, 0, .null), (.getfield 25, 3, 4, 5, .null), (.iconst (1), 1, 0, 0, .int (1 : Int32)), (.iadd, 1, 0, 0, .null), (.putfield 25, 3, 4, 5, .null), (.aload_n 1, 1, 1, 0, .null), (.iload 5, 2, 5, 0, .null), (.iload_n 2, 1, 2, 0, .null), (.iload 4, 2, 4, 0, .null)] (90, [(0, .ref 60), (1, .ref 58), (2, .int v2), (3, .int v3), (4, .int v4), (5, .int v5), (6, .int (gAt (I 58) 576 v5))], [.int v4, .int v2, .int v5, .ref 58], (am_up I 60 5 ((I 60 5) + (1 : Int32))), G, (gP rd)) (True) hX hi (by decide +kernel) rfl trivial ?_
          refine am_callS hX hi (M := mX4_below) (idx := 42) (d' := 1) (As := [.int v5, .int v2, .int v4]) (rest := [.ref 58]) mkX4_below msX4_below (by decide +kernel) (by decide +kernel) rfl ⟨by omega, by decide, Nat.le_of_ble_eq_true rfl⟩ rfl (c_X4_below (am_up I 60 5 ((I 60 5) + (1 : Int32))) G v5 v2 v4) ?_
          rintro r9 I9 G9 P9 ⟨e0, e1, e2, e3⟩
          rw [e0, e1, e2, e3]
          show am_V X 0 0 _ _ ad (93, [(0, .ref 60), (1, .ref 58), (2, .int v2), (3, .int v3), (4, .int v4), (5, .int v5), (6, .int (gAt (I 58) 576 v5))], [.int (f_X4_below (am_up I 60 5 ((I 60 5) + (1 : Int32))) G v5 v2 v4), .ref 58], (am_up I 60 5 ((I 60 5) + (1 : Int32))), G, (gP rd))
          refine am_callS hX hi (M := mX0_at) (idx := 34) (d' := 1) (As := [.ref 58, .int (f_X4_below (am_up I 60 5 ((I 60 5) + (1 : Int32))) G v5 v2 v4)]) (rest := []) mkX0_at msX0_at (by decide +kernel) (by decide +kernel) rfl ⟨by omega, by decide, Nat.le_of_ble_eq_true rfl⟩ rfl (c_at rfl (by decide) (f_X4_below (am_up I 60 5 ((I 60 5) + (1 : Int32))) G v5 v2 v4)) ?_
          rintro r9 I9 G9 P9 ⟨e0, e1, e2, e3⟩
          rw [e0, e1, e2, e3]
          show am_V X 0 0 _ _ ad (96, [(0, .ref 60), (1, .ref 58), (2, .int v2), (3, .int v3), (4, .int v4), (5, .int v5), (6, .int (gAt (I 58) 576 v5))], [.int (gAt ((am_up I 60 5 ((I 60 5) + (1 : Int32))) 58) 576 (f_X4_below (am_up I 60 5 ((I 60 5) + (1 : Int32))) G v5 v2 v4))], (am_up I 60 5 ((I 60 5) + (1 : Int32))), G, (gP rd))
          refine am_blk 96 [(.iload 6, 2, 6, 0, .null)] (98, [(0, .ref 60), (1, .ref 58), (2, .int v2), (3, .int v3), (4, .int v4), (5, .int v5), (6, .int (gAt (I 58) 576 v5))], [.int (gAt (I 58) 576 v5), .int (gAt ((am_up I 60 5 ((I 60 5) + (1 : Int32))) 58) 576 (f_X4_below (am_up I 60 5 ((I 60 5) + (1 : Int32))) G v5 v2 v4))], (am_up I 60 5 ((I 60 5) + (1 : Int32))), G, (gP rd)) (True) hX hi (by decide +kernel) rfl trivial ?_
          refine am_icmp_eq (tgt := 111) hX hi (off := (13)) (by decide +kernel) (by decide) (fun c98 => ?_) (fun c98 => ?_)
          · rw [if_pos c98] at h
            refine am_blk 111 [(.aload_n 0, 1, 0, 0, .null), (.getfield 9, 3, 4, 0, .null), (.iload 5, 2, 5, 0, .null)] (117, [(0, .ref 60), (1, .ref 58), (2, .int v2), (3, .int v3), (4, .int v4), (5, .int v5), (6, .int (gAt (I 58) 576 v5))], [.int v5, .ref 61], (am_up I 60 5 ((I 60 5) + (1 : Int32))), G, (gP rd)) (True) hX hi (by decide +kernel) rfl trivial ?_
            refine am_callS hX hi (M := mX0_at) (idx := 34) (d' := 1) (As := [.ref 61, .int v5]) (rest := []) mkX0_at msX0_at (by decide +kernel) (by decide +kernel) rfl ⟨by omega, by decide, Nat.le_of_ble_eq_true rfl⟩ rfl (c_at rfl (by decide) v5) ?_
            rintro r9 I9 G9 P9 ⟨e0, e1, e2, e3⟩
            rw [e0, e1, e2, e3]
            show am_V X 0 0 _ _ ad (120, [(0, .ref 60), (1, .ref 58), (2, .int v2), (3, .int v3), (4, .int v4), (5, .int v5), (6, .int (gAt (I 58) 576 v5))], [.int (gAt ((am_up I 60 5 ((I 60 5) + (1 : Int32))) 61) 576 v5)], (am_up I 60 5 ((I 60 5) + (1 : Int32))), G, (gP rd))
            refine am_if_ge (tgt := 133) hX hi (off := (13)) (by decide +kernel) (by decide) (fun c120 => ?_) (fun c120 => ?_)
            · rw [if_pos c120] at h
              refine am_blk 133 [(.iinc 5 (1), 3, 5, 0, .int (1 : Int32)), (.goto (-92), 3, 0, 44, .null)] (44, [(0, .ref 60), (1, .ref 58), (2, .int v2), (3, .int v3), (4, .int v4), (5, .int (v5 + (1 : Int32))), (6, .int (gAt (I 58) 576 v5))], [], (am_up I 60 5 ((I 60 5) + (1 : Int32))), G, (gP rd)) (True) hX hi (by decide +kernel) rfl trivial ?_
              refine am_sub (L' := [(0, .ref 60), (1, .ref 58), (2, .int v2), (3, .int v3), (4, .int v4), (5, .int (v5 + (1 : Int32)))]) (by simp) ?_
              exact ih.2 _ _ _ _ _ _ _ h
            · rw [if_neg c120] at h
              refine am_blk 123 [(.aload_n 0, 1, 0, 0, .null), (.aload_n 1, 1, 1, 0, .null), (.iload 5, 2, 5, 0, .null), (.iload_n 2, 1, 2, 0, .null), (.iload 4, 2, 4, 0, .null)] (130, [(0, .ref 60), (1, .ref 58), (2, .int v2), (3, .int v3), (4, .int v4), (5, .int v5), (6, .int (gAt (I 58) 576 v5))], [.int v4, .int v2, .int v5, .ref 58, .ref 60], (am_up I 60 5 ((I 60 5) + (1 : Int32))), G, (gP rd)) (True) hX hi (by decide +kernel) rfl trivial ?_
              obtain ⟨r203, I203, G203, hc, h⟩ := rb_some h
              refine am_callV2 hX hi (M := mX4_spread) (idx := 46) (d' := 3) (b := 60) (ci := 4) (As := [.ref 58, .int v5, .int v2, .int v4]) (rest := []) mkX4_spread miX4_spread mvX4_spread (by decide +kernel) (by decide +kernel) rfl (by decide +kernel) rfl ⟨by omega, by (show 19 + 12 + 30 * _ ≤ 30 * _; omega), Nat.le_of_ble_eq_true rfl⟩ rfl (c_X4_spread_60_58 _ (am_up I 60 5 ((I 60 5) + (1 : Int32))) G v5 v2 v4 hc) ?_
              rintro r9 I9 G9 P9 ⟨e0, e1, e2, e3⟩
              rw [e0, e1, e2, e3]
              show am_V X 0 0 _ _ ad (133, [(0, .ref 60), (1, .ref 58), (2, .int v2), (3, .int v3), (4, .int v4), (5, .int v5), (6, .int (gAt (I 58) 576 v5))], [], I203, G203, (gP rd))
              refine am_blk 133 [(.iinc 5 (1), 3, 5, 0, .int (1 : Int32)), (.goto (-92), 3, 0, 44, .null)] (44, [(0, .ref 60), (1, .ref 58), (2, .int v2), (3, .int v3), (4, .int v4), (5, .int (v5 + (1 : Int32))), (6, .int (gAt (I 58) 576 v5))], [], I203, G203, (gP rd)) (True) hX hi (by decide +kernel) rfl trivial ?_
              refine am_sub (L' := [(0, .ref 60), (1, .ref 58), (2, .int v2), (3, .int v3), (4, .int v4), (5, .int (v5 + (1 : Int32)))]) (by simp) ?_
              exact ih.2 _ _ _ _ _ _ _ h
          · rw [if_neg c98] at h
            refine am_blk 101 [(.aload_n 0, 1, 0, 0, .null), (.dup, 1, 0, 0, .null), (.getfield 25, 3, 4, 5, .null), (.iconst (1), 1, 0, 0, .int (1 : Int32)), (.iadd, 1, 0, 0, .null), (.putfield 25, 3, 4, 5, .null), (.aload_n 0, 1, 0, 0, .null), (.getfield 9, 3, 4, 0, .null), (.iload 5, 2, 5, 0, .null)] (117, [(0, .ref 60), (1, .ref 58), (2, .int v2), (3, .int v3), (4, .int v4), (5, .int v5), (6, .int (gAt (I 58) 576 v5))], [.int v5, .ref 61], (am_up (am_up I 60 5 ((I 60 5) + (1 : Int32))) 60 5 (((I 60 5) + (1 : Int32)) + (1 : Int32))), G, (gP rd)) (True) hX hi (by decide +kernel) rfl trivial ?_
            refine am_callS hX hi (M := mX0_at) (idx := 34) (d' := 1) (As := [.ref 61, .int v5]) (rest := []) mkX0_at msX0_at (by decide +kernel) (by decide +kernel) rfl ⟨by omega, by decide, Nat.le_of_ble_eq_true rfl⟩ rfl (c_at rfl (by decide) v5) ?_
            rintro r9 I9 G9 P9 ⟨e0, e1, e2, e3⟩
            rw [e0, e1, e2, e3]
            show am_V X 0 0 _ _ ad (120, [(0, .ref 60), (1, .ref 58), (2, .int v2), (3, .int v3), (4, .int v4), (5, .int v5), (6, .int (gAt (I 58) 576 v5))], [.int (gAt ((am_up (am_up I 60 5 ((I 60 5) + (1 : Int32))) 60 5 (((I 60 5) + (1 : Int32)) + (1 : Int32))) 61) 576 v5)], (am_up (am_up I 60 5 ((I 60 5) + (1 : Int32))) 60 5 (((I 60 5) + (1 : Int32)) + (1 : Int32))), G, (gP rd))
            refine am_if_ge (tgt := 133) hX hi (off := (13)) (by decide +kernel) (by decide) (fun c120 => ?_) (fun c120 => ?_)
            · rw [if_pos c120] at h
              refine am_blk 133 [(.iinc 5 (1), 3, 5, 0, .int (1 : Int32)), (.goto (-92), 3, 0, 44, .null)] (44, [(0, .ref 60), (1, .ref 58), (2, .int v2), (3, .int v3), (4, .int v4), (5, .int (v5 + (1 : Int32))), (6, .int (gAt (I 58) 576 v5))], [], (am_up (am_up I 60 5 ((I 60 5) + (1 : Int32))) 60 5 (((I 60 5) + (1 : Int32)) + (1 : Int32))), G, (gP rd)) (True) hX hi (by decide +kernel) rfl trivial ?_
              refine am_sub (L' := [(0, .ref 60), (1, .ref 58), (2, .int v2), (3, .int v3), (4, .int v4), (5, .int (v5 + (1 : Int32)))]) (by simp) ?_
              exact ih.2 _ _ _ _ _ _ _ h
            · rw [if_neg c120] at h
              refine am_blk 123 [(.aload_n 0, 1, 0, 0, .null), (.aload_n 1, 1, 1, 0, .null), (.iload 5, 2, 5, 0, .null), (.iload_n 2, 1, 2, 0, .null), (.iload 4, 2, 4, 0, .null)] (130, [(0, .ref 60), (1, .ref 58), (2, .int v2), (3, .int v3), (4, .int v4), (5, .int v5), (6, .int (gAt (I 58) 576 v5))], [.int v4, .int v2, .int v5, .ref 58, .ref 60], (am_up (am_up I 60 5 ((I 60 5) + (1 : Int32))) 60 5 (((I 60 5) + (1 : Int32)) + (1 : Int32))), G, (gP rd)) (True) hX hi (by decide +kernel) rfl trivial ?_
              obtain ⟨r204, I204, G204, hc, h⟩ := rb_some h
              refine am_callV2 hX hi (M := mX4_spread) (idx := 46) (d' := 3) (b := 60) (ci := 4) (As := [.ref 58, .int v5, .int v2, .int v4]) (rest := []) mkX4_spread miX4_spread mvX4_spread (by decide +kernel) (by decide +kernel) rfl (by decide +kernel) rfl ⟨by omega, by (show 19 + 12 + 30 * _ ≤ 30 * _; omega), Nat.le_of_ble_eq_true rfl⟩ rfl (c_X4_spread_60_58 _ (am_up (am_up I 60 5 ((I 60 5) + (1 : Int32))) 60 5 (((I 60 5) + (1 : Int32)) + (1 : Int32))) G v5 v2 v4 hc) ?_
              rintro r9 I9 G9 P9 ⟨e0, e1, e2, e3⟩
              rw [e0, e1, e2, e3]
              show am_V X 0 0 _ _ ad (133, [(0, .ref 60), (1, .ref 58), (2, .int v2), (3, .int v3), (4, .int v4), (5, .int v5), (6, .int (gAt (I 58) 576 v5))], [], I204, G204, (gP rd))
              refine am_blk 133 [(.iinc 5 (1), 3, 5, 0, .int (1 : Int32)), (.goto (-92), 3, 0, 44, .null)] (44, [(0, .ref 60), (1, .ref 58), (2, .int v2), (3, .int v3), (4, .int v4), (5, .int (v5 + (1 : Int32))), (6, .int (gAt (I 58) 576 v5))], [], I204, G204, (gP rd)) (True) hX hi (by decide +kernel) rfl trivial ?_
              refine am_sub (L' := [(0, .ref 60), (1, .ref 58), (2, .int v2), (3, .int v3), (4, .int v4), (5, .int (v5 + (1 : Int32)))]) (by simp) ?_
              exact ih.2 _ _ _ _ _ _ _ h
set_option maxRecDepth 20000 in
set_option maxHeartbeats 4000000 in
theorem c_X4_find_60_58 (rd : Nat) (I : am_I) (G : am_G) (x1 : Int32) (x2 : Int32) {out : Unit × am_I × am_G} (h : R_X4_find_60_58 I G x1 x2 = some out) : am_Ct mX4_find 5 gS [.ref 60, .ref 58, .int x1, .int x2] I G (gP rd) (pV out.2.1 out.2.2 (gP rd)) := by
  refine am_ofF (by decide +kernel) rfl (by decide) (by omega) (Nat.le_of_ble_eq_true rfl) (fun X ad hX hi => ?_)
  have hi : am_info X 4 cX4_find 7 false none 5 := hi
  show am_V X 0 0 _ _ ad (0, [(0, .ref 60), (1, .ref 58), (2, .int x1), (3, .int x2)], [], I, G, (gP rd))
  unfold R_X4_find_60_58 at h
  refine am_blk 0 [(.iload_n 2, 1, 2, 0, .null), (.iload_n 3, 1, 3, 0, .null), (.imul, 1, 0, 0, .null), (.istore 4, 2, 4, 0, .null), (.aload_n 0, 1, 0, 0, .null), (.iconst (0), 1, 0, 0, .int (0 : Int32)), (.putfield 21, 3, 4, 4, .null), (.aload_n 0, 1, 0, 0, .null), (.iconst (0), 1, 0, 0, .int (0 : Int32)), (.putfield 25, 3, 4, 5, .null), (.iconst (0), 1, 0, 0, .int (0 : Int32)), (.istore 5, 2, 5, 0, .null)] (18, [(0, .ref 60), (1, .ref 58), (2, .int x1), (3, .int x2), (4, .int (x1 * x2)), (5, .int (0 : Int32))], [], (am_up (am_up I 60 4 (0 : Int32)) 60 5 (0 : Int32)), G, (gP rd)) (True) hX hi (by decide +kernel) rfl trivial ?_
  exact (l_X4_find_60_58 rd hX hi FU).1 _ _ _ _ _ _ _ h
