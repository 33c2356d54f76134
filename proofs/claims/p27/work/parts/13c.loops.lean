theorem am_hd132 : (1 : Nat) = 1 := rfl  -- methods with loops, and those that call them, further on
noncomputable def L_X4_find_73_71 (n0 : Nat) (hd : Nat) (I : am_I) (G : am_G) (v2 : Int32) (v3 : Int32) (v4 : Int32) (v5 : Int32) : Option (Unit × am_I × am_G) := match n0 with
  | 0 => none
  | n + 1 => match hd with
    | 0 => (if v4 ≤ v5 then L_X4_find_73_71 n 1 I G v2 v3 v4 (0 : Int32) else L_X4_find_73_71 n 0 (gPut I 74 576 v5 (-1 : Int32)) G v2 v3 v4 (v5 + (1 : Int32)))
    | _ => (if v4 ≤ v5 then some ((), I, G) else (if (gAt (I 71) 576 (f_X4_rightOf I G v5 v2)) = (gAt (I 71) 576 v5) then (if (gAt (I 71) 576 (f_X4_below I G v5 v2 v4)) = (gAt (I 71) 576 v5) then (if 0 ≤ (gAt (I 74) 576 v5) then L_X4_find_73_71 n 1 I G v2 v3 v4 (v5 + (1 : Int32)) else rb (R_X4_spread_73_71 I G v5 v2 v4) (fun r201 I201 G201 => L_X4_find_73_71 n 1 I201 G201 v2 v3 v4 (v5 + (1 : Int32)))) else (if 0 ≤ (gAt ((am_up I 73 5 ((I 73 5) + (1 : Int32))) 74) 576 v5) then L_X4_find_73_71 n 1 (am_up I 73 5 ((I 73 5) + (1 : Int32))) G v2 v3 v4 (v5 + (1 : Int32)) else rb (R_X4_spread_73_71 (am_up I 73 5 ((I 73 5) + (1 : Int32))) G v5 v2 v4) (fun r202 I202 G202 => L_X4_find_73_71 n 1 I202 G202 v2 v3 v4 (v5 + (1 : Int32))))) else (if (gAt ((am_up I 73 5 ((I 73 5) + (1 : Int32))) 71) 576 (f_X4_below (am_up I 73 5 ((I 73 5) + (1 : Int32))) G v5 v2 v4)) = (gAt (I 71) 576 v5) then (if 0 ≤ (gAt ((am_up I 73 5 ((I 73 5) + (1 : Int32))) 74) 576 v5) then L_X4_find_73_71 n 1 (am_up I 73 5 ((I 73 5) + (1 : Int32))) G v2 v3 v4 (v5 + (1 : Int32)) else rb (R_X4_spread_73_71 (am_up I 73 5 ((I 73 5) + (1 : Int32))) G v5 v2 v4) (fun r203 I203 G203 => L_X4_find_73_71 n 1 I203 G203 v2 v3 v4 (v5 + (1 : Int32)))) else (if 0 ≤ (gAt ((am_up (am_up I 73 5 ((I 73 5) + (1 : Int32))) 73 5 (((I 73 5) + (1 : Int32)) + (1 : Int32))) 74) 576 v5) then L_X4_find_73_71 n 1 (am_up (am_up I 73 5 ((I 73 5) + (1 : Int32))) 73 5 (((I 73 5) + (1 : Int32)) + (1 : Int32))) G v2 v3 v4 (v5 + (1 : Int32)) else rb (R_X4_spread_73_71 (am_up (am_up I 73 5 ((I 73 5) + (1 : Int32))) 73 5 (((I 73 5) + (1 : Int32)) + (1 : Int32))) G v5 v2 v4) (fun r204 I204 G204 => L_X4_find_73_71 n 1 I204 G204 v2 v3 v4 (v5 + (1 : Int32)))))))
theorem L_X4_find_73_71_0 (n : Nat) (I : am_I) (G : am_G) (v2 : Int32) (v3 : Int32) (v4 : Int32) (v5 : Int32) : L_X4_find_73_71 (n + 1) 0 I G v2 v3 v4 v5 = (if v4 ≤ v5 then L_X4_find_73_71 n 1 I G v2 v3 v4 (0 : Int32) else L_X4_find_73_71 n 0 (gPut I 74 576 v5 (-1 : Int32)) G v2 v3 v4 (v5 + (1 : Int32))) := rfl
theorem L_X4_find_73_71_1 (n : Nat) (I : am_I) (G : am_G) (v2 : Int32) (v3 : Int32) (v4 : Int32) (v5 : Int32) : L_X4_find_73_71 (n + 1) 1 I G v2 v3 v4 v5 = (if v4 ≤ v5 then some ((), I, G) else (if (gAt (I 71) 576 (f_X4_rightOf I G v5 v2)) = (gAt (I 71) 576 v5) then (if (gAt (I 71) 576 (f_X4_below I G v5 v2 v4)) = (gAt (I 71) 576 v5) then (if 0 ≤ (gAt (I 74) 576 v5) then L_X4_find_73_71 n 1 I G v2 v3 v4 (v5 + (1 : Int32)) else rb (R_X4_spread_73_71 I G v5 v2 v4) (fun r201 I201 G201 => L_X4_find_73_71 n 1 I201 G201 v2 v3 v4 (v5 + (1 : Int32)))) else (if 0 ≤ (gAt ((am_up I 73 5 ((I 73 5) + (1 : Int32))) 74) 576 v5) then L_X4_find_73_71 n 1 (am_up I 73 5 ((I 73 5) + (1 : Int32))) G v2 v3 v4 (v5 + (1 : Int32)) else rb (R_X4_spread_73_71 (am_up I 73 5 ((I 73 5) + (1 : Int32))) G v5 v2 v4) (fun r202 I202 G202 => L_X4_find_73_71 n 1 I202 G202 v2 v3 v4 (v5 + (1 : Int32))))) else (if (gAt ((am_up I 73 5 ((I 73 5) + (1 : Int32))) 71) 576 (f_X4_below (am_up I 73 5 ((I 73 5) + (1 : Int32))) G v5 v2 v4)) = (gAt (I 71) 576 v5) then (if 0 ≤ (gAt ((am_up I 73 5 ((I 73 5) + (1 : Int32))) 74) 576 v5) then L_X4_find_73_71 n 1 (am_up I 73 5 ((I 73 5) + (1 : Int32))) G v2 v3 v4 (v5 + (1 : Int32)) else rb (R_X4_spread_73_71 (am_up I 73 5 ((I 73 5) + (1 : Int32))) G v5 v2 v4) (fun r203 I203 G203 => L_X4_find_73_71 n 1 I203 G203 v2 v3 v4 (v5 + (1 : Int32)))) else (if 0 ≤ (gAt ((am_up (am_up I 73 5 ((I 73 5) + (1 : Int32))) 73 5 (((I 73 5) + (1 : Int32)) + (1 : Int32))) 74) 576 v5) then L_X4_find_73_71 n 1 (am_up (am_up I 73 5 ((I 73 5) + (1 : Int32))) 73 5 (((I 73 5) + (1 : Int32)) + (1 : Int32))) G v2 v3 v4 (v5 + (1 : Int32)) else rb (R_X4_spread_73_71 (am_up (am_up I 73 5 ((I 73 5) + (1 : Int32))) 73 5 (((I 73 5) + (1 : Int32)) + (1 : Int32))) G v5 v2 v4) (fun r204 I204 G204 => L_X4_find_73_71 n 1 I204 G204 v2 v3 v4 (v5 + (1 : Int32))))))) := rfl
theorem L_X4_find_73_71_z (h : Nat) (I : am_I) (G : am_G) (v2 : Int32) (v3 : Int32) (v4 : Int32) (v5 : Int32) : L_X4_find_73_71 0 h I G v2 v3 v4 v5 = none := rfl
noncomputable def R_X4_find_73_71 (I : am_I) (G : am_G) (x1 : Int32) (x2 : Int32) : Option (Unit × am_I × am_G) := L_X4_find_73_71 FU 0 (am_up (am_up I 73 4 (0 : Int32)) 73 5 (0 : Int32)) G x1 x2 (x1 * x2) (0 : Int32)
set_option maxRecDepth 20000 in
set_option maxHeartbeats 4000000 in
theorem l_X4_find_73_71 (rd : Nat) {X : am_X} {ad : Nat → Nat} (hX : am_okz X ad) (hi : am_info X 4 cX4_find 7 false none 5) (n : Nat) : (∀ (I : am_I) (G : am_G) (v2 : Int32) (v3 : Int32) (v4 : Int32) (v5 : Int32) (out : Unit × am_I × am_G), L_X4_find_73_71 n 0 I G v2 v3 v4 v5 = some out → am_V X 0 0 (am_Rt X gS ad (pV out.2.1 out.2.2 (gP rd))) gS ad (18, [(0, .ref 73), (1, .ref 71), (2, .int v2), (3, .int v3), (4, .int v4), (5, .int v5)], [], I, G, (gP rd))) ∧ (∀ (I : am_I) (G : am_G) (v2 : Int32) (v3 : Int32) (v4 : Int32) (v5 : Int32) (out : Unit × am_I × am_G), L_X4_find_73_71 n 1 I G v2 v3 v4 v5 = some out → am_V X 0 0 (am_Rt X gS ad (pV out.2.1 out.2.2 (gP rd))) gS ad (44, [(0, .ref 73), (1, .ref 71), (2, .int v2), (3, .int v3), (4, .int v4), (5, .int v5)], [], I, G, (gP rd))) := by
  induction n with
  | zero => exact ⟨(fun I G v2 v3 v4 v5 out h => by rw [L_X4_find_73_71_z] at h; cases h), (fun I G v2 v3 v4 v5 out h => by rw [L_X4_find_73_71_z] at h; cases h)⟩
  | succ n ih =>
    refine ⟨?_, ?_⟩
    · intro I G v2 v3 v4 v5 out h
      rw [L_X4_find_73_71_0] at h
      refine am_blk 18 [(.iload 5, 2, 5, 0, .null), (.iload 4, 2, 4, 0, .null)] (22, [(0, .ref 73), (1, .ref 71), (2, .int v2), (3, .int v3), (4, .int v4), (5, .int v5)], [.int v4, .int v5], I, G, (gP rd)) (True) hX hi (by decide +kernel) rfl trivial ?_
      refine am_icmp_ge (tgt := 41) hX hi (off := (19)) (by decide +kernel) (by decide) (fun c22 => ?_) (fun c22 => ?_)
      · rw [if_pos c22] at h
        refine am_blk 41 [(.iconst (0), 1, 0, 0, .int (0 : Int32)), (.istore 5, 2, 5, 0, .null)] (44, [(0, .ref 73), (1, .ref 71), (2, .int v2), (3, .int v3), (4, .int v4), (5, .int (0 : Int32))], [], I, G, (gP rd)) (True) hX hi (by decide +kernel) rfl trivial ?_
        exact ih.2 _ _ _ _ _ _ _ h
      · rw [if_neg c22] at h
        refine am_blk 25 [(.aload_n 0, 1, 0, 0, .null), (.getfield 9, 3, 4, 0, .null), (.iload 5, 2, 5, 0, .null), (.iconst (-1), 1, 0, 0, .int (-1 : Int32))] (32, [(0, .ref 73), (1, .ref 71), (2, .int v2), (3, .int v3), (4, .int v4), (5, .int v5)], [.int (-1 : Int32), .int v5, .ref 74], I, G, (gP rd)) (True) hX hi (by decide +kernel) rfl trivial ?_
        refine am_callS hX hi (M := mX0_put) (idx := 28) (d' := 1) (As := [.ref 74, .int v5, .int (-1 : Int32)]) (rest := []) mkX0_put msX0_put (by decide +kernel) (by decide +kernel) rfl ⟨by omega, by decide, Nat.le_of_ble_eq_true rfl⟩ rfl (c_put rfl (by decide) v5 (-1 : Int32)) ?_
        rintro r9 I9 G9 P9 ⟨e0, e1, e2, e3⟩
        rw [e0, e1, e2, e3]
        show am_V X 0 0 _ _ ad (35, [(0, .ref 73), (1, .ref 71), (2, .int v2), (3, .int v3), (4, .int v4), (5, .int v5)], [], (gPut I 74 576 v5 (-1 : Int32)), G, (gP rd))
        refine am_blk 35 [(.iinc 5 (1), 3, 5, 0, .int (1 : Int32)), (.goto (-20), 3, 0, 18, .null)] (18, [(0, .ref 73), (1, .ref 71), (2, .int v2), (3, .int v3), (4, .int v4), (5, .int (v5 + (1 : Int32)))], [], (gPut I 74 576 v5 (-1 : Int32)), G, (gP rd)) (True) hX hi (by decide +kernel) rfl trivial ?_
        exact ih.1 _ _ _ _ _ _ _ h
    · intro I G v2 v3 v4 v5 out h
      rw [L_X4_find_73_71_1] at h
      refine am_blk 44 [(.iload 5, 2, 5, 0, .null), (.iload 4, 2, 4, 0, .null)] (48, [(0, .ref 73), (1, .ref 71), (2, .int v2), (3, .int v3), (4, .int v4), (5, .int v5)], [.int v4, .int v5], I, G, (gP rd)) (True) hX hi (by decide +kernel) rfl trivial ?_
      refine am_icmp_ge (tgt := 139) hX hi (off := (91)) (by decide +kernel) (by decide) (fun c48 => ?_) (fun c48 => ?_)
      · rw [if_pos c48] at h
        cases h
        refine am_vret hX hi rfl (by decide +kernel) ?_
        exact ⟨rfl, rfl, rfl, rfl⟩
      · rw [if_neg c48] at h
        refine am_blk 51 [(.aload_n 1, 1, 1, 0, .null), (.iload 5, 2, 5, 0, .null)] (54, [(0, .ref 73), (1, .ref 71), (2, .int v2), (3, .int v3), (4, .int v4), (5, .int v5)], [.int v5, .ref 71], I, G, (gP rd)) (True) hX hi (by decide +kernel) rfl trivial ?_
        refine am_callS hX hi (M := mX0_at) (idx := 34) (d' := 1) (As := [.ref 71, .int v5]) (rest := []) mkX0_at msX0_at (by decide +kernel) (by decide +kernel) rfl ⟨by omega, by decide, Nat.le_of_ble_eq_true rfl⟩ rfl (c_at rfl (by decide) v5) ?_
        rintro r9 I9 G9 P9 ⟨e0, e1, e2, e3⟩
        rw [e0, e1, e2, e3]
        show am_V X 0 0 _ _ ad (57, [(0, .ref 73), (1, .ref 71), (2, .int v2), (3, .int v3), (4, .int v4), (5, .int v5)], [.int (gAt (I 71) 576 v5)], I, G, (gP rd))
        refine am_blk 57 [(.istore 6, 2, 6, 0, .null), (.aload_n 1, 1, 1, 0, .null), (.iload 5, 2, 5, 0, .null), (.iload_n 2, 1, 2, 0, .null)] (63, [(0, .ref 73), (1, .ref 71), (2, .int v2), (3, .int v3), (4, .int v4), (5, .int v5), (6, .int (gAt (I 71) 576 v5))], [.int v2, .int v5, .ref 71], I, G, (gP rd)) (True) hX hi (by decide +kernel) rfl trivial ?_
        refine am_callS hX hi (M := mX4_rightOf) (idx := 38) (d' := 1) (As := [.int v5, .int v2]) (rest := [.ref 71]) mkX4_rightOf msX4_rightOf (by decide +kernel) (by decide +kernel) rfl ⟨by omega, by decide, Nat.le_of_ble_eq_true rfl⟩ rfl (c_X4_rightOf I G v5 v2) ?_
        rintro r9 I9 G9 P9 ⟨e0, e1, e2, e3⟩
        rw [e0, e1, e2, e3]
        show am_V X 0 0 _ _ ad (66, [(0, .ref 73), (1, .ref 71), (2, .int v2), (3, .int v3), (4, .int v4), (5, .int v5), (6, .int (gAt (I 71) 576 v5))], [.int (f_X4_rightOf I G v5 v2), .ref 71], I, G, (gP rd))
        refine am_callS hX hi (M := mX0_at) (idx := 34) (d' := 1) (As := [.ref 71, .int (f_X4_rightOf I G v5 v2)]) (rest := []) mkX0_at msX0_at (by decide +kernel) (by decide +kernel) rfl ⟨by omega, by decide, Nat.le_of_ble_eq_true rfl⟩ rfl (c_at rfl (by decide) (f_X4_rightOf I G v5 v2)) ?_
        rintro r9 I9 G9 P9 ⟨e0, e1, e2, e3⟩
        rw [e0, e1, e2, e3]
        show am_V X 0 0 _ _ ad (69, [(0, .ref 73), (1, .ref 71), (2, .int v2), (3, .int v3), (4, .int v4), (5, .int v5), (6, .int (gAt (I 71) 576 v5))], [.int (gAt (I 71) 576 (f_X4_rightOf I G v5 v2))], I, G, (gP rd))
        refine am_blk 69 [(.iload 6, 2, 6, 0, .null)] (71, [(0, .ref 73), (1, .ref 71), (2, .int v2), (3, .int v3), (4, .int v4), (5, .int v5), (6, .int (gAt (I 71) 576 v5))], [.int (gAt (I 71) 576 v5), .int (gAt (I 71) 576 (f_X4_rightOf I G v5 v2))], I, G, (gP rd)) (True) hX hi (by decide +kernel) rfl trivial ?_
        refine am_icmp_eq (tgt := 84) hX hi (off := (13)) (by decide +kernel) (by decide) (fun c71 => ?_) (fun c71 => ?_)
        · rw [if_pos c71] at h
          refine am_blk 84 [(.aload_n 1, 1, 1, 0, .null), (.iload 5, 2, 5, 0, .null), (.iload_n 2, 1, 2, 0, .null), (.iload 4, 2, 4, 0, .null)] (90, [(0, .ref 73), (1, .ref 71), (2, .int v2), (3, .int v3), (4, .int v4), (5, .int v5), (6, .int (gAt (I 71) 576 v5))], [.int v4, .int v2, .int v5, .ref 71], I, G, (gP rd)) (True) hX hi (by decide +kernel) rfl trivial ?_
          refine am_callS hX hi (M := mX4_below) (idx := 42) (d' := 1) (As := [.int v5, .int v2, .int v4]) (rest := [.ref 71]) mkX4_below msX4_below (by decide +kernel) (by decide +kernel) rfl ⟨by omega, by decide, Nat.le_of_ble_eq_true rfl⟩ rfl (c_X4_below I G v5 v2 v4) ?_
          rintro r9 I9 G9 P9 ⟨e0, e1, e2, e3⟩
          rw [e0, e1, e2, e3]
          show am_V X 0 0 _ _ ad (93, [(0, .ref 73), (1, .ref 71), (2, .int v2), (3, .int v3), (4, .int v4), (5, .int v5), (6, .int (gAt (I 71) 576 v5))], [.int (f_X4_below I G v5 v2 v4), .ref 71], I, G, (gP rd))
          refine am_callS hX hi (M := mX0_at) (idx := 34) (d' := 1) (As := [.ref 71, .int (f_X4_below I G v5 v2 v4)]) (rest := []) mkX0_at msX0_at (by decide +kernel) (by decide +kernel) rfl ⟨by omega, by decide, Nat.le_of_ble_eq_true rfl⟩ rfl (c_at rfl (by decide) (f_X4_below I G v5 v2 v4)) ?_
          rintro r9 I9 G9 P9 ⟨e0, e1, e2, e3⟩
          rw [e0, e1, e2, e3]
          show am_V X 0 0 _ _ ad (96, [(0, .ref 73), (1, .ref 71), (2, .int v2), (3, .int v3), (4, .int v4), (5, .int v5), (6, .int (gAt (I 71) 576 v5))], [.int (gAt (I 71) 576 (f_X4_below I G v5 v2 v4))], I, G, (gP rd))
          refine am_blk 96 [(.iload 6, 2, 6, 0, .null)] (98, [(0, .ref 73), (1, .ref 71), (2, .int v2), (3, .int v3), (4, .int v4), (5, .int v5), (6, .int (gAt (I 71) 576 v5))], [.int (gAt (I 71) 576 v5), .int (gAt (I 71) 576 (f_X4_below I G v5 v2 v4))], I, G, (gP rd)) (True) hX hi (by decide +kernel) rfl trivial ?_
          refine am_icmp_eq (tgt := 111) hX hi (off := (13)) (by decide +kernel) (by decide) (fun c98 => ?_) (fun c98 => ?_)
          · rw [if_pos c98] at h
            refine am_blk 111 [(.aload_n 0, 1, 0, 0, .null), (.getfield 9, 3, 4, 0, .null), (.iload 5, 2, 5, 0, .null)] (117, [(0, .ref 73), (1, .ref 71), (2, .int v2), (3, .int v3), (4, .int v4), (5, .int v5), (6, .int (gAt (I 71) 576 v5))], [.int v5, .ref 74], I, G, (gP rd)) (True) hX hi (by decide +kernel) rfl trivial ?_
            refine am_callS hX hi (M := mX0_at) (idx := 34) (d' := 1) (As := [.ref 74, .int v5]) (rest := []) mkX0_at msX0_at (by decide +kernel) (by decide +kernel) rfl ⟨by omega, by decide, Nat.le_of_ble_eq_true rfl⟩ rfl (c_at rfl (by decide) v5) ?_
            rintro r9 I9 G9 P9 ⟨e0, e1, e2, e3⟩
            rw [e0, e1, e2, e3]
            show am_V X 0 0 _ _ ad (120, [(0, .ref 73), (1, .ref 71), (2, .int v2), (3, .int v3), (4, .int v4), (5, .int v5), (6, .int (gAt (I 71) 576 v5))], [.int (gAt (I 74) 576 v5)], I, G, (gP rd))
            refine am_if_ge (tgt := 133) hX hi (off := (13)) (by decide +kernel) (by decide) (fun c120 => ?_) (fun c120 => ?_)
            · rw [if_pos c120] at h
              refine am_blk 133 [(.iinc 5 (1), 3, 5, 0, .int (1 : Int32)), (.goto (-92), 3, 0, 44, .null)] (44, [(0, .ref 73), (1, .ref 71), (2, .int v2), (3, .int v3), (4, .int v4), (5, .int (v5 + (1 : Int32))), (6, .int (gAt (I 71) 576 v5))], [], I, G, (gP rd)) (True) hX hi (by decide +kernel) rfl trivial ?_
              refine am_sub (L' := [(0, .ref 73), (1, .ref 71), (2, .int v2), (3, .int v3), (4, .int v4), (5, .int (v5 + (1 : Int32)))]) (by simp) ?_
              exact ih.2 _ _ _ _ _ _ _ h
            · rw [if_neg c120] at h
              refine am_blk 123 [(.aload_n 0, 1, 0, 0, .null), (.aload_n 1, 1, 1, 0, .null), (.iload 5, 2, 5, 0, .null), (.iload_n 2, 1, 2, 0, .null), (.iload 4, 2, 4, 0, .null)] (130, [(0, .ref 73), (1, .ref 71), (2, .int v2), (3, .int v3), (4, .int v4), (5, .int v5), (6, .int (gAt (I 71) 576 v5))], [.int v4, .int v2, .int v5, .ref 71, .ref 73], I, G, (gP rd)) (True) hX hi (by decide +kernel) rfl trivial ?_
              obtain ⟨r201, I201, G201, hc, h⟩ := rb_some h
              refine am_callV2 hX hi (M := mX4_spread) (idx := 46) (d' := 3) (b := 73) (ci := 4) (As := [.ref 71, .int v5, .int v2, .int v4]) (rest := []) mkX4_spread miX4_spread mvX4_spread (by decide +kernel) (by decide +kernel) rfl (by decide +kernel) rfl ⟨by omega, by (show 19 + 12 + 30 * _ ≤ 30 * _; omega), Nat.le_of_ble_eq_true rfl⟩ rfl (c_X4_spread_73_71 _ I G v5 v2 v4 hc) ?_
              rintro r9 I9 G9 P9 ⟨e0, e1, e2, e3⟩
              rw [e0, e1, e2, e3]
              show am_V X 0 0 _ _ ad (133, [(0, .ref 73), (1, .ref 71), (2, .int v2), (3, .int v3), (4, .int v4), (5, .int v5), (6, .int (gAt (I 71) 576 v5))], [], I201, G201, (gP rd))
              refine am_blk 133 [(.iinc 5 (1), 3, 5, 0, .int (1 : Int32)), (.goto (-92), 3, 0, 44, .null)] (44, [(0, .ref 73), (1, .ref 71), (2, .int v2), (3, .int v3), (4, .int v4), (5, .int (v5 + (1 : Int32))), (6, .int (gAt (I 71) 576 v5))], [], I201, G201, (gP rd)) (True) hX hi (by decide +kernel) rfl trivial ?_
              refine am_sub (L' := [(0, .ref 73), (1, .ref 71), (2, .int v2), (3, .int v3), (4, .int v4), (5, .int (v5 + (1 : Int32)))]) (by simp) ?_
              exact ih.2 _ _ _ _ _ _ _ h
          · rw [if_neg c98] at h
            refine am_blk 101 [(.aload_n 0, 1, 0, 0, .null), (.dup, 1, 0, 0, .null), (.getfield 25, 3, 4, 5, .null), (.iconst (1), 1, 0, 0, .int (1 : Int32)), (.iadd, 1, 0, 0, .null), (.putfield 25, 3, 4, 5, .null), (.aload_n 0, 1, 0, 0, .null), (.getfield 9, 3, 4, 0, .null), (.iload 5, 2, 5, 0, .null)] (117, [(0, .ref 73), (1, .ref 71), (2, .int v2), (3, .int v3), (4, .int v4), (5, .int v5), (6, .int (gAt (I 71) 576 v5))], [.int v5, .ref 74], (am_up I 73 5 ((I 73 5) + (1 : Int32))), G, (gP rd)) (True) hX hi (by decide +kernel) rfl trivial ?_
            refine am_callS hX hi (M := mX0_at) (idx := 34) (d' := 1) (As := [.ref 74, .int v5]) (rest := []) mkX0_at msX0_at (by decide +kernel) (by decide +kernel) rfl ⟨by omega, by decide, Nat.le_of_ble_eq_true rfl⟩ rfl (c_at rfl (by decide) v5) ?_
            rintro r9 I9 G9 P9 ⟨e0, e1, e2, e3⟩
            rw [e0, e1, e2, e3]
            show am_V X 0 0 _ _ ad (120, [(0, .ref 73), (1, .ref 71), (2, .int v2), (3, .int v3), (4, .int v4), (5, .int v5), (6, .int (gAt (I 71) 576 v5))], [.int (gAt ((am_up I 73 5 ((I 73 5) + (1 : Int32))) 74) 576 v5)], (am_up I 73 5 ((I 73 5) + (1 : Int32))), G, (gP rd))
            refine am_if_ge (tgt := 133) hX hi (off := (13)) (by decide +kernel) (by decide) (fun c120 => ?_) (fun c120 => ?_)
            · rw [if_pos c120] at h
              refine am_blk 133 [(.iinc 5 (1), 3, 5, 0, .int (1 : Int32)), (.goto (-92), 3, 0, 44, .null)] (44, [(0, .ref 73), (1, .ref 71), (2, .int v2), (3, .int v3), (4, .int v4), (5, .int (v5 + (1 : Int32))), (6, .int (gAt (I 71) 576 v5))], [], (am_up I 73 5 ((I 73 5) + (1 : Int32))), G, (gP rd)) (True) hX hi (by decide +kernel) rfl trivial ?_
              refine am_sub (L' := [(0, .ref 73), (1, .ref 71), (2, .int v2), (3, .int v3), (4, .int v4), (5, .int (v5 + (1 : Int32)))]) (by simp) ?_
              exact ih.2 _ _ _ _ _ _ _ h
            · rw [if_neg c120] at h
              refine am_blk 123 [(.aload_n 0, 1, 0, 0, .null), (.aload_n 1, 1, 1, 0, .null), (.iload 5, 2, 5, 0, .null), (.iload_n 2, 1, 2, 0, .null), (.iload 4, 2, 4, 0, .null)] (130, [(0, .ref 73), (1, .ref 71), (2, .int v2), (3, .int v3), (4, .int v4), (5, .int v5), (6, .int (gAt (I 71) 576 v5))], [.int v4, .int v2, .int v5, .ref 71, .ref 73], (am_up I 73 5 ((I 73 5) + (1 : Int32))), G, (gP rd)) (True) hX hi (by decide +kernel) rfl trivial ?_
              obtain ⟨r202, I202, G202, hc, h⟩ := rb_some h
              refine am_callV2 hX hi (M := mX4_spread) (idx := 46) (d' := 3) (b := 73) (ci := 4) (As := [.ref 71, .int v5, .int v2, .int v4]) (rest := []) mkX4_spread miX4_spread mvX4_spread (by decide +kernel) (by decide +kernel) rfl (by decide +kernel) rfl ⟨by omega, by (show 19 + 12 + 30 * _ ≤ 30 * _; omega), Nat.le_of_ble_eq_true rfl⟩ rfl (c_X4_spread_73_71 _ (am_up I 73 5 ((I 73 5) + (1 : Int32))) G v5 v2 v4 hc) ?_
              rintro r9 I9 G9 P9 ⟨e0, e1, e2, e3⟩
              rw [e0, e1, e2, e3]
              show am_V X 0 0 _ _ ad (133, [(0, .ref 73), (1, .ref 71), (2, .int v2), (3, .int v3), (4, .int v4), (5, .int v5), (6, .int (gAt (I 71) 576 v5))], [], I202, G202, (gP rd))
              refine am_blk 133 [(.iinc 5 (1), 3, 5, 0, .int (1 : Int32)), (.goto (-92), 3, 0, 44, .null)] (44, [(0, .ref 73), (1, .ref 71), (2, .int v2), (3, .int v3), (4, .int v4), (5, .int (v5 + (1 : Int32))), (6, .int (gAt (I 71) 576 v5))], [], I202, G202, (gP rd)) (True) hX hi (by decide +kernel) rfl trivial ?_
              refine am_sub (L' := [(0, .ref 73), (1, .ref 71), (2, .int v2), (3, .int v3), (4, .int v4), (5, .int (v5 + (1 : Int32)))]) (by simp) ?_
              exact ih.2 _ _ _ _ _ _ _ h
        · rw [if_neg c71] at h
          refine am_blk 74 [(.aload_n 0, 1, 0, 0, .null), (.dup, 1, 0, 0, .null), (.getfield 25, 3, 4, 5, .null), (.iconst (1), 1, 0, 0, .int (1 : Int32)), (.iadd, 1, 0, 0, .null), (.putfield 25, 3, 4, 5, .null), (.aload_n 1, 1, 1, 0, .null), (.iload 5, 2, 5, 0, .null), (.iload_n 2, 1, 2, 0, .null), (.iload 4, 2, 4, 0, .null)] (90, [(0, .ref 73), (1, .ref 71), (2, .int v2), (3, .int v3), (4, .int v4), (5, .int v5), (6, .int (gAt (I 71) 576 v5))], [.int v4, .int v2, .int v5, .ref 71], (am_up I 73 5 ((I 73 5) + (1 : Int32))), G, (gP rd)) (True) hX hi (by decide +kernel) rfl trivial ?_
          refine am_callS hX hi (M := mX4_below) (idx := 42) (d' := 1) (As := [.int v5, .int v2, .int v4]) (rest := [.ref 71]) mkX4_below msX4_below (by decide +kernel) (by decide +kernel) rfl ⟨by omega, by decide, Nat.le_of_ble_eq_true rfl⟩ rfl (c_X4_below (am_up I 73 5 ((I 73 5) + (1 : Int32))) G v5 v2 v4) ?_
          rintro r9 I9 G9 P9 ⟨e0, e1, e2, e3⟩
          rw [e0, e1, e2, e3]
          show am_V X 0 0 _ _ ad (93, [(0, .ref 73), (1, .ref 71), (2, .int v2), (3, .int v3), (4, .int v4), (5, .int v5), (6, .int (gAt (I 71) 576 v5))], [.int (f_X4_below (am_up I 73 5 ((I 73 5) + (1 : Int32))) G v5 v2 v4), .ref 71], (am_up I 73 5 ((I 73 5) + (1 : Int32))), G, (gP rd))
          refine am_callS hX hi (M := mX0_at) (idx := 34) (d' := 1) (As := [.ref 71, .int (f_X4_below (am_up I 73 5 ((I 73 5) + (1 : Int32))) G v5 v2 v4)]) (rest := []) mkX0_at msX0_at (by decide +kernel) (by decide +kernel) rfl ⟨by omega, by decide, Nat.le_of_ble_eq_true rfl⟩ rfl (c_at rfl (by decide) (f_X4_below (am_up I 73 5 ((I 73 5) + (1 : Int32))) G v5 v2 v4)) ?_
          rintro r9 I9 G9 P9 ⟨e0, e1, e2, e3⟩
          rw [e0, e1, e2, e3]
          show am_V X 0 0 _ _ ad (96, [(0, .ref 73), (1, .ref 71), (2, .int v2), (3, .int v3), (4, .int v4), (5, .int v5), (6, .int (gAt (I 71) 576 v5))], [.int (gAt ((am_up I 73 5 ((I 73 5) + (1 : Int32))) 71) 576 (f_X4_below (am_up I 73 5 ((I 73 5) + (1 : Int32))) G v5 v2 v4))], (am_up I 73 5 ((I 73 5) + (1 : Int32))), G, (gP rd))
          refine am_blk 96 [(.iload 6, 2, 6, 0, .null)] (98, [(0, .ref 73), (1, .ref 71), (2, .int v2), (3, .int v3), (4, .int v4), (5, .int v5), (6, .int (gAt (I 71) 576 v5))], [.int (gAt (I 71) 576 v5), .int (gAt ((am_up I 73 5 ((I 73 5) + (1 : Int32))) 71) 576 (f_X4_below (am_up I 73 5 ((I 73 5) + (1 : Int32))) G v5 v2 v4))], (am_up I 73 5 ((I 73 5) + (1 : Int32))), G, (gP rd)) (True) hX hi (by decide +kernel) rfl trivial ?_
          refine am_icmp_eq (tgt := 111) hX hi (off := (13)) (by decide +kernel) (by decide) (fun c98 => ?_) (fun c98 => ?_)
          · rw [if_pos c98] at h
            refine am_blk 111 [(.aload_n 0, 1, 0, 0, .null), (.getfield 9, 3, 4, 0, .null), (.iload 5, 2, 5, 0, .null)] (117, [(0, .ref 73), (1, .ref 71), (2, .int v2), (3, .int v3), (4, .int v4), (5, .int v5), (6, .int (gAt (I 71) 576 v5))], [.int v5, .ref 74], (am_up I 73 5 ((I 73 5) + (1 : Int32))), G, (gP rd)) (True) hX hi (by decide +kernel) rfl trivial ?_
            refine am_callS hX hi (M := mX0_at) (idx := 34) (d' := 1) (As := [.ref 74, .int v5]) (rest := []) mkX0_at msX0_at (by decide +kernel) (by decide +kernel) rfl ⟨by omega, by decide, Nat.le_of_ble_eq_true rfl⟩ rfl (c_at rfl (by decide) v5) ?_
            rintro r9 I9 G9 P9 ⟨e0, e1, e2, e3⟩
            rw [e0, e1, e2, e3]
            show am_V X 0 0 _ _ ad (120, [(0, .ref 73), (1, .ref 71), (2, .int v2), (3, .int v3), (4, .int v4), (5, .int v5), (6, .int (gAt (I 71) 576 v5))], [.int (gAt ((am_up I 73 5 ((I 73 5) + (1 : Int32))) 74) 576 v5)], (am_up I 73 5 ((I 73 5) + (1 : Int32))), G, (gP rd))
            refine am_if_ge (tgt := 133) hX hi (off := (13)) (by decide +kernel) (by decide) (fun c120 => ?_) (fun c120 => ?_)
            · rw [if_pos c120] at h
              refine am_blk 133 [(.iinc 5 (1), 3, 5, 0, .int (1 : Int32)), (.goto (-92), 3, 0, 44, .null)] (44, [(0, .ref 73), (1, .ref 71), (2, .int v2), (3, .int v3), (4, .int v4), (5, .int (v5 + (1 : Int32))), (6, .int (gAt (I 71) 576 v5))], [], (am_up I 73 5 ((I 73 5) + (1 : Int32))), G, (gP rd)) (True) hX hi (by decide +kernel) rfl trivial ?_
              refine am_sub (L' := [(0, .ref 73), (1, .ref 71), (2, .int v2), (3, .int v3), (4, .int v4), (5, .int (v5 + (1 : Int32)))]) (by simp) ?_
              exact ih.2 _ _ _ _ _ _ _ h
            · rw [if_neg c120] at h
              refine am_blk 123 [(.aload_n 0, 1, 0, 0, .null), (.aload_n 1, 1, 1, 0, .null), (.iload 5, 2, 5, 0, .null), (.iload_n 2, 1, 2, 0, .null), (.iload 4, 2, 4, 0, .null)] (130, [(0, .ref 73), (1, .ref 71), (2, .int v2), (3, .int v3), (4, .int v4), (5, .int v5), (6, .int (gAt (I 71) 576 v5))], [.int v4, .int v2, .int v5, .ref 71, .ref 73], (am_up I 73 5 ((I 73 5) + (1 : Int32))), G, (gP rd)) (True) hX hi (by decide +kernel) rfl trivial ?_
              obtain ⟨r203, I203, G203, hc, h⟩ := rb_some h
              refine am_callV2 hX hi (M := mX4_spread) (idx := 46) (d' := 3) (b := 73) (ci := 4) (As := [.ref 71, .int v5, .int v2, .int v4]) (rest := []) mkX4_spread miX4_spread mvX4_spread (by decide +kernel) (by decide +kernel) rfl (by decide +kernel) rfl ⟨by omega, by (show 19 + 12 + 30 * _ ≤ 30 * _; omega), Nat.le_of_ble_eq_true rfl⟩ rfl (c_X4_spread_73_71 _ (am_up I 73 5 ((I 73 5) + (1 : Int32))) G v5 v2 v4 hc) ?_
              rintro r9 I9 G9 P9 ⟨e0, e1, e2, e3⟩
              rw [e0, e1, e2, e3]
              show am_V X 0 0 _ _ ad (133, [(0, .ref 73), (1, .ref 71), (2, .int v2), (3, .int v3), (4, .int v4), (5, .int v5), (6, .int (gAt (I 71) 576 v5))], [], I203, G203, (gP rd))
              refine am_blk 133 [(.iinc 5 (1), 3, 5, 0, .int (1 : Int32)), (.goto (-92), 3, 0, 44, .null)] (44, [(0, .ref 73), (1, .ref 71), (2, .int v2), (3, .int v3), (4, .int v4), (5, .int (v5 + (1 : Int32))), (6, .int (gAt (I 71) 576 v5))], [], I203, G203, (gP rd)) (True) hX hi (by decide +kernel) rfl trivial ?_
              refine am_sub (L' := [(0, .ref 73), (1, .ref 71), (2, .int v2), (3, .int v3), (4, .int v4), (5, .int (v5 + (1 : Int32)))]) (by simp) ?_
              exact ih.2 _ _ _ _ _ _ _ h
          · rw [if_neg c98] at h
            refine am_blk 101 [(.aload_n 0, 1, 0, 0, .null), (.dup, 1, 0, 0, .null), (.getfield 25, 3, 4, 5, .null), (.iconst (1), 1, 0, 0, .int (1 : Int32)), (.iadd, 1, 0, 0, .null), (.putfield 25, 3, 4, 5, .null), (.aload_n 0, 1, 0, 0, .null), (.getfield 9, 3, 4, 0, .null), (.iload 5, 2, 5, 0, .null)] (117, [(0, .ref 73), (1, .ref 71), (2, .int v2), (3, .int v3), (4, .int v4), (5, .int v5), (6, .int (gAt (I 71) 576 v5))], [.int v5, .ref 74], (am_up (am_up I 73 5 ((I 73 5) + (1 : Int32))) 73 5 (((I 73 5) + (1 : Int32)) + (1 : Int32))), G, (gP rd)) (True) hX hi (by decide +kernel) rfl trivial ?_
            refine am_callS hX hi (M := mX0_at) (idx := 34) (d' := 1) (As := [.ref 74, .int v5]) (rest := []) mkX0_at msX0_at (by decide +kernel) (by decide +kernel) rfl ⟨by omega, by decide, Nat.le_of_ble_eq_true rfl⟩ rfl (c_at rfl (by decide) v5) ?_
            rintro r9 I9 G9 P9 ⟨e0, e1, e2, e3⟩
            rw [e0, e1, e2, e3]
            show am_V X 0 0 _ _ ad (120, [(0, .ref 73), (1, .ref 71), (2, .int v2), (3, .int v3), (4, .int v4), (5, .int v5), (6, .int (gAt (I 71) 576 v5))], [.int (gAt ((am_up (am_up I 73 5 ((I 73 5) + (1 : Int32))) 73 5 (((I 73 5) + (1 : Int32)) + (1 : Int32))) 74) 576 v5)], (am_up (am_up I 73 5 ((I 73 5) + (1 : Int32))) 73 5 (((I 73 5) + (1 : Int32)) + (1 : Int32))), G, (gP rd))
            refine am_if_ge (tgt := 133) hX hi (off := (13)) (by decide +kernel) (by decide) (fun c120 => ?_) (fun c120 => ?_)
            · rw [if_pos c120] at h
              refine am_blk 133 [(.iinc 5 (1), 3, 5, 0, .int (1 : Int32)), (.goto (-92), 3, 0, 44, .null)] (44, [(0, .ref 73), (1, .ref 71), (2, .int v2), (3, .int v3), (4, .int v4), (5, .int (v5 + (1 : Int32))), (6, .int (gAt (I 71) 576 v5))], [], (am_up (am_up I 73 5 ((I 73 5) + (1 : Int32))) 73 5 (((I 73 5) + (1 : Int32)) + (1 : Int32))), G, (gP rd)) (True) hX hi (by decide +kernel) rfl trivial ?_
              refine am_sub (L' := [(0, .ref 73), (1, .ref 71), (2, .int v2), (3, .int v3), (4, .int v4), (5, .int (v5 + (1 : Int32)))]) (by simp) ?_
              exact ih.2 _ _ _ _ _ _ _ h
            · rw [if_neg c120] at h
              refine am_blk 123 [(.aload_n 0, 1, 0, 0, .null), (.aload_n 1, 1, 1, 0, .null), (.iload 5, 2, 5, 0, .null), (.iload_n 2, 1, 2, 0, .null), (.iload 4, 2, 4, 0, .null)] (130, [(0, .ref 73), (1, .ref 71), (2, .int v2), (3, .int v3), (4, .int v4), (5, .int v5), (6, .int (gAt (I 71) 576 v5))], [.int v4, .int v2, .int v5, .ref 71, .ref 73], (am_up (am_up I 73 5 ((I 73 5) + (1 : Int32))) 73 5 (((I 73 5) + (1 : Int32)) + (1 : Int32))), G, (gP rd)) (True) hX hi (by decide +kernel) rfl trivial ?_
              obtain ⟨r204, I204, G204, hc, h⟩ := rb_some h
              refine am_callV2 hX hi (M := mX4_spread) (idx := 46) (d' := 3) (b := 73) (ci := 4) (As := [.ref 71, .int v5, .int v2, .int v4]) (rest := []) mkX4_spread miX4_spread mvX4_spread (by decide +kernel) (by decide +kernel) rfl (by decide +kernel) rfl ⟨by omega, by (show 19 + 12 + 30 * _ ≤ 30 * _; omega), Nat.le_of_ble_eq_true rfl⟩ rfl (c_X4_spread_73_71 _ (am_up (am_up I 73 5 ((I 73 5) + (1 : Int32))) 73 5 (((I 73 5) + (1 : Int32)) + (1 : Int32))) G v5 v2 v4 hc) ?_
              rintro r9 I9 G9 P9 ⟨e0, e1, e2, e3⟩
              rw [e0, e1, e2, e3]
              show am_V X 0 0 _ _ ad (133, [(0, .ref 73), (1, .ref 71), (2, .int v2), (3, .int v3), (4, .int v4), (5, .int v5), (6, .int (gAt (I 71) 576 v5))], [], I204, G204, (gP rd))
              refine am_blk 133 [(.iinc 5 (1), 3, 5, 0, .int (1 : Int32)), (.goto (-92), 3, 0, 44, .null)] (44, [(0, .ref 73), (1, .ref 71), (2, .int v2), (3, .int v3), (4, .int v4), (5, .int (v5 + (1 : Int32))), (6, .int (gAt (I 71) 576 v5))], [], I204, G204, (gP rd)) (True) hX hi (by decide +kernel) rfl trivial ?_
              refine am_sub (L' := [(0, .ref 73), (1, .ref 71), (2, .int v2), (3, .int v3), (4, .int v4), (5, .int (v5 + (1 : Int32)))]) (by simp) ?_
              exact ih.2 _ _ _ _ _ _ _ h
set_option maxRecDepth 20000 in
set_option maxHeartbeats 4000000 in
theorem c_X4_find_73_71 (rd : Nat) (I : am_I) (G : am_G) (x1 : Int32) (x2 : Int32) {out : Unit × am_I × am_G} (h : R_X4_find_73_71 I G x1 x2 = some out) : am_Ct mX4_find 5 gS [.ref 73, .ref 71, .int x1, .int x2] I G (gP rd) (pV out.2.1 out.2.2 (gP rd)) := by
  refine am_ofF (by decide +kernel) rfl (by decide) (by omega) (Nat.le_of_ble_eq_true rfl) (fun X ad hX hi => ?_)
  have hi : am_info X 4 cX4_find 7 false none 5 := hi
  show am_V X 0 0 _ _ ad (0, [(0, .ref 73), (1, .ref 71), (2, .int x1), (3, .int x2)], [], I, G, (gP rd))
  unfold R_X4_find_73_71 at h
  refine am_blk 0 [(.iload_n 2, 1, 2, 0, .null), (.iload_n 3, 1, 3, 0, .null), (.imul, 1, 0, 0, .null), (.istore 4, 2, 4, 0, .null), (.aload_n 0, 1, 0, 0, .null), (.iconst (0), 1, 0, 0, .int (0 : Int32)), (.putfield 21, 3, 4, 4, .null), (.aload_n 0, 1, 0, 0, .null), (.iconst (0), 1, 0, 0, .int (0 : Int32)), (.putfield 25, 3, 4, 5, .null), (.iconst (0), 1, 0, 0, .int (0 : Int32)), (.istore 5, 2, 5, 0, .null)] (18, [(0, .ref 73), (1, .ref 71), (2, .int x1), (3, .int x2), (4, .int (x1 * x2)), (5, .int (0 : Int32))], [], (am_up (am_up I 73 4 (0 : Int32)) 73 5 (0 : Int32)), G, (gP rd)) (True) hX hi (by decide +kernel) rfl trivial ?_
  exact (l_X4_find_73_71 rd hX hi FU).1 _ _ _ _ _ _ _ h
noncomputable def R_X6_readOctave_28 (I : am_I) (G : am_G)  : Option (Unit × am_I × am_G) := rb (R_X6_readNewName_28_47 (g_X6_advance_28 I G ) G ) (fun r1 I1 G1 => some ((), (g_X5_addOctave_29 (g_X6_readNumber_28 (g_X6_expect_28 (g_X6_readNumber_28 (g_X6_expect_28 (g_X6_readNumber_28 (g_X6_expect_28 (g_X6_readNumber_28 (g_X6_expect_28 I1 G1 (3 : Int32)) G1 (1 : Int32) (8 : Int32)) G1 (4 : Int32)) G1 (1 : Int32) (8 : Int32)) G1 (5 : Int32)) G1 (1 : Int32) (9 : Int32)) G1 (6 : Int32)) G1 (0 : Int32) (999 : Int32)) G1 (f_X6_readNumber_28 (g_X6_expect_28 I1 G1 (3 : Int32)) G1 (1 : Int32) (8 : Int32)) (f_X6_readNumber_28 (g_X6_expect_28 (g_X6_readNumber_28 (g_X6_expect_28 I1 G1 (3 : Int32)) G1 (1 : Int32) (8 : Int32)) G1 (4 : Int32)) G1 (1 : Int32) (8 : Int32)) (f_X6_readNumber_28 (g_X6_expect_28 (g_X6_readNumber_28 (g_X6_expect_28 (g_X6_readNumber_28 (g_X6_expect_28 I1 G1 (3 : Int32)) G1 (1 : Int32) (8 : Int32)) G1 (4 : Int32)) G1 (1 : Int32) (8 : Int32)) G1 (5 : Int32)) G1 (1 : Int32) (9 : Int32)) (f_X6_readNumber_28 (g_X6_expect_28 (g_X6_readNumber_28 (g_X6_expect_28 (g_X6_readNumber_28 (g_X6_expect_28 (g_X6_readNumber_28 (g_X6_expect_28 I1 G1 (3 : Int32)) G1 (1 : Int32) (8 : Int32)) G1 (4 : Int32)) G1 (1 : Int32) (8 : Int32)) G1 (5 : Int32)) G1 (1 : Int32) (9 : Int32)) G1 (6 : Int32)) G1 (0 : Int32) (999 : Int32))), G1))
set_option maxRecDepth 20000 in
set_option maxHeartbeats 4000000 in
theorem c_X6_readOctave_28 (rd : Nat) (I : am_I) (G : am_G)  {out : Unit × am_I × am_G} (h : R_X6_readOctave_28 I G  = some out) : am_Ct mX6_readOctave 4 gS [.ref 28] I G (gP rd) (pV out.2.1 out.2.2 (gP rd)) := by
  refine am_ofF (by decide +kernel) rfl (by decide) (by omega) (Nat.le_of_ble_eq_true rfl) (fun X ad hX hi => ?_)
  have hi : am_info X 6 cX6_readOctave 4 false none 4 := hi
  show am_V X 0 0 _ _ ad (0, [(0, .ref 28)], [], I, G, (gP rd))
  unfold R_X6_readOctave_28 at h
  refine am_blk 0 [(.aload_n 0, 1, 0, 0, .null)] (1, [(0, .ref 28)], [.ref 28], I, G, (gP rd)) (True) hX hi (by decide +kernel) rfl trivial ?_
  refine am_callV hX hi (M := mX6_advance) (idx := 100) (d' := 2) (b := 28) (ci := 6) (As := []) (rest := []) mkX6_advance miX6_advance mvX6_advance (by decide +kernel) (by decide +kernel) rfl (by decide +kernel) rfl ⟨by omega, by decide, Nat.le_of_ble_eq_true rfl⟩ rfl (c_X6_advance_28 _ I G ) ?_
  rintro r9 I9 G9 P9 ⟨e0, e1, e2, e3⟩
  rw [e0, e1, e2, e3]
  show am_V X 0 0 _ _ ad (4, [(0, .ref 28)], [], (g_X6_advance_28 I G ), G, (gP rd))
  refine am_blk 4 [(.aload_n 0, 1, 0, 0, .null), (.aload_n 0, 1, 0, 0, .null), (.getfield 23, 3, 6, 2, .null)] (9, [(0, .ref 28)], [.ref 47, .ref 28], (g_X6_advance_28 I G ), G, (gP rd)) (True) hX hi (by decide +kernel) rfl trivial ?_
  obtain ⟨r1, I1, G1, hc, h⟩ := rb_some h
  refine am_callV hX hi (M := mX6_readNewName) (idx := 122) (d' := 3) (b := 28) (ci := 6) (As := [.ref 47]) (rest := []) mkX6_readNewName miX6_readNewName mvX6_readNewName (by decide +kernel) (by decide +kernel) rfl (by decide +kernel) rfl ⟨by omega, by decide, Nat.le_of_ble_eq_true rfl⟩ rfl (c_X6_readNewName_28_47 _ (g_X6_advance_28 I G ) G  hc) ?_
  rintro r9 I9 G9 P9 ⟨e0, e1, e2, e3⟩
  rw [e0, e1, e2, e3]
  show am_V X 0 0 _ _ ad (12, [(0, .ref 28)], [], I1, G1, (gP rd))
  refine am_blk 12 [(.aload_n 0, 1, 0, 0, .null), (.iconst (3), 1, 0, 0, .int (3 : Int32))] (14, [(0, .ref 28)], [.int (3 : Int32), .ref 28], I1, G1, (gP rd)) (True) hX hi (by decide +kernel) rfl trivial ?_
  refine am_callV hX hi (M := mX6_expect) (idx := 109) (d' := 3) (b := 28) (ci := 6) (As := [.int (3 : Int32)]) (rest := []) mkX6_expect miX6_expect mvX6_expect (by decide +kernel) (by decide +kernel) rfl (by decide +kernel) rfl ⟨by omega, by decide, Nat.le_of_ble_eq_true rfl⟩ rfl (c_X6_expect_28 _ I1 G1 (3 : Int32)) ?_
  rintro r9 I9 G9 P9 ⟨e0, e1, e2, e3⟩
  rw [e0, e1, e2, e3]
  show am_V X 0 0 _ _ ad (17, [(0, .ref 28)], [], (g_X6_expect_28 I1 G1 (3 : Int32)), G1, (gP rd))
  refine am_blk 17 [(.aload_n 0, 1, 0, 0, .null), (.iconst (1), 1, 0, 0, .int (1 : Int32)), (.bipush (8), 2, 0, 0, .int (8 : Int32))] (21, [(0, .ref 28)], [.int (8 : Int32), .int (1 : Int32), .ref 28], (g_X6_expect_28 I1 G1 (3 : Int32)), G1, (gP rd)) (True) hX hi (by decide +kernel) rfl trivial ?_
  refine am_callV hX hi (M := mX6_readNumber) (idx := 112) (d' := 3) (b := 28) (ci := 6) (As := [.int (1 : Int32), .int (8 : Int32)]) (rest := []) mkX6_readNumber miX6_readNumber mvX6_readNumber (by decide +kernel) (by decide +kernel) rfl (by decide +kernel) rfl ⟨by omega, by decide, Nat.le_of_ble_eq_true rfl⟩ rfl (c_X6_readNumber_28 _ (g_X6_expect_28 I1 G1 (3 : Int32)) G1 (1 : Int32) (8 : Int32)) ?_
  rintro r9 I9 G9 P9 ⟨e0, e1, e2, e3⟩
  rw [e0, e1, e2, e3]
  show am_V X 0 0 _ _ ad (24, [(0, .ref 28)], [.int (f_X6_readNumber_28 (g_X6_expect_28 I1 G1 (3 : Int32)) G1 (1 : Int32) (8 : Int32))], (g_X6_readNumber_28 (g_X6_expect_28 I1 G1 (3 : Int32)) G1 (1 : Int32) (8 : Int32)), G1, (gP rd))
  refine am_blk 24 [(.istore_n 1, 1, 1, 0, .null), (.aload_n 0, 1, 0, 0, .null), (.iconst (4), 1, 0, 0, .int (4 : Int32))] (27, [(0, .ref 28), (1, .int (f_X6_readNumber_28 (g_X6_expect_28 I1 G1 (3 : Int32)) G1 (1 : Int32) (8 : Int32)))], [.int (4 : Int32), .ref 28], (g_X6_readNumber_28 (g_X6_expect_28 I1 G1 (3 : Int32)) G1 (1 : Int32) (8 : Int32)), G1, (gP rd)) (True) hX hi (by decide +kernel) rfl trivial ?_
  refine am_callV hX hi (M := mX6_expect) (idx := 109) (d' := 3) (b := 28) (ci := 6) (As := [.int (4 : Int32)]) (rest := []) mkX6_expect miX6_expect mvX6_expect (by decide +kernel) (by decide +kernel) rfl (by decide +kernel) rfl ⟨by omega, by decide, Nat.le_of_ble_eq_true rfl⟩ rfl (c_X6_expect_28 _ (g_X6_readNumber_28 (g_X6_expect_28 I1 G1 (3 : Int32)) G1 (1 : Int32) (8 : Int32)) G1 (4 : Int32)) ?_
  rintro r9 I9 G9 P9 ⟨e0, e1, e2, e3⟩
  rw [e0, e1, e2, e3]
  show am_V X 0 0 _ _ ad (30, [(0, .ref 28), (1, .int (f_X6_readNumber_28 (g_X6_expect_28 I1 G1 (3 : Int32)) G1 (1 : Int32) (8 : Int32)))], [], (g_X6_expect_28 (g_X6_readNumber_28 (g_X6_expect_28 I1 G1 (3 : Int32)) G1 (1 : Int32) (8 : Int32)) G1 (4 : Int32)), G1, (gP rd))
  refine am_blk 30 [(.aload_n 0, 1, 0, 0, .null), (.iconst (1), 1, 0, 0, .int (1 : Int32)), (.bipush (8), 2, 0, 0, .int (8 : Int32))] (34, [(0, .ref 28), (1, .int (f_X6_readNumber_28 (g_X6_expect_28 I1 G1 (3 : Int32)) G1 (1 : Int32) (8 : Int32)))], [.int (8 : Int32), .int (1 : Int32), .ref 28], (g_X6_expect_28 (g_X6_readNumber_28 (g_X6_expect_28 I1 G1 (3 : Int32)) G1 (1 : Int32) (8 : Int32)) G1 (4 : Int32)), G1, (gP rd)) (True) hX hi (by decide +kernel) rfl trivial ?_
  refine am_callV hX hi (M := mX6_readNumber) (idx := 112) (d' := 3) (b := 28) (ci := 6) (As := [.int (1 : Int32), .int (8 : Int32)]) (rest := []) mkX6_readNumber miX6_readNumber mvX6_readNumber (by decide +kernel) (by decide +kernel) rfl (by decide +kernel) rfl ⟨by omega, by decide, Nat.le_of_ble_eq_true rfl⟩ rfl (c_X6_readNumber_28 _ (g_X6_expect_28 (g_X6_readNumber_28 (g_X6_expect_28 I1 G1 (3 : Int32)) G1 (1 : Int32) (8 : Int32)) G1 (4 : Int32)) G1 (1 : Int32) (8 : Int32)) ?_
  rintro r9 I9 G9 P9 ⟨e0, e1, e2, e3⟩
  rw [e0, e1, e2, e3]
  show am_V X 0 0 _ _ ad (37, [(0, .ref 28), (1, .int (f_X6_readNumber_28 (g_X6_expect_28 I1 G1 (3 : Int32)) G1 (1 : Int32) (8 : Int32)))], [.int (f_X6_readNumber_28 (g_X6_expect_28 (g_X6_readNumber_28 (g_X6_expect_28 I1 G1 (3 : Int32)) G1 (1 : Int32) (8 : Int32)) G1 (4 : Int32)) G1 (1 : Int32) (8 : Int32))], (g_X6_readNumber_28 (g_X6_expect_28 (g_X6_readNumber_28 (g_X6_expect_28 I1 G1 (3 : Int32)) G1 (1 : Int32) (8 : Int32)) G1 (4 : Int32)) G1 (1 : Int32) (8 : Int32)), G1, (gP rd))
  refine am_blk 37 [(.istore_n 2, 1, 2, 0, .null), (.aload_n 0, 1, 0, 0, .null), (.iconst (5), 1, 0, 0, .int (5 : Int32))] (40, [(0, .ref 28), (1, .int (f_X6_readNumber_28 (g_X6_expect_28 I1 G1 (3 : Int32)) G1 (1 : Int32) (8 : Int32))), (2, .int (f_X6_readNumber_28 (g_X6_expect_28 (g_X6_readNumber_28 (g_X6_expect_28 I1 G1 (3 : Int32)) G1 (1 : Int32) (8 : Int32)) G1 (4 : Int32)) G1 (1 : Int32) (8 : Int32)))], [.int (5 : Int32), .ref 28], (g_X6_readNumber_28 (g_X6_expect_28 (g_X6_readNumber_28 (g_X6_expect_28 I1 G1 (3 : Int32)) G1 (1 : Int32) (8 : Int32)) G1 (4 : Int32)) G1 (1 : Int32) (8 : Int32)), G1, (gP rd)) (True) hX hi (by decide +kernel) rfl trivial ?_
  refine am_callV hX hi (M := mX6_expect) (idx := 109) (d' := 3) (b := 28) (ci := 6) (As := [.int (5 : Int32)]) (rest := []) mkX6_expect miX6_expect mvX6_expect (by decide +kernel) (by decide +kernel) rfl (by decide +kernel) rfl ⟨by omega, by decide, Nat.le_of_ble_eq_true rfl⟩ rfl (c_X6_expect_28 _ (g_X6_readNumber_28 (g_X6_expect_28 (g_X6_readNumber_28 (g_X6_expect_28 I1 G1 (3 : Int32)) G1 (1 : Int32) (8 : Int32)) G1 (4 : Int32)) G1 (1 : Int32) (8 : Int32)) G1 (5 : Int32)) ?_
  rintro r9 I9 G9 P9 ⟨e0, e1, e2, e3⟩
  rw [e0, e1, e2, e3]
  show am_V X 0 0 _ _ ad (43, [(0, .ref 28), (1, .int (f_X6_readNumber_28 (g_X6_expect_28 I1 G1 (3 : Int32)) G1 (1 : Int32) (8 : Int32))), (2, .int (f_X6_readNumber_28 (g_X6_expect_28 (g_X6_readNumber_28 (g_X6_expect_28 I1 G1 (3 : Int32)) G1 (1 : Int32) (8 : Int32)) G1 (4 : Int32)) G1 (1 : Int32) (8 : Int32)))], [], (g_X6_expect_28 (g_X6_readNumber_28 (g_X6_expect_28 (g_X6_readNumber_28 (g_X6_expect_28 I1 G1 (3 : Int32)) G1 (1 : Int32) (8 : Int32)) G1 (4 : Int32)) G1 (1 : Int32) (8 : Int32)) G1 (5 : Int32)), G1, (gP rd))
  refine am_blk 43 [(.aload_n 0, 1, 0, 0, .null), (.iconst (1), 1, 0, 0, .int (1 : Int32)), (.bipush (9), 2, 0, 0, .int (9 : Int32))] (47, [(0, .ref 28), (1, .int (f_X6_readNumber_28 (g_X6_expect_28 I1 G1 (3 : Int32)) G1 (1 : Int32) (8 : Int32))), (2, .int (f_X6_readNumber_28 (g_X6_expect_28 (g_X6_readNumber_28 (g_X6_expect_28 I1 G1 (3 : Int32)) G1 (1 : Int32) (8 : Int32)) G1 (4 : Int32)) G1 (1 : Int32) (8 : Int32)))], [.int (9 : Int32), .int (1 : Int32), .ref 28], (g_X6_expect_28 (g_X6_readNumber_28 (g_X6_expect_28 (g_X6_readNumber_28 (g_X6_expect_28 I1 G1 (3 : Int32)) G1 (1 : Int32) (8 : Int32)) G1 (4 : Int32)) G1 (1 : Int32) (8 : Int32)) G1 (5 : Int32)), G1, (gP rd)) (True) hX hi (by decide +kernel) rfl trivial ?_
  refine am_callV hX hi (M := mX6_readNumber) (idx := 112) (d' := 3) (b := 28) (ci := 6) (As := [.int (1 : Int32), .int (9 : Int32)]) (rest := []) mkX6_readNumber miX6_readNumber mvX6_readNumber (by decide +kernel) (by decide +kernel) rfl (by decide +kernel) rfl ⟨by omega, by decide, Nat.le_of_ble_eq_true rfl⟩ rfl (c_X6_readNumber_28 _ (g_X6_expect_28 (g_X6_readNumber_28 (g_X6_expect_28 (g_X6_readNumber_28 (g_X6_expect_28 I1 G1 (3 : Int32)) G1 (1 : Int32) (8 : Int32)) G1 (4 : Int32)) G1 (1 : Int32) (8 : Int32)) G1 (5 : Int32)) G1 (1 : Int32) (9 : Int32)) ?_
  rintro r9 I9 G9 P9 ⟨e0, e1, e2, e3⟩
  rw [e0, e1, e2, e3]
  show am_V X 0 0 _ _ ad (50, [(0, .ref 28), (1, .int (f_X6_readNumber_28 (g_X6_expect_28 I1 G1 (3 : Int32)) G1 (1 : Int32) (8 : Int32))), (2, .int (f_X6_readNumber_28 (g_X6_expect_28 (g_X6_readNumber_28 (g_X6_expect_28 I1 G1 (3 : Int32)) G1 (1 : Int32) (8 : Int32)) G1 (4 : Int32)) G1 (1 : Int32) (8 : Int32)))], [.int (f_X6_readNumber_28 (g_X6_expect_28 (g_X6_readNumber_28 (g_X6_expect_28 (g_X6_readNumber_28 (g_X6_expect_28 I1 G1 (3 : Int32)) G1 (1 : Int32) (8 : Int32)) G1 (4 : Int32)) G1 (1 : Int32) (8 : Int32)) G1 (5 : Int32)) G1 (1 : Int32) (9 : Int32))], (g_X6_readNumber_28 (g_X6_expect_28 (g_X6_readNumber_28 (g_X6_expect_28 (g_X6_readNumber_28 (g_X6_expect_28 I1 G1 (3 : Int32)) G1 (1 : Int32) (8 : Int32)) G1 (4 : Int32)) G1 (1 : Int32) (8 : Int32)) G1 (5 : Int32)) G1 (1 : Int32) (9 : Int32)), G1, (gP rd))
  refine am_blk 50 [(.istore_n 3, 1, 3, 0, .null), (.aload_n 0, 1, 0, 0, .null), (.bipush (6), 2, 0, 0, .int (6 : Int32))] (54, [(0, .ref 28), (1, .int (f_X6_readNumber_28 (g_X6_expect_28 I1 G1 (3 : Int32)) G1 (1 : Int32) (8 : Int32))), (2, .int (f_X6_readNumber_28 (g_X6_expect_28 (g_X6_readNumber_28 (g_X6_expect_28 I1 G1 (3 : Int32)) G1 (1 : Int32) (8 : Int32)) G1 (4 : Int32)) G1 (1 : Int32) (8 : Int32))), (3, .int (f_X6_readNumber_28 (g_X6_expect_28 (g_X6_readNumber_28 (g_X6_expect_28 (g_X6_readNumber_28 (g_X6_expect_28 I1 G1 (3 : Int32)) G1 (1 : Int32) (8 : Int32)) G1 (4 : Int32)) G1 (1 : Int32) (8 : Int32)) G1 (5 : Int32)) G1 (1 : Int32) (9 : Int32)))], [.int (6 : Int32), .ref 28], (g_X6_readNumber_28 (g_X6_expect_28 (g_X6_readNumber_28 (g_X6_expect_28 (g_X6_readNumber_28 (g_X6_expect_28 I1 G1 (3 : Int32)) G1 (1 : Int32) (8 : Int32)) G1 (4 : Int32)) G1 (1 : Int32) (8 : Int32)) G1 (5 : Int32)) G1 (1 : Int32) (9 : Int32)), G1, (gP rd)) (True) hX hi (by decide +kernel) rfl trivial ?_
  refine am_callV hX hi (M := mX6_expect) (idx := 109) (d' := 3) (b := 28) (ci := 6) (As := [.int (6 : Int32)]) (rest := []) mkX6_expect miX6_expect mvX6_expect (by decide +kernel) (by decide +kernel) rfl (by decide +kernel) rfl ⟨by omega, by decide, Nat.le_of_ble_eq_true rfl⟩ rfl (c_X6_expect_28 _ (g_X6_readNumber_28 (g_X6_expect_28 (g_X6_readNumber_28 (g_X6_expect_28 (g_X6_readNumber_28 (g_X6_expect_28 I1 G1 (3 : Int32)) G1 (1 : Int32) (8 : Int32)) G1 (4 : Int32)) G1 (1 : Int32) (8 : Int32)) G1 (5 : Int32)) G1 (1 : Int32) (9 : Int32)) G1 (6 : Int32)) ?_
  rintro r9 I9 G9 P9 ⟨e0, e1, e2, e3⟩
  rw [e0, e1, e2, e3]
  show am_V X 0 0 _ _ ad (57, [(0, .ref 28), (1, .int (f_X6_readNumber_28 (g_X6_expect_28 I1 G1 (3 : Int32)) G1 (1 : Int32) (8 : Int32))), (2, .int (f_X6_readNumber_28 (g_X6_expect_28 (g_X6_readNumber_28 (g_X6_expect_28 I1 G1 (3 : Int32)) G1 (1 : Int32) (8 : Int32)) G1 (4 : Int32)) G1 (1 : Int32) (8 : Int32))), (3, .int (f_X6_readNumber_28 (g_X6_expect_28 (g_X6_readNumber_28 (g_X6_expect_28 (g_X6_readNumber_28 (g_X6_expect_28 I1 G1 (3 : Int32)) G1 (1 : Int32) (8 : Int32)) G1 (4 : Int32)) G1 (1 : Int32) (8 : Int32)) G1 (5 : Int32)) G1 (1 : Int32) (9 : Int32)))], [], (g_X6_expect_28 (g_X6_readNumber_28 (g_X6_expect_28 (g_X6_readNumber_28 (g_X6_expect_28 (g_X6_readNumber_28 (g_X6_expect_28 I1 G1 (3 : Int32)) G1 (1 : Int32) (8 : Int32)) G1 (4 : Int32)) G1 (1 : Int32) (8 : Int32)) G1 (5 : Int32)) G1 (1 : Int32) (9 : Int32)) G1 (6 : Int32)), G1, (gP rd))
  refine am_blk 57 [(.aload_n 0, 1, 0, 0, .null), (.getfield 12, 3, 6, 1, .null), (.iload_n 1, 1, 1, 0, .null), (.iload_n 2, 1, 2, 0, .null), (.iload_n 3, 1, 3, 0, .null), (.aload_n 0, 1, 0, 0, .null), (.iconst (0), 1, 0, 0, .int (0 : Int32)), (.sipush (999), 3, 0, 0, .int (999 : Int32))] (69, [(0, .ref 28), (1, .int (f_X6_readNumber_28 (g_X6_expect_28 I1 G1 (3 : Int32)) G1 (1 : Int32) (8 : Int32))), (2, .int (f_X6_readNumber_28 (g_X6_expect_28 (g_X6_readNumber_28 (g_X6_expect_28 I1 G1 (3 : Int32)) G1 (1 : Int32) (8 : Int32)) G1 (4 : Int32)) G1 (1 : Int32) (8 : Int32))), (3, .int (f_X6_readNumber_28 (g_X6_expect_28 (g_X6_readNumber_28 (g_X6_expect_28 (g_X6_readNumber_28 (g_X6_expect_28 I1 G1 (3 : Int32)) G1 (1 : Int32) (8 : Int32)) G1 (4 : Int32)) G1 (1 : Int32) (8 : Int32)) G1 (5 : Int32)) G1 (1 : Int32) (9 : Int32)))], [.int (999 : Int32), .int (0 : Int32), .ref 28, .int (f_X6_readNumber_28 (g_X6_expect_28 (g_X6_readNumber_28 (g_X6_expect_28 (g_X6_readNumber_28 (g_X6_expect_28 I1 G1 (3 : Int32)) G1 (1 : Int32) (8 : Int32)) G1 (4 : Int32)) G1 (1 : Int32) (8 : Int32)) G1 (5 : Int32)) G1 (1 : Int32) (9 : Int32)), .int (f_X6_readNumber_28 (g_X6_expect_28 (g_X6_readNumber_28 (g_X6_expect_28 I1 G1 (3 : Int32)) G1 (1 : Int32) (8 : Int32)) G1 (4 : Int32)) G1 (1 : Int32) (8 : Int32)), .int (f_X6_readNumber_28 (g_X6_expect_28 I1 G1 (3 : Int32)) G1 (1 : Int32) (8 : Int32)), .ref 29], (g_X6_expect_28 (g_X6_readNumber_28 (g_X6_expect_28 (g_X6_readNumber_28 (g_X6_expect_28 (g_X6_readNumber_28 (g_X6_expect_28 I1 G1 (3 : Int32)) G1 (1 : Int32) (8 : Int32)) G1 (4 : Int32)) G1 (1 : Int32) (8 : Int32)) G1 (5 : Int32)) G1 (1 : Int32) (9 : Int32)) G1 (6 : Int32)), G1, (gP rd)) (True) hX hi (by decide +kernel) rfl trivial ?_
  refine am_callV hX hi (M := mX6_readNumber) (idx := 112) (d' := 3) (b := 28) (ci := 6) (As := [.int (0 : Int32), .int (999 : Int32)]) (rest := [.int (f_X6_readNumber_28 (g_X6_expect_28 (g_X6_readNumber_28 (g_X6_expect_28 (g_X6_readNumber_28 (g_X6_expect_28 I1 G1 (3 : Int32)) G1 (1 : Int32) (8 : Int32)) G1 (4 : Int32)) G1 (1 : Int32) (8 : Int32)) G1 (5 : Int32)) G1 (1 : Int32) (9 : Int32)), .int (f_X6_readNumber_28 (g_X6_expect_28 (g_X6_readNumber_28 (g_X6_expect_28 I1 G1 (3 : Int32)) G1 (1 : Int32) (8 : Int32)) G1 (4 : Int32)) G1 (1 : Int32) (8 : Int32)), .int (f_X6_readNumber_28 (g_X6_expect_28 I1 G1 (3 : Int32)) G1 (1 : Int32) (8 : Int32)), .ref 29]) mkX6_readNumber miX6_readNumber mvX6_readNumber (by decide +kernel) (by decide +kernel) rfl (by decide +kernel) rfl ⟨by omega, by decide, Nat.le_of_ble_eq_true rfl⟩ rfl (c_X6_readNumber_28 _ (g_X6_expect_28 (g_X6_readNumber_28 (g_X6_expect_28 (g_X6_readNumber_28 (g_X6_expect_28 (g_X6_readNumber_28 (g_X6_expect_28 I1 G1 (3 : Int32)) G1 (1 : Int32) (8 : Int32)) G1 (4 : Int32)) G1 (1 : Int32) (8 : Int32)) G1 (5 : Int32)) G1 (1 : Int32) (9 : Int32)) G1 (6 : Int32)) G1 (0 : Int32) (999 : Int32)) ?_
  rintro r9 I9 G9 P9 ⟨e0, e1, e2, e3⟩
  rw [e0, e1, e2, e3]
  show am_V X 0 0 _ _ ad (72, [(0, .ref 28), (1, .int (f_X6_readNumber_28 (g_X6_expect_28 I1 G1 (3 : Int32)) G1 (1 : Int32) (8 : Int32))), (2, .int (f_X6_readNumber_28 (g_X6_expect_28 (g_X6_readNumber_28 (g_X6_expect_28 I1 G1 (3 : Int32)) G1 (1 : Int32) (8 : Int32)) G1 (4 : Int32)) G1 (1 : Int32) (8 : Int32))), (3, .int (f_X6_readNumber_28 (g_X6_expect_28 (g_X6_readNumber_28 (g_X6_expect_28 (g_X6_readNumber_28 (g_X6_expect_28 I1 G1 (3 : Int32)) G1 (1 : Int32) (8 : Int32)) G1 (4 : Int32)) G1 (1 : Int32) (8 : Int32)) G1 (5 : Int32)) G1 (1 : Int32) (9 : Int32)))], [.int (f_X6_readNumber_28 (g_X6_expect_28 (g_X6_readNumber_28 (g_X6_expect_28 (g_X6_readNumber_28 (g_X6_expect_28 (g_X6_readNumber_28 (g_X6_expect_28 I1 G1 (3 : Int32)) G1 (1 : Int32) (8 : Int32)) G1 (4 : Int32)) G1 (1 : Int32) (8 : Int32)) G1 (5 : Int32)) G1 (1 : Int32) (9 : Int32)) G1 (6 : Int32)) G1 (0 : Int32) (999 : Int32)), .int (f_X6_readNumber_28 (g_X6_expect_28 (g_X6_readNumber_28 (g_X6_expect_28 (g_X6_readNumber_28 (g_X6_expect_28 I1 G1 (3 : Int32)) G1 (1 : Int32) (8 : Int32)) G1 (4 : Int32)) G1 (1 : Int32) (8 : Int32)) G1 (5 : Int32)) G1 (1 : Int32) (9 : Int32)), .int (f_X6_readNumber_28 (g_X6_expect_28 (g_X6_readNumber_28 (g_X6_expect_28 I1 G1 (3 : Int32)) G1 (1 : Int32) (8 : Int32)) G1 (4 : Int32)) G1 (1 : Int32) (8 : Int32)), .int (f_X6_readNumber_28 (g_X6_expect_28 I1 G1 (3 : Int32)) G1 (1 : Int32) (8 : Int32)), .ref 29], (g_X6_readNumber_28 (g_X6_expect_28 (g_X6_readNumber_28 (g_X6_expect_28 (g_X6_readNumber_28 (g_X6_expect_28 (g_X6_readNumber_28 (g_X6_expect_28 I1 G1 (3 : Int32)) G1 (1 : Int32) (8 : Int32)) G1 (4 : Int32)) G1 (1 : Int32) (8 : Int32)) G1 (5 : Int32)) G1 (1 : Int32) (9 : Int32)) G1 (6 : Int32)) G1 (0 : Int32) (999 : Int32)), G1, (gP rd))
  refine am_callV hX hi (M := mX5_addOctave) (idx := 126) (d' := 2) (b := 29) (ci := 5) (As := [.int (f_X6_readNumber_28 (g_X6_expect_28 I1 G1 (3 : Int32)) G1 (1 : Int32) (8 : Int32)), .int (f_X6_readNumber_28 (g_X6_expect_28 (g_X6_readNumber_28 (g_X6_expect_28 I1 G1 (3 : Int32)) G1 (1 : Int32) (8 : Int32)) G1 (4 : Int32)) G1 (1 : Int32) (8 : Int32)), .int (f_X6_readNumber_28 (g_X6_expect_28 (g_X6_readNumber_28 (g_X6_expect_28 (g_X6_readNumber_28 (g_X6_expect_28 I1 G1 (3 : Int32)) G1 (1 : Int32) (8 : Int32)) G1 (4 : Int32)) G1 (1 : Int32) (8 : Int32)) G1 (5 : Int32)) G1 (1 : Int32) (9 : Int32)), .int (f_X6_readNumber_28 (g_X6_expect_28 (g_X6_readNumber_28 (g_X6_expect_28 (g_X6_readNumber_28 (g_X6_expect_28 (g_X6_readNumber_28 (g_X6_expect_28 I1 G1 (3 : Int32)) G1 (1 : Int32) (8 : Int32)) G1 (4 : Int32)) G1 (1 : Int32) (8 : Int32)) G1 (5 : Int32)) G1 (1 : Int32) (9 : Int32)) G1 (6 : Int32)) G1 (0 : Int32) (999 : Int32))]) (rest := []) mkX5_addOctave miX5_addOctave mvX5_addOctave (by decide +kernel) (by decide +kernel) rfl (by decide +kernel) rfl ⟨by omega, by decide, Nat.le_of_ble_eq_true rfl⟩ rfl (c_X5_addOctave_29 _ (g_X6_readNumber_28 (g_X6_expect_28 (g_X6_readNumber_28 (g_X6_expect_28 (g_X6_readNumber_28 (g_X6_expect_28 (g_X6_readNumber_28 (g_X6_expect_28 I1 G1 (3 : Int32)) G1 (1 : Int32) (8 : Int32)) G1 (4 : Int32)) G1 (1 : Int32) (8 : Int32)) G1 (5 : Int32)) G1 (1 : Int32) (9 : Int32)) G1 (6 : Int32)) G1 (0 : Int32) (999 : Int32)) G1 (f_X6_readNumber_28 (g_X6_expect_28 I1 G1 (3 : Int32)) G1 (1 : Int32) (8 : Int32)) (f_X6_readNumber_28 (g_X6_expect_28 (g_X6_readNumber_28 (g_X6_expect_28 I1 G1 (3 : Int32)) G1 (1 : Int32) (8 : Int32)) G1 (4 : Int32)) G1 (1 : Int32) (8 : Int32)) (f_X6_readNumber_28 (g_X6_expect_28 (g_X6_readNumber_28 (g_X6_expect_28 (g_X6_readNumber_28 (g_X6_expect_28 I1 G1 (3 : Int32)) G1 (1 : Int32) (8 : Int32)) G1 (4 : Int32)) G1 (1 : Int32) (8 : Int32)) G1 (5 : Int32)) G1 (1 : Int32) (9 : Int32)) (f_X6_readNumber_28 (g_X6_expect_28 (g_X6_readNumber_28 (g_X6_expect_28 (g_X6_readNumber_28 (g_X6_expect_28 (g_X6_readNumber_28 (g_X6_expect_28 I1 G1 (3 : Int32)) G1 (1 : Int32) (8 : Int32)) G1 (4 : Int32)) G1 (1 : Int32) (8 : Int32)) G1 (5 : Int32)) G1 (1 : Int32) (9 : Int32)) G1 (6 : Int32)) G1 (0 : Int32) (999 : Int32))) ?_
  rintro r9 I9 G9 P9 ⟨e0, e1, e2, e3⟩
  rw [e0, e1, e2, e3]
  show am_V X 0 0 _ _ ad (75, [(0, .ref 28), (1, .int (f_X6_readNumber_28 (g_X6_expect_28 I1 G1 (3 : Int32)) G1 (1 : Int32) (8 : Int32))), (2, .int (f_X6_readNumber_28 (g_X6_expect_28 (g_X6_readNumber_28 (g_X6_expect_28 I1 G1 (3 : Int32)) G1 (1 : Int32) (8 : Int32)) G1 (4 : Int32)) G1 (1 : Int32) (8 : Int32))), (3, .int (f_X6_readNumber_28 (g_X6_expect_28 (g_X6_readNumber_28 (g_X6_expect_28 (g_X6_readNumber_28 (g_X6_expect_28 I1 G1 (3 : Int32)) G1 (1 : Int32) (8 : Int32)) G1 (4 : Int32)) G1 (1 : Int32) (8 : Int32)) G1 (5 : Int32)) G1 (1 : Int32) (9 : Int32)))], [], (g_X5_addOctave_29 (g_X6_readNumber_28 (g_X6_expect_28 (g_X6_readNumber_28 (g_X6_expect_28 (g_X6_readNumber_28 (g_X6_expect_28 (g_X6_readNumber_28 (g_X6_expect_28 I1 G1 (3 : Int32)) G1 (1 : Int32) (8 : Int32)) G1 (4 : Int32)) G1 (1 : Int32) (8 : Int32)) G1 (5 : Int32)) G1 (1 : Int32) (9 : Int32)) G1 (6 : Int32)) G1 (0 : Int32) (999 : Int32)) G1 (f_X6_readNumber_28 (g_X6_expect_28 I1 G1 (3 : Int32)) G1 (1 : Int32) (8 : Int32)) (f_X6_readNumber_28 (g_X6_expect_28 (g_X6_readNumber_28 (g_X6_expect_28 I1 G1 (3 : Int32)) G1 (1 : Int32) (8 : Int32)) G1 (4 : Int32)) G1 (1 : Int32) (8 : Int32)) (f_X6_readNumber_28 (g_X6_expect_28 (g_X6_readNumber_28 (g_X6_expect_28 (g_X6_readNumber_28 (g_X6_expect_28 I1 G1 (3 : Int32)) G1 (1 : Int32) (8 : Int32)) G1 (4 : Int32)) G1 (1 : Int32) (8 : Int32)) G1 (5 : Int32)) G1 (1 : Int32) (9 : Int32)) (f_X6_readNumber_28 (g_X6_expect_28 (g_X6_readNumber_28 (g_X6_expect_28 (g_X6_readNumber_28 (g_X6_expect_28 (g_X6_readNumber_28 (g_X6_expect_28 I1 G1 (3 : Int32)) G1 (1 : Int32) (8 : Int32)) G1 (4 : Int32)) G1 (1 : Int32) (8 : Int32)) G1 (5 : Int32)) G1 (1 : Int32) (9 : Int32)) G1 (6 : Int32)) G1 (0 : Int32) (999 : Int32))), G1, (gP rd))
  cases h
  refine am_vret hX hi rfl (by decide +kernel) ?_
  exact ⟨rfl, rfl, rfl, rfl⟩
noncomputable def R_X6_readComb_28 (I : am_I) (G : am_G)  : Option (Unit × am_I × am_G) := rb (R_X6_readNewName_28_49 (g_X6_advance_28 I G ) G ) (fun r1 I1 G1 => some ((), (g_X5_addComb_29 (g_X6_readNumber_28 (g_X6_expect_28 (g_X6_readNumber_28 (g_X6_expect_28 (g_X6_readWay_28 I1 G1 ) G1 (8 : Int32)) G1 (1 : Int32) (8 : Int32)) G1 (9 : Int32)) G1 (0 : Int32) (16 : Int32)) G1 (f_X6_readWay_28 I1 G1 ) (f_X6_readNumber_28 (g_X6_expect_28 (g_X6_readWay_28 I1 G1 ) G1 (8 : Int32)) G1 (1 : Int32) (8 : Int32)) (f_X6_readNumber_28 (g_X6_expect_28 (g_X6_readNumber_28 (g_X6_expect_28 (g_X6_readWay_28 I1 G1 ) G1 (8 : Int32)) G1 (1 : Int32) (8 : Int32)) G1 (9 : Int32)) G1 (0 : Int32) (16 : Int32))), G1))
set_option maxRecDepth 20000 in
set_option maxHeartbeats 4000000 in
theorem c_X6_readComb_28 (rd : Nat) (I : am_I) (G : am_G)  {out : Unit × am_I × am_G} (h : R_X6_readComb_28 I G  = some out) : am_Ct mX6_readComb 4 gS [.ref 28] I G (gP rd) (pV out.2.1 out.2.2 (gP rd)) := by
  refine am_ofF (by decide +kernel) rfl (by decide) (by omega) (Nat.le_of_ble_eq_true rfl) (fun X ad hX hi => ?_)
  have hi : am_info X 6 cX6_readComb 3 false none 4 := hi
  show am_V X 0 0 _ _ ad (0, [(0, .ref 28)], [], I, G, (gP rd))
  unfold R_X6_readComb_28 at h
  refine am_blk 0 [(.aload_n 0, 1, 0, 0, .null)] (1, [(0, .ref 28)], [.ref 28], I, G, (gP rd)) (True) hX hi (by decide +kernel) rfl trivial ?_
  refine am_callV hX hi (M := mX6_advance) (idx := 100) (d' := 2) (b := 28) (ci := 6) (As := []) (rest := []) mkX6_advance miX6_advance mvX6_advance (by decide +kernel) (by decide +kernel) rfl (by decide +kernel) rfl ⟨by omega, by decide, Nat.le_of_ble_eq_true rfl⟩ rfl (c_X6_advance_28 _ I G ) ?_
  rintro r9 I9 G9 P9 ⟨e0, e1, e2, e3⟩
  rw [e0, e1, e2, e3]
  show am_V X 0 0 _ _ ad (4, [(0, .ref 28)], [], (g_X6_advance_28 I G ), G, (gP rd))
  refine am_blk 4 [(.aload_n 0, 1, 0, 0, .null), (.aload_n 0, 1, 0, 0, .null), (.getfield 27, 3, 6, 3, .null)] (9, [(0, .ref 28)], [.ref 49, .ref 28], (g_X6_advance_28 I G ), G, (gP rd)) (True) hX hi (by decide +kernel) rfl trivial ?_
  obtain ⟨r1, I1, G1, hc, h⟩ := rb_some h
  refine am_callV hX hi (M := mX6_readNewName) (idx := 122) (d' := 3) (b := 28) (ci := 6) (As := [.ref 49]) (rest := []) mkX6_readNewName miX6_readNewName mvX6_readNewName (by decide +kernel) (by decide +kernel) rfl (by decide +kernel) rfl ⟨by omega, by decide, Nat.le_of_ble_eq_true rfl⟩ rfl (c_X6_readNewName_28_49 _ (g_X6_advance_28 I G ) G  hc) ?_
  rintro r9 I9 G9 P9 ⟨e0, e1, e2, e3⟩
  rw [e0, e1, e2, e3]
  show am_V X 0 0 _ _ ad (12, [(0, .ref 28)], [], I1, G1, (gP rd))
  refine am_blk 12 [(.aload_n 0, 1, 0, 0, .null)] (13, [(0, .ref 28)], [.ref 28], I1, G1, (gP rd)) (True) hX hi (by decide +kernel) rfl trivial ?_
  refine am_callV hX hi (M := mX6_readWay) (idx := 130) (d' := 3) (b := 28) (ci := 6) (As := []) (rest := []) mkX6_readWay miX6_readWay mvX6_readWay (by decide +kernel) (by decide +kernel) rfl (by decide +kernel) rfl ⟨by omega, by decide, Nat.le_of_ble_eq_true rfl⟩ rfl (c_X6_readWay_28 _ I1 G1 ) ?_
  rintro r9 I9 G9 P9 ⟨e0, e1, e2, e3⟩
  rw [e0, e1, e2, e3]
  show am_V X 0 0 _ _ ad (16, [(0, .ref 28)], [.int (f_X6_readWay_28 I1 G1 )], (g_X6_readWay_28 I1 G1 ), G1, (gP rd))
  refine am_blk 16 [(.istore_n 1, 1, 1, 0, .null), (.aload_n 0, 1, 0, 0, .null), (.bipush (8), 2, 0, 0, .int (8 : Int32))] (20, [(0, .ref 28), (1, .int (f_X6_readWay_28 I1 G1 ))], [.int (8 : Int32), .ref 28], (g_X6_readWay_28 I1 G1 ), G1, (gP rd)) (True) hX hi (by decide +kernel) rfl trivial ?_
  refine am_callV hX hi (M := mX6_expect) (idx := 109) (d' := 3) (b := 28) (ci := 6) (As := [.int (8 : Int32)]) (rest := []) mkX6_expect miX6_expect mvX6_expect (by decide +kernel) (by decide +kernel) rfl (by decide +kernel) rfl ⟨by omega, by decide, Nat.le_of_ble_eq_true rfl⟩ rfl (c_X6_expect_28 _ (g_X6_readWay_28 I1 G1 ) G1 (8 : Int32)) ?_
  rintro r9 I9 G9 P9 ⟨e0, e1, e2, e3⟩
  rw [e0, e1, e2, e3]
  show am_V X 0 0 _ _ ad (23, [(0, .ref 28), (1, .int (f_X6_readWay_28 I1 G1 ))], [], (g_X6_expect_28 (g_X6_readWay_28 I1 G1 ) G1 (8 : Int32)), G1, (gP rd))
  refine am_blk 23 [(.aload_n 0, 1, 0, 0, .null), (.iconst (1), 1, 0, 0, .int (1 : Int32)), (.bipush (8), 2, 0, 0, .int (8 : Int32))] (27, [(0, .ref 28), (1, .int (f_X6_readWay_28 I1 G1 ))], [.int (8 : Int32), .int (1 : Int32), .ref 28], (g_X6_expect_28 (g_X6_readWay_28 I1 G1 ) G1 (8 : Int32)), G1, (gP rd)) (True) hX hi (by decide +kernel) rfl trivial ?_
  refine am_callV hX hi (M := mX6_readNumber) (idx := 112) (d' := 3) (b := 28) (ci := 6) (As := [.int (1 : Int32), .int (8 : Int32)]) (rest := []) mkX6_readNumber miX6_readNumber mvX6_readNumber (by decide +kernel) (by decide +kernel) rfl (by decide +kernel) rfl ⟨by omega, by decide, Nat.le_of_ble_eq_true rfl⟩ rfl (c_X6_readNumber_28 _ (g_X6_expect_28 (g_X6_readWay_28 I1 G1 ) G1 (8 : Int32)) G1 (1 : Int32) (8 : Int32)) ?_
  rintro r9 I9 G9 P9 ⟨e0, e1, e2, e3⟩
  rw [e0, e1, e2, e3]
  show am_V X 0 0 _ _ ad (30, [(0, .ref 28), (1, .int (f_X6_readWay_28 I1 G1 ))], [.int (f_X6_readNumber_28 (g_X6_expect_28 (g_X6_readWay_28 I1 G1 ) G1 (8 : Int32)) G1 (1 : Int32) (8 : Int32))], (g_X6_readNumber_28 (g_X6_expect_28 (g_X6_readWay_28 I1 G1 ) G1 (8 : Int32)) G1 (1 : Int32) (8 : Int32)), G1, (gP rd))
  refine am_blk 30 [(.istore_n 2, 1, 2, 0, .null), (.aload_n 0, 1, 0, 0, .null), (.bipush (9), 2, 0, 0, .int (9 : Int32))] (34, [(0, .ref 28), (1, .int (f_X6_readWay_28 I1 G1 )), (2, .int (f_X6_readNumber_28 (g_X6_expect_28 (g_X6_readWay_28 I1 G1 ) G1 (8 : Int32)) G1 (1 : Int32) (8 : Int32)))], [.int (9 : Int32), .ref 28], (g_X6_readNumber_28 (g_X6_expect_28 (g_X6_readWay_28 I1 G1 ) G1 (8 : Int32)) G1 (1 : Int32) (8 : Int32)), G1, (gP rd)) (True) hX hi (by decide +kernel) rfl trivial ?_
  refine am_callV hX hi (M := mX6_expect) (idx := 109) (d' := 3) (b := 28) (ci := 6) (As := [.int (9 : Int32)]) (rest := []) mkX6_expect miX6_expect mvX6_expect (by decide +kernel) (by decide +kernel) rfl (by decide +kernel) rfl ⟨by omega, by decide, Nat.le_of_ble_eq_true rfl⟩ rfl (c_X6_expect_28 _ (g_X6_readNumber_28 (g_X6_expect_28 (g_X6_readWay_28 I1 G1 ) G1 (8 : Int32)) G1 (1 : Int32) (8 : Int32)) G1 (9 : Int32)) ?_
  rintro r9 I9 G9 P9 ⟨e0, e1, e2, e3⟩
  rw [e0, e1, e2, e3]
  show am_V X 0 0 _ _ ad (37, [(0, .ref 28), (1, .int (f_X6_readWay_28 I1 G1 )), (2, .int (f_X6_readNumber_28 (g_X6_expect_28 (g_X6_readWay_28 I1 G1 ) G1 (8 : Int32)) G1 (1 : Int32) (8 : Int32)))], [], (g_X6_expect_28 (g_X6_readNumber_28 (g_X6_expect_28 (g_X6_readWay_28 I1 G1 ) G1 (8 : Int32)) G1 (1 : Int32) (8 : Int32)) G1 (9 : Int32)), G1, (gP rd))
  refine am_blk 37 [(.aload_n 0, 1, 0, 0, .null), (.getfield 12, 3, 6, 1, .null), (.iload_n 1, 1, 1, 0, .null), (.iload_n 2, 1, 2, 0, .null), (.aload_n 0, 1, 0, 0, .null), (.iconst (0), 1, 0, 0, .int (0 : Int32)), (.bipush (16), 2, 0, 0, .int (16 : Int32))] (47, [(0, .ref 28), (1, .int (f_X6_readWay_28 I1 G1 )), (2, .int (f_X6_readNumber_28 (g_X6_expect_28 (g_X6_readWay_28 I1 G1 ) G1 (8 : Int32)) G1 (1 : Int32) (8 : Int32)))], [.int (16 : Int32), .int (0 : Int32), .ref 28, .int (f_X6_readNumber_28 (g_X6_expect_28 (g_X6_readWay_28 I1 G1 ) G1 (8 : Int32)) G1 (1 : Int32) (8 : Int32)), .int (f_X6_readWay_28 I1 G1 ), .ref 29], (g_X6_expect_28 (g_X6_readNumber_28 (g_X6_expect_28 (g_X6_readWay_28 I1 G1 ) G1 (8 : Int32)) G1 (1 : Int32) (8 : Int32)) G1 (9 : Int32)), G1, (gP rd)) (True) hX hi (by decide +kernel) rfl trivial ?_
  refine am_callV hX hi (M := mX6_readNumber) (idx := 112) (d' := 3) (b := 28) (ci := 6) (As := [.int (0 : Int32), .int (16 : Int32)]) (rest := [.int (f_X6_readNumber_28 (g_X6_expect_28 (g_X6_readWay_28 I1 G1 ) G1 (8 : Int32)) G1 (1 : Int32) (8 : Int32)), .int (f_X6_readWay_28 I1 G1 ), .ref 29]) mkX6_readNumber miX6_readNumber mvX6_readNumber (by decide +kernel) (by decide +kernel) rfl (by decide +kernel) rfl ⟨by omega, by decide, Nat.le_of_ble_eq_true rfl⟩ rfl (c_X6_readNumber_28 _ (g_X6_expect_28 (g_X6_readNumber_28 (g_X6_expect_28 (g_X6_readWay_28 I1 G1 ) G1 (8 : Int32)) G1 (1 : Int32) (8 : Int32)) G1 (9 : Int32)) G1 (0 : Int32) (16 : Int32)) ?_
  rintro r9 I9 G9 P9 ⟨e0, e1, e2, e3⟩
  rw [e0, e1, e2, e3]
  show am_V X 0 0 _ _ ad (50, [(0, .ref 28), (1, .int (f_X6_readWay_28 I1 G1 )), (2, .int (f_X6_readNumber_28 (g_X6_expect_28 (g_X6_readWay_28 I1 G1 ) G1 (8 : Int32)) G1 (1 : Int32) (8 : Int32)))], [.int (f_X6_readNumber_28 (g_X6_expect_28 (g_X6_readNumber_28 (g_X6_expect_28 (g_X6_readWay_28 I1 G1 ) G1 (8 : Int32)) G1 (1 : Int32) (8 : Int32)) G1 (9 : Int32)) G1 (0 : Int32) (16 : Int32)), .int (f_X6_readNumber_28 (g_X6_expect_28 (g_X6_readWay_28 I1 G1 ) G1 (8 : Int32)) G1 (1 : Int32) (8 : Int32)), .int (f_X6_readWay_28 I1 G1 ), .ref 29], (g_X6_readNumber_28 (g_X6_expect_28 (g_X6_readNumber_28 (g_X6_expect_28 (g_X6_readWay_28 I1 G1 ) G1 (8 : Int32)) G1 (1 : Int32) (8 : Int32)) G1 (9 : Int32)) G1 (0 : Int32) (16 : Int32)), G1, (gP rd))
  refine am_callV hX hi (M := mX5_addComb) (idx := 134) (d' := 2) (b := 29) (ci := 5) (As := [.int (f_X6_readWay_28 I1 G1 ), .int (f_X6_readNumber_28 (g_X6_expect_28 (g_X6_readWay_28 I1 G1 ) G1 (8 : Int32)) G1 (1 : Int32) (8 : Int32)), .int (f_X6_readNumber_28 (g_X6_expect_28 (g_X6_readNumber_28 (g_X6_expect_28 (g_X6_readWay_28 I1 G1 ) G1 (8 : Int32)) G1 (1 : Int32) (8 : Int32)) G1 (9 : Int32)) G1 (0 : Int32) (16 : Int32))]) (rest := []) mkX5_addComb miX5_addComb mvX5_addComb (by decide +kernel) (by decide +kernel) rfl (by decide +kernel) rfl ⟨by omega, by decide, Nat.le_of_ble_eq_true rfl⟩ rfl (c_X5_addComb_29 _ (g_X6_readNumber_28 (g_X6_expect_28 (g_X6_readNumber_28 (g_X6_expect_28 (g_X6_readWay_28 I1 G1 ) G1 (8 : Int32)) G1 (1 : Int32) (8 : Int32)) G1 (9 : Int32)) G1 (0 : Int32) (16 : Int32)) G1 (f_X6_readWay_28 I1 G1 ) (f_X6_readNumber_28 (g_X6_expect_28 (g_X6_readWay_28 I1 G1 ) G1 (8 : Int32)) G1 (1 : Int32) (8 : Int32)) (f_X6_readNumber_28 (g_X6_expect_28 (g_X6_readNumber_28 (g_X6_expect_28 (g_X6_readWay_28 I1 G1 ) G1 (8 : Int32)) G1 (1 : Int32) (8 : Int32)) G1 (9 : Int32)) G1 (0 : Int32) (16 : Int32))) ?_
  rintro r9 I9 G9 P9 ⟨e0, e1, e2, e3⟩
  rw [e0, e1, e2, e3]
  show am_V X 0 0 _ _ ad (53, [(0, .ref 28), (1, .int (f_X6_readWay_28 I1 G1 )), (2, .int (f_X6_readNumber_28 (g_X6_expect_28 (g_X6_readWay_28 I1 G1 ) G1 (8 : Int32)) G1 (1 : Int32) (8 : Int32)))], [], (g_X5_addComb_29 (g_X6_readNumber_28 (g_X6_expect_28 (g_X6_readNumber_28 (g_X6_expect_28 (g_X6_readWay_28 I1 G1 ) G1 (8 : Int32)) G1 (1 : Int32) (8 : Int32)) G1 (9 : Int32)) G1 (0 : Int32) (16 : Int32)) G1 (f_X6_readWay_28 I1 G1 ) (f_X6_readNumber_28 (g_X6_expect_28 (g_X6_readWay_28 I1 G1 ) G1 (8 : Int32)) G1 (1 : Int32) (8 : Int32)) (f_X6_readNumber_28 (g_X6_expect_28 (g_X6_readNumber_28 (g_X6_expect_28 (g_X6_readWay_28 I1 G1 ) G1 (8 : Int32)) G1 (1 : Int32) (8 : Int32)) G1 (9 : Int32)) G1 (0 : Int32) (16 : Int32))), G1, (gP rd))
  cases h
  refine am_vret hX hi rfl (by decide +kernel) ?_
  exact ⟨rfl, rfl, rfl, rfl⟩
noncomputable def R_X6_readInk_28 (I : am_I) (G : am_G)  : Option (Unit × am_I × am_G) := rb (R_X6_readNewName_28_51 (g_X6_advance_28 I G ) G ) (fun r1 I1 G1 => some ((), (g_X5_addInk_29 (g_X6_readNumber_28 (g_X6_expect_28 I1 G1 (11 : Int32)) G1 (f_X5_lowestNextLevel_29 (g_X6_expect_28 I1 G1 (11 : Int32)) G1 ) (999 : Int32)) G1 (f_X6_readNumber_28 (g_X6_expect_28 I1 G1 (11 : Int32)) G1 (f_X5_lowestNextLevel_29 (g_X6_expect_28 I1 G1 (11 : Int32)) G1 ) (999 : Int32))), G1))
set_option maxRecDepth 20000 in
set_option maxHeartbeats 4000000 in
theorem c_X6_readInk_28 (rd : Nat) (I : am_I) (G : am_G)  {out : Unit × am_I × am_G} (h : R_X6_readInk_28 I G  = some out) : am_Ct mX6_readInk 4 gS [.ref 28] I G (gP rd) (pV out.2.1 out.2.2 (gP rd)) := by
  refine am_ofF (by decide +kernel) rfl (by decide) (by omega) (Nat.le_of_ble_eq_true rfl) (fun X ad hX hi => ?_)
  have hi : am_info X 6 cX6_readInk 1 false none 4 := hi
  show am_V X 0 0 _ _ ad (0, [(0, .ref 28)], [], I, G, (gP rd))
  unfold R_X6_readInk_28 at h
  refine am_blk 0 [(.aload_n 0, 1, 0, 0, .null)] (1, [(0, .ref 28)], [.ref 28], I, G, (gP rd)) (True) hX hi (by decide +kernel) rfl trivial ?_
  refine am_callV hX hi (M := mX6_advance) (idx := 100) (d' := 2) (b := 28) (ci := 6) (As := []) (rest := []) mkX6_advance miX6_advance mvX6_advance (by decide +kernel) (by decide +kernel) rfl (by decide +kernel) rfl ⟨by omega, by decide, Nat.le_of_ble_eq_true rfl⟩ rfl (c_X6_advance_28 _ I G ) ?_
  rintro r9 I9 G9 P9 ⟨e0, e1, e2, e3⟩
  rw [e0, e1, e2, e3]
  show am_V X 0 0 _ _ ad (4, [(0, .ref 28)], [], (g_X6_advance_28 I G ), G, (gP rd))
  refine am_blk 4 [(.aload_n 0, 1, 0, 0, .null), (.aload_n 0, 1, 0, 0, .null), (.getfield 30, 3, 6, 4, .null)] (9, [(0, .ref 28)], [.ref 51, .ref 28], (g_X6_advance_28 I G ), G, (gP rd)) (True) hX hi (by decide +kernel) rfl trivial ?_
  obtain ⟨r1, I1, G1, hc, h⟩ := rb_some h
  refine am_callV hX hi (M := mX6_readNewName) (idx := 122) (d' := 3) (b := 28) (ci := 6) (As := [.ref 51]) (rest := []) mkX6_readNewName miX6_readNewName mvX6_readNewName (by decide +kernel) (by decide +kernel) rfl (by decide +kernel) rfl ⟨by omega, by decide, Nat.le_of_ble_eq_true rfl⟩ rfl (c_X6_readNewName_28_51 _ (g_X6_advance_28 I G ) G  hc) ?_
  rintro r9 I9 G9 P9 ⟨e0, e1, e2, e3⟩
  rw [e0, e1, e2, e3]
  show am_V X 0 0 _ _ ad (12, [(0, .ref 28)], [], I1, G1, (gP rd))
  refine am_blk 12 [(.aload_n 0, 1, 0, 0, .null), (.bipush (11), 2, 0, 0, .int (11 : Int32))] (15, [(0, .ref 28)], [.int (11 : Int32), .ref 28], I1, G1, (gP rd)) (True) hX hi (by decide +kernel) rfl trivial ?_
  refine am_callV hX hi (M := mX6_expect) (idx := 109) (d' := 3) (b := 28) (ci := 6) (As := [.int (11 : Int32)]) (rest := []) mkX6_expect miX6_expect mvX6_expect (by decide +kernel) (by decide +kernel) rfl (by decide +kernel) rfl ⟨by omega, by decide, Nat.le_of_ble_eq_true rfl⟩ rfl (c_X6_expect_28 _ I1 G1 (11 : Int32)) ?_
  rintro r9 I9 G9 P9 ⟨e0, e1, e2, e3⟩
  rw [e0, e1, e2, e3]
  show am_V X 0 0 _ _ ad (18, [(0, .ref 28)], [], (g_X6_expect_28 I1 G1 (11 : Int32)), G1, (gP rd))
  refine am_blk 18 [(.aload_n 0, 1, 0, 0, .null), (.getfield 12, 3, 6, 1, .null), (.aload_n 0, 1, 0, 0, .null), (.aload_n 0, 1, 0, 0, .null), (.getfield 12, 3, 6, 1, .null)] (27, [(0, .ref 28)], [.ref 29, .ref 28, .ref 29], (g_X6_expect_28 I1 G1 (11 : Int32)), G1, (gP rd)) (True) hX hi (by decide +kernel) rfl trivial ?_
  refine am_callV hX hi (M := mX5_lowestNextLevel) (idx := 138) (d' := 2) (b := 29) (ci := 5) (As := []) (rest := [.ref 28, .ref 29]) mkX5_lowestNextLevel miX5_lowestNextLevel mvX5_lowestNextLevel (by decide +kernel) (by decide +kernel) rfl (by decide +kernel) rfl ⟨by omega, by decide, Nat.le_of_ble_eq_true rfl⟩ rfl (c_X5_lowestNextLevel_29 _ (g_X6_expect_28 I1 G1 (11 : Int32)) G1 ) ?_
  rintro r9 I9 G9 P9 ⟨e0, e1, e2, e3⟩
  rw [e0, e1, e2, e3]
  show am_V X 0 0 _ _ ad (30, [(0, .ref 28)], [.int (f_X5_lowestNextLevel_29 (g_X6_expect_28 I1 G1 (11 : Int32)) G1 ), .ref 28, .ref 29], (g_X6_expect_28 I1 G1 (11 : Int32)), G1, (gP rd))
  refine am_blk 30 [(.sipush (999), 3, 0, 0, .int (999 : Int32))] (33, [(0, .ref 28)], [.int (999 : Int32), .int (f_X5_lowestNextLevel_29 (g_X6_expect_28 I1 G1 (11 : Int32)) G1 ), .ref 28, .ref 29], (g_X6_expect_28 I1 G1 (11 : Int32)), G1, (gP rd)) (True) hX hi (by decide +kernel) rfl trivial ?_
  refine am_callV hX hi (M := mX6_readNumber) (idx := 112) (d' := 3) (b := 28) (ci := 6) (As := [.int (f_X5_lowestNextLevel_29 (g_X6_expect_28 I1 G1 (11 : Int32)) G1 ), .int (999 : Int32)]) (rest := [.ref 29]) mkX6_readNumber miX6_readNumber mvX6_readNumber (by decide +kernel) (by decide +kernel) rfl (by decide +kernel) rfl ⟨by omega, by decide, Nat.le_of_ble_eq_true rfl⟩ rfl (c_X6_readNumber_28 _ (g_X6_expect_28 I1 G1 (11 : Int32)) G1 (f_X5_lowestNextLevel_29 (g_X6_expect_28 I1 G1 (11 : Int32)) G1 ) (999 : Int32)) ?_
  rintro r9 I9 G9 P9 ⟨e0, e1, e2, e3⟩
  rw [e0, e1, e2, e3]
  show am_V X 0 0 _ _ ad (36, [(0, .ref 28)], [.int (f_X6_readNumber_28 (g_X6_expect_28 I1 G1 (11 : Int32)) G1 (f_X5_lowestNextLevel_29 (g_X6_expect_28 I1 G1 (11 : Int32)) G1 ) (999 : Int32)), .ref 29], (g_X6_readNumber_28 (g_X6_expect_28 I1 G1 (11 : Int32)) G1 (f_X5_lowestNextLevel_29 (g_X6_expect_28 I1 G1 (11 : Int32)) G1 ) (999 : Int32)), G1, (gP rd))
  refine am_callV hX hi (M := mX5_addInk) (idx := 141) (d' := 2) (b := 29) (ci := 5) (As := [.int (f_X6_readNumber_28 (g_X6_expect_28 I1 G1 (11 : Int32)) G1 (f_X5_lowestNextLevel_29 (g_X6_expect_28 I1 G1 (11 : Int32)) G1 ) (999 : Int32))]) (rest := []) mkX5_addInk miX5_addInk mvX5_addInk (by decide +kernel) (by decide +kernel) rfl (by decide +kernel) rfl ⟨by omega, by decide, Nat.le_of_ble_eq_true rfl⟩ rfl (c_X5_addInk_29 _ (g_X6_readNumber_28 (g_X6_expect_28 I1 G1 (11 : Int32)) G1 (f_X5_lowestNextLevel_29 (g_X6_expect_28 I1 G1 (11 : Int32)) G1 ) (999 : Int32)) G1 (f_X6_readNumber_28 (g_X6_expect_28 I1 G1 (11 : Int32)) G1 (f_X5_lowestNextLevel_29 (g_X6_expect_28 I1 G1 (11 : Int32)) G1 ) (999 : Int32))) ?_
  rintro r9 I9 G9 P9 ⟨e0, e1, e2, e3⟩
  rw [e0, e1, e2, e3]
  show am_V X 0 0 _ _ ad (39, [(0, .ref 28)], [], (g_X5_addInk_29 (g_X6_readNumber_28 (g_X6_expect_28 I1 G1 (11 : Int32)) G1 (f_X5_lowestNextLevel_29 (g_X6_expect_28 I1 G1 (11 : Int32)) G1 ) (999 : Int32)) G1 (f_X6_readNumber_28 (g_X6_expect_28 I1 G1 (11 : Int32)) G1 (f_X5_lowestNextLevel_29 (g_X6_expect_28 I1 G1 (11 : Int32)) G1 ) (999 : Int32))), G1, (gP rd))
  cases h
  refine am_vret hX hi rfl (by decide +kernel) ?_
  exact ⟨rfl, rfl, rfl, rfl⟩
theorem am_pvo {out : Unit × am_I × am_G} {I : am_I} {G : am_G} {P : am_P} (h : ((), I, G) = out) : pV out.2.1 out.2.2 P none I G P := by subst h; exact ⟨rfl, rfl, rfl, rfl⟩
noncomputable def L_X6_readOrderHead_28 (n0 : Nat) (hd : Nat) (I : am_I) (G : am_G) (v1 : Int32) (v2 : Int32) : Option (Unit × am_I × am_G) := match n0 with
  | 0 => none
  | n + 1 => match hd with
    | 0 => (if (I 38 8) < (20 : Int32) then L_X6_readOrderHead_28 n 2 I G v1 0 else L_X6_readOrderHead_28 n 1 I G v1 0)
    | 1 => L_X6_readOrderHead_28 n 2 (g_X6_fault_28 I G (4 : Int32)) G v1 0
    | 2 => L_X6_readOrderHead_28 n 3 (g_X6_advance_28 I G ) G v1 0
    | 3 => (if v1 = (12 : Int32) then L_X6_readOrderHead_28 n 4 I G v1 0 else L_X6_readOrderHead_28 n 5 I G v1 0)
    | 4 => L_X6_readOrderHead_28 n 6 (g_X6_readWay_28 I G ) G v1 (f_X6_readWay_28 I G )
    | 5 => (if v1 = (9 : Int32) then rb (R_X6_readKnownName_28_49 I G ) (fun r602 I602 G602 => L_X6_readOrderHead_28 n 6 I602 G602 v1 r602) else rb (R_X6_readKnownName_28_47 I G ) (fun r601 I601 G601 => L_X6_readOrderHead_28 n 6 I601 G601 v1 r601))
    | 6 => (if v1 = (12 : Int32) then L_X6_readOrderHead_28 n 7 (g_X6_expect_28 I G (1 : Int32)) G v1 v2 else L_X6_readOrderHead_28 n 7 (g_X6_expect_28 I G (13 : Int32)) G v1 v2)
    | _ => some ((), (g_X3_begin_38 I G v1 v2), G)
theorem L_X6_readOrderHead_28_0 (n : Nat) (I : am_I) (G : am_G) (v1 : Int32) (v2 : Int32) : L_X6_readOrderHead_28 (n + 1) 0 I G v1 v2 = (if (I 38 8) < (20 : Int32) then L_X6_readOrderHead_28 n 2 I G v1 0 else L_X6_readOrderHead_28 n 1 I G v1 0) := rfl
theorem L_X6_readOrderHead_28_1 (n : Nat) (I : am_I) (G : am_G) (v1 : Int32) (v2 : Int32) : L_X6_readOrderHead_28 (n + 1) 1 I G v1 v2 = L_X6_readOrderHead_28 n 2 (g_X6_fault_28 I G (4 : Int32)) G v1 0 := rfl
theorem L_X6_readOrderHead_28_2 (n : Nat) (I : am_I) (G : am_G) (v1 : Int32) (v2 : Int32) : L_X6_readOrderHead_28 (n + 1) 2 I G v1 v2 = L_X6_readOrderHead_28 n 3 (g_X6_advance_28 I G ) G v1 0 := rfl
theorem L_X6_readOrderHead_28_3 (n : Nat) (I : am_I) (G : am_G) (v1 : Int32) (v2 : Int32) : L_X6_readOrderHead_28 (n + 1) 3 I G v1 v2 = (if v1 = (12 : Int32) then L_X6_readOrderHead_28 n 4 I G v1 0 else L_X6_readOrderHead_28 n 5 I G v1 0) := rfl
theorem L_X6_readOrderHead_28_4 (n : Nat) (I : am_I) (G : am_G) (v1 : Int32) (v2 : Int32) : L_X6_readOrderHead_28 (n + 1) 4 I G v1 v2 = L_X6_readOrderHead_28 n 6 (g_X6_readWay_28 I G ) G v1 (f_X6_readWay_28 I G ) := rfl
theorem L_X6_readOrderHead_28_5 (n : Nat) (I : am_I) (G : am_G) (v1 : Int32) (v2 : Int32) : L_X6_readOrderHead_28 (n + 1) 5 I G v1 v2 = (if v1 = (9 : Int32) then rb (R_X6_readKnownName_28_49 I G ) (fun r602 I602 G602 => L_X6_readOrderHead_28 n 6 I602 G602 v1 r602) else rb (R_X6_readKnownName_28_47 I G ) (fun r601 I601 G601 => L_X6_readOrderHead_28 n 6 I601 G601 v1 r601)) := rfl
theorem L_X6_readOrderHead_28_6 (n : Nat) (I : am_I) (G : am_G) (v1 : Int32) (v2 : Int32) : L_X6_readOrderHead_28 (n + 1) 6 I G v1 v2 = (if v1 = (12 : Int32) then L_X6_readOrderHead_28 n 7 (g_X6_expect_28 I G (1 : Int32)) G v1 v2 else L_X6_readOrderHead_28 n 7 (g_X6_expect_28 I G (13 : Int32)) G v1 v2) := rfl
theorem L_X6_readOrderHead_28_7 (n : Nat) (I : am_I) (G : am_G) (v1 : Int32) (v2 : Int32) : L_X6_readOrderHead_28 (n + 1) 7 I G v1 v2 = some ((), (g_X3_begin_38 I G v1 v2), G) := rfl
theorem L_X6_readOrderHead_28_z (h : Nat) (I : am_I) (G : am_G) (v1 : Int32) (v2 : Int32) : L_X6_readOrderHead_28 0 h I G v1 v2 = none := rfl
noncomputable def R_X6_readOrderHead_28 (I : am_I) (G : am_G)  : Option (Unit × am_I × am_G) := (if (I 28 6) = (9 : Int32) then L_X6_readOrderHead_28 FU 0 I G (I 28 6) 0 else (if (I 28 6) = (6 : Int32) then L_X6_readOrderHead_28 FU 0 I G (I 28 6) 0 else (if (I 28 6) = (12 : Int32) then L_X6_readOrderHead_28 FU 0 I G (I 28 6) 0 else some ((), (g_X6_refuse_28 I G ), G))))
set_option maxRecDepth 20000 in
set_option maxHeartbeats 4000000 in
theorem l_X6_readOrderHead_28 (rd : Nat) {X : am_X} {ad : Nat → Nat} (hX : am_okz X ad) (hi : am_info X 6 cX6_readOrderHead 3 false none 4) (n : Nat) : (∀ (I : am_I) (G : am_G) (v1 : Int32) (v2 : Int32) (out : Unit × am_I × am_G), L_X6_readOrderHead_28 n 0 I G v1 v2 = some out → am_V X 0 0 (am_Rt X gS ad (pV out.2.1 out.2.2 (gP rd))) gS ad (28, [(0, .ref 28), (1, .int v1)], [], I, G, (gP rd))) ∧ (∀ (I : am_I) (G : am_G) (v1 : Int32) (v2 : Int32) (out : Unit × am_I × am_G), L_X6_readOrderHead_28 n 1 I G v1 v2 = some out → am_V X 0 0 (am_Rt X gS ad (pV out.2.1 out.2.2 (gP rd))) gS ad (43, [(0, .ref 28), (1, .int v1)], [], I, G, (gP rd))) ∧ (∀ (I : am_I) (G : am_G) (v1 : Int32) (v2 : Int32) (out : Unit × am_I × am_G), L_X6_readOrderHead_28 n 2 I G v1 v2 = some out → am_V X 0 0 (am_Rt X gS ad (pV out.2.1 out.2.2 (gP rd))) gS ad (48, [(0, .ref 28), (1, .int v1)], [], I, G, (gP rd))) ∧ (∀ (I : am_I) (G : am_G) (v1 : Int32) (v2 : Int32) (out : Unit × am_I × am_G), L_X6_readOrderHead_28 n 3 I G v1 v2 = some out → am_V X 0 0 (am_Rt X gS ad (pV out.2.1 out.2.2 (gP rd))) gS ad (52, [(0, .ref 28), (1, .int v1)], [], I, G, (gP rd))) ∧ (∀ (I : am_I) (G : am_G) (v1 : Int32) (v2 : Int32) (out : Unit × am_I × am_G), L_X6_readOrderHead_28 n 4 I G v1 v2 = some out → am_V X 0 0 (am_Rt X gS ad (pV out.2.1 out.2.2 (gP rd))) gS ad (58, [(0, .ref 28), (1, .int v1)], [], I, G, (gP rd))) ∧ (∀ (I : am_I) (G : am_G) (v1 : Int32) (v2 : Int32) (out : Unit × am_I × am_G), L_X6_readOrderHead_28 n 5 I G v1 v2 = some out → am_V X 0 0 (am_Rt X gS ad (pV out.2.1 out.2.2 (gP rd))) gS ad (65, [(0, .ref 28), (1, .int v1)], [], I, G, (gP rd))) ∧ (∀ (I : am_I) (G : am_G) (v1 : Int32) (v2 : Int32) (out : Unit × am_I × am_G), L_X6_readOrderHead_28 n 6 I G v1 v2 = some out → am_V X 0 0 (am_Rt X gS ad (pV out.2.1 out.2.2 (gP rd))) gS ad (87, [(0, .ref 28), (1, .int v1), (2, .int v2)], [], I, G, (gP rd))) ∧ (∀ (I : am_I) (G : am_G) (v1 : Int32) (v2 : Int32) (out : Unit × am_I × am_G), L_X6_readOrderHead_28 n 7 I G v1 v2 = some out → am_V X 0 0 (am_Rt X gS ad (pV out.2.1 out.2.2 (gP rd))) gS ad (103, [(0, .ref 28), (1, .int v1), (2, .int v2)], [], I, G, (gP rd))) := by
  induction n with
  | zero => exact ⟨(fun I G v1 v2 out h => by rw [L_X6_readOrderHead_28_z] at h; cases h), (fun I G v1 v2 out h => by rw [L_X6_readOrderHead_28_z] at h; cases h), (fun I G v1 v2 out h => by rw [L_X6_readOrderHead_28_z] at h; cases h), (fun I G v1 v2 out h => by rw [L_X6_readOrderHead_28_z] at h; cases h), (fun I G v1 v2 out h => by rw [L_X6_readOrderHead_28_z] at h; cases h), (fun I G v1 v2 out h => by rw [L_X6_readOrderHead_28_z] at h; cases h), (fun I G v1 v2 out h => by rw [L_X6_readOrderHead_28_z] at h; cases h), (fun I G v1 v2 out h => by rw [L_X6_readOrderHead_28_z] at h; cases h)⟩
  | succ n ih =>
    refine ⟨?_, ?_, ?_, ?_, ?_, ?_, ?_, ?_⟩
    · intro I G v1 v2 out h
      rw [L_X6_readOrderHead_28_0] at h
      refine am_blk 28 [(.aload_n 0, 1, 0, 0, .null), (.getfield 12, 3, 6, 1, .null), (.getfield 91, 3, 5, 8, .null), (.getfield 144, 3, 3, 8, .null), (.bipush (20), 2, 0, 0, .int (20 : Int32))] (40, [(0, .ref 28), (1, .int v1)], [.int (20 : Int32), .int (I 38 8)], I, G, (gP rd)) (True) hX hi (by decide +kernel) rfl trivial ?_
      refine am_icmp_lt (tgt := 48) hX hi (off := (8)) (by decide +kernel) (by decide) (fun c40 => ?_) (fun c40 => ?_)
      · rw [if_pos c40] at h
        exact ih.2.2.1 _ _ _ _ _ h
      · rw [if_neg c40] at h
        exact ih.2.1 _ _ _ _ _ h
    · intro I G v1 v2 out h
      rw [L_X6_readOrderHead_28_1] at h
      refine am_blk 43 [(.aload_n 0, 1, 0, 0, .null), (.iconst (4), 1, 0, 0, .int (4 : Int32))] (45, [(0, .ref 28), (1, .int v1)], [.int (4 : Int32), .ref 28], I, G, (gP rd)) (True) hX hi (by decide +kernel) rfl trivial ?_
      refine am_callV hX hi (M := mX6_fault) (idx := 147) (d' := 2) (b := 28) (ci := 6) (As := [.int (4 : Int32)]) (rest := []) mkX6_fault miX6_fault mvX6_fault (by decide +kernel) (by decide +kernel) rfl (by decide +kernel) rfl ⟨by omega, by decide, Nat.le_of_ble_eq_true rfl⟩ rfl (c_X6_fault_28 _ I G (4 : Int32)) ?_
      rintro r9 I9 G9 P9 ⟨e0, e1, e2, e3⟩
      rw [e0, e1, e2, e3]
      show am_V X 0 0 _ _ ad (48, [(0, .ref 28), (1, .int v1)], [], (g_X6_fault_28 I G (4 : Int32)), G, (gP rd))
      exact ih.2.2.1 _ _ _ _ _ h
    · intro I G v1 v2 out h
      rw [L_X6_readOrderHead_28_2] at h
      refine am_blk 48 [(.aload_n 0, 1, 0, 0, .null)] (49, [(0, .ref 28), (1, .int v1)], [.ref 28], I, G, (gP rd)) (True) hX hi (by decide +kernel) rfl trivial ?_
      refine am_callV hX hi (M := mX6_advance) (idx := 100) (d' := 2) (b := 28) (ci := 6) (As := []) (rest := []) mkX6_advance miX6_advance mvX6_advance (by decide +kernel) (by decide +kernel) rfl (by decide +kernel) rfl ⟨by omega, by decide, Nat.le_of_ble_eq_true rfl⟩ rfl (c_X6_advance_28 _ I G ) ?_
      rintro r9 I9 G9 P9 ⟨e0, e1, e2, e3⟩
      rw [e0, e1, e2, e3]
      show am_V X 0 0 _ _ ad (52, [(0, .ref 28), (1, .int v1)], [], (g_X6_advance_28 I G ), G, (gP rd))
      exact ih.2.2.2.1 _ _ _ _ _ h
    · intro I G v1 v2 out h
      rw [L_X6_readOrderHead_28_3] at h
      refine am_blk 52 [(.iload_n 1, 1, 1, 0, .null), (.bipush (12), 2, 0, 0, .int (12 : Int32))] (55, [(0, .ref 28), (1, .int v1)], [.int (12 : Int32), .int v1], I, G, (gP rd)) (True) hX hi (by decide +kernel) rfl trivial ?_
      refine am_icmp_ne (tgt := 65) hX hi (off := (10)) (by decide +kernel) (by decide) (fun c55 => ?_) (fun c55 => ?_)
      · rw [if_neg c55] at h
        exact ih.2.2.2.2.2.1 _ _ _ _ _ h
      · rw [if_pos c55] at h
        exact ih.2.2.2.2.1 _ _ _ _ _ h
    · intro I G v1 v2 out h
      rw [L_X6_readOrderHead_28_4] at h
      refine am_blk 58 [(.aload_n 0, 1, 0, 0, .null)] (59, [(0, .ref 28), (1, .int v1)], [.ref 28], I, G, (gP rd)) (True) hX hi (by decide +kernel) rfl trivial ?_
      refine am_callV hX hi (M := mX6_readWay) (idx := 130) (d' := 3) (b := 28) (ci := 6) (As := []) (rest := []) mkX6_readWay miX6_readWay mvX6_readWay (by decide +kernel) (by decide +kernel) rfl (by decide +kernel) rfl ⟨by omega, by decide, Nat.le_of_ble_eq_true rfl⟩ rfl (c_X6_readWay_28 _ I G ) ?_
      rintro r9 I9 G9 P9 ⟨e0, e1, e2, e3⟩
      rw [e0, e1, e2, e3]
      show am_V X 0 0 _ _ ad (62, [(0, .ref 28), (1, .int v1)], [.int (f_X6_readWay_28 I G )], (g_X6_readWay_28 I G ), G, (gP rd))
      refine am_blk 62 [(.goto (24), 3, 0, 86, .null), (.istore_n 2, 1, 2, 0, .null)] (87, [(0, .ref 28), (1, .int v1), (2, .int (f_X6_readWay_28 I G ))], [], (g_X6_readWay_28 I G ), G, (gP rd)) (True) hX hi (by decide +kernel) rfl trivial ?_
      exact ih.2.2.2.2.2.2.1 _ _ _ _ _ h
    · intro I G v1 v2 out h
      rw [L_X6_readOrderHead_28_5] at h
      refine am_blk 65 [(.aload_n 0, 1, 0, 0, .null), (.iload_n 1, 1, 1, 0, .null), (.bipush (9), 2, 0, 0, .int (9 : Int32))] (69, [(0, .ref 28), (1, .int v1)], [.int (9 : Int32), .int v1, .ref 28], I, G, (gP rd)) (True) hX hi (by decide +kernel) rfl trivial ?_
      refine am_icmp_ne (tgt := 79) hX hi (off := (10)) (by decide +kernel) (by decide) (fun c69 => ?_) (fun c69 => ?_)
      · rw [if_neg c69] at h
        refine am_blk 79 [(.aload_n 0, 1, 0, 0, .null), (.getfield 23, 3, 6, 2, .null)] (83, [(0, .ref 28), (1, .int v1)], [.ref 47, .ref 28], I, G, (gP rd)) (True) hX hi (by decide +kernel) rfl trivial ?_
        obtain ⟨r601, I601, G601, hc, h⟩ := rb_some h
        refine am_callV hX hi (M := mX6_readKnownName) (idx := 150) (d' := 3) (b := 28) (ci := 6) (As := [.ref 47]) (rest := []) mkX6_readKnownName miX6_readKnownName mvX6_readKnownName (by decide +kernel) (by decide +kernel) rfl (by decide +kernel) rfl ⟨by omega, by decide, Nat.le_of_ble_eq_true rfl⟩ rfl (c_X6_readKnownName_28_47 _ I G  hc) ?_
        rintro r9 I9 G9 P9 ⟨e0, e1, e2, e3⟩
        rw [e0, e1, e2, e3]
        show am_V X 0 0 _ _ ad (86, [(0, .ref 28), (1, .int v1)], [.int r601], I601, G601, (gP rd))
        refine am_blk 86 [(.istore_n 2, 1, 2, 0, .null)] (87, [(0, .ref 28), (1, .int v1), (2, .int r601)], [], I601, G601, (gP rd)) (True) hX hi (by decide +kernel) rfl trivial ?_
        exact ih.2.2.2.2.2.2.1 _ _ _ _ _ h
      · rw [if_pos c69] at h
        refine am_blk 72 [(.aload_n 0, 1, 0, 0, .null), (.getfield 27, 3, 6, 3, .null), (.goto (7), 3, 0, 83, .null)] (83, [(0, .ref 28), (1, .int v1)], [.ref 49, .ref 28], I, G, (gP rd)) (True) hX hi (by decide +kernel) rfl trivial ?_
        obtain ⟨r602, I602, G602, hc, h⟩ := rb_some h
        refine am_callV hX hi (M := mX6_readKnownName) (idx := 150) (d' := 3) (b := 28) (ci := 6) (As := [.ref 49]) (rest := []) mkX6_readKnownName miX6_readKnownName mvX6_readKnownName (by decide +kernel) (by decide +kernel) rfl (by decide +kernel) rfl ⟨by omega, by decide, Nat.le_of_ble_eq_true rfl⟩ rfl (c_X6_readKnownName_28_49 _ I G  hc) ?_
        rintro r9 I9 G9 P9 ⟨e0, e1, e2, e3⟩
        rw [e0, e1, e2, e3]
        show am_V X 0 0 _ _ ad (86, [(0, .ref 28), (1, .int v1)], [.int r602], I602, G602, (gP rd))
        refine am_blk 86 [(.istore_n 2, 1, 2, 0, .null)] (87, [(0, .ref 28), (1, .int v1), (2, .int r602)], [], I602, G602, (gP rd)) (True) hX hi (by decide +kernel) rfl trivial ?_
        exact ih.2.2.2.2.2.2.1 _ _ _ _ _ h
    · intro I G v1 v2 out h
      rw [L_X6_readOrderHead_28_6] at h
      refine am_blk 87 [(.aload_n 0, 1, 0, 0, .null), (.iload_n 1, 1, 1, 0, .null), (.bipush (12), 2, 0, 0, .int (12 : Int32))] (91, [(0, .ref 28), (1, .int v1), (2, .int v2)], [.int (12 : Int32), .int v1, .ref 28], I, G, (gP rd)) (True) hX hi (by decide +kernel) rfl trivial ?_
      refine am_icmp_ne (tgt := 98) hX hi (off := (7)) (by decide +kernel) (by decide) (fun c91 => ?_) (fun c91 => ?_)
      · rw [if_neg c91] at h
        refine am_blk 98 [(.bipush (13), 2, 0, 0, .int (13 : Int32))] (100, [(0, .ref 28), (1, .int v1), (2, .int v2)], [.int (13 : Int32), .ref 28], I, G, (gP rd)) (True) hX hi (by decide +kernel) rfl trivial ?_
        refine am_callV hX hi (M := mX6_expect) (idx := 109) (d' := 3) (b := 28) (ci := 6) (As := [.int (13 : Int32)]) (rest := []) mkX6_expect miX6_expect mvX6_expect (by decide +kernel) (by decide +kernel) rfl (by decide +kernel) rfl ⟨by omega, by decide, Nat.le_of_ble_eq_true rfl⟩ rfl (c_X6_expect_28 _ I G (13 : Int32)) ?_
        rintro r9 I9 G9 P9 ⟨e0, e1, e2, e3⟩
        rw [e0, e1, e2, e3]
        show am_V X 0 0 _ _ ad (103, [(0, .ref 28), (1, .int v1), (2, .int v2)], [], (g_X6_expect_28 I G (13 : Int32)), G, (gP rd))
        exact ih.2.2.2.2.2.2.2 _ _ _ _ _ h
      · rw [if_pos c91] at h
        refine am_blk 94 [(.iconst (1), 1, 0, 0, .int (1 : Int32)), (.goto (5), 3, 0, 100, .null)] (100, [(0, .ref 28), (1, .int v1), (2, .int v2)], [.int (1 : Int32), .ref 28], I, G, (gP rd)) (True) hX hi (by decide +kernel) rfl trivial ?_
        refine am_callV hX hi (M := mX6_expect) (idx := 109) (d' := 3) (b := 28) (ci := 6) (As := [.int (1 : Int32)]) (rest := []) mkX6_expect miX6_expect mvX6_expect (by decide +kernel) (by decide +kernel) rfl (by decide +kernel) rfl ⟨by omega, by decide, Nat.le_of_ble_eq_true rfl⟩ rfl (c_X6_expect_28 _ I G (1 : Int32)) ?_
        rintro r9 I9 G9 P9 ⟨e0, e1, e2, e3⟩
        rw [e0, e1, e2, e3]
        show am_V X 0 0 _ _ ad (103, [(0, .ref 28), (1, .int v1), (2, .int v2)], [], (g_X6_expect_28 I G (1 : Int32)), G, (gP rd))
        exact ih.2.2.2.2.2.2.2 _ _ _ _ _ h
    · intro I G v1 v2 out h
      rw [L_X6_readOrderHead_28_7] at h
      refine am_blk 103 [(.aload_n 0, 1, 0, 0, .null), (.getfield 12, 3, 6, 1, .null), (.getfield 91, 3, 5, 8, .null), (.iload_n 1, 1, 1, 0, .null), (.iload_n 2, 1, 2, 0, .null)] (112, [(0, .ref 28), (1, .int v1), (2, .int v2)], [.int v2, .int v1, .ref 38], I, G, (gP rd)) (True) hX hi (by decide +kernel) rfl trivial ?_
      refine am_callV hX hi (M := mX3_begin) (idx := 154) (d' := 2) (b := 38) (ci := 3) (As := [.int v1, .int v2]) (rest := []) mkX3_begin miX3_begin mvX3_begin (by decide +kernel) (by decide +kernel) rfl (by decide +kernel) rfl ⟨by omega, by decide, Nat.le_of_ble_eq_true rfl⟩ rfl (c_X3_begin_38 _ I G v1 v2) ?_
      rintro r9 I9 G9 P9 ⟨e0, e1, e2, e3⟩
      rw [e0, e1, e2, e3]
      show am_V X 0 0 _ _ ad (115, [(0, .ref 28), (1, .int v1), (2, .int v2)], [], (g_X3_begin_38 I G v1 v2), G, (gP rd))
      refine am_vret hX hi rfl (by decide +kernel) ?_
      exact am_pvo (Option.some.inj h)
set_option maxRecDepth 20000 in
set_option maxHeartbeats 4000000 in
theorem c_X6_readOrderHead_28 (rd : Nat) (I : am_I) (G : am_G)  {out : Unit × am_I × am_G} (h : R_X6_readOrderHead_28 I G  = some out) : am_Ct mX6_readOrderHead 4 gS [.ref 28] I G (gP rd) (pV out.2.1 out.2.2 (gP rd)) := by
  refine am_ofF (by decide +kernel) rfl (by decide) (by omega) (Nat.le_of_ble_eq_true rfl) (fun X ad hX hi => ?_)
  have hi : am_info X 6 cX6_readOrderHead 3 false none 4 := hi
  show am_V X 0 0 _ _ ad (0, [(0, .ref 28)], [], I, G, (gP rd))
  unfold R_X6_readOrderHead_28 at h
  refine am_blk 0 [(.aload_n 0, 1, 0, 0, .null), (.getfield 62, 3, 6, 6, .null), (.istore_n 1, 1, 1, 0, .null), (.iload_n 1, 1, 1, 0, .null), (.bipush (9), 2, 0, 0, .int (9 : Int32))] (8, [(0, .ref 28), (1, .int (I 28 6))], [.int (9 : Int32), .int (I 28 6)], I, G, (gP rd)) (True) hX hi (by decide +kernel) rfl trivial ?_
  refine am_icmp_eq (tgt := 28) hX hi (off := (20)) (by decide +kernel) (by decide) (fun c8 => ?_) (fun c8 => ?_)
  · rw [if_pos c8] at h
    exact (l_X6_readOrderHead_28 rd hX hi FU).1 _ _ _ _ _ h
  · rw [if_neg c8] at h
    refine am_blk 11 [(.iload_n 1, 1, 1, 0, .null), (.bipush (6), 2, 0, 0, .int (6 : Int32))] (14, [(0, .ref 28), (1, .int (I 28 6))], [.int (6 : Int32), .int (I 28 6)], I, G, (gP rd)) (True) hX hi (by decide +kernel) rfl trivial ?_
    refine am_icmp_eq (tgt := 28) hX hi (off := (14)) (by decide +kernel) (by decide) (fun c14 => ?_) (fun c14 => ?_)
    · rw [if_pos c14] at h
      exact (l_X6_readOrderHead_28 rd hX hi FU).1 _ _ _ _ _ h
    · rw [if_neg c14] at h
      refine am_blk 17 [(.iload_n 1, 1, 1, 0, .null), (.bipush (12), 2, 0, 0, .int (12 : Int32))] (20, [(0, .ref 28), (1, .int (I 28 6))], [.int (12 : Int32), .int (I 28 6)], I, G, (gP rd)) (True) hX hi (by decide +kernel) rfl trivial ?_
      refine am_icmp_eq (tgt := 28) hX hi (off := (8)) (by decide +kernel) (by decide) (fun c20 => ?_) (fun c20 => ?_)
      · rw [if_pos c20] at h
        exact (l_X6_readOrderHead_28 rd hX hi FU).1 _ _ _ _ _ h
      · rw [if_neg c20] at h
        refine am_blk 23 [(.aload_n 0, 1, 0, 0, .null)] (24, [(0, .ref 28), (1, .int (I 28 6))], [.ref 28], I, G, (gP rd)) (True) hX hi (by decide +kernel) rfl trivial ?_
        refine am_callV hX hi (M := mX6_refuse) (idx := 70) (d' := 2) (b := 28) (ci := 6) (As := []) (rest := []) mkX6_refuse miX6_refuse mvX6_refuse (by decide +kernel) (by decide +kernel) rfl (by decide +kernel) rfl ⟨by omega, by decide, Nat.le_of_ble_eq_true rfl⟩ rfl (c_X6_refuse_28 _ I G ) ?_
        rintro r9 I9 G9 P9 ⟨e0, e1, e2, e3⟩
        rw [e0, e1, e2, e3]
        show am_V X 0 0 _ _ ad (27, [(0, .ref 28), (1, .int (I 28 6))], [], (g_X6_refuse_28 I G ), G, (gP rd))
        refine am_vret hX hi rfl (by decide +kernel) ?_
        exact am_pvo (Option.some.inj h)
noncomputable def L_X7_takePulls_53_14 (n0 : Nat) (hd : Nat) (I : am_I) (G : am_G) (v2 : Int32) : Option (Unit × am_I × am_G) := match n0 with
  | 0 => none
  | n + 1 => match hd with
    | _ => (if (I 7 12) ≤ v2 then some ((), I, G) else rb (R_X7_reckonShifts_53 (gPut I 54 4 v2 (gAt (I 14) 4 v2)) G v2) (fun r101 I101 G101 => L_X7_takePulls_53_14 n 0 I101 G101 (v2 + (1 : Int32))))
theorem L_X7_takePulls_53_14_0 (n : Nat) (I : am_I) (G : am_G) (v2 : Int32) : L_X7_takePulls_53_14 (n + 1) 0 I G v2 = (if (I 7 12) ≤ v2 then some ((), I, G) else rb (R_X7_reckonShifts_53 (gPut I 54 4 v2 (gAt (I 14) 4 v2)) G v2) (fun r101 I101 G101 => L_X7_takePulls_53_14 n 0 I101 G101 (v2 + (1 : Int32)))) := rfl
theorem L_X7_takePulls_53_14_z (h : Nat) (I : am_I) (G : am_G) (v2 : Int32) : L_X7_takePulls_53_14 0 h I G v2 = none := rfl
noncomputable def R_X7_takePulls_53_14 (I : am_I) (G : am_G)  : Option (Unit × am_I × am_G) := L_X7_takePulls_53_14 FU 0 I G (0 : Int32)
set_option maxRecDepth 20000 in
set_option maxHeartbeats 4000000 in
theorem l_X7_takePulls_53_14 (rd : Nat) {X : am_X} {ad : Nat → Nat} (hX : am_okz X ad) (hi : am_info X 7 cX7_takePulls 3 false none 4) (n : Nat) : (∀ (I : am_I) (G : am_G) (v2 : Int32) (out : Unit × am_I × am_G), L_X7_takePulls_53_14 n 0 I G v2 = some out → am_V X 0 0 (am_Rt X gS ad (pV out.2.1 out.2.2 (gP rd))) gS ad (2, [(0, .ref 53), (1, .ref 14), (2, .int v2)], [], I, G, (gP rd))) := by
  induction n with
  | zero => exact fun I G v2 out h => by rw [L_X7_takePulls_53_14_z] at h; cases h
  | succ n ih =>
    · intro I G v2 out h
      rw [L_X7_takePulls_53_14_0] at h
      refine am_blk 2 [(.iload_n 2, 1, 2, 0, .null), (.aload_n 0, 1, 0, 0, .null), (.getfield 44, 3, 7, 0, .null), (.getfield 82, 3, 5, 12, .null)] (10, [(0, .ref 53), (1, .ref 14), (2, .int v2)], [.int (I 7 12), .int v2], I, G, (gP rd)) (True) hX hi (by decide +kernel) rfl trivial ?_
      refine am_icmp_ge (tgt := 37) hX hi (off := (27)) (by decide +kernel) (by decide) (fun c10 => ?_) (fun c10 => ?_)
      · rw [if_pos c10] at h
        cases h
        refine am_vret hX hi rfl (by decide +kernel) ?_
        exact ⟨rfl, rfl, rfl, rfl⟩
      · rw [if_neg c10] at h
        refine am_blk 13 [(.aload_n 0, 1, 0, 0, .null), (.getfield 9, 3, 7, 2, .null), (.iload_n 2, 1, 2, 0, .null), (.aload_n 1, 1, 1, 0, .null), (.iload_n 2, 1, 2, 0, .null)] (20, [(0, .ref 53), (1, .ref 14), (2, .int v2)], [.int v2, .ref 14, .int v2, .ref 54], I, G, (gP rd)) (True) hX hi (by decide +kernel) rfl trivial ?_
        refine am_callS hX hi (M := mX0_at) (idx := 85) (d' := 1) (As := [.ref 14, .int v2]) (rest := [.int v2, .ref 54]) mkX0_at msX0_at (by decide +kernel) (by decide +kernel) rfl ⟨by omega, by decide, Nat.le_of_ble_eq_true rfl⟩ rfl (c_at rfl (by decide) v2) ?_
        rintro r9 I9 G9 P9 ⟨e0, e1, e2, e3⟩
        rw [e0, e1, e2, e3]
        show am_V X 0 0 _ _ ad (23, [(0, .ref 53), (1, .ref 14), (2, .int v2)], [.int (gAt (I 14) 4 v2), .int v2, .ref 54], I, G, (gP rd))
        refine am_callS hX hi (M := mX0_put) (idx := 89) (d' := 1) (As := [.ref 54, .int v2, .int (gAt (I 14) 4 v2)]) (rest := []) mkX0_put msX0_put (by decide +kernel) (by decide +kernel) rfl ⟨by omega, by decide, Nat.le_of_ble_eq_true rfl⟩ rfl (c_put rfl (by decide) v2 (gAt (I 14) 4 v2)) ?_
        rintro r9 I9 G9 P9 ⟨e0, e1, e2, e3⟩
        rw [e0, e1, e2, e3]
        show am_V X 0 0 _ _ ad (26, [(0, .ref 53), (1, .ref 14), (2, .int v2)], [], (gPut I 54 4 v2 (gAt (I 14) 4 v2)), G, (gP rd))
        refine am_blk 26 [(.aload_n 0, 1, 0, 0, .null), (.iload_n 2, 1, 2, 0, .null)] (28, [(0, .ref 53), (1, .ref 14), (2, .int v2)], [.int v2, .ref 53], (gPut I 54 4 v2 (gAt (I 14) 4 v2)), G, (gP rd)) (True) hX hi (by decide +kernel) rfl trivial ?_
        obtain ⟨r101, I101, G101, hc, h⟩ := rb_some h
        refine am_callV hX hi (M := mX7_reckonShifts) (idx := 93) (d' := 3) (b := 53) (ci := 7) (As := [.int v2]) (rest := []) mkX7_reckonShifts miX7_reckonShifts mvX7_reckonShifts (by decide +kernel) (by decide +kernel) rfl (by decide +kernel) rfl ⟨by omega, by decide, Nat.le_of_ble_eq_true rfl⟩ rfl (c_X7_reckonShifts_53 _ (gPut I 54 4 v2 (gAt (I 14) 4 v2)) G v2 hc) ?_
        rintro r9 I9 G9 P9 ⟨e0, e1, e2, e3⟩
        rw [e0, e1, e2, e3]
        show am_V X 0 0 _ _ ad (31, [(0, .ref 53), (1, .ref 14), (2, .int v2)], [], I101, G101, (gP rd))
        refine am_blk 31 [(.iinc 2 (1), 3, 2, 0, .int (1 : Int32)), (.goto (-32), 3, 0, 2, .null)] (2, [(0, .ref 53), (1, .ref 14), (2, .int (v2 + (1 : Int32)))], [], I101, G101, (gP rd)) (True) hX hi (by decide +kernel) rfl trivial ?_
        exact ih _ _ _ _ h
set_option maxRecDepth 20000 in
set_option maxHeartbeats 4000000 in
theorem c_X7_takePulls_53_14 (rd : Nat) (I : am_I) (G : am_G)  {out : Unit × am_I × am_G} (h : R_X7_takePulls_53_14 I G  = some out) : am_Ct mX7_takePulls 4 gS [.ref 53, .ref 14] I G (gP rd) (pV out.2.1 out.2.2 (gP rd)) := by
  refine am_ofF (by decide +kernel) rfl (by decide) (by omega) (Nat.le_of_ble_eq_true rfl) (fun X ad hX hi => ?_)
  have hi : am_info X 7 cX7_takePulls 3 false none 4 := hi
  show am_V X 0 0 _ _ ad (0, [(0, .ref 53), (1, .ref 14)], [], I, G, (gP rd))
  unfold R_X7_takePulls_53_14 at h
  refine am_blk 0 [(.iconst (0), 1, 0, 0, .int (0 : Int32)), (.istore_n 2, 1, 2, 0, .null)] (2, [(0, .ref 53), (1, .ref 14), (2, .int (0 : Int32))], [], I, G, (gP rd)) (True) hX hi (by decide +kernel) rfl trivial ?_
  exact (l_X7_takePulls_53_14 rd hX hi FU) _ _ _ _ h
noncomputable def L_X7_takePulls_66_54 (n0 : Nat) (hd : Nat) (I : am_I) (G : am_G) (v2 : Int32) : Option (Unit × am_I × am_G) := match n0 with
  | 0 => none
  | n + 1 => match hd with
    | _ => (if (I 7 12) ≤ v2 then some ((), I, G) else rb (R_X7_reckonShifts_66 (gPut I 67 4 v2 (gAt (I 54) 4 v2)) G v2) (fun r101 I101 G101 => L_X7_takePulls_66_54 n 0 I101 G101 (v2 + (1 : Int32))))
theorem L_X7_takePulls_66_54_0 (n : Nat) (I : am_I) (G : am_G) (v2 : Int32) : L_X7_takePulls_66_54 (n + 1) 0 I G v2 = (if (I 7 12) ≤ v2 then some ((), I, G) else rb (R_X7_reckonShifts_66 (gPut I 67 4 v2 (gAt (I 54) 4 v2)) G v2) (fun r101 I101 G101 => L_X7_takePulls_66_54 n 0 I101 G101 (v2 + (1 : Int32)))) := rfl
theorem L_X7_takePulls_66_54_z (h : Nat) (I : am_I) (G : am_G) (v2 : Int32) : L_X7_takePulls_66_54 0 h I G v2 = none := rfl
noncomputable def R_X7_takePulls_66_54 (I : am_I) (G : am_G)  : Option (Unit × am_I × am_G) := L_X7_takePulls_66_54 FU 0 I G (0 : Int32)
set_option maxRecDepth 20000 in
set_option maxHeartbeats 4000000 in
theorem l_X7_takePulls_66_54 (rd : Nat) {X : am_X} {ad : Nat → Nat} (hX : am_okz X ad) (hi : am_info X 7 cX7_takePulls 3 false none 4) (n : Nat) : (∀ (I : am_I) (G : am_G) (v2 : Int32) (out : Unit × am_I × am_G), L_X7_takePulls_66_54 n 0 I G v2 = some out → am_V X 0 0 (am_Rt X gS ad (pV out.2.1 out.2.2 (gP rd))) gS ad (2, [(0, .ref 66), (1, .ref 54), (2, .int v2)], [], I, G, (gP rd))) := by
  induction n with
  | zero => exact fun I G v2 out h => by rw [L_X7_takePulls_66_54_z] at h; cases h
  | succ n ih =>
    · intro I G v2 out h
      rw [L_X7_takePulls_66_54_0] at h
      refine am_blk 2 [(.iload_n 2, 1, 2, 0, .null), (.aload_n 0, 1, 0, 0, .null), (.getfield 44, 3, 7, 0, .null), (.getfield 82, 3, 5, 12, .null)] (10, [(0, .ref 66), (1, .ref 54), (2, .int v2)], [.int (I 7 12), .int v2], I, G, (gP rd)) (True) hX hi (by decide +kernel) rfl trivial ?_
      refine am_icmp_ge (tgt := 37) hX hi (off := (27)) (by decide +kernel) (by decide) (fun c10 => ?_) (fun c10 => ?_)
      · rw [if_pos c10] at h
        cases h
        refine am_vret hX hi rfl (by decide +kernel) ?_
        exact ⟨rfl, rfl, rfl, rfl⟩
      · rw [if_neg c10] at h
        refine am_blk 13 [(.aload_n 0, 1, 0, 0, .null), (.getfield 9, 3, 7, 2, .null), (.iload_n 2, 1, 2, 0, .null), (.aload_n 1, 1, 1, 0, .null), (.iload_n 2, 1, 2, 0, .null)] (20, [(0, .ref 66), (1, .ref 54), (2, .int v2)], [.int v2, .ref 54, .int v2, .ref 67], I, G, (gP rd)) (True) hX hi (by decide +kernel) rfl trivial ?_
        refine am_callS hX hi (M := mX0_at) (idx := 85) (d' := 1) (As := [.ref 54, .int v2]) (rest := [.int v2, .ref 67]) mkX0_at msX0_at (by decide +kernel) (by decide +kernel) rfl ⟨by omega, by decide, Nat.le_of_ble_eq_true rfl⟩ rfl (c_at rfl (by decide) v2) ?_
        rintro r9 I9 G9 P9 ⟨e0, e1, e2, e3⟩
        rw [e0, e1, e2, e3]
        show am_V X 0 0 _ _ ad (23, [(0, .ref 66), (1, .ref 54), (2, .int v2)], [.int (gAt (I 54) 4 v2), .int v2, .ref 67], I, G, (gP rd))
        refine am_callS hX hi (M := mX0_put) (idx := 89) (d' := 1) (As := [.ref 67, .int v2, .int (gAt (I 54) 4 v2)]) (rest := []) mkX0_put msX0_put (by decide +kernel) (by decide +kernel) rfl ⟨by omega, by decide, Nat.le_of_ble_eq_true rfl⟩ rfl (c_put rfl (by decide) v2 (gAt (I 54) 4 v2)) ?_
        rintro r9 I9 G9 P9 ⟨e0, e1, e2, e3⟩
        rw [e0, e1, e2, e3]
        show am_V X 0 0 _ _ ad (26, [(0, .ref 66), (1, .ref 54), (2, .int v2)], [], (gPut I 67 4 v2 (gAt (I 54) 4 v2)), G, (gP rd))
        refine am_blk 26 [(.aload_n 0, 1, 0, 0, .null), (.iload_n 2, 1, 2, 0, .null)] (28, [(0, .ref 66), (1, .ref 54), (2, .int v2)], [.int v2, .ref 66], (gPut I 67 4 v2 (gAt (I 54) 4 v2)), G, (gP rd)) (True) hX hi (by decide +kernel) rfl trivial ?_
        obtain ⟨r101, I101, G101, hc, h⟩ := rb_some h
        refine am_callV hX hi (M := mX7_reckonShifts) (idx := 93) (d' := 3) (b := 66) (ci := 7) (As := [.int v2]) (rest := []) mkX7_reckonShifts miX7_reckonShifts mvX7_reckonShifts (by decide +kernel) (by decide +kernel) rfl (by decide +kernel) rfl ⟨by omega, by decide, Nat.le_of_ble_eq_true rfl⟩ rfl (c_X7_reckonShifts_66 _ (gPut I 67 4 v2 (gAt (I 54) 4 v2)) G v2 hc) ?_
        rintro r9 I9 G9 P9 ⟨e0, e1, e2, e3⟩
        rw [e0, e1, e2, e3]
        show am_V X 0 0 _ _ ad (31, [(0, .ref 66), (1, .ref 54), (2, .int v2)], [], I101, G101, (gP rd))
        refine am_blk 31 [(.iinc 2 (1), 3, 2, 0, .int (1 : Int32)), (.goto (-32), 3, 0, 2, .null)] (2, [(0, .ref 66), (1, .ref 54), (2, .int (v2 + (1 : Int32)))], [], I101, G101, (gP rd)) (True) hX hi (by decide +kernel) rfl trivial ?_
        exact ih _ _ _ _ h
set_option maxRecDepth 20000 in
set_option maxHeartbeats 4000000 in
theorem c_X7_takePulls_66_54 (rd : Nat) (I : am_I) (G : am_G)  {out : Unit × am_I × am_G} (h : R_X7_takePulls_66_54 I G  = some out) : am_Ct mX7_takePulls 4 gS [.ref 66, .ref 54] I G (gP rd) (pV out.2.1 out.2.2 (gP rd)) := by
  refine am_ofF (by decide +kernel) rfl (by decide) (by omega) (Nat.le_of_ble_eq_true rfl) (fun X ad hX hi => ?_)
  have hi : am_info X 7 cX7_takePulls 3 false none 4 := hi
  show am_V X 0 0 _ _ ad (0, [(0, .ref 66), (1, .ref 54)], [], I, G, (gP rd))
  unfold R_X7_takePulls_66_54 at h
  refine am_blk 0 [(.iconst (0), 1, 0, 0, .int (0 : Int32)), (.istore_n 2, 1, 2, 0, .null)] (2, [(0, .ref 66), (1, .ref 54), (2, .int (0 : Int32))], [], I, G, (gP rd)) (True) hX hi (by decide +kernel) rfl trivial ?_
  exact (l_X7_takePulls_66_54 rd hX hi FU) _ _ _ _ h
noncomputable def R_X7_changePull_53 (I : am_I) (G : am_G) (x1 : Int32) (x2 : Int32) : Option (Int32 × am_I × am_G) := (if (gAt (I 54) 4 x1) = x2 then some ((0 : Int32), I, G) else rb (R_X7_reckonShifts_53 (gPut I 54 4 x1 x2) G x1) (fun r1 I1 G1 => some ((1 : Int32), (g_X7_spoil_53 I1 G1 ), G1)))
set_option maxRecDepth 20000 in
set_option maxHeartbeats 4000000 in
theorem c_X7_changePull_53 (rd : Nat) (I : am_I) (G : am_G) (x1 : Int32) (x2 : Int32) {out : Int32 × am_I × am_G} (h : R_X7_changePull_53 I G x1 x2 = some out) : am_Ct mX7_changePull 4 gS [.ref 53, .int x1, .int x2] I G (gP rd) (pI out.1 out.2.1 out.2.2 (gP rd)) := by
  refine am_ofF (by decide +kernel) rfl (by decide) (by omega) (Nat.le_of_ble_eq_true rfl) (fun X ad hX hi => ?_)
  have hi : am_info X 7 cX7_changePull 3 false (Option.some Jvm.ClassFile.FieldType.boolean) 4 := hi
  show am_V X 0 0 _ _ ad (0, [(0, .ref 53), (1, .int x1), (2, .int x2)], [], I, G, (gP rd))
  unfold R_X7_changePull_53 at h
  refine am_blk 0 [(.aload_n 0, 1, 0, 0, .null), (.getfield 9, 3, 7, 2, .null), (.iload_n 1, 1, 1, 0, .null)] (5, [(0, .ref 53), (1, .int x1), (2, .int x2)], [.int x1, .ref 54], I, G, (gP rd)) (True) hX hi (by decide +kernel) rfl trivial ?_
  refine am_callS hX hi (M := mX0_at) (idx := 85) (d' := 1) (As := [.ref 54, .int x1]) (rest := []) mkX0_at msX0_at (by decide +kernel) (by decide +kernel) rfl ⟨by omega, by decide, Nat.le_of_ble_eq_true rfl⟩ rfl (c_at rfl (by decide) x1) ?_
  rintro r9 I9 G9 P9 ⟨e0, e1, e2, e3⟩
  rw [e0, e1, e2, e3]
  show am_V X 0 0 _ _ ad (8, [(0, .ref 53), (1, .int x1), (2, .int x2)], [.int (gAt (I 54) 4 x1)], I, G, (gP rd))
  refine am_blk 8 [(.iload_n 2, 1, 2, 0, .null)] (9, [(0, .ref 53), (1, .int x1), (2, .int x2)], [.int x2, .int (gAt (I 54) 4 x1)], I, G, (gP rd)) (True) hX hi (by decide +kernel) rfl trivial ?_
  refine am_icmp_ne (tgt := 14) hX hi (off := (5)) (by decide +kernel) (by decide) (fun c9 => ?_) (fun c9 => ?_)
  · rw [if_neg c9] at h
    refine am_blk 14 [(.aload_n 0, 1, 0, 0, .null), (.getfield 9, 3, 7, 2, .null), (.iload_n 1, 1, 1, 0, .null), (.iload_n 2, 1, 2, 0, .null)] (20, [(0, .ref 53), (1, .int x1), (2, .int x2)], [.int x2, .int x1, .ref 54], I, G, (gP rd)) (True) hX hi (by decide +kernel) rfl trivial ?_
    refine am_callS hX hi (M := mX0_put) (idx := 89) (d' := 1) (As := [.ref 54, .int x1, .int x2]) (rest := []) mkX0_put msX0_put (by decide +kernel) (by decide +kernel) rfl ⟨by omega, by decide, Nat.le_of_ble_eq_true rfl⟩ rfl (c_put rfl (by decide) x1 x2) ?_
    rintro r9 I9 G9 P9 ⟨e0, e1, e2, e3⟩
    rw [e0, e1, e2, e3]
    show am_V X 0 0 _ _ ad (23, [(0, .ref 53), (1, .int x1), (2, .int x2)], [], (gPut I 54 4 x1 x2), G, (gP rd))
    refine am_blk 23 [(.aload_n 0, 1, 0, 0, .null), (.iload_n 1, 1, 1, 0, .null)] (25, [(0, .ref 53), (1, .int x1), (2, .int x2)], [.int x1, .ref 53], (gPut I 54 4 x1 x2), G, (gP rd)) (True) hX hi (by decide +kernel) rfl trivial ?_
    obtain ⟨r1, I1, G1, hc, h⟩ := rb_some h
    refine am_callV hX hi (M := mX7_reckonShifts) (idx := 93) (d' := 3) (b := 53) (ci := 7) (As := [.int x1]) (rest := []) mkX7_reckonShifts miX7_reckonShifts mvX7_reckonShifts (by decide +kernel) (by decide +kernel) rfl (by decide +kernel) rfl ⟨by omega, by decide, Nat.le_of_ble_eq_true rfl⟩ rfl (c_X7_reckonShifts_53 _ (gPut I 54 4 x1 x2) G x1 hc) ?_
    rintro r9 I9 G9 P9 ⟨e0, e1, e2, e3⟩
    rw [e0, e1, e2, e3]
    show am_V X 0 0 _ _ ad (28, [(0, .ref 53), (1, .int x1), (2, .int x2)], [], I1, G1, (gP rd))
    refine am_blk 28 [(.aload_n 0, 1, 0, 0, .null)] (29, [(0, .ref 53), (1, .int x1), (2, .int x2)], [.ref 53], I1, G1, (gP rd)) (True) hX hi (by decide +kernel) rfl trivial ?_
    refine am_callV hX hi (M := mX7_spoil) (idx := 79) (d' := 1) (b := 53) (ci := 7) (As := []) (rest := []) mkX7_spoil miX7_spoil mvX7_spoil (by decide +kernel) (by decide +kernel) rfl (by decide +kernel) rfl ⟨by omega, by decide, Nat.le_of_ble_eq_true rfl⟩ rfl (c_X7_spoil_53 _ I1 G1 ) ?_
    rintro r9 I9 G9 P9 ⟨e0, e1, e2, e3⟩
    rw [e0, e1, e2, e3]
    show am_V X 0 0 _ _ ad (32, [(0, .ref 53), (1, .int x1), (2, .int x2)], [], (g_X7_spoil_53 I1 G1 ), G1, (gP rd))
    refine am_blk 32 [(.iconst (1), 1, 0, 0, .int (1 : Int32))] (33, [(0, .ref 53), (1, .int x1), (2, .int x2)], [.int (1 : Int32)], (g_X7_spoil_53 I1 G1 ), G1, (gP rd)) (True) hX hi (by decide +kernel) rfl trivial ?_
    cases h
    refine am_iret hX hi rfl (by first | rfl | decide | (simp [narrow]; done)) (by decide +kernel) ?_
    exact ⟨rfl, rfl, rfl, rfl⟩
  · rw [if_pos c9] at h
    refine am_blk 12 [(.iconst (0), 1, 0, 0, .int (0 : Int32))] (13, [(0, .ref 53), (1, .int x1), (2, .int x2)], [.int (0 : Int32)], I, G, (gP rd)) (True) hX hi (by decide +kernel) rfl trivial ?_
    cases h
    refine am_iret hX hi rfl (by first | rfl | decide | (simp [narrow]; done)) (by decide +kernel) ?_
    exact ⟨rfl, rfl, rfl, rfl⟩
noncomputable def R_X7_changePull_66 (I : am_I) (G : am_G) (x1 : Int32) (x2 : Int32) : Option (Int32 × am_I × am_G) := (if (gAt (I 67) 4 x1) = x2 then some ((0 : Int32), I, G) else rb (R_X7_reckonShifts_66 (gPut I 67 4 x1 x2) G x1) (fun r1 I1 G1 => some ((1 : Int32), (g_X7_spoil_66 I1 G1 ), G1)))
set_option maxRecDepth 20000 in
set_option maxHeartbeats 4000000 in
theorem c_X7_changePull_66 (rd : Nat) (I : am_I) (G : am_G) (x1 : Int32) (x2 : Int32) {out : Int32 × am_I × am_G} (h : R_X7_changePull_66 I G x1 x2 = some out) : am_Ct mX7_changePull 4 gS [.ref 66, .int x1, .int x2] I G (gP rd) (pI out.1 out.2.1 out.2.2 (gP rd)) := by
  refine am_ofF (by decide +kernel) rfl (by decide) (by omega) (Nat.le_of_ble_eq_true rfl) (fun X ad hX hi => ?_)
  have hi : am_info X 7 cX7_changePull 3 false (Option.some Jvm.ClassFile.FieldType.boolean) 4 := hi
  show am_V X 0 0 _ _ ad (0, [(0, .ref 66), (1, .int x1), (2, .int x2)], [], I, G, (gP rd))
  unfold R_X7_changePull_66 at h
  refine am_blk 0 [(.aload_n 0, 1, 0, 0, .null), (.getfield 9, 3, 7, 2, .null), (.iload_n 1, 1, 1, 0, .null)] (5, [(0, .ref 66), (1, .int x1), (2, .int x2)], [.int x1, .ref 67], I, G, (gP rd)) (True) hX hi (by decide +kernel) rfl trivial ?_
  refine am_callS hX hi (M := mX0_at) (idx := 85) (d' := 1) (As := [.ref 67, .int x1]) (rest := []) mkX0_at msX0_at (by decide +kernel) (by decide +kernel) rfl ⟨by omega, by decide, Nat.le_of_ble_eq_true rfl⟩ rfl (c_at rfl (by decide) x1) ?_
  rintro r9 I9 G9 P9 ⟨e0, e1, e2, e3⟩
  rw [e0, e1, e2, e3]
  show am_V X 0 0 _ _ ad (8, [(0, .ref 66), (1, .int x1), (2, .int x2)], [.int (gAt (I 67) 4 x1)], I, G, (gP rd))
  refine am_blk 8 [(.iload_n 2, 1, 2, 0, .null)] (9, [(0, .ref 66), (1, .int x1), (2, .int x2)], [.int x2, .int (gAt (I 67) 4 x1)], I, G, (gP rd)) (True) hX hi (by decide +kernel) rfl trivial ?_
  refine am_icmp_ne (tgt := 14) hX hi (off := (5)) (by decide +kernel) (by decide) (fun c9 => ?_) (fun c9 => ?_)
  · rw [if_neg c9] at h
    refine am_blk 14 [(.aload_n 0, 1, 0, 0, .null), (.getfield 9, 3, 7, 2, .null), (.iload_n 1, 1, 1, 0, .null), (.iload_n 2, 1, 2, 0, .null)] (20, [(0, .ref 66), (1, .int x1), (2, .int x2)], [.int x2, .int x1, .ref 67], I, G, (gP rd)) (True) hX hi (by decide +kernel) rfl trivial ?_
    refine am_callS hX hi (M := mX0_put) (idx := 89) (d' := 1) (As := [.ref 67, .int x1, .int x2]) (rest := []) mkX0_put msX0_put (by decide +kernel) (by decide +kernel) rfl ⟨by omega, by decide, Nat.le_of_ble_eq_true rfl⟩ rfl (c_put rfl (by decide) x1 x2) ?_
    rintro r9 I9 G9 P9 ⟨e0, e1, e2, e3⟩
    rw [e0, e1, e2, e3]
    show am_V X 0 0 _ _ ad (23, [(0, .ref 66), (1, .int x1), (2, .int x2)], [], (gPut I 67 4 x1 x2), G, (gP rd))
    refine am_blk 23 [(.aload_n 0, 1, 0, 0, .null), (.iload_n 1, 1, 1, 0, .null)] (25, [(0, .ref 66), (1, .int x1), (2, .int x2)], [.int x1, .ref 66], (gPut I 67 4 x1 x2), G, (gP rd)) (True) hX hi (by decide +kernel) rfl trivial ?_
    obtain ⟨r1, I1, G1, hc, h⟩ := rb_some h
    refine am_callV hX hi (M := mX7_reckonShifts) (idx := 93) (d' := 3) (b := 66) (ci := 7) (As := [.int x1]) (rest := []) mkX7_reckonShifts miX7_reckonShifts mvX7_reckonShifts (by decide +kernel) (by decide +kernel) rfl (by decide +kernel) rfl ⟨by omega, by decide, Nat.le_of_ble_eq_true rfl⟩ rfl (c_X7_reckonShifts_66 _ (gPut I 67 4 x1 x2) G x1 hc) ?_
    rintro r9 I9 G9 P9 ⟨e0, e1, e2, e3⟩
    rw [e0, e1, e2, e3]
    show am_V X 0 0 _ _ ad (28, [(0, .ref 66), (1, .int x1), (2, .int x2)], [], I1, G1, (gP rd))
    refine am_blk 28 [(.aload_n 0, 1, 0, 0, .null)] (29, [(0, .ref 66), (1, .int x1), (2, .int x2)], [.ref 66], I1, G1, (gP rd)) (True) hX hi (by decide +kernel) rfl trivial ?_
    refine am_callV hX hi (M := mX7_spoil) (idx := 79) (d' := 1) (b := 66) (ci := 7) (As := []) (rest := []) mkX7_spoil miX7_spoil mvX7_spoil (by decide +kernel) (by decide +kernel) rfl (by decide +kernel) rfl ⟨by omega, by decide, Nat.le_of_ble_eq_true rfl⟩ rfl (c_X7_spoil_66 _ I1 G1 ) ?_
    rintro r9 I9 G9 P9 ⟨e0, e1, e2, e3⟩
    rw [e0, e1, e2, e3]
    show am_V X 0 0 _ _ ad (32, [(0, .ref 66), (1, .int x1), (2, .int x2)], [], (g_X7_spoil_66 I1 G1 ), G1, (gP rd))
    refine am_blk 32 [(.iconst (1), 1, 0, 0, .int (1 : Int32))] (33, [(0, .ref 66), (1, .int x1), (2, .int x2)], [.int (1 : Int32)], (g_X7_spoil_66 I1 G1 ), G1, (gP rd)) (True) hX hi (by decide +kernel) rfl trivial ?_
    cases h
    refine am_iret hX hi rfl (by first | rfl | decide | (simp [narrow]; done)) (by decide +kernel) ?_
    exact ⟨rfl, rfl, rfl, rfl⟩
  · rw [if_pos c9] at h
    refine am_blk 12 [(.iconst (0), 1, 0, 0, .int (0 : Int32))] (13, [(0, .ref 66), (1, .int x1), (2, .int x2)], [.int (0 : Int32)], I, G, (gP rd)) (True) hX hi (by decide +kernel) rfl trivial ?_
    cases h
    refine am_iret hX hi rfl (by first | rfl | decide | (simp [narrow]; done)) (by decide +kernel) ?_
    exact ⟨rfl, rfl, rfl, rfl⟩
noncomputable def R_X7_step_53 (I : am_I) (G : am_G) (x1 : Int32) (x2 : Int32) : Option (Unit × am_I × am_G) := (if x1 = (6 : Int32) then some ((), (g_X8_push_64 I G (gAt (I 56) 4 x2)), G) else if x1 = (9 : Int32) then some ((), (g_X8_push_64 I G (gAt (I 54) 4 x2)), G) else if x1 = (15 : Int32) then some ((), (g_X8_push_64 I G (I 53 12)), G) else if x1 = (16 : Int32) then some ((), (g_X8_push_64 I G (gAt (I 59) 6 (x2 + (1 : Int32)))), G) else if x1 = (18 : Int32) then rb (R_X7_isAtEdge_53 I G (x2 + (1 : Int32))) (fun r1 I1 G1 => some ((), (g_X8_pushTest_64 I1 G1 r1), G1)) else if x1 = (19 : Int32) then (if (f_X8_pop_64 I G ) = 0 then some ((), (g_X8_pushTest_64 (g_X8_pop_64 I G ) G (1 : Int32)), G) else some ((), (g_X8_pushTest_64 (g_X8_pop_64 I G ) G (0 : Int32)), G)) else if x1 = (40 : Int32) then some ((), (g_X8_push_64 I G x2), G) else if x1 = (43 : Int32) then some ((), (g_X8_push_64 (g_X8_pop_64 I G ) G (-(f_X8_pop_64 I G ))), G) else (if x1 = (17 : Int32) then some ((), (g_X8_push_64 (g_X8_pop_64 (g_X8_pop_64 I G ) G ) G (gAt ((g_X8_pop_64 (g_X8_pop_64 I G ) G ) 57) 576 (f_X5_spot_7 (g_X8_pop_64 (g_X8_pop_64 I G ) G ) G (f_X8_pop_64 (g_X8_pop_64 I G ) G ) (f_X8_pop_64 I G )))), G) else some ((), (g_X8_push_64 (g_X8_pop_64 (g_X8_pop_64 I G ) G ) G (f_X7_combine (g_X8_pop_64 (g_X8_pop_64 I G ) G ) G x1 (f_X8_pop_64 (g_X8_pop_64 I G ) G ) (f_X8_pop_64 I G ))), G)))
set_option maxRecDepth 20000 in
set_option maxHeartbeats 4000000 in
theorem c_X7_step_53 (rd : Nat) (I : am_I) (G : am_G) (x1 : Int32) (x2 : Int32) {out : Unit × am_I × am_G} (h : R_X7_step_53 I G x1 x2 = some out) : am_Ct mX7_step 4 gS [.ref 53, .int x1, .int x2] I G (gP rd) (pV out.2.1 out.2.2 (gP rd)) := by
  refine am_ofF (by decide +kernel) rfl (by decide) (by omega) (Nat.le_of_ble_eq_true rfl) (fun X ad hX hi => ?_)
  have hi : am_info X 7 cX7_step 5 false none 4 := hi
  show am_V X 0 0 _ _ ad (0, [(0, .ref 53), (1, .int x1), (2, .int x2)], [], I, G, (gP rd))
  unfold R_X7_step_53 at h
  refine am_blk 0 [(.iload_n 1, 1, 1, 0, .null)] (1, [(0, .ref 53), (1, .int x1), (2, .int x2)], [.int x1], I, G, (gP rd)) (True) hX hi (by decide +kernel) rfl trivial ?_
  by_cases s1_6 : x1 = (6 : Int32)
  · rw [if_pos s1_6] at h
    refine am_lsw hX hi (dflt := (216)) (ps := #[((6), (118)), ((9), (100)), ((15), (86)), ((16), (136)), ((18), (156)), ((19), (191)), ((40), (75)), ((43), (173))]) (len := 75) (off := (118)) (tgt := 119) (by decide +kernel) (by decide +kernel) (by rw [s1_6]; rfl) (by decide) ?_
    refine am_blk 119 [(.aload_n 0, 1, 0, 0, .null), (.getfield 40, 3, 7, 9, .null), (.aload_n 0, 1, 0, 0, .null), (.getfield 18, 3, 7, 4, .null), (.iload_n 2, 1, 2, 0, .null)] (128, [(0, .ref 53), (1, .int x1), (2, .int x2)], [.int x2, .ref 56, .ref 64], I, G, (gP rd)) (True) hX hi (by decide +kernel) rfl trivial ?_
    refine am_callS hX hi (M := mX0_at) (idx := 85) (d' := 1) (As := [.ref 56, .int x2]) (rest := [.ref 64]) mkX0_at msX0_at (by decide +kernel) (by decide +kernel) rfl ⟨by omega, by decide, Nat.le_of_ble_eq_true rfl⟩ rfl (c_at rfl (by decide) x2) ?_
    rintro r9 I9 G9 P9 ⟨e0, e1, e2, e3⟩
    rw [e0, e1, e2, e3]
    show am_V X 0 0 _ _ ad (131, [(0, .ref 53), (1, .int x1), (2, .int x2)], [.int (gAt (I 56) 4 x2), .ref 64], I, G, (gP rd))
    refine am_callV hX hi (M := mX8_push) (idx := 183) (d' := 1) (b := 64) (ci := 8) (As := [.int (gAt (I 56) 4 x2)]) (rest := []) mkX8_push miX8_push mvX8_push (by decide +kernel) (by decide +kernel) rfl (by decide +kernel) rfl ⟨by omega, by decide, Nat.le_of_ble_eq_true rfl⟩ rfl (c_X8_push_64 _ I G (gAt (I 56) 4 x2)) ?_
    rintro r9 I9 G9 P9 ⟨e0, e1, e2, e3⟩
    rw [e0, e1, e2, e3]
    show am_V X 0 0 _ _ ad (134, [(0, .ref 53), (1, .int x1), (2, .int x2)], [], (g_X8_push_64 I G (gAt (I 56) 4 x2)), G, (gP rd))
    refine am_blk 134 [(.goto (140), 3, 0, 274, .null)] (274, [(0, .ref 53), (1, .int x1), (2, .int x2)], [], (g_X8_push_64 I G (gAt (I 56) 4 x2)), G, (gP rd)) (True) hX hi (by decide +kernel) rfl trivial ?_
    cases h
    refine am_vret hX hi rfl (by decide +kernel) ?_
    exact ⟨rfl, rfl, rfl, rfl⟩
  rw [if_neg s1_6] at h
  by_cases s1_9 : x1 = (9 : Int32)
  · rw [if_pos s1_9] at h
    refine am_lsw hX hi (dflt := (216)) (ps := #[((6), (118)), ((9), (100)), ((15), (86)), ((16), (136)), ((18), (156)), ((19), (191)), ((40), (75)), ((43), (173))]) (len := 75) (off := (100)) (tgt := 101) (by decide +kernel) (by decide +kernel) (by rw [s1_9]; rfl) (by decide) ?_
    refine am_blk 101 [(.aload_n 0, 1, 0, 0, .null), (.getfield 40, 3, 7, 9, .null), (.aload_n 0, 1, 0, 0, .null), (.getfield 9, 3, 7, 2, .null), (.iload_n 2, 1, 2, 0, .null)] (110, [(0, .ref 53), (1, .int x1), (2, .int x2)], [.int x2, .ref 54, .ref 64], I, G, (gP rd)) (True) hX hi (by decide +kernel) rfl trivial ?_
    refine am_callS hX hi (M := mX0_at) (idx := 85) (d' := 1) (As := [.ref 54, .int x2]) (rest := [.ref 64]) mkX0_at msX0_at (by decide +kernel) (by decide +kernel) rfl ⟨by omega, by decide, Nat.le_of_ble_eq_true rfl⟩ rfl (c_at rfl (by decide) x2) ?_
    rintro r9 I9 G9 P9 ⟨e0, e1, e2, e3⟩
    rw [e0, e1, e2, e3]
    show am_V X 0 0 _ _ ad (113, [(0, .ref 53), (1, .int x1), (2, .int x2)], [.int (gAt (I 54) 4 x2), .ref 64], I, G, (gP rd))
    refine am_callV hX hi (M := mX8_push) (idx := 183) (d' := 1) (b := 64) (ci := 8) (As := [.int (gAt (I 54) 4 x2)]) (rest := []) mkX8_push miX8_push mvX8_push (by decide +kernel) (by decide +kernel) rfl (by decide +kernel) rfl ⟨by omega, by decide, Nat.le_of_ble_eq_true rfl⟩ rfl (c_X8_push_64 _ I G (gAt (I 54) 4 x2)) ?_
    rintro r9 I9 G9 P9 ⟨e0, e1, e2, e3⟩
    rw [e0, e1, e2, e3]
    show am_V X 0 0 _ _ ad (116, [(0, .ref 53), (1, .int x1), (2, .int x2)], [], (g_X8_push_64 I G (gAt (I 54) 4 x2)), G, (gP rd))
    refine am_blk 116 [(.goto (158), 3, 0, 274, .null)] (274, [(0, .ref 53), (1, .int x1), (2, .int x2)], [], (g_X8_push_64 I G (gAt (I 54) 4 x2)), G, (gP rd)) (True) hX hi (by decide +kernel) rfl trivial ?_
    cases h
    refine am_vret hX hi rfl (by decide +kernel) ?_
    exact ⟨rfl, rfl, rfl, rfl⟩
  rw [if_neg s1_9] at h
  by_cases s1_15 : x1 = (15 : Int32)
  · rw [if_pos s1_15] at h
    refine am_lsw hX hi (dflt := (216)) (ps := #[((6), (118)), ((9), (100)), ((15), (86)), ((16), (136)), ((18), (156)), ((19), (191)), ((40), (75)), ((43), (173))]) (len := 75) (off := (86)) (tgt := 87) (by decide +kernel) (by decide +kernel) (by rw [s1_15]; rfl) (by decide) ?_
    refine am_blk 87 [(.aload_n 0, 1, 0, 0, .null), (.getfield 40, 3, 7, 9, .null), (.aload_n 0, 1, 0, 0, .null), (.getfield 59, 3, 7, 12, .null)] (95, [(0, .ref 53), (1, .int x1), (2, .int x2)], [.int (I 53 12), .ref 64], I, G, (gP rd)) (True) hX hi (by decide +kernel) rfl trivial ?_
    refine am_callV hX hi (M := mX8_push) (idx := 183) (d' := 1) (b := 64) (ci := 8) (As := [.int (I 53 12)]) (rest := []) mkX8_push miX8_push mvX8_push (by decide +kernel) (by decide +kernel) rfl (by decide +kernel) rfl ⟨by omega, by decide, Nat.le_of_ble_eq_true rfl⟩ rfl (c_X8_push_64 _ I G (I 53 12)) ?_
    rintro r9 I9 G9 P9 ⟨e0, e1, e2, e3⟩
    rw [e0, e1, e2, e3]
    show am_V X 0 0 _ _ ad (98, [(0, .ref 53), (1, .int x1), (2, .int x2)], [], (g_X8_push_64 I G (I 53 12)), G, (gP rd))
    refine am_blk 98 [(.goto (176), 3, 0, 274, .null)] (274, [(0, .ref 53), (1, .int x1), (2, .int x2)], [], (g_X8_push_64 I G (I 53 12)), G, (gP rd)) (True) hX hi (by decide +kernel) rfl trivial ?_
    cases h
    refine am_vret hX hi rfl (by decide +kernel) ?_
    exact ⟨rfl, rfl, rfl, rfl⟩
  rw [if_neg s1_15] at h
  by_cases s1_16 : x1 = (16 : Int32)
  · rw [if_pos s1_16] at h
    refine am_lsw hX hi (dflt := (216)) (ps := #[((6), (118)), ((9), (100)), ((15), (86)), ((16), (136)), ((18), (156)), ((19), (191)), ((40), (75)), ((43), (173))]) (len := 75) (off := (136)) (tgt := 137) (by decide +kernel) (by decide +kernel) (by rw [s1_16]; rfl) (by decide) ?_
    refine am_blk 137 [(.aload_n 0, 1, 0, 0, .null), (.getfield 40, 3, 7, 9, .null), (.aload_n 0, 1, 0, 0, .null), (.getfield 27, 3, 7, 7, .null), (.iload_n 2, 1, 2, 0, .null), (.iconst (1), 1, 0, 0, .int (1 : Int32)), (.iadd, 1, 0, 0, .null)] (148, [(0, .ref 53), (1, .int x1), (2, .int x2)], [.int (x2 + (1 : Int32)), .ref 59, .ref 64], I, G, (gP rd)) (True) hX hi (by decide +kernel) rfl trivial ?_
    refine am_callS hX hi (M := mX0_at) (idx := 85) (d' := 1) (As := [.ref 59, .int (x2 + (1 : Int32))]) (rest := [.ref 64]) mkX0_at msX0_at (by decide +kernel) (by decide +kernel) rfl ⟨by omega, by decide, Nat.le_of_ble_eq_true rfl⟩ rfl (c_at rfl (by decide) (x2 + (1 : Int32))) ?_
    rintro r9 I9 G9 P9 ⟨e0, e1, e2, e3⟩
    rw [e0, e1, e2, e3]
    show am_V X 0 0 _ _ ad (151, [(0, .ref 53), (1, .int x1), (2, .int x2)], [.int (gAt (I 59) 6 (x2 + (1 : Int32))), .ref 64], I, G, (gP rd))
    refine am_callV hX hi (M := mX8_push) (idx := 183) (d' := 1) (b := 64) (ci := 8) (As := [.int (gAt (I 59) 6 (x2 + (1 : Int32)))]) (rest := []) mkX8_push miX8_push mvX8_push (by decide +kernel) (by decide +kernel) rfl (by decide +kernel) rfl ⟨by omega, by decide, Nat.le_of_ble_eq_true rfl⟩ rfl (c_X8_push_64 _ I G (gAt (I 59) 6 (x2 + (1 : Int32)))) ?_
    rintro r9 I9 G9 P9 ⟨e0, e1, e2, e3⟩
    rw [e0, e1, e2, e3]
    show am_V X 0 0 _ _ ad (154, [(0, .ref 53), (1, .int x1), (2, .int x2)], [], (g_X8_push_64 I G (gAt (I 59) 6 (x2 + (1 : Int32)))), G, (gP rd))
    refine am_blk 154 [(.goto (120), 3, 0, 274, .null)] (274, [(0, .ref 53), (1, .int x1), (2, .int x2)], [], (g_X8_push_64 I G (gAt (I 59) 6 (x2 + (1 : Int32)))), G, (gP rd)) (True) hX hi (by decide +kernel) rfl trivial ?_
    cases h
    refine am_vret hX hi rfl (by decide +kernel) ?_
    exact ⟨rfl, rfl, rfl, rfl⟩
  rw [if_neg s1_16] at h
  by_cases s1_18 : x1 = (18 : Int32)
  · rw [if_pos s1_18] at h
    refine am_lsw hX hi (dflt := (216)) (ps := #[((6), (118)), ((9), (100)), ((15), (86)), ((16), (136)), ((18), (156)), ((19), (191)), ((40), (75)), ((43), (173))]) (len := 75) (off := (156)) (tgt := 157) (by decide +kernel) (by decide +kernel) (by rw [s1_18]; rfl) (by decide) ?_
    refine am_blk 157 [(.aload_n 0, 1, 0, 0, .null), (.getfield 40, 3, 7, 9, .null), (.aload_n 0, 1, 0, 0, .null), (.iload_n 2, 1, 2, 0, .null), (.iconst (1), 1, 0, 0, .int (1 : Int32)), (.iadd, 1, 0, 0, .null)] (165, [(0, .ref 53), (1, .int x1), (2, .int x2)], [.int (x2 + (1 : Int32)), .ref 53, .ref 64], I, G, (gP rd)) (True) hX hi (by decide +kernel) rfl trivial ?_
    obtain ⟨r1, I1, G1, hc, h⟩ := rb_some h
    refine am_callV hX hi (M := mX7_isAtEdge) (idx := 186) (d' := 2) (b := 53) (ci := 7) (As := [.int (x2 + (1 : Int32))]) (rest := [.ref 64]) mkX7_isAtEdge miX7_isAtEdge mvX7_isAtEdge (by decide +kernel) (by decide +kernel) rfl (by decide +kernel) rfl ⟨by omega, by decide, Nat.le_of_ble_eq_true rfl⟩ rfl (c_X7_isAtEdge_53 _ I G (x2 + (1 : Int32)) hc) ?_
    rintro r9 I9 G9 P9 ⟨e0, e1, e2, e3⟩
    rw [e0, e1, e2, e3]
    show am_V X 0 0 _ _ ad (168, [(0, .ref 53), (1, .int x1), (2, .int x2)], [.int r1, .ref 64], I1, G1, (gP rd))
    refine am_callV hX hi (M := mX8_pushTest) (idx := 189) (d' := 2) (b := 64) (ci := 8) (As := [.int r1]) (rest := []) mkX8_pushTest miX8_pushTest mvX8_pushTest (by decide +kernel) (by decide +kernel) rfl (by decide +kernel) rfl ⟨by omega, by decide, Nat.le_of_ble_eq_true rfl⟩ rfl (c_X8_pushTest_64 _ I1 G1 r1) ?_
    rintro r9 I9 G9 P9 ⟨e0, e1, e2, e3⟩
    rw [e0, e1, e2, e3]
    show am_V X 0 0 _ _ ad (171, [(0, .ref 53), (1, .int x1), (2, .int x2)], [], (g_X8_pushTest_64 I1 G1 r1), G1, (gP rd))
    refine am_blk 171 [(.goto (103), 3, 0, 274, .null)] (274, [(0, .ref 53), (1, .int x1), (2, .int x2)], [], (g_X8_pushTest_64 I1 G1 r1), G1, (gP rd)) (True) hX hi (by decide +kernel) rfl trivial ?_
    cases h
    refine am_vret hX hi rfl (by decide +kernel) ?_
    exact ⟨rfl, rfl, rfl, rfl⟩
  rw [if_neg s1_18] at h
  by_cases s1_19 : x1 = (19 : Int32)
  · rw [if_pos s1_19] at h
    refine am_lsw hX hi (dflt := (216)) (ps := #[((6), (118)), ((9), (100)), ((15), (86)), ((16), (136)), ((18), (156)), ((19), (191)), ((40), (75)), ((43), (173))]) (len := 75) (off := (191)) (tgt := 192) (by decide +kernel) (by decide +kernel) (by rw [s1_19]; rfl) (by decide) ?_
    refine am_blk 192 [(.aload_n 0, 1, 0, 0, .null), (.getfield 40, 3, 7, 9, .null), (.aload_n 0, 1, 0, 0, .null), (.getfield 40, 3, 7, 9, .null)] (200, [(0, .ref 53), (1, .int x1), (2, .int x2)], [.ref 64, .ref 64], I, G, (gP rd)) (True) hX hi (by decide +kernel) rfl trivial ?_
    refine am_callV hX hi (M := mX8_pop) (idx := 179) (d' := 1) (b := 64) (ci := 8) (As := []) (rest := [.ref 64]) mkX8_pop miX8_pop mvX8_pop (by decide +kernel) (by decide +kernel) rfl (by decide +kernel) rfl ⟨by omega, by decide, Nat.le_of_ble_eq_true rfl⟩ rfl (c_X8_pop_64 _ I G ) ?_
    rintro r9 I9 G9 P9 ⟨e0, e1, e2, e3⟩
    rw [e0, e1, e2, e3]
    show am_V X 0 0 _ _ ad (203, [(0, .ref 53), (1, .int x1), (2, .int x2)], [.int (f_X8_pop_64 I G ), .ref 64], (g_X8_pop_64 I G ), G, (gP rd))
    refine am_if_ne (tgt := 210) hX hi (off := (7)) (by decide +kernel) (by decide) (fun c203 => ?_) (fun c203 => ?_)
    · rw [if_neg c203] at h
      refine am_blk 210 [(.iconst (0), 1, 0, 0, .int (0 : Int32))] (211, [(0, .ref 53), (1, .int x1), (2, .int x2)], [.int (0 : Int32), .ref 64], (g_X8_pop_64 I G ), G, (gP rd)) (True) hX hi (by decide +kernel) rfl trivial ?_
      refine am_callV hX hi (M := mX8_pushTest) (idx := 189) (d' := 2) (b := 64) (ci := 8) (As := [.int (0 : Int32)]) (rest := []) mkX8_pushTest miX8_pushTest mvX8_pushTest (by decide +kernel) (by decide +kernel) rfl (by decide +kernel) rfl ⟨by omega, by decide, Nat.le_of_ble_eq_true rfl⟩ rfl (c_X8_pushTest_64 _ (g_X8_pop_64 I G ) G (0 : Int32)) ?_
      rintro r9 I9 G9 P9 ⟨e0, e1, e2, e3⟩
      rw [e0, e1, e2, e3]
      show am_V X 0 0 _ _ ad (214, [(0, .ref 53), (1, .int x1), (2, .int x2)], [], (g_X8_pushTest_64 (g_X8_pop_64 I G ) G (0 : Int32)), G, (gP rd))
      refine am_blk 214 [(.goto (60), 3, 0, 274, .null)] (274, [(0, .ref 53), (1, .int x1), (2, .int x2)], [], (g_X8_pushTest_64 (g_X8_pop_64 I G ) G (0 : Int32)), G, (gP rd)) (True) hX hi (by decide +kernel) rfl trivial ?_
      cases h
      refine am_vret hX hi rfl (by decide +kernel) ?_
      exact ⟨rfl, rfl, rfl, rfl⟩
    · rw [if_pos c203] at h
      refine am_blk 206 [(.iconst (1), 1, 0, 0, .int (1 : Int32)), (.goto (4), 3, 0, 211, .null)] (211, [(0, .ref 53), (1, .int x1), (2, .int x2)], [.int (1 : Int32), .ref 64], (g_X8_pop_64 I G ), G, (gP rd)) (True) hX hi (by decide +kernel) rfl trivial ?_
      refine am_callV hX hi (M := mX8_pushTest) (idx := 189) (d' := 2) (b := 64) (ci := 8) (As := [.int (1 : Int32)]) (rest := []) mkX8_pushTest miX8_pushTest mvX8_pushTest (by decide +kernel) (by decide +kernel) rfl (by decide +kernel) rfl ⟨by omega, by decide, Nat.le_of_ble_eq_true rfl⟩ rfl (c_X8_pushTest_64 _ (g_X8_pop_64 I G ) G (1 : Int32)) ?_
      rintro r9 I9 G9 P9 ⟨e0, e1, e2, e3⟩
      rw [e0, e1, e2, e3]
      show am_V X 0 0 _ _ ad (214, [(0, .ref 53), (1, .int x1), (2, .int x2)], [], (g_X8_pushTest_64 (g_X8_pop_64 I G ) G (1 : Int32)), G, (gP rd))
      refine am_blk 214 [(.goto (60), 3, 0, 274, .null)] (274, [(0, .ref 53), (1, .int x1), (2, .int x2)], [], (g_X8_pushTest_64 (g_X8_pop_64 I G ) G (1 : Int32)), G, (gP rd)) (True) hX hi (by decide +kernel) rfl trivial ?_
      cases h
      refine am_vret hX hi rfl (by decide +kernel) ?_
      exact ⟨rfl, rfl, rfl, rfl⟩
  rw [if_neg s1_19] at h
  by_cases s1_40 : x1 = (40 : Int32)
  · rw [if_pos s1_40] at h
    refine am_lsw hX hi (dflt := (216)) (ps := #[((6), (118)), ((9), (100)), ((15), (86)), ((16), (136)), ((18), (156)), ((19), (191)), ((40), (75)), ((43), (173))]) (len := 75) (off := (75)) (tgt := 76) (by decide +kernel) (by decide +kernel) (by rw [s1_40]; rfl) (by decide) ?_
    refine am_blk 76 [(.aload_n 0, 1, 0, 0, .null), (.getfield 40, 3, 7, 9, .null), (.iload_n 2, 1, 2, 0, .null)] (81, [(0, .ref 53), (1, .int x1), (2, .int x2)], [.int x2, .ref 64], I, G, (gP rd)) (True) hX hi (by decide +kernel) rfl trivial ?_
    refine am_callV hX hi (M := mX8_push) (idx := 183) (d' := 1) (b := 64) (ci := 8) (As := [.int x2]) (rest := []) mkX8_push miX8_push mvX8_push (by decide +kernel) (by decide +kernel) rfl (by decide +kernel) rfl ⟨by omega, by decide, Nat.le_of_ble_eq_true rfl⟩ rfl (c_X8_push_64 _ I G x2) ?_
    rintro r9 I9 G9 P9 ⟨e0, e1, e2, e3⟩
    rw [e0, e1, e2, e3]
    show am_V X 0 0 _ _ ad (84, [(0, .ref 53), (1, .int x1), (2, .int x2)], [], (g_X8_push_64 I G x2), G, (gP rd))
    refine am_blk 84 [(.goto (190), 3, 0, 274, .null)] (274, [(0, .ref 53), (1, .int x1), (2, .int x2)], [], (g_X8_push_64 I G x2), G, (gP rd)) (True) hX hi (by decide +kernel) rfl trivial ?_
    cases h
    refine am_vret hX hi rfl (by decide +kernel) ?_
    exact ⟨rfl, rfl, rfl, rfl⟩
  rw [if_neg s1_40] at h
  by_cases s1_43 : x1 = (43 : Int32)
  · rw [if_pos s1_43] at h
    refine am_lsw hX hi (dflt := (216)) (ps := #[((6), (118)), ((9), (100)), ((15), (86)), ((16), (136)), ((18), (156)), ((19), (191)), ((40), (75)), ((43), (173))]) (len := 75) (off := (173)) (tgt := 174) (by decide +kernel) (by decide +kernel) (by rw [s1_43]; rfl) (by decide) ?_
    refine am_blk 174 [(.aload_n 0, 1, 0, 0, .null), (.getfield 40, 3, 7, 9, .null), (.aload_n 0, 1, 0, 0, .null), (.getfield 40, 3, 7, 9, .null)] (182, [(0, .ref 53), (1, .int x1), (2, .int x2)], [.ref 64, .ref 64], I, G, (gP rd)) (True) hX hi (by decide +kernel) rfl trivial ?_
    refine am_callV hX hi (M := mX8_pop) (idx := 179) (d' := 1) (b := 64) (ci := 8) (As := []) (rest := [.ref 64]) mkX8_pop miX8_pop mvX8_pop (by decide +kernel) (by decide +kernel) rfl (by decide +kernel) rfl ⟨by omega, by decide, Nat.le_of_ble_eq_true rfl⟩ rfl (c_X8_pop_64 _ I G ) ?_
    rintro r9 I9 G9 P9 ⟨e0, e1, e2, e3⟩
    rw [e0, e1, e2, e3]
    show am_V X 0 0 _ _ ad (185, [(0, .ref 53), (1, .int x1), (2, .int x2)], [.int (f_X8_pop_64 I G ), .ref 64], (g_X8_pop_64 I G ), G, (gP rd))
    refine am_blk 185 [(.ineg, 1, 0, 0, .null)] (186, [(0, .ref 53), (1, .int x1), (2, .int x2)], [.int (-(f_X8_pop_64 I G )), .ref 64], (g_X8_pop_64 I G ), G, (gP rd)) (True) hX hi (by decide +kernel) rfl trivial ?_
    refine am_callV hX hi (M := mX8_push) (idx := 183) (d' := 1) (b := 64) (ci := 8) (As := [.int (-(f_X8_pop_64 I G ))]) (rest := []) mkX8_push miX8_push mvX8_push (by decide +kernel) (by decide +kernel) rfl (by decide +kernel) rfl ⟨by omega, by decide, Nat.le_of_ble_eq_true rfl⟩ rfl (c_X8_push_64 _ (g_X8_pop_64 I G ) G (-(f_X8_pop_64 I G ))) ?_
    rintro r9 I9 G9 P9 ⟨e0, e1, e2, e3⟩
    rw [e0, e1, e2, e3]
    show am_V X 0 0 _ _ ad (189, [(0, .ref 53), (1, .int x1), (2, .int x2)], [], (g_X8_push_64 (g_X8_pop_64 I G ) G (-(f_X8_pop_64 I G ))), G, (gP rd))
    refine am_blk 189 [(.goto (85), 3, 0, 274, .null)] (274, [(0, .ref 53), (1, .int x1), (2, .int x2)], [], (g_X8_push_64 (g_X8_pop_64 I G ) G (-(f_X8_pop_64 I G ))), G, (gP rd)) (True) hX hi (by decide +kernel) rfl trivial ?_
    cases h
    refine am_vret hX hi rfl (by decide +kernel) ?_
    exact ⟨rfl, rfl, rfl, rfl⟩
  rw [if_neg s1_43] at h
  refine am_lsw hX hi (dflt := (216)) (ps := #[((6), (118)), ((9), (100)), ((15), (86)), ((16), (136)), ((18), (156)), ((19), (191)), ((40), (75)), ((43), (173))]) (len := 75) (off := (216)) (tgt := 217) (by decide +kernel) (by decide +kernel) ?_ (by decide) ?_
  · have eF : ∀ v : Int32, ¬ x1 = v → ¬ (x1).toInt = v.toInt := fun v q z => q ((i_eq _ _).mpr z)
    have e6 := eF (6 : Int32) s1_6
    have e9 := eF (9 : Int32) s1_9
    have e15 := eF (15 : Int32) s1_15
    have e16 := eF (16 : Int32) s1_16
    have e18 := eF (18 : Int32) s1_18
    have e19 := eF (19 : Int32) s1_19
    have e40 := eF (40 : Int32) s1_40
    have e43 := eF (43 : Int32) s1_43
    simp only [show ((6 : Int32) : Int32).toInt = 6 from rfl, show ((9 : Int32) : Int32).toInt = 9 from rfl, show ((15 : Int32) : Int32).toInt = 15 from rfl, show ((16 : Int32) : Int32).toInt = 16 from rfl, show ((18 : Int32) : Int32).toInt = 18 from rfl, show ((19 : Int32) : Int32).toInt = 19 from rfl, show ((40 : Int32) : Int32).toInt = 40 from rfl, show ((43 : Int32) : Int32).toInt = 43 from rfl] at e6 e9 e15 e16 e18 e19 e40 e43
    simp [Op.lookupswitch.offset, e6, Ne.symm e6, e9, Ne.symm e9, e15, Ne.symm e15, e16, Ne.symm e16, e18, Ne.symm e18, e19, Ne.symm e19, e40, Ne.symm e40, e43, Ne.symm e43]
  refine am_blk 217 [(.aload_n 0, 1, 0, 0, .null), (.getfield 40, 3, 7, 9, .null)] (221, [(0, .ref 53), (1, .int x1), (2, .int x2)], [.ref 64], I, G, (gP rd)) (True) hX hi (by decide +kernel) rfl trivial ?_
  refine am_callV hX hi (M := mX8_pop) (idx := 179) (d' := 1) (b := 64) (ci := 8) (As := []) (rest := []) mkX8_pop miX8_pop mvX8_pop (by decide +kernel) (by decide +kernel) rfl (by decide +kernel) rfl ⟨by omega, by decide, Nat.le_of_ble_eq_true rfl⟩ rfl (c_X8_pop_64 _ I G ) ?_
  rintro r9 I9 G9 P9 ⟨e0, e1, e2, e3⟩
  rw [e0, e1, e2, e3]
  show am_V X 0 0 _ _ ad (224, [(0, .ref 53), (1, .int x1), (2, .int x2)], [.int (f_X8_pop_64 I G )], (g_X8_pop_64 I G ), G, (gP rd))
  refine am_blk 224 [(.istore_n 3, 1, 3, 0, .null), (.aload_n 0, 1, 0, 0, .null), (.getfield 40, 3, 7, 9, .null)] (229, [(0, .ref 53), (1, .int x1), (2, .int x2), (3, .int (f_X8_pop_64 I G ))], [.ref 64], (g_X8_pop_64 I G ), G, (gP rd)) (True) hX hi (by decide +kernel) rfl trivial ?_
  refine am_callV hX hi (M := mX8_pop) (idx := 179) (d' := 1) (b := 64) (ci := 8) (As := []) (rest := []) mkX8_pop miX8_pop mvX8_pop (by decide +kernel) (by decide +kernel) rfl (by decide +kernel) rfl ⟨by omega, by decide, Nat.le_of_ble_eq_true rfl⟩ rfl (c_X8_pop_64 _ (g_X8_pop_64 I G ) G ) ?_
  rintro r9 I9 G9 P9 ⟨e0, e1, e2, e3⟩
  rw [e0, e1, e2, e3]
  show am_V X 0 0 _ _ ad (232, [(0, .ref 53), (1, .int x1), (2, .int x2), (3, .int (f_X8_pop_64 I G ))], [.int (f_X8_pop_64 (g_X8_pop_64 I G ) G )], (g_X8_pop_64 (g_X8_pop_64 I G ) G ), G, (gP rd))
  refine am_blk 232 [(.istore 4, 2, 4, 0, .null), (.aload_n 0, 1, 0, 0, .null), (.getfield 40, 3, 7, 9, .null), (.iload_n 1, 1, 1, 0, .null), (.bipush (17), 2, 0, 0, .int (17 : Int32))] (241, [(0, .ref 53), (1, .int x1), (2, .int x2), (3, .int (f_X8_pop_64 I G )), (4, .int (f_X8_pop_64 (g_X8_pop_64 I G ) G ))], [.int (17 : Int32), .int x1, .ref 64], (g_X8_pop_64 (g_X8_pop_64 I G ) G ), G, (gP rd)) (True) hX hi (by decide +kernel) rfl trivial ?_
  refine am_icmp_ne (tgt := 264) hX hi (off := (23)) (by decide +kernel) (by decide) (fun c241 => ?_) (fun c241 => ?_)
  · rw [if_neg c241] at h
    refine am_blk 264 [(.iload_n 1, 1, 1, 0, .null), (.iload 4, 2, 4, 0, .null), (.iload_n 3, 1, 3, 0, .null)] (268, [(0, .ref 53), (1, .int x1), (2, .int x2), (3, .int (f_X8_pop_64 I G )), (4, .int (f_X8_pop_64 (g_X8_pop_64 I G ) G ))], [.int (f_X8_pop_64 I G ), .int (f_X8_pop_64 (g_X8_pop_64 I G ) G ), .int x1, .ref 64], (g_X8_pop_64 (g_X8_pop_64 I G ) G ), G, (gP rd)) (True) hX hi (by decide +kernel) rfl trivial ?_
    refine am_callS hX hi (M := mX7_combine) (idx := 198) (d' := 2) (As := [.int x1, .int (f_X8_pop_64 (g_X8_pop_64 I G ) G ), .int (f_X8_pop_64 I G )]) (rest := [.ref 64]) mkX7_combine msX7_combine (by decide +kernel) (by decide +kernel) rfl ⟨by omega, by decide, Nat.le_of_ble_eq_true rfl⟩ rfl (c_X7_combine (g_X8_pop_64 (g_X8_pop_64 I G ) G ) G x1 (f_X8_pop_64 (g_X8_pop_64 I G ) G ) (f_X8_pop_64 I G )) ?_
    rintro r9 I9 G9 P9 ⟨e0, e1, e2, e3⟩
    rw [e0, e1, e2, e3]
    show am_V X 0 0 _ _ ad (271, [(0, .ref 53), (1, .int x1), (2, .int x2), (3, .int (f_X8_pop_64 I G )), (4, .int (f_X8_pop_64 (g_X8_pop_64 I G ) G ))], [.int (f_X7_combine (g_X8_pop_64 (g_X8_pop_64 I G ) G ) G x1 (f_X8_pop_64 (g_X8_pop_64 I G ) G ) (f_X8_pop_64 I G )), .ref 64], (g_X8_pop_64 (g_X8_pop_64 I G ) G ), G, (gP rd))
    refine am_callV hX hi (M := mX8_push) (idx := 183) (d' := 1) (b := 64) (ci := 8) (As := [.int (f_X7_combine (g_X8_pop_64 (g_X8_pop_64 I G ) G ) G x1 (f_X8_pop_64 (g_X8_pop_64 I G ) G ) (f_X8_pop_64 I G ))]) (rest := []) mkX8_push miX8_push mvX8_push (by decide +kernel) (by decide +kernel) rfl (by decide +kernel) rfl ⟨by omega, by decide, Nat.le_of_ble_eq_true rfl⟩ rfl (c_X8_push_64 _ (g_X8_pop_64 (g_X8_pop_64 I G ) G ) G (f_X7_combine (g_X8_pop_64 (g_X8_pop_64 I G ) G ) G x1 (f_X8_pop_64 (g_X8_pop_64 I G ) G ) (f_X8_pop_64 I G ))) ?_
    rintro r9 I9 G9 P9 ⟨e0, e1, e2, e3⟩
    rw [e0, e1, e2, e3]
    show am_V X 0 0 _ _ ad (274, [(0, .ref 53), (1, .int x1), (2, .int x2), (3, .int (f_X8_pop_64 I G )), (4, .int (f_X8_pop_64 (g_X8_pop_64 I G ) G ))], [], (g_X8_push_64 (g_X8_pop_64 (g_X8_pop_64 I G ) G ) G (f_X7_combine (g_X8_pop_64 (g_X8_pop_64 I G ) G ) G x1 (f_X8_pop_64 (g_X8_pop_64 I G ) G ) (f_X8_pop_64 I G ))), G, (gP rd))
    cases h
    refine am_vret hX hi rfl (by decide +kernel) ?_
    exact ⟨rfl, rfl, rfl, rfl⟩
  · rw [if_pos c241] at h
    refine am_blk 244 [(.aload_n 0, 1, 0, 0, .null), (.getfield 21, 3, 7, 5, .null), (.aload_n 0, 1, 0, 0, .null), (.getfield 44, 3, 7, 0, .null), (.iload 4, 2, 4, 0, .null), (.iload_n 3, 1, 3, 0, .null)] (255, [(0, .ref 53), (1, .int x1), (2, .int x2), (3, .int (f_X8_pop_64 I G )), (4, .int (f_X8_pop_64 (g_X8_pop_64 I G ) G ))], [.int (f_X8_pop_64 I G ), .int (f_X8_pop_64 (g_X8_pop_64 I G ) G ), .ref 7, .ref 57, .ref 64], (g_X8_pop_64 (g_X8_pop_64 I G ) G ), G, (gP rd)) (True) hX hi (by decide +kernel) rfl trivial ?_
    refine am_callV hX hi (M := mX5_spot) (idx := 195) (d' := 3) (b := 7) (ci := 5) (As := [.int (f_X8_pop_64 (g_X8_pop_64 I G ) G ), .int (f_X8_pop_64 I G )]) (rest := [.ref 57, .ref 64]) mkX5_spot miX5_spot mvX5_spot (by decide +kernel) (by decide +kernel) rfl (by decide +kernel) rfl ⟨by omega, by decide, Nat.le_of_ble_eq_true rfl⟩ rfl (c_X5_spot_7 _ (g_X8_pop_64 (g_X8_pop_64 I G ) G ) G (f_X8_pop_64 (g_X8_pop_64 I G ) G ) (f_X8_pop_64 I G )) ?_
    rintro r9 I9 G9 P9 ⟨e0, e1, e2, e3⟩
    rw [e0, e1, e2, e3]
    show am_V X 0 0 _ _ ad (258, [(0, .ref 53), (1, .int x1), (2, .int x2), (3, .int (f_X8_pop_64 I G )), (4, .int (f_X8_pop_64 (g_X8_pop_64 I G ) G ))], [.int (f_X5_spot_7 (g_X8_pop_64 (g_X8_pop_64 I G ) G ) G (f_X8_pop_64 (g_X8_pop_64 I G ) G ) (f_X8_pop_64 I G )), .ref 57, .ref 64], (g_X8_pop_64 (g_X8_pop_64 I G ) G ), G, (gP rd))
    refine am_callS hX hi (M := mX0_at) (idx := 85) (d' := 1) (As := [.ref 57, .int (f_X5_spot_7 (g_X8_pop_64 (g_X8_pop_64 I G ) G ) G (f_X8_pop_64 (g_X8_pop_64 I G ) G ) (f_X8_pop_64 I G ))]) (rest := [.ref 64]) mkX0_at msX0_at (by decide +kernel) (by decide +kernel) rfl ⟨by omega, by decide, Nat.le_of_ble_eq_true rfl⟩ rfl (c_at rfl (by decide) (f_X5_spot_7 (g_X8_pop_64 (g_X8_pop_64 I G ) G ) G (f_X8_pop_64 (g_X8_pop_64 I G ) G ) (f_X8_pop_64 I G ))) ?_
    rintro r9 I9 G9 P9 ⟨e0, e1, e2, e3⟩
    rw [e0, e1, e2, e3]
    show am_V X 0 0 _ _ ad (261, [(0, .ref 53), (1, .int x1), (2, .int x2), (3, .int (f_X8_pop_64 I G )), (4, .int (f_X8_pop_64 (g_X8_pop_64 I G ) G ))], [.int (gAt ((g_X8_pop_64 (g_X8_pop_64 I G ) G ) 57) 576 (f_X5_spot_7 (g_X8_pop_64 (g_X8_pop_64 I G ) G ) G (f_X8_pop_64 (g_X8_pop_64 I G ) G ) (f_X8_pop_64 I G ))), .ref 64], (g_X8_pop_64 (g_X8_pop_64 I G ) G ), G, (gP rd))
    refine am_blk 261 [(.goto (10), 3, 0, 271, .null)] (271, [(0, .ref 53), (1, .int x1), (2, .int x2), (3, .int (f_X8_pop_64 I G )), (4, .int (f_X8_pop_64 (g_X8_pop_64 I G ) G ))], [.int (gAt ((g_X8_pop_64 (g_X8_pop_64 I G ) G ) 57) 576 (f_X5_spot_7 (g_X8_pop_64 (g_X8_pop_64 I G ) G ) G (f_X8_pop_64 (g_X8_pop_64 I G ) G ) (f_X8_pop_64 I G ))), .ref 64], (g_X8_pop_64 (g_X8_pop_64 I G ) G ), G, (gP rd)) (True) hX hi (by decide +kernel) rfl trivial ?_
    refine am_callV hX hi (M := mX8_push) (idx := 183) (d' := 1) (b := 64) (ci := 8) (As := [.int (gAt ((g_X8_pop_64 (g_X8_pop_64 I G ) G ) 57) 576 (f_X5_spot_7 (g_X8_pop_64 (g_X8_pop_64 I G ) G ) G (f_X8_pop_64 (g_X8_pop_64 I G ) G ) (f_X8_pop_64 I G )))]) (rest := []) mkX8_push miX8_push mvX8_push (by decide +kernel) (by decide +kernel) rfl (by decide +kernel) rfl ⟨by omega, by decide, Nat.le_of_ble_eq_true rfl⟩ rfl (c_X8_push_64 _ (g_X8_pop_64 (g_X8_pop_64 I G ) G ) G (gAt ((g_X8_pop_64 (g_X8_pop_64 I G ) G ) 57) 576 (f_X5_spot_7 (g_X8_pop_64 (g_X8_pop_64 I G ) G ) G (f_X8_pop_64 (g_X8_pop_64 I G ) G ) (f_X8_pop_64 I G )))) ?_
    rintro r9 I9 G9 P9 ⟨e0, e1, e2, e3⟩
    rw [e0, e1, e2, e3]
    show am_V X 0 0 _ _ ad (274, [(0, .ref 53), (1, .int x1), (2, .int x2), (3, .int (f_X8_pop_64 I G )), (4, .int (f_X8_pop_64 (g_X8_pop_64 I G ) G ))], [], (g_X8_push_64 (g_X8_pop_64 (g_X8_pop_64 I G ) G ) G (gAt ((g_X8_pop_64 (g_X8_pop_64 I G ) G ) 57) 576 (f_X5_spot_7 (g_X8_pop_64 (g_X8_pop_64 I G ) G ) G (f_X8_pop_64 (g_X8_pop_64 I G ) G ) (f_X8_pop_64 I G )))), G, (gP rd))
    cases h
    refine am_vret hX hi rfl (by decide +kernel) ?_
    exact ⟨rfl, rfl, rfl, rfl⟩
noncomputable def R_X7_step_66 (I : am_I) (G : am_G) (x1 : Int32) (x2 : Int32) : Option (Unit × am_I × am_G) := (if x1 = (6 : Int32) then some ((), (g_X8_push_77 I G (gAt (I 69) 4 x2)), G) else if x1 = (9 : Int32) then some ((), (g_X8_push_77 I G (gAt (I 67) 4 x2)), G) else if x1 = (15 : Int32) then some ((), (g_X8_push_77 I G (I 66 12)), G) else if x1 = (16 : Int32) then some ((), (g_X8_push_77 I G (gAt (I 72) 6 (x2 + (1 : Int32)))), G) else if x1 = (18 : Int32) then rb (R_X7_isAtEdge_66 I G (x2 + (1 : Int32))) (fun r1 I1 G1 => some ((), (g_X8_pushTest_77 I1 G1 r1), G1)) else if x1 = (19 : Int32) then (if (f_X8_pop_77 I G ) = 0 then some ((), (g_X8_pushTest_77 (g_X8_pop_77 I G ) G (1 : Int32)), G) else some ((), (g_X8_pushTest_77 (g_X8_pop_77 I G ) G (0 : Int32)), G)) else if x1 = (40 : Int32) then some ((), (g_X8_push_77 I G x2), G) else if x1 = (43 : Int32) then some ((), (g_X8_push_77 (g_X8_pop_77 I G ) G (-(f_X8_pop_77 I G ))), G) else (if x1 = (17 : Int32) then some ((), (g_X8_push_77 (g_X8_pop_77 (g_X8_pop_77 I G ) G ) G (gAt ((g_X8_pop_77 (g_X8_pop_77 I G ) G ) 70) 576 (f_X5_spot_7 (g_X8_pop_77 (g_X8_pop_77 I G ) G ) G (f_X8_pop_77 (g_X8_pop_77 I G ) G ) (f_X8_pop_77 I G )))), G) else some ((), (g_X8_push_77 (g_X8_pop_77 (g_X8_pop_77 I G ) G ) G (f_X7_combine (g_X8_pop_77 (g_X8_pop_77 I G ) G ) G x1 (f_X8_pop_77 (g_X8_pop_77 I G ) G ) (f_X8_pop_77 I G ))), G)))
set_option maxRecDepth 20000 in
set_option maxHeartbeats 4000000 in
theorem c_X7_step_66 (rd : Nat) (I : am_I) (G : am_G) (x1 : Int32) (x2 : Int32) {out : Unit × am_I × am_G} (h : R_X7_step_66 I G x1 x2 = some out) : am_Ct mX7_step 4 gS [.ref 66, .int x1, .int x2] I G (gP rd) (pV out.2.1 out.2.2 (gP rd)) := by
  refine am_ofF (by decide +kernel) rfl (by decide) (by omega) (Nat.le_of_ble_eq_true rfl) (fun X ad hX hi => ?_)
  have hi : am_info X 7 cX7_step 5 false none 4 := hi
  show am_V X 0 0 _ _ ad (0, [(0, .ref 66), (1, .int x1), (2, .int x2)], [], I, G, (gP rd))
  unfold R_X7_step_66 at h
  refine am_blk 0 [(.iload_n 1, 1, 1, 0, .null)] (1, [(0, .ref 66), (1, .int x1), (2, .int x2)], [.int x1], I, G, (gP rd)) (True) hX hi (by decide +kernel) rfl trivial ?_
  by_cases s1_6 : x1 = (6 : Int32)
  · rw [if_pos s1_6] at h
    refine am_lsw hX hi (dflt := (216)) (ps := #[((6), (118)), ((9), (100)), ((15), (86)), ((16), (136)), ((18), (156)), ((19), (191)), ((40), (75)), ((43), (173))]) (len := 75) (off := (118)) (tgt := 119) (by decide +kernel) (by decide +kernel) (by rw [s1_6]; rfl) (by decide) ?_
    refine am_blk 119 [(.aload_n 0, 1, 0, 0, .null), (.getfield 40, 3, 7, 9, .null), (.aload_n 0, 1, 0, 0, .null), (.getfield 18, 3, 7, 4, .null), (.iload_n 2, 1, 2, 0, .null)] (128, [(0, .ref 66), (1, .int x1), (2, .int x2)], [.int x2, .ref 69, .ref 77], I, G, (gP rd)) (True) hX hi (by decide +kernel) rfl trivial ?_
    refine am_callS hX hi (M := mX0_at) (idx := 85) (d' := 1) (As := [.ref 69, .int x2]) (rest := [.ref 77]) mkX0_at msX0_at (by decide +kernel) (by decide +kernel) rfl ⟨by omega, by decide, Nat.le_of_ble_eq_true rfl⟩ rfl (c_at rfl (by decide) x2) ?_
    rintro r9 I9 G9 P9 ⟨e0, e1, e2, e3⟩
    rw [e0, e1, e2, e3]
    show am_V X 0 0 _ _ ad (131, [(0, .ref 66), (1, .int x1), (2, .int x2)], [.int (gAt (I 69) 4 x2), .ref 77], I, G, (gP rd))
    refine am_callV hX hi (M := mX8_push) (idx := 183) (d' := 1) (b := 77) (ci := 8) (As := [.int (gAt (I 69) 4 x2)]) (rest := []) mkX8_push miX8_push mvX8_push (by decide +kernel) (by decide +kernel) rfl (by decide +kernel) rfl ⟨by omega, by decide, Nat.le_of_ble_eq_true rfl⟩ rfl (c_X8_push_77 _ I G (gAt (I 69) 4 x2)) ?_
    rintro r9 I9 G9 P9 ⟨e0, e1, e2, e3⟩
    rw [e0, e1, e2, e3]
    show am_V X 0 0 _ _ ad (134, [(0, .ref 66), (1, .int x1), (2, .int x2)], [], (g_X8_push_77 I G (gAt (I 69) 4 x2)), G, (gP rd))
    refine am_blk 134 [(.goto (140), 3, 0, 274, .null)] (274, [(0, .ref 66), (1, .int x1), (2, .int x2)], [], (g_X8_push_77 I G (gAt (I 69) 4 x2)), G, (gP rd)) (True) hX hi (by decide +kernel) rfl trivial ?_
    cases h
    refine am_vret hX hi rfl (by decide +kernel) ?_
    exact ⟨rfl, rfl, rfl, rfl⟩
  rw [if_neg s1_6] at h
  by_cases s1_9 : x1 = (9 : Int32)
  · rw [if_pos s1_9] at h
    refine am_lsw hX hi (dflt := (216)) (ps := #[((6), (118)), ((9), (100)), ((15), (86)), ((16), (136)), ((18), (156)), ((19), (191)), ((40), (75)), ((43), (173))]) (len := 75) (off := (100)) (tgt := 101) (by decide +kernel) (by decide +kernel) (by rw [s1_9]; rfl) (by decide) ?_
    refine am_blk 101 [(.aload_n 0, 1, 0, 0, .null), (.getfield 40, 3, 7, 9, .null), (.aload_n 0, 1, 0, 0, .null), (.getfield 9, 3, 7, 2, .null), (.iload_n 2, 1, 2, 0, .null)] (110, [(0, .ref 66), (1, .int x1), (2, .int x2)], [.int x2, .ref 67, .ref 77], I, G, (gP rd)) (True) hX hi (by decide +kernel) rfl trivial ?_
    refine am_callS hX hi (M := mX0_at) (idx := 85) (d' := 1) (As := [.ref 67, .int x2]) (rest := [.ref 77]) mkX0_at msX0_at (by decide +kernel) (by decide +kernel) rfl ⟨by omega, by decide, Nat.le_of_ble_eq_true rfl⟩ rfl (c_at rfl (by decide) x2) ?_
    rintro r9 I9 G9 P9 ⟨e0, e1, e2, e3⟩
    rw [e0, e1, e2, e3]
    show am_V X 0 0 _ _ ad (113, [(0, .ref 66), (1, .int x1), (2, .int x2)], [.int (gAt (I 67) 4 x2), .ref 77], I, G, (gP rd))
    refine am_callV hX hi (M := mX8_push) (idx := 183) (d' := 1) (b := 77) (ci := 8) (As := [.int (gAt (I 67) 4 x2)]) (rest := []) mkX8_push miX8_push mvX8_push (by decide +kernel) (by decide +kernel) rfl (by decide +kernel) rfl ⟨by omega, by decide, Nat.le_of_ble_eq_true rfl⟩ rfl (c_X8_push_77 _ I G (gAt (I 67) 4 x2)) ?_
    rintro r9 I9 G9 P9 ⟨e0, e1, e2, e3⟩
    rw [e0, e1, e2, e3]
    show am_V X 0 0 _ _ ad (116, [(0, .ref 66), (1, .int x1), (2, .int x2)], [], (g_X8_push_77 I G (gAt (I 67) 4 x2)), G, (gP rd))
    refine am_blk 116 [(.goto (158), 3, 0, 274, .null)] (274, [(0, .ref 66), (1, .int x1), (2, .int x2)], [], (g_X8_push_77 I G (gAt (I 67) 4 x2)), G, (gP rd)) (True) hX hi (by decide +kernel) rfl trivial ?_
    cases h
    refine am_vret hX hi rfl (by decide +kernel) ?_
    exact ⟨rfl, rfl, rfl, rfl⟩
  rw [if_neg s1_9] at h
  by_cases s1_15 : x1 = (15 : Int32)
  · rw [if_pos s1_15] at h
    refine am_lsw hX hi (dflt := (216)) (ps := #[((6), (118)), ((9), (100)), ((15), (86)), ((16), (136)), ((18), (156)), ((19), (191)), ((40), (75)), ((43), (173))]) (len := 75) (off := (86)) (tgt := 87) (by decide +kernel) (by decide +kernel) (by rw [s1_15]; rfl) (by decide) ?_
    refine am_blk 87 [(.aload_n 0, 1, 0, 0, .null), (.getfield 40, 3, 7, 9, .null), (.aload_n 0, 1, 0, 0, .null), (.getfield 59, 3, 7, 12, .null)] (95, [(0, .ref 66), (1, .int x1), (2, .int x2)], [.int (I 66 12), .ref 77], I, G, (gP rd)) (True) hX hi (by decide +kernel) rfl trivial ?_
    refine am_callV hX hi (M := mX8_push) (idx := 183) (d' := 1) (b := 77) (ci := 8) (As := [.int (I 66 12)]) (rest := []) mkX8_push miX8_push mvX8_push (by decide +kernel) (by decide +kernel) rfl (by decide +kernel) rfl ⟨by omega, by decide, Nat.le_of_ble_eq_true rfl⟩ rfl (c_X8_push_77 _ I G (I 66 12)) ?_
    rintro r9 I9 G9 P9 ⟨e0, e1, e2, e3⟩
    rw [e0, e1, e2, e3]
    show am_V X 0 0 _ _ ad (98, [(0, .ref 66), (1, .int x1), (2, .int x2)], [], (g_X8_push_77 I G (I 66 12)), G, (gP rd))
    refine am_blk 98 [(.goto (176), 3, 0, 274, .null)] (274, [(0, .ref 66), (1, .int x1), (2, .int x2)], [], (g_X8_push_77 I G (I 66 12)), G, (gP rd)) (True) hX hi (by decide +kernel) rfl trivial ?_
    cases h
    refine am_vret hX hi rfl (by decide +kernel) ?_
    exact ⟨rfl, rfl, rfl, rfl⟩
  rw [if_neg s1_15] at h
  by_cases s1_16 : x1 = (16 : Int32)
  · rw [if_pos s1_16] at h
    refine am_lsw hX hi (dflt := (216)) (ps := #[((6), (118)), ((9), (100)), ((15), (86)), ((16), (136)), ((18), (156)), ((19), (191)), ((40), (75)), ((43), (173))]) (len := 75) (off := (136)) (tgt := 137) (by decide +kernel) (by decide +kernel) (by rw [s1_16]; rfl) (by decide) ?_
    refine am_blk 137 [(.aload_n 0, 1, 0, 0, .null), (.getfield 40, 3, 7, 9, .null), (.aload_n 0, 1, 0, 0, .null), (.getfield 27, 3, 7, 7, .null), (.iload_n 2, 1, 2, 0, .null), (.iconst (1), 1, 0, 0, .int (1 : Int32)), (.iadd, 1, 0, 0, .null)] (148, [(0, .ref 66), (1, .int x1), (2, .int x2)], [.int (x2 + (1 : Int32)), .ref 72, .ref 77], I, G, (gP rd)) (True) hX hi (by decide +kernel) rfl trivial ?_
    refine am_callS hX hi (M := mX0_at) (idx := 85) (d' := 1) (As := [.ref 72, .int (x2 + (1 : Int32))]) (rest := [.ref 77]) mkX0_at msX0_at (by decide +kernel) (by decide +kernel) rfl ⟨by omega, by decide, Nat.le_of_ble_eq_true rfl⟩ rfl (c_at rfl (by decide) (x2 + (1 : Int32))) ?_
    rintro r9 I9 G9 P9 ⟨e0, e1, e2, e3⟩
    rw [e0, e1, e2, e3]
    show am_V X 0 0 _ _ ad (151, [(0, .ref 66), (1, .int x1), (2, .int x2)], [.int (gAt (I 72) 6 (x2 + (1 : Int32))), .ref 77], I, G, (gP rd))
    refine am_callV hX hi (M := mX8_push) (idx := 183) (d' := 1) (b := 77) (ci := 8) (As := [.int (gAt (I 72) 6 (x2 + (1 : Int32)))]) (rest := []) mkX8_push miX8_push mvX8_push (by decide +kernel) (by decide +kernel) rfl (by decide +kernel) rfl ⟨by omega, by decide, Nat.le_of_ble_eq_true rfl⟩ rfl (c_X8_push_77 _ I G (gAt (I 72) 6 (x2 + (1 : Int32)))) ?_
    rintro r9 I9 G9 P9 ⟨e0, e1, e2, e3⟩
    rw [e0, e1, e2, e3]
    show am_V X 0 0 _ _ ad (154, [(0, .ref 66), (1, .int x1), (2, .int x2)], [], (g_X8_push_77 I G (gAt (I 72) 6 (x2 + (1 : Int32)))), G, (gP rd))
    refine am_blk 154 [(.goto (120), 3, 0, 274, .null)] (274, [(0, .ref 66), (1, .int x1), (2, .int x2)], [], (g_X8_push_77 I G (gAt (I 72) 6 (x2 + (1 : Int32)))), G, (gP rd)) (True) hX hi (by decide +kernel) rfl trivial ?_
    cases h
    refine am_vret hX hi rfl (by decide +kernel) ?_
    exact ⟨rfl, rfl, rfl, rfl⟩
  rw [if_neg s1_16] at h
  by_cases s1_18 : x1 = (18 : Int32)
  · rw [if_pos s1_18] at h
    refine am_lsw hX hi (dflt := (216)) (ps := #[((6), (118)), ((9), (100)), ((15), (86)), ((16), (136)), ((18), (156)), ((19), (191)), ((40), (75)), ((43), (173))]) (len := 75) (off := (156)) (tgt := 157) (by decide +kernel) (by decide +kernel) (by rw [s1_18]; rfl) (by decide) ?_
    refine am_blk 157 [(.aload_n 0, 1, 0, 0, .null), (.getfield 40, 3, 7, 9, .null), (.aload_n 0, 1, 0, 0, .null), (.iload_n 2, 1, 2, 0, .null), (.iconst (1), 1, 0, 0, .int (1 : Int32)), (.iadd, 1, 0, 0, .null)] (165, [(0, .ref 66), (1, .int x1), (2, .int x2)], [.int (x2 + (1 : Int32)), .ref 66, .ref 77], I, G, (gP rd)) (True) hX hi (by decide +kernel) rfl trivial ?_
    obtain ⟨r1, I1, G1, hc, h⟩ := rb_some h
    refine am_callV hX hi (M := mX7_isAtEdge) (idx := 186) (d' := 2) (b := 66) (ci := 7) (As := [.int (x2 + (1 : Int32))]) (rest := [.ref 77]) mkX7_isAtEdge miX7_isAtEdge mvX7_isAtEdge (by decide +kernel) (by decide +kernel) rfl (by decide +kernel) rfl ⟨by omega, by decide, Nat.le_of_ble_eq_true rfl⟩ rfl (c_X7_isAtEdge_66 _ I G (x2 + (1 : Int32)) hc) ?_
    rintro r9 I9 G9 P9 ⟨e0, e1, e2, e3⟩
    rw [e0, e1, e2, e3]
    show am_V X 0 0 _ _ ad (168, [(0, .ref 66), (1, .int x1), (2, .int x2)], [.int r1, .ref 77], I1, G1, (gP rd))
    refine am_callV hX hi (M := mX8_pushTest) (idx := 189) (d' := 2) (b := 77) (ci := 8) (As := [.int r1]) (rest := []) mkX8_pushTest miX8_pushTest mvX8_pushTest (by decide +kernel) (by decide +kernel) rfl (by decide +kernel) rfl ⟨by omega, by decide, Nat.le_of_ble_eq_true rfl⟩ rfl (c_X8_pushTest_77 _ I1 G1 r1) ?_
    rintro r9 I9 G9 P9 ⟨e0, e1, e2, e3⟩
    rw [e0, e1, e2, e3]
    show am_V X 0 0 _ _ ad (171, [(0, .ref 66), (1, .int x1), (2, .int x2)], [], (g_X8_pushTest_77 I1 G1 r1), G1, (gP rd))
    refine am_blk 171 [(.goto (103), 3, 0, 274, .null)] (274, [(0, .ref 66), (1, .int x1), (2, .int x2)], [], (g_X8_pushTest_77 I1 G1 r1), G1, (gP rd)) (True) hX hi (by decide +kernel) rfl trivial ?_
    cases h
    refine am_vret hX hi rfl (by decide +kernel) ?_
    exact ⟨rfl, rfl, rfl, rfl⟩
  rw [if_neg s1_18] at h
  by_cases s1_19 : x1 = (19 : Int32)
  · rw [if_pos s1_19] at h
    refine am_lsw hX hi (dflt := (216)) (ps := #[((6), (118)), ((9), (100)), ((15), (86)), ((16), (136)), ((18), (156)), ((19), (191)), ((40), (75)), ((43), (173))]) (len := 75) (off := (191)) (tgt := 192) (by decide +kernel) (by decide +kernel) (by rw [s1_19]; rfl) (by decide) ?_
    refine am_blk 192 [(.aload_n 0, 1, 0, 0, .null), (.getfield 40, 3, 7, 9, .null), (.aload_n 0, 1, 0, 0, .null), (.getfield 40, 3, 7, 9, .null)] (200, [(0, .ref 66), (1, .int x1), (2, .int x2)], [.ref 77, .ref 77], I, G, (gP rd)) (True) hX hi (by decide +kernel) rfl trivial ?_
    refine am_callV hX hi (M := mX8_pop) (idx := 179) (d' := 1) (b := 77) (ci := 8) (As := []) (rest := [.ref 77]) mkX8_pop miX8_pop mvX8_pop (by decide +kernel) (by decide +kernel) rfl (by decide +kernel) rfl ⟨by omega, by decide, Nat.le_of_ble_eq_true rfl⟩ rfl (c_X8_pop_77 _ I G ) ?_
    rintro r9 I9 G9 P9 ⟨e0, e1, e2, e3⟩
    rw [e0, e1, e2, e3]
    show am_V X 0 0 _ _ ad (203, [(0, .ref 66), (1, .int x1), (2, .int x2)], [.int (f_X8_pop_77 I G ), .ref 77], (g_X8_pop_77 I G ), G, (gP rd))
    refine am_if_ne (tgt := 210) hX hi (off := (7)) (by decide +kernel) (by decide) (fun c203 => ?_) (fun c203 => ?_)
    · rw [if_neg c203] at h
      refine am_blk 210 [(.iconst (0), 1, 0, 0, .int (0 : Int32))] (211, [(0, .ref 66), (1, .int x1), (2, .int x2)], [.int (0 : Int32), .ref 77], (g_X8_pop_77 I G ), G, (gP rd)) (True) hX hi (by decide +kernel) rfl trivial ?_
      refine am_callV hX hi (M := mX8_pushTest) (idx := 189) (d' := 2) (b := 77) (ci := 8) (As := [.int (0 : Int32)]) (rest := []) mkX8_pushTest miX8_pushTest mvX8_pushTest (by decide +kernel) (by decide +kernel) rfl (by decide +kernel) rfl ⟨by omega, by decide, Nat.le_of_ble_eq_true rfl⟩ rfl (c_X8_pushTest_77 _ (g_X8_pop_77 I G ) G (0 : Int32)) ?_
      rintro r9 I9 G9 P9 ⟨e0, e1, e2, e3⟩
      rw [e0, e1, e2, e3]
      show am_V X 0 0 _ _ ad (214, [(0, .ref 66), (1, .int x1), (2, .int x2)], [], (g_X8_pushTest_77 (g_X8_pop_77 I G ) G (0 : Int32)), G, (gP rd))
      refine am_blk 214 [(.goto (60), 3, 0, 274, .null)] (274, [(0, .ref 66), (1, .int x1), (2, .int x2)], [], (g_X8_pushTest_77 (g_X8_pop_77 I G ) G (0 : Int32)), G, (gP rd)) (True) hX hi (by decide +kernel) rfl trivial ?_
      cases h
      refine am_vret hX hi rfl (by decide +kernel) ?_
      exact ⟨rfl, rfl, rfl, rfl⟩
    · rw [if_pos c203] at h
      refine am_blk 206 [(.iconst (1), 1, 0, 0, .int (1 : Int32)), (.goto (4), 3, 0, 211, .null)] (211, [(0, .ref 66), (1, .int x1), (2, .int x2)], [.int (1 : Int32), .ref 77], (g_X8_pop_77 I G ), G, (gP rd)) (True) hX hi (by decide +kernel) rfl trivial ?_
      refine am_callV hX hi (M := mX8_pushTest) (idx := 189) (d' := 2) (b := 77) (ci := 8) (As := [.int (1 : Int32)]) (rest := []) mkX8_pushTest miX8_pushTest mvX8_pushTest (by decide +kernel) (by decide +kernel) rfl (by decide +kernel) rfl ⟨by omega, by decide, Nat.le_of_ble_eq_true rfl⟩ rfl (c_X8_pushTest_77 _ (g_X8_pop_77 I G ) G (1 : Int32)) ?_
      rintro r9 I9 G9 P9 ⟨e0, e1, e2, e3⟩
      rw [e0, e1, e2, e3]
      show am_V X 0 0 _ _ ad (214, [(0, .ref 66), (1, .int x1), (2, .int x2)], [], (g_X8_pushTest_77 (g_X8_pop_77 I G ) G (1 : Int32)), G, (gP rd))
      refine am_blk 214 [(.goto (60), 3, 0, 274, .null)] (274, [(0, .ref 66), (1, .int x1), (2, .int x2)], [], (g_X8_pushTest_77 (g_X8_pop_77 I G ) G (1 : Int32)), G, (gP rd)) (True) hX hi (by decide +kernel) rfl trivial ?_
      cases h
      refine am_vret hX hi rfl (by decide +kernel) ?_
      exact ⟨rfl, rfl, rfl, rfl⟩
  rw [if_neg s1_19] at h
  by_cases s1_40 : x1 = (40 : Int32)
  · rw [if_pos s1_40] at h
    refine am_lsw hX hi (dflt := (216)) (ps := #[((6), (118)), ((9), (100)), ((15), (86)), ((16), (136)), ((18), (156)), ((19), (191)), ((40), (75)), ((43), (173))]) (len := 75) (off := (75)) (tgt := 76) (by decide +kernel) (by decide +kernel) (by rw [s1_40]; rfl) (by decide) ?_
    refine am_blk 76 [(.aload_n 0, 1, 0, 0, .null), (.getfield 40, 3, 7, 9, .null), (.iload_n 2, 1, 2, 0, .null)] (81, [(0, .ref 66), (1, .int x1), (2, .int x2)], [.int x2, .ref 77], I, G, (gP rd)) (True) hX hi (by decide +kernel) rfl trivial ?_
    refine am_callV hX hi (M := mX8_push) (idx := 183) (d' := 1) (b := 77) (ci := 8) (As := [.int x2]) (rest := []) mkX8_push miX8_push mvX8_push (by decide +kernel) (by decide +kernel) rfl (by decide +kernel) rfl ⟨by omega, by decide, Nat.le_of_ble_eq_true rfl⟩ rfl (c_X8_push_77 _ I G x2) ?_
    rintro r9 I9 G9 P9 ⟨e0, e1, e2, e3⟩
    rw [e0, e1, e2, e3]
    show am_V X 0 0 _ _ ad (84, [(0, .ref 66), (1, .int x1), (2, .int x2)], [], (g_X8_push_77 I G x2), G, (gP rd))
    refine am_blk 84 [(.goto (190), 3, 0, 274, .null)] (274, [(0, .ref 66), (1, .int x1), (2, .int x2)], [], (g_X8_push_77 I G x2), G, (gP rd)) (True) hX hi (by decide +kernel) rfl trivial ?_
    cases h
    refine am_vret hX hi rfl (by decide +kernel) ?_
    exact ⟨rfl, rfl, rfl, rfl⟩
  rw [if_neg s1_40] at h
  by_cases s1_43 : x1 = (43 : Int32)
  · rw [if_pos s1_43] at h
    refine am_lsw hX hi (dflt := (216)) (ps := #[((6), (118)), ((9), (100)), ((15), (86)), ((16), (136)), ((18), (156)), ((19), (191)), ((40), (75)), ((43), (173))]) (len := 75) (off := (173)) (tgt := 174) (by decide +kernel) (by decide +kernel) (by rw [s1_43]; rfl) (by decide) ?_
    refine am_blk 174 [(.aload_n 0, 1, 0, 0, .null), (.getfield 40, 3, 7, 9, .null), (.aload_n 0, 1, 0, 0, .null), (.getfield 40, 3, 7, 9, .null)] (182, [(0, .ref 66), (1, .int x1), (2, .int x2)], [.ref 77, .ref 77], I, G, (gP rd)) (True) hX hi (by decide +kernel) rfl trivial ?_
    refine am_callV hX hi (M := mX8_pop) (idx := 179) (d' := 1) (b := 77) (ci := 8) (As := []) (rest := [.ref 77]) mkX8_pop miX8_pop mvX8_pop (by decide +kernel) (by decide +kernel) rfl (by decide +kernel) rfl ⟨by omega, by decide, Nat.le_of_ble_eq_true rfl⟩ rfl (c_X8_pop_77 _ I G ) ?_
    rintro r9 I9 G9 P9 ⟨e0, e1, e2, e3⟩
    rw [e0, e1, e2, e3]
    show am_V X 0 0 _ _ ad (185, [(0, .ref 66), (1, .int x1), (2, .int x2)], [.int (f_X8_pop_77 I G ), .ref 77], (g_X8_pop_77 I G ), G, (gP rd))
    refine am_blk 185 [(.ineg, 1, 0, 0, .null)] (186, [(0, .ref 66), (1, .int x1), (2, .int x2)], [.int (-(f_X8_pop_77 I G )), .ref 77], (g_X8_pop_77 I G ), G, (gP rd)) (True) hX hi (by decide +kernel) rfl trivial ?_
    refine am_callV hX hi (M := mX8_push) (idx := 183) (d' := 1) (b := 77) (ci := 8) (As := [.int (-(f_X8_pop_77 I G ))]) (rest := []) mkX8_push miX8_push mvX8_push (by decide +kernel) (by decide +kernel) rfl (by decide +kernel) rfl ⟨by omega, by decide, Nat.le_of_ble_eq_true rfl⟩ rfl (c_X8_push_77 _ (g_X8_pop_77 I G ) G (-(f_X8_pop_77 I G ))) ?_
    rintro r9 I9 G9 P9 ⟨e0, e1, e2, e3⟩
    rw [e0, e1, e2, e3]
    show am_V X 0 0 _ _ ad (189, [(0, .ref 66), (1, .int x1), (2, .int x2)], [], (g_X8_push_77 (g_X8_pop_77 I G ) G (-(f_X8_pop_77 I G ))), G, (gP rd))
    refine am_blk 189 [(.goto (85), 3, 0, 274, .null)] (274, [(0, .ref 66), (1, .int x1), (2, .int x2)], [], (g_X8_push_77 (g_X8_pop_77 I G ) G (-(f_X8_pop_77 I G ))), G, (gP rd)) (True) hX hi (by decide +kernel) rfl trivial ?_
    cases h
    refine am_vret hX hi rfl (by decide +kernel) ?_
    exact ⟨rfl, rfl, rfl, rfl⟩
  rw [if_neg s1_43] at h
  refine am_lsw hX hi (dflt := (216)) (ps := #[((6), (118)), ((9), (100)), ((15), (86)), ((16), (136)), ((18), (156)), ((19), (191)), ((40), (75)), ((43), (173))]) (len := 75) (off := (216)) (tgt := 217) (by decide +kernel) (by decide +kernel) ?_ (by decide) ?_
  · have eF : ∀ v : Int32, ¬ x1 = v → ¬ (x1).toInt = v.toInt := fun v q z => q ((i_eq _ _).mpr z)
    have e6 := eF (6 : Int32) s1_6
    have e9 := eF (9 : Int32) s1_9
    have e15 := eF (15 : Int32) s1_15
    have e16 := eF (16 : Int32) s1_16
    have e18 := eF (18 : Int32) s1_18
    have e19 := eF (19 : Int32) s1_19
    have e40 := eF (40 : Int32) s1_40
    have e43 := eF (43 : Int32) s1_43
    simp only [show ((6 : Int32) : Int32).toInt = 6 from rfl, show ((9 : Int32) : Int32).toInt = 9 from rfl, show ((15 : Int32) : Int32).toInt = 15 from rfl, show ((16 : Int32) : Int32).toInt = 16 from rfl, show ((18 : Int32) : Int32).toInt = 18 from rfl, show ((19 : Int32) : Int32).toInt = 19 from rfl, show ((40 : Int32) : Int32).toInt = 40 from rfl, show ((43 : Int32) : Int32).toInt = 43 from rfl] at e6 e9 e15 e16 e18 e19 e40 e43
    simp [Op.lookupswitch.offset, e6, Ne.symm e6, e9, Ne.symm e9, e15, Ne.symm e15, e16, Ne.symm e16, e18, Ne.symm e18, e19, Ne.symm e19, e40, Ne.symm e40, e43, Ne.symm e43]
  refine am_blk 217 [(.aload_n 0, 1, 0, 0, .null), (.getfield 40, 3, 7, 9, .null)] (221, [(0, .ref 66), (1, .int x1), (2, .int x2)], [.ref 77], I, G, (gP rd)) (True) hX hi (by decide +kernel) rfl trivial ?_
  refine am_callV hX hi (M := mX8_pop) (idx := 179) (d' := 1) (b := 77) (ci := 8) (As := []) (rest := []) mkX8_pop miX8_pop mvX8_pop (by decide +kernel) (by decide +kernel) rfl (by decide +kernel) rfl ⟨by omega, by decide, Nat.le_of_ble_eq_true rfl⟩ rfl (c_X8_pop_77 _ I G ) ?_
  rintro r9 I9 G9 P9 ⟨e0, e1, e2, e3⟩
  rw [e0, e1, e2, e3]
  show am_V X 0 0 _ _ ad (224, [(0, .ref 66), (1, .int x1), (2, .int x2)], [.int (f_X8_pop_77 I G )], (g_X8_pop_77 I G ), G, (gP rd))
  refine am_blk 224 [(.istore_n 3, 1, 3, 0, .null), (.aload_n 0, 1, 0, 0, .null), (.getfield 40, 3, 7, 9, .null)] (229, [(0, .ref 66), (1, .int x1), (2, .int x2), (3, .int (f_X8_pop_77 I G ))], [.ref 77], (g_X8_pop_77 I G ), G, (gP rd)) (True) hX hi (by decide +kernel) rfl trivial ?_
  refine am_callV hX hi (M := mX8_pop) (idx := 179) (d' := 1) (b := 77) (ci := 8) (As := []) (rest := []) mkX8_pop miX8_pop mvX8_pop (by decide +kernel) (by decide +kernel) rfl (by decide +kernel) rfl ⟨by omega, by decide, Nat.le_of_ble_eq_true rfl⟩ rfl (c_X8_pop_77 _ (g_X8_pop_77 I G ) G ) ?_
  rintro r9 I9 G9 P9 ⟨e0, e1, e2, e3⟩
  rw [e0, e1, e2, e3]
  show am_V X 0 0 _ _ ad (232, [(0, .ref 66), (1, .int x1), (2, .int x2), (3, .int (f_X8_pop_77 I G ))], [.int (f_X8_pop_77 (g_X8_pop_77 I G ) G )], (g_X8_pop_77 (g_X8_pop_77 I G ) G ), G, (gP rd))
  refine am_blk 232 [(.istore 4, 2, 4, 0, .null), (.aload_n 0, 1, 0, 0, .null), (.getfield 40, 3, 7, 9, .null), (.iload_n 1, 1, 1, 0, .null), (.bipush (17), 2, 0, 0, .int (17 : Int32))] (241, [(0, .ref 66), (1, .int x1), (2, .int x2), (3, .int (f_X8_pop_77 I G )), (4, .int (f_X8_pop_77 (g_X8_pop_77 I G ) G ))], [.int (17 : Int32), .int x1, .ref 77], (g_X8_pop_77 (g_X8_pop_77 I G ) G ), G, (gP rd)) (True) hX hi (by decide +kernel) rfl trivial ?_
  refine am_icmp_ne (tgt := 264) hX hi (off := (23)) (by decide +kernel) (by decide) (fun c241 => ?_) (fun c241 => ?_)
  · rw [if_neg c241] at h
    refine am_blk 264 [(.iload_n 1, 1, 1, 0, .null), (.iload 4, 2, 4, 0, .null), (.iload_n 3, 1, 3, 0, .null)] (268, [(0, .ref 66), (1, .int x1), (2, .int x2), (3, .int (f_X8_pop_77 I G )), (4, .int (f_X8_pop_77 (g_X8_pop_77 I G ) G ))], [.int (f_X8_pop_77 I G ), .int (f_X8_pop_77 (g_X8_pop_77 I G ) G ), .int x1, .ref 77], (g_X8_pop_77 (g_X8_pop_77 I G ) G ), G, (gP rd)) (True) hX hi (by decide +kernel) rfl trivial ?_
    refine am_callS hX hi (M := mX7_combine) (idx := 198) (d' := 2) (As := [.int x1, .int (f_X8_pop_77 (g_X8_pop_77 I G ) G ), .int (f_X8_pop_77 I G )]) (rest := [.ref 77]) mkX7_combine msX7_combine (by decide +kernel) (by decide +kernel) rfl ⟨by omega, by decide, Nat.le_of_ble_eq_true rfl⟩ rfl (c_X7_combine (g_X8_pop_77 (g_X8_pop_77 I G ) G ) G x1 (f_X8_pop_77 (g_X8_pop_77 I G ) G ) (f_X8_pop_77 I G )) ?_
    rintro r9 I9 G9 P9 ⟨e0, e1, e2, e3⟩
    rw [e0, e1, e2, e3]
    show am_V X 0 0 _ _ ad (271, [(0, .ref 66), (1, .int x1), (2, .int x2), (3, .int (f_X8_pop_77 I G )), (4, .int (f_X8_pop_77 (g_X8_pop_77 I G ) G ))], [.int (f_X7_combine (g_X8_pop_77 (g_X8_pop_77 I G ) G ) G x1 (f_X8_pop_77 (g_X8_pop_77 I G ) G ) (f_X8_pop_77 I G )), .ref 77], (g_X8_pop_77 (g_X8_pop_77 I G ) G ), G, (gP rd))
    refine am_callV hX hi (M := mX8_push) (idx := 183) (d' := 1) (b := 77) (ci := 8) (As := [.int (f_X7_combine (g_X8_pop_77 (g_X8_pop_77 I G ) G ) G x1 (f_X8_pop_77 (g_X8_pop_77 I G ) G ) (f_X8_pop_77 I G ))]) (rest := []) mkX8_push miX8_push mvX8_push (by decide +kernel) (by decide +kernel) rfl (by decide +kernel) rfl ⟨by omega, by decide, Nat.le_of_ble_eq_true rfl⟩ rfl (c_X8_push_77 _ (g_X8_pop_77 (g_X8_pop_77 I G ) G ) G (f_X7_combine (g_X8_pop_77 (g_X8_pop_77 I G ) G ) G x1 (f_X8_pop_77 (g_X8_pop_77 I G ) G ) (f_X8_pop_77 I G ))) ?_
    rintro r9 I9 G9 P9 ⟨e0, e1, e2, e3⟩
    rw [e0, e1, e2, e3]
    show am_V X 0 0 _ _ ad (274, [(0, .ref 66), (1, .int x1), (2, .int x2), (3, .int (f_X8_pop_77 I G )), (4, .int (f_X8_pop_77 (g_X8_pop_77 I G ) G ))], [], (g_X8_push_77 (g_X8_pop_77 (g_X8_pop_77 I G ) G ) G (f_X7_combine (g_X8_pop_77 (g_X8_pop_77 I G ) G ) G x1 (f_X8_pop_77 (g_X8_pop_77 I G ) G ) (f_X8_pop_77 I G ))), G, (gP rd))
    cases h
    refine am_vret hX hi rfl (by decide +kernel) ?_
    exact ⟨rfl, rfl, rfl, rfl⟩
  · rw [if_pos c241] at h
    refine am_blk 244 [(.aload_n 0, 1, 0, 0, .null), (.getfield 21, 3, 7, 5, .null), (.aload_n 0, 1, 0, 0, .null), (.getfield 44, 3, 7, 0, .null), (.iload 4, 2, 4, 0, .null), (.iload_n 3, 1, 3, 0, .null)] (255, [(0, .ref 66), (1, .int x1), (2, .int x2), (3, .int (f_X8_pop_77 I G )), (4, .int (f_X8_pop_77 (g_X8_pop_77 I G ) G ))], [.int (f_X8_pop_77 I G ), .int (f_X8_pop_77 (g_X8_pop_77 I G ) G ), .ref 7, .ref 70, .ref 77], (g_X8_pop_77 (g_X8_pop_77 I G ) G ), G, (gP rd)) (True) hX hi (by decide +kernel) rfl trivial ?_
    refine am_callV hX hi (M := mX5_spot) (idx := 195) (d' := 3) (b := 7) (ci := 5) (As := [.int (f_X8_pop_77 (g_X8_pop_77 I G ) G ), .int (f_X8_pop_77 I G )]) (rest := [.ref 70, .ref 77]) mkX5_spot miX5_spot mvX5_spot (by decide +kernel) (by decide +kernel) rfl (by decide +kernel) rfl ⟨by omega, by decide, Nat.le_of_ble_eq_true rfl⟩ rfl (c_X5_spot_7 _ (g_X8_pop_77 (g_X8_pop_77 I G ) G ) G (f_X8_pop_77 (g_X8_pop_77 I G ) G ) (f_X8_pop_77 I G )) ?_
    rintro r9 I9 G9 P9 ⟨e0, e1, e2, e3⟩
    rw [e0, e1, e2, e3]
    show am_V X 0 0 _ _ ad (258, [(0, .ref 66), (1, .int x1), (2, .int x2), (3, .int (f_X8_pop_77 I G )), (4, .int (f_X8_pop_77 (g_X8_pop_77 I G ) G ))], [.int (f_X5_spot_7 (g_X8_pop_77 (g_X8_pop_77 I G ) G ) G (f_X8_pop_77 (g_X8_pop_77 I G ) G ) (f_X8_pop_77 I G )), .ref 70, .ref 77], (g_X8_pop_77 (g_X8_pop_77 I G ) G ), G, (gP rd))
    refine am_callS hX hi (M := mX0_at) (idx := 85) (d' := 1) (As := [.ref 70, .int (f_X5_spot_7 (g_X8_pop_77 (g_X8_pop_77 I G ) G ) G (f_X8_pop_77 (g_X8_pop_77 I G ) G ) (f_X8_pop_77 I G ))]) (rest := [.ref 77]) mkX0_at msX0_at (by decide +kernel) (by decide +kernel) rfl ⟨by omega, by decide, Nat.le_of_ble_eq_true rfl⟩ rfl (c_at rfl (by decide) (f_X5_spot_7 (g_X8_pop_77 (g_X8_pop_77 I G ) G ) G (f_X8_pop_77 (g_X8_pop_77 I G ) G ) (f_X8_pop_77 I G ))) ?_
    rintro r9 I9 G9 P9 ⟨e0, e1, e2, e3⟩
    rw [e0, e1, e2, e3]
    show am_V X 0 0 _ _ ad (261, [(0, .ref 66), (1, .int x1), (2, .int x2), (3, .int (f_X8_pop_77 I G )), (4, .int (f_X8_pop_77 (g_X8_pop_77 I G ) G ))], [.int (gAt ((g_X8_pop_77 (g_X8_pop_77 I G ) G ) 70) 576 (f_X5_spot_7 (g_X8_pop_77 (g_X8_pop_77 I G ) G ) G (f_X8_pop_77 (g_X8_pop_77 I G ) G ) (f_X8_pop_77 I G ))), .ref 77], (g_X8_pop_77 (g_X8_pop_77 I G ) G ), G, (gP rd))
    refine am_blk 261 [(.goto (10), 3, 0, 271, .null)] (271, [(0, .ref 66), (1, .int x1), (2, .int x2), (3, .int (f_X8_pop_77 I G )), (4, .int (f_X8_pop_77 (g_X8_pop_77 I G ) G ))], [.int (gAt ((g_X8_pop_77 (g_X8_pop_77 I G ) G ) 70) 576 (f_X5_spot_7 (g_X8_pop_77 (g_X8_pop_77 I G ) G ) G (f_X8_pop_77 (g_X8_pop_77 I G ) G ) (f_X8_pop_77 I G ))), .ref 77], (g_X8_pop_77 (g_X8_pop_77 I G ) G ), G, (gP rd)) (True) hX hi (by decide +kernel) rfl trivial ?_
    refine am_callV hX hi (M := mX8_push) (idx := 183) (d' := 1) (b := 77) (ci := 8) (As := [.int (gAt ((g_X8_pop_77 (g_X8_pop_77 I G ) G ) 70) 576 (f_X5_spot_7 (g_X8_pop_77 (g_X8_pop_77 I G ) G ) G (f_X8_pop_77 (g_X8_pop_77 I G ) G ) (f_X8_pop_77 I G )))]) (rest := []) mkX8_push miX8_push mvX8_push (by decide +kernel) (by decide +kernel) rfl (by decide +kernel) rfl ⟨by omega, by decide, Nat.le_of_ble_eq_true rfl⟩ rfl (c_X8_push_77 _ (g_X8_pop_77 (g_X8_pop_77 I G ) G ) G (gAt ((g_X8_pop_77 (g_X8_pop_77 I G ) G ) 70) 576 (f_X5_spot_7 (g_X8_pop_77 (g_X8_pop_77 I G ) G ) G (f_X8_pop_77 (g_X8_pop_77 I G ) G ) (f_X8_pop_77 I G )))) ?_
    rintro r9 I9 G9 P9 ⟨e0, e1, e2, e3⟩
    rw [e0, e1, e2, e3]
    show am_V X 0 0 _ _ ad (274, [(0, .ref 66), (1, .int x1), (2, .int x2), (3, .int (f_X8_pop_77 I G )), (4, .int (f_X8_pop_77 (g_X8_pop_77 I G ) G ))], [], (g_X8_push_77 (g_X8_pop_77 (g_X8_pop_77 I G ) G ) G (gAt ((g_X8_pop_77 (g_X8_pop_77 I G ) G ) 70) 576 (f_X5_spot_7 (g_X8_pop_77 (g_X8_pop_77 I G ) G ) G (f_X8_pop_77 (g_X8_pop_77 I G ) G ) (f_X8_pop_77 I G )))), G, (gP rd))
    cases h
    refine am_vret hX hi rfl (by decide +kernel) ?_
    exact ⟨rfl, rfl, rfl, rfl⟩
noncomputable def L_X7_refresh_53 (n0 : Nat) (hd : Nat) (I : am_I) (G : am_G) (v1 : Int32) (v2 : Int32) (v3 : Int32) : Option (Unit × am_I × am_G) := match n0 with
  | 0 => none
  | n + 1 => match hd with
    | 0 => (if (I 7 11) ≤ v1 then L_X7_refresh_53 n 1 I G (0 : Int32) 0 0 else rb (R_X10_prepare_25 I G v1 (gAt (I 56) 4 v1)) (fun r101 I101 G101 => L_X7_refresh_53 n 0 I101 G101 (v1 + (1 : Int32)) 0 0))
    | 1 => (if (Int32.ofNat 6) ≤ v1 then L_X7_refresh_53 n 2 I G (0 : Int32) (0 : Int32) 0 else rg (vp_in v1 6) (L_X7_refresh_53 n 1 (am_up I 59 v1.toNatClampNeg (0 : Int32)) G (v1 + (1 : Int32)) 0 0))
    | 2 => (if (I 7 10) ≤ v2 then rg (((1 : Int32) = 0 ∨ (1 : Int32) = 1)) (some ((), (am_up I 53 14 (1 : Int32)), G)) else L_X7_refresh_53 n 3 I G v1 v2 (0 : Int32))
    | _ => (if (I 7 9) ≤ v3 then L_X7_refresh_53 n 2 I G v1 (v2 + (1 : Int32)) 0 else rb (R_X7_source_53 I G v3 v2) (fun r401 I401 G401 => rb (R_X7_heightFrom_53 I401 G401 r401) (fun r402 I402 G402 => rb (R_X5_inkOf_7 I402 G402 r402) (fun r403 I403 G403 => L_X7_refresh_53 n 3 (gPut (gPut (gPut I403 57 576 v1 r402) 58 576 v1 r403) 59 6 r403 ((gAt ((gPut (gPut I403 57 576 v1 r402) 58 576 v1 r403) 59) 6 r403) + (1 : Int32))) G403 (v1 + (1 : Int32)) v2 (v3 + (1 : Int32))))))
theorem L_X7_refresh_53_0 (n : Nat) (I : am_I) (G : am_G) (v1 : Int32) (v2 : Int32) (v3 : Int32) : L_X7_refresh_53 (n + 1) 0 I G v1 v2 v3 = (if (I 7 11) ≤ v1 then L_X7_refresh_53 n 1 I G (0 : Int32) 0 0 else rb (R_X10_prepare_25 I G v1 (gAt (I 56) 4 v1)) (fun r101 I101 G101 => L_X7_refresh_53 n 0 I101 G101 (v1 + (1 : Int32)) 0 0)) := rfl
theorem L_X7_refresh_53_1 (n : Nat) (I : am_I) (G : am_G) (v1 : Int32) (v2 : Int32) (v3 : Int32) : L_X7_refresh_53 (n + 1) 1 I G v1 v2 v3 = (if (Int32.ofNat 6) ≤ v1 then L_X7_refresh_53 n 2 I G (0 : Int32) (0 : Int32) 0 else rg (vp_in v1 6) (L_X7_refresh_53 n 1 (am_up I 59 v1.toNatClampNeg (0 : Int32)) G (v1 + (1 : Int32)) 0 0)) := rfl
theorem L_X7_refresh_53_2 (n : Nat) (I : am_I) (G : am_G) (v1 : Int32) (v2 : Int32) (v3 : Int32) : L_X7_refresh_53 (n + 1) 2 I G v1 v2 v3 = (if (I 7 10) ≤ v2 then rg (((1 : Int32) = 0 ∨ (1 : Int32) = 1)) (some ((), (am_up I 53 14 (1 : Int32)), G)) else L_X7_refresh_53 n 3 I G v1 v2 (0 : Int32)) := rfl
theorem L_X7_refresh_53_3 (n : Nat) (I : am_I) (G : am_G) (v1 : Int32) (v2 : Int32) (v3 : Int32) : L_X7_refresh_53 (n + 1) 3 I G v1 v2 v3 = (if (I 7 9) ≤ v3 then L_X7_refresh_53 n 2 I G v1 (v2 + (1 : Int32)) 0 else rb (R_X7_source_53 I G v3 v2) (fun r401 I401 G401 => rb (R_X7_heightFrom_53 I401 G401 r401) (fun r402 I402 G402 => rb (R_X5_inkOf_7 I402 G402 r402) (fun r403 I403 G403 => L_X7_refresh_53 n 3 (gPut (gPut (gPut I403 57 576 v1 r402) 58 576 v1 r403) 59 6 r403 ((gAt ((gPut (gPut I403 57 576 v1 r402) 58 576 v1 r403) 59) 6 r403) + (1 : Int32))) G403 (v1 + (1 : Int32)) v2 (v3 + (1 : Int32)))))) := rfl
theorem L_X7_refresh_53_z (h : Nat) (I : am_I) (G : am_G) (v1 : Int32) (v2 : Int32) (v3 : Int32) : L_X7_refresh_53 0 h I G v1 v2 v3 = none := rfl
noncomputable def R_X7_refresh_53 (I : am_I) (G : am_G)  : Option (Unit × am_I × am_G) := (if (I 53 14) = 0 then L_X7_refresh_53 FU 0 I G (0 : Int32) 0 0 else some ((), I, G))
set_option maxRecDepth 20000 in
set_option maxHeartbeats 4000000 in
theorem l_X7_refresh_53 (rd : Nat) {X : am_X} {ad : Nat → Nat} (hX : am_okz X ad) (hi : am_info X 7 cX7_refresh 6 false none 7) (n : Nat) : (∀ (I : am_I) (G : am_G) (v1 : Int32) (v2 : Int32) (v3 : Int32) (out : Unit × am_I × am_G), L_X7_refresh_53 n 0 I G v1 v2 v3 = some out → am_V X 0 0 (am_Rt X gS ad (pV out.2.1 out.2.2 (gP rd))) gS ad (10, [(0, .ref 53), (1, .int v1)], [], I, G, (gP rd))) ∧ (∀ (I : am_I) (G : am_G) (v1 : Int32) (v2 : Int32) (v3 : Int32) (out : Unit × am_I × am_G), L_X7_refresh_53 n 1 I G v1 v2 v3 = some out → am_V X 0 0 (am_Rt X gS ad (pV out.2.1 out.2.2 (gP rd))) gS ad (45, [(0, .ref 53), (1, .int v1)], [], I, G, (gP rd))) ∧ (∀ (I : am_I) (G : am_G) (v1 : Int32) (v2 : Int32) (v3 : Int32) (out : Unit × am_I × am_G), L_X7_refresh_53 n 2 I G v1 v2 v3 = some out → am_V X 0 0 (am_Rt X gS ad (pV out.2.1 out.2.2 (gP rd))) gS ad (71, [(0, .ref 53), (1, .int v1), (2, .int v2)], [], I, G, (gP rd))) ∧ (∀ (I : am_I) (G : am_G) (v1 : Int32) (v2 : Int32) (v3 : Int32) (out : Unit × am_I × am_G), L_X7_refresh_53 n 3 I G v1 v2 v3 = some out → am_V X 0 0 (am_Rt X gS ad (pV out.2.1 out.2.2 (gP rd))) gS ad (84, [(0, .ref 53), (1, .int v1), (2, .int v2), (3, .int v3)], [], I, G, (gP rd))) := by
  induction n with
  | zero => exact ⟨(fun I G v1 v2 v3 out h => by rw [L_X7_refresh_53_z] at h; cases h), (fun I G v1 v2 v3 out h => by rw [L_X7_refresh_53_z] at h; cases h), (fun I G v1 v2 v3 out h => by rw [L_X7_refresh_53_z] at h; cases h), (fun I G v1 v2 v3 out h => by rw [L_X7_refresh_53_z] at h; cases h)⟩
  | succ n ih =>
    refine ⟨?_, ?_, ?_, ?_⟩
    · intro I G v1 v2 v3 out h
      rw [L_X7_refresh_53_0] at h
      refine am_blk 10 [(.iload_n 1, 1, 1, 0, .null), (.aload_n 0, 1, 0, 0, .null), (.getfield 44, 3, 7, 0, .null), (.getfield 229, 3, 5, 11, .null)] (18, [(0, .ref 53), (1, .int v1)], [.int (I 7 11), .int v1], I, G, (gP rd)) (True) hX hi (by decide +kernel) rfl trivial ?_
      refine am_icmp_ge (tgt := 43) hX hi (off := (25)) (by decide +kernel) (by decide) (fun c18 => ?_) (fun c18 => ?_)
      · rw [if_pos c18] at h
        refine am_blk 43 [(.iconst (0), 1, 0, 0, .int (0 : Int32)), (.istore_n 1, 1, 1, 0, .null)] (45, [(0, .ref 53), (1, .int (0 : Int32))], [], I, G, (gP rd)) (True) hX hi (by decide +kernel) rfl trivial ?_
        exact ih.2.1 _ _ _ _ _ _ h
      · rw [if_neg c18] at h
        refine am_blk 21 [(.aload_n 0, 1, 0, 0, .null), (.getfield 48, 3, 7, 1, .null), (.iload_n 1, 1, 1, 0, .null), (.aload_n 0, 1, 0, 0, .null), (.getfield 18, 3, 7, 4, .null), (.iload_n 1, 1, 1, 0, .null)] (31, [(0, .ref 53), (1, .int v1)], [.int v1, .ref 56, .int v1, .ref 25], I, G, (gP rd)) (True) hX hi (by decide +kernel) rfl trivial ?_
        refine am_callS hX hi (M := mX0_at) (idx := 85) (d' := 1) (As := [.ref 56, .int v1]) (rest := [.int v1, .ref 25]) mkX0_at msX0_at (by decide +kernel) (by decide +kernel) rfl ⟨by omega, by decide, Nat.le_of_ble_eq_true rfl⟩ rfl (c_at rfl (by decide) v1) ?_
        rintro r9 I9 G9 P9 ⟨e0, e1, e2, e3⟩
        rw [e0, e1, e2, e3]
        show am_V X 0 0 _ _ ad (34, [(0, .ref 53), (1, .int v1)], [.int (gAt (I 56) 4 v1), .int v1, .ref 25], I, G, (gP rd))
        obtain ⟨r101, I101, G101, hc, h⟩ := rb_some h
        refine am_callV hX hi (M := mX10_prepare) (idx := 232) (d' := 6) (b := 25) (ci := 10) (As := [.int v1, .int (gAt (I 56) 4 v1)]) (rest := []) mkX10_prepare miX10_prepare mvX10_prepare (by decide +kernel) (by decide +kernel) rfl (by decide +kernel) rfl ⟨by omega, by decide, Nat.le_of_ble_eq_true rfl⟩ rfl (c_X10_prepare_25 _ I G v1 (gAt (I 56) 4 v1) hc) ?_
        rintro r9 I9 G9 P9 ⟨e0, e1, e2, e3⟩
        rw [e0, e1, e2, e3]
        show am_V X 0 0 _ _ ad (37, [(0, .ref 53), (1, .int v1)], [], I101, G101, (gP rd))
        refine am_blk 37 [(.iinc 1 (1), 3, 1, 0, .int (1 : Int32)), (.goto (-30), 3, 0, 10, .null)] (10, [(0, .ref 53), (1, .int (v1 + (1 : Int32)))], [], I101, G101, (gP rd)) (True) hX hi (by decide +kernel) rfl trivial ?_
        exact ih.1 _ _ _ _ _ _ h
    · intro I G v1 v2 v3 out h
      rw [L_X7_refresh_53_1] at h
      refine am_blk 45 [(.iload_n 1, 1, 1, 0, .null), (.aload_n 0, 1, 0, 0, .null), (.getfield 27, 3, 7, 7, .null), (.arraylength, 1, 0, 0, .null)] (51, [(0, .ref 53), (1, .int v1)], [.int (Int32.ofNat 6), .int v1], I, G, (gP rd)) (True) hX hi (by decide +kernel) rfl trivial ?_
      refine am_icmp_ge (tgt := 67) hX hi (off := (16)) (by decide +kernel) (by decide) (fun c51 => ?_) (fun c51 => ?_)
      · rw [if_pos c51] at h
        refine am_blk 67 [(.iconst (0), 1, 0, 0, .int (0 : Int32)), (.istore_n 1, 1, 1, 0, .null), (.iconst (0), 1, 0, 0, .int (0 : Int32)), (.istore_n 2, 1, 2, 0, .null)] (71, [(0, .ref 53), (1, .int (0 : Int32)), (2, .int (0 : Int32))], [], I, G, (gP rd)) (True) hX hi (by decide +kernel) rfl trivial ?_
        exact ih.2.2.1 _ _ _ _ _ _ h
      · rw [if_neg c51] at h
        obtain ⟨g0, h⟩ := rg_some h
        refine am_blk 54 [(.aload_n 0, 1, 0, 0, .null), (.getfield 27, 3, 7, 7, .null), (.iload_n 1, 1, 1, 0, .null), (.iconst (0), 1, 0, 0, .int (0 : Int32)), (.iastore, 1, 0, 0, .null), (.iinc 1 (1), 3, 1, 0, .int (1 : Int32)), (.goto (-19), 3, 0, 45, .null)] (45, [(0, .ref 53), (1, .int (v1 + (1 : Int32)))], [], (am_up I 59 v1.toNatClampNeg (0 : Int32)), G, (gP rd)) (vp_in v1 6 ∧ True) hX hi (by decide +kernel) rfl ⟨g0, trivial⟩ ?_
        exact ih.2.1 _ _ _ _ _ _ h
    · intro I G v1 v2 v3 out h
      rw [L_X7_refresh_53_2] at h
      refine am_blk 71 [(.iload_n 2, 1, 2, 0, .null), (.aload_n 0, 1, 0, 0, .null), (.getfield 44, 3, 7, 0, .null), (.getfield 111, 3, 5, 10, .null)] (79, [(0, .ref 53), (1, .int v1), (2, .int v2)], [.int (I 7 10), .int v2], I, G, (gP rd)) (True) hX hi (by decide +kernel) rfl trivial ?_
      refine am_icmp_ge (tgt := 173) hX hi (off := (94)) (by decide +kernel) (by decide) (fun c79 => ?_) (fun c79 => ?_)
      · rw [if_pos c79] at h
        obtain ⟨g0, h⟩ := rg_some h
        refine am_blk 173 [(.aload_n 0, 1, 0, 0, .null), (.iconst (1), 1, 0, 0, .int (1 : Int32)), (.putfield 97, 3, 7, 14, .null)] (178, [(0, .ref 53), (1, .int v1), (2, .int v2)], [], (am_up I 53 14 (1 : Int32)), G, (gP rd)) (((1 : Int32) = 0 ∨ (1 : Int32) = 1) ∧ True) hX hi (by decide +kernel) rfl ⟨g0, trivial⟩ ?_
        cases h
        refine am_vret hX hi rfl (by decide +kernel) ?_
        exact ⟨rfl, rfl, rfl, rfl⟩
      · rw [if_neg c79] at h
        refine am_blk 82 [(.iconst (0), 1, 0, 0, .int (0 : Int32)), (.istore_n 3, 1, 3, 0, .null)] (84, [(0, .ref 53), (1, .int v1), (2, .int v2), (3, .int (0 : Int32))], [], I, G, (gP rd)) (True) hX hi (by decide +kernel) rfl trivial ?_
        exact ih.2.2.2 _ _ _ _ _ _ h
    · intro I G v1 v2 v3 out h
      rw [L_X7_refresh_53_3] at h
      refine am_blk 84 [(.iload_n 3, 1, 3, 0, .null), (.aload_n 0, 1, 0, 0, .null), (.getfield 44, 3, 7, 0, .null), (.getfield 104, 3, 5, 9, .null)] (92, [(0, .ref 53), (1, .int v1), (2, .int v2), (3, .int v3)], [.int (I 7 9), .int v3], I, G, (gP rd)) (True) hX hi (by decide +kernel) rfl trivial ?_
      refine am_icmp_ge (tgt := 167) hX hi (off := (75)) (by decide +kernel) (by decide) (fun c92 => ?_) (fun c92 => ?_)
      · rw [if_pos c92] at h
        refine am_blk 167 [(.iinc 2 (1), 3, 2, 0, .int (1 : Int32)), (.goto (-99), 3, 0, 71, .null)] (71, [(0, .ref 53), (1, .int v1), (2, .int (v2 + (1 : Int32))), (3, .int v3)], [], I, G, (gP rd)) (True) hX hi (by decide +kernel) rfl trivial ?_
        refine am_sub (L' := [(0, .ref 53), (1, .int v1), (2, .int (v2 + (1 : Int32)))]) (by simp) ?_
        exact ih.2.2.1 _ _ _ _ _ _ h
      · rw [if_neg c92] at h
        refine am_blk 95 [(.aload_n 0, 1, 0, 0, .null), (.aload_n 0, 1, 0, 0, .null), (.iload_n 3, 1, 3, 0, .null), (.iload_n 2, 1, 2, 0, .null)] (99, [(0, .ref 53), (1, .int v1), (2, .int v2), (3, .int v3)], [.int v2, .int v3, .ref 53, .ref 53], I, G, (gP rd)) (True) hX hi (by decide +kernel) rfl trivial ?_
        obtain ⟨r401, I401, G401, hc, h⟩ := rb_some h
        refine am_callV hX hi (M := mX7_source) (idx := 237) (d' := 4) (b := 53) (ci := 7) (As := [.int v3, .int v2]) (rest := [.ref 53]) mkX7_source miX7_source mvX7_source (by decide +kernel) (by decide +kernel) rfl (by decide +kernel) rfl ⟨by omega, by decide, Nat.le_of_ble_eq_true rfl⟩ rfl (c_X7_source_53 _ I G v3 v2 hc) ?_
        rintro r9 I9 G9 P9 ⟨e0, e1, e2, e3⟩
        rw [e0, e1, e2, e3]
        show am_V X 0 0 _ _ ad (102, [(0, .ref 53), (1, .int v1), (2, .int v2), (3, .int v3)], [.int r401, .ref 53], I401, G401, (gP rd))
        obtain ⟨r402, I402, G402, hc, h⟩ := rb_some h
        refine am_callV hX hi (M := mX7_heightFrom) (idx := 240) (d' := 3) (b := 53) (ci := 7) (As := [.int r401]) (rest := []) mkX7_heightFrom miX7_heightFrom mvX7_heightFrom (by decide +kernel) (by decide +kernel) rfl (by decide +kernel) rfl ⟨by omega, by decide, Nat.le_of_ble_eq_true rfl⟩ rfl (c_X7_heightFrom_53 _ I401 G401 r401 hc) ?_
        rintro r9 I9 G9 P9 ⟨e0, e1, e2, e3⟩
        rw [e0, e1, e2, e3]
        show am_V X 0 0 _ _ ad (105, [(0, .ref 53), (1, .int v1), (2, .int v2), (3, .int v3)], [.int r402], I402, G402, (gP rd))
        refine am_blk 105 [(.istore 4, 2, 4, 0, .null), (.aload_n 0, 1, 0, 0, .null), (.getfield 44, 3, 7, 0, .null), (.iload 4, 2, 4, 0, .null)] (113, [(0, .ref 53), (1, .int v1), (2, .int v2), (3, .int v3), (4, .int r402)], [.int r402, .ref 7], I402, G402, (gP rd)) (True) hX hi (by decide +kernel) rfl trivial ?_
        obtain ⟨r403, I403, G403, hc, h⟩ := rb_some h
        refine am_callV hX hi (M := mX5_inkOf) (idx := 243) (d' := 2) (b := 7) (ci := 5) (As := [.int r402]) (rest := []) mkX5_inkOf miX5_inkOf mvX5_inkOf (by decide +kernel) (by decide +kernel) rfl (by decide +kernel) rfl ⟨by omega, by decide, Nat.le_of_ble_eq_true rfl⟩ rfl (c_X5_inkOf_7 _ I402 G402 r402 hc) ?_
        rintro r9 I9 G9 P9 ⟨e0, e1, e2, e3⟩
        rw [e0, e1, e2, e3]
        show am_V X 0 0 _ _ ad (116, [(0, .ref 53), (1, .int v1), (2, .int v2), (3, .int v3), (4, .int r402)], [.int r403], I403, G403, (gP rd))
        refine am_blk 116 [(.istore 5, 2, 5, 0, .null), (.aload_n 0, 1, 0, 0, .null), (.getfield 21, 3, 7, 5, .null), (.iload_n 1, 1, 1, 0, .null), (.iload 4, 2, 4, 0, .null)] (125, [(0, .ref 53), (1, .int v1), (2, .int v2), (3, .int v3), (4, .int r402), (5, .int r403)], [.int r402, .int v1, .ref 57], I403, G403, (gP rd)) (True) hX hi (by decide +kernel) rfl trivial ?_
        refine am_callS hX hi (M := mX0_put) (idx := 89) (d' := 1) (As := [.ref 57, .int v1, .int r402]) (rest := []) mkX0_put msX0_put (by decide +kernel) (by decide +kernel) rfl ⟨by omega, by decide, Nat.le_of_ble_eq_true rfl⟩ rfl (c_put rfl (by decide) v1 r402) ?_
        rintro r9 I9 G9 P9 ⟨e0, e1, e2, e3⟩
        rw [e0, e1, e2, e3]
        show am_V X 0 0 _ _ ad (128, [(0, .ref 53), (1, .int v1), (2, .int v2), (3, .int v3), (4, .int r402), (5, .int r403)], [], (gPut I403 57 576 v1 r402), G403, (gP rd))
        refine am_blk 128 [(.aload_n 0, 1, 0, 0, .null), (.getfield 24, 3, 7, 6, .null), (.iload_n 1, 1, 1, 0, .null), (.iload 5, 2, 5, 0, .null)] (135, [(0, .ref 53), (1, .int v1), (2, .int v2), (3, .int v3), (4, .int r402), (5, .int r403)], [.int r403, .int v1, .ref 58], (gPut I403 57 576 v1 r402), G403, (gP rd)) (True) hX hi (by decide +kernel) rfl trivial ?_
        refine am_callS hX hi (M := mX0_put) (idx := 89) (d' := 1) (As := [.ref 58, .int v1, .int r403]) (rest := []) mkX0_put msX0_put (by decide +kernel) (by decide +kernel) rfl ⟨by omega, by decide, Nat.le_of_ble_eq_true rfl⟩ rfl (c_put rfl (by decide) v1 r403) ?_
        rintro r9 I9 G9 P9 ⟨e0, e1, e2, e3⟩
        rw [e0, e1, e2, e3]
        show am_V X 0 0 _ _ ad (138, [(0, .ref 53), (1, .int v1), (2, .int v2), (3, .int v3), (4, .int r402), (5, .int r403)], [], (gPut (gPut I403 57 576 v1 r402) 58 576 v1 r403), G403, (gP rd))
        refine am_blk 138 [(.aload_n 0, 1, 0, 0, .null), (.getfield 27, 3, 7, 7, .null), (.iload 5, 2, 5, 0, .null), (.aload_n 0, 1, 0, 0, .null), (.getfield 27, 3, 7, 7, .null), (.iload 5, 2, 5, 0, .null)] (150, [(0, .ref 53), (1, .int v1), (2, .int v2), (3, .int v3), (4, .int r402), (5, .int r403)], [.int r403, .ref 59, .int r403, .ref 59], (gPut (gPut I403 57 576 v1 r402) 58 576 v1 r403), G403, (gP rd)) (True) hX hi (by decide +kernel) rfl trivial ?_
        refine am_callS hX hi (M := mX0_at) (idx := 85) (d' := 1) (As := [.ref 59, .int r403]) (rest := [.int r403, .ref 59]) mkX0_at msX0_at (by decide +kernel) (by decide +kernel) rfl ⟨by omega, by decide, Nat.le_of_ble_eq_true rfl⟩ rfl (c_at rfl (by decide) r403) ?_
        rintro r9 I9 G9 P9 ⟨e0, e1, e2, e3⟩
        rw [e0, e1, e2, e3]
        show am_V X 0 0 _ _ ad (153, [(0, .ref 53), (1, .int v1), (2, .int v2), (3, .int v3), (4, .int r402), (5, .int r403)], [.int (gAt ((gPut (gPut I403 57 576 v1 r402) 58 576 v1 r403) 59) 6 r403), .int r403, .ref 59], (gPut (gPut I403 57 576 v1 r402) 58 576 v1 r403), G403, (gP rd))
        refine am_blk 153 [(.iconst (1), 1, 0, 0, .int (1 : Int32)), (.iadd, 1, 0, 0, .null)] (155, [(0, .ref 53), (1, .int v1), (2, .int v2), (3, .int v3), (4, .int r402), (5, .int r403)], [.int ((gAt ((gPut (gPut I403 57 576 v1 r402) 58 576 v1 r403) 59) 6 r403) + (1 : Int32)), .int r403, .ref 59], (gPut (gPut I403 57 576 v1 r402) 58 576 v1 r403), G403, (gP rd)) (True) hX hi (by decide +kernel) rfl trivial ?_
        refine am_callS hX hi (M := mX0_put) (idx := 89) (d' := 1) (As := [.ref 59, .int r403, .int ((gAt ((gPut (gPut I403 57 576 v1 r402) 58 576 v1 r403) 59) 6 r403) + (1 : Int32))]) (rest := []) mkX0_put msX0_put (by decide +kernel) (by decide +kernel) rfl ⟨by omega, by decide, Nat.le_of_ble_eq_true rfl⟩ rfl (c_put rfl (by decide) r403 ((gAt ((gPut (gPut I403 57 576 v1 r402) 58 576 v1 r403) 59) 6 r403) + (1 : Int32))) ?_
        rintro r9 I9 G9 P9 ⟨e0, e1, e2, e3⟩
        rw [e0, e1, e2, e3]
        show am_V X 0 0 _ _ ad (158, [(0, .ref 53), (1, .int v1), (2, .int v2), (3, .int v3), (4, .int r402), (5, .int r403)], [], (gPut (gPut (gPut I403 57 576 v1 r402) 58 576 v1 r403) 59 6 r403 ((gAt ((gPut (gPut I403 57 576 v1 r402) 58 576 v1 r403) 59) 6 r403) + (1 : Int32))), G403, (gP rd))
        refine am_blk 158 [(.iinc 1 (1), 3, 1, 0, .int (1 : Int32)), (.iinc 3 (1), 3, 3, 0, .int (1 : Int32)), (.goto (-80), 3, 0, 84, .null)] (84, [(0, .ref 53), (1, .int (v1 + (1 : Int32))), (2, .int v2), (3, .int (v3 + (1 : Int32))), (4, .int r402), (5, .int r403)], [], (gPut (gPut (gPut I403 57 576 v1 r402) 58 576 v1 r403) 59 6 r403 ((gAt ((gPut (gPut I403 57 576 v1 r402) 58 576 v1 r403) 59) 6 r403) + (1 : Int32))), G403, (gP rd)) (True) hX hi (by decide +kernel) rfl trivial ?_
        refine am_sub (L' := [(0, .ref 53), (1, .int (v1 + (1 : Int32))), (2, .int v2), (3, .int (v3 + (1 : Int32)))]) (by simp) ?_
        exact ih.2.2.2 _ _ _ _ _ _ h
set_option maxRecDepth 20000 in
set_option maxHeartbeats 4000000 in
theorem c_X7_refresh_53 (rd : Nat) (I : am_I) (G : am_G)  {out : Unit × am_I × am_G} (h : R_X7_refresh_53 I G  = some out) : am_Ct mX7_refresh 7 gS [.ref 53] I G (gP rd) (pV out.2.1 out.2.2 (gP rd)) := by
  refine am_ofF (by decide +kernel) rfl (by decide) (by omega) (Nat.le_of_ble_eq_true rfl) (fun X ad hX hi => ?_)
  have hi : am_info X 7 cX7_refresh 6 false none 7 := hi
  show am_V X 0 0 _ _ ad (0, [(0, .ref 53)], [], I, G, (gP rd))
  unfold R_X7_refresh_53 at h
  refine am_blk 0 [(.aload_n 0, 1, 0, 0, .null), (.getfield 97, 3, 7, 14, .null)] (4, [(0, .ref 53)], [.int (I 53 14)], I, G, (gP rd)) (True) hX hi (by decide +kernel) rfl trivial ?_
  refine am_if_eq (tgt := 8) hX hi (off := (4)) (by decide +kernel) (by decide) (fun c4 => ?_) (fun c4 => ?_)
  · rw [if_pos c4] at h
    refine am_blk 8 [(.iconst (0), 1, 0, 0, .int (0 : Int32)), (.istore_n 1, 1, 1, 0, .null)] (10, [(0, .ref 53), (1, .int (0 : Int32))], [], I, G, (gP rd)) (True) hX hi (by decide +kernel) rfl trivial ?_
    exact (l_X7_refresh_53 rd hX hi FU).1 _ _ _ _ _ _ h
  · rw [if_neg c4] at h
    cases h
    refine am_vret hX hi rfl (by decide +kernel) ?_
    exact ⟨rfl, rfl, rfl, rfl⟩
noncomputable def L_X7_refresh_66 (n0 : Nat) (hd : Nat) (I : am_I) (G : am_G) (v1 : Int32) (v2 : Int32) (v3 : Int32) : Option (Unit × am_I × am_G) := match n0 with
  | 0 => none
  | n + 1 => match hd with
    | 0 => (if (I 7 11) ≤ v1 then L_X7_refresh_66 n 1 I G (0 : Int32) 0 0 else rb (R_X10_prepare_25 I G v1 (gAt (I 69) 4 v1)) (fun r101 I101 G101 => L_X7_refresh_66 n 0 I101 G101 (v1 + (1 : Int32)) 0 0))
    | 1 => (if (Int32.ofNat 6) ≤ v1 then L_X7_refresh_66 n 2 I G (0 : Int32) (0 : Int32) 0 else rg (vp_in v1 6) (L_X7_refresh_66 n 1 (am_up I 72 v1.toNatClampNeg (0 : Int32)) G (v1 + (1 : Int32)) 0 0))
    | 2 => (if (I 7 10) ≤ v2 then rg (((1 : Int32) = 0 ∨ (1 : Int32) = 1)) (some ((), (am_up I 66 14 (1 : Int32)), G)) else L_X7_refresh_66 n 3 I G v1 v2 (0 : Int32))
    | _ => (if (I 7 9) ≤ v3 then L_X7_refresh_66 n 2 I G v1 (v2 + (1 : Int32)) 0 else rb (R_X7_source_66 I G v3 v2) (fun r401 I401 G401 => rb (R_X7_heightFrom_66 I401 G401 r401) (fun r402 I402 G402 => rb (R_X5_inkOf_7 I402 G402 r402) (fun r403 I403 G403 => L_X7_refresh_66 n 3 (gPut (gPut (gPut I403 70 576 v1 r402) 71 576 v1 r403) 72 6 r403 ((gAt ((gPut (gPut I403 70 576 v1 r402) 71 576 v1 r403) 72) 6 r403) + (1 : Int32))) G403 (v1 + (1 : Int32)) v2 (v3 + (1 : Int32))))))
theorem L_X7_refresh_66_0 (n : Nat) (I : am_I) (G : am_G) (v1 : Int32) (v2 : Int32) (v3 : Int32) : L_X7_refresh_66 (n + 1) 0 I G v1 v2 v3 = (if (I 7 11) ≤ v1 then L_X7_refresh_66 n 1 I G (0 : Int32) 0 0 else rb (R_X10_prepare_25 I G v1 (gAt (I 69) 4 v1)) (fun r101 I101 G101 => L_X7_refresh_66 n 0 I101 G101 (v1 + (1 : Int32)) 0 0)) := rfl
theorem L_X7_refresh_66_1 (n : Nat) (I : am_I) (G : am_G) (v1 : Int32) (v2 : Int32) (v3 : Int32) : L_X7_refresh_66 (n + 1) 1 I G v1 v2 v3 = (if (Int32.ofNat 6) ≤ v1 then L_X7_refresh_66 n 2 I G (0 : Int32) (0 : Int32) 0 else rg (vp_in v1 6) (L_X7_refresh_66 n 1 (am_up I 72 v1.toNatClampNeg (0 : Int32)) G (v1 + (1 : Int32)) 0 0)) := rfl
theorem L_X7_refresh_66_2 (n : Nat) (I : am_I) (G : am_G) (v1 : Int32) (v2 : Int32) (v3 : Int32) : L_X7_refresh_66 (n + 1) 2 I G v1 v2 v3 = (if (I 7 10) ≤ v2 then rg (((1 : Int32) = 0 ∨ (1 : Int32) = 1)) (some ((), (am_up I 66 14 (1 : Int32)), G)) else L_X7_refresh_66 n 3 I G v1 v2 (0 : Int32)) := rfl
theorem L_X7_refresh_66_3 (n : Nat) (I : am_I) (G : am_G) (v1 : Int32) (v2 : Int32) (v3 : Int32) : L_X7_refresh_66 (n + 1) 3 I G v1 v2 v3 = (if (I 7 9) ≤ v3 then L_X7_refresh_66 n 2 I G v1 (v2 + (1 : Int32)) 0 else rb (R_X7_source_66 I G v3 v2) (fun r401 I401 G401 => rb (R_X7_heightFrom_66 I401 G401 r401) (fun r402 I402 G402 => rb (R_X5_inkOf_7 I402 G402 r402) (fun r403 I403 G403 => L_X7_refresh_66 n 3 (gPut (gPut (gPut I403 70 576 v1 r402) 71 576 v1 r403) 72 6 r403 ((gAt ((gPut (gPut I403 70 576 v1 r402) 71 576 v1 r403) 72) 6 r403) + (1 : Int32))) G403 (v1 + (1 : Int32)) v2 (v3 + (1 : Int32)))))) := rfl
theorem L_X7_refresh_66_z (h : Nat) (I : am_I) (G : am_G) (v1 : Int32) (v2 : Int32) (v3 : Int32) : L_X7_refresh_66 0 h I G v1 v2 v3 = none := rfl
noncomputable def R_X7_refresh_66 (I : am_I) (G : am_G)  : Option (Unit × am_I × am_G) := (if (I 66 14) = 0 then L_X7_refresh_66 FU 0 I G (0 : Int32) 0 0 else some ((), I, G))
set_option maxRecDepth 20000 in
set_option maxHeartbeats 4000000 in
theorem l_X7_refresh_66 (rd : Nat) {X : am_X} {ad : Nat → Nat} (hX : am_okz X ad) (hi : am_info X 7 cX7_refresh 6 false none 7) (n : Nat) : (∀ (I : am_I) (G : am_G) (v1 : Int32) (v2 : Int32) (v3 : Int32) (out : Unit × am_I × am_G), L_X7_refresh_66 n 0 I G v1 v2 v3 = some out → am_V X 0 0 (am_Rt X gS ad (pV out.2.1 out.2.2 (gP rd))) gS ad (10, [(0, .ref 66), (1, .int v1)], [], I, G, (gP rd))) ∧ (∀ (I : am_I) (G : am_G) (v1 : Int32) (v2 : Int32) (v3 : Int32) (out : Unit × am_I × am_G), L_X7_refresh_66 n 1 I G v1 v2 v3 = some out → am_V X 0 0 (am_Rt X gS ad (pV out.2.1 out.2.2 (gP rd))) gS ad (45, [(0, .ref 66), (1, .int v1)], [], I, G, (gP rd))) ∧ (∀ (I : am_I) (G : am_G) (v1 : Int32) (v2 : Int32) (v3 : Int32) (out : Unit × am_I × am_G), L_X7_refresh_66 n 2 I G v1 v2 v3 = some out → am_V X 0 0 (am_Rt X gS ad (pV out.2.1 out.2.2 (gP rd))) gS ad (71, [(0, .ref 66), (1, .int v1), (2, .int v2)], [], I, G, (gP rd))) ∧ (∀ (I : am_I) (G : am_G) (v1 : Int32) (v2 : Int32) (v3 : Int32) (out : Unit × am_I × am_G), L_X7_refresh_66 n 3 I G v1 v2 v3 = some out → am_V X 0 0 (am_Rt X gS ad (pV out.2.1 out.2.2 (gP rd))) gS ad (84, [(0, .ref 66), (1, .int v1), (2, .int v2), (3, .int v3)], [], I, G, (gP rd))) := by
  induction n with
  | zero => exact ⟨(fun I G v1 v2 v3 out h => by rw [L_X7_refresh_66_z] at h; cases h), (fun I G v1 v2 v3 out h => by rw [L_X7_refresh_66_z] at h; cases h), (fun I G v1 v2 v3 out h => by rw [L_X7_refresh_66_z] at h; cases h), (fun I G v1 v2 v3 out h => by rw [L_X7_refresh_66_z] at h; cases h)⟩
  | succ n ih =>
    refine ⟨?_, ?_, ?_, ?_⟩
    · intro I G v1 v2 v3 out h
      rw [L_X7_refresh_66_0] at h
      refine am_blk 10 [(.iload_n 1, 1, 1, 0, .null), (.aload_n 0, 1, 0, 0, .null), (.getfield 44, 3, 7, 0, .null), (.getfield 229, 3, 5, 11, .null)] (18, [(0, .ref 66), (1, .int v1)], [.int (I 7 11), .int v1], I, G, (gP rd)) (True) hX hi (by decide +kernel) rfl trivial ?_
      refine am_icmp_ge (tgt := 43) hX hi (off := (25)) (by decide +kernel) (by decide) (fun c18 => ?_) (fun c18 => ?_)
      · rw [if_pos c18] at h
        refine am_blk 43 [(.iconst (0), 1, 0, 0, .int (0 : Int32)), (.istore_n 1, 1, 1, 0, .null)] (45, [(0, .ref 66), (1, .int (0 : Int32))], [], I, G, (gP rd)) (True) hX hi (by decide +kernel) rfl trivial ?_
        exact ih.2.1 _ _ _ _ _ _ h
      · rw [if_neg c18] at h
        refine am_blk 21 [(.aload_n 0, 1, 0, 0, .null), (.getfield 48, 3, 7, 1, .null), (.iload_n 1, 1, 1, 0, .null), (.aload_n 0, 1, 0, 0, .null), (.getfield 18, 3, 7, 4, .null), (.iload_n 1, 1, 1, 0, .null)] (31, [(0, .ref 66), (1, .int v1)], [.int v1, .ref 69, .int v1, .ref 25], I, G, (gP rd)) (True) hX hi (by decide +kernel) rfl trivial ?_
        refine am_callS hX hi (M := mX0_at) (idx := 85) (d' := 1) (As := [.ref 69, .int v1]) (rest := [.int v1, .ref 25]) mkX0_at msX0_at (by decide +kernel) (by decide +kernel) rfl ⟨by omega, by decide, Nat.le_of_ble_eq_true rfl⟩ rfl (c_at rfl (by decide) v1) ?_
        rintro r9 I9 G9 P9 ⟨e0, e1, e2, e3⟩
        rw [e0, e1, e2, e3]
        show am_V X 0 0 _ _ ad (34, [(0, .ref 66), (1, .int v1)], [.int (gAt (I 69) 4 v1), .int v1, .ref 25], I, G, (gP rd))
        obtain ⟨r101, I101, G101, hc, h⟩ := rb_some h
        refine am_callV hX hi (M := mX10_prepare) (idx := 232) (d' := 6) (b := 25) (ci := 10) (As := [.int v1, .int (gAt (I 69) 4 v1)]) (rest := []) mkX10_prepare miX10_prepare mvX10_prepare (by decide +kernel) (by decide +kernel) rfl (by decide +kernel) rfl ⟨by omega, by decide, Nat.le_of_ble_eq_true rfl⟩ rfl (c_X10_prepare_25 _ I G v1 (gAt (I 69) 4 v1) hc) ?_
        rintro r9 I9 G9 P9 ⟨e0, e1, e2, e3⟩
        rw [e0, e1, e2, e3]
        show am_V X 0 0 _ _ ad (37, [(0, .ref 66), (1, .int v1)], [], I101, G101, (gP rd))
        refine am_blk 37 [(.iinc 1 (1), 3, 1, 0, .int (1 : Int32)), (.goto (-30), 3, 0, 10, .null)] (10, [(0, .ref 66), (1, .int (v1 + (1 : Int32)))], [], I101, G101, (gP rd)) (True) hX hi (by decide +kernel) rfl trivial ?_
        exact ih.1 _ _ _ _ _ _ h
    · intro I G v1 v2 v3 out h
      rw [L_X7_refresh_66_1] at h
      refine am_blk 45 [(.iload_n 1, 1, 1, 0, .null), (.aload_n 0, 1, 0, 0, .null), (.getfield 27, 3, 7, 7, .null), (.arraylength, 1, 0, 0, .null)] (51, [(0, .ref 66), (1, .int v1)], [.int (Int32.ofNat 6), .int v1], I, G, (gP rd)) (True) hX hi (by decide +kernel) rfl trivial ?_
      refine am_icmp_ge (tgt := 67) hX hi (off := (16)) (by decide +kernel) (by decide) (fun c51 => ?_) (fun c51 => ?_)
      · rw [if_pos c51] at h
        refine am_blk 67 [(.iconst (0), 1, 0, 0, .int (0 : Int32)), (.istore_n 1, 1, 1, 0, .null), (.iconst (0), 1, 0, 0, .int (0 : Int32)), (.istore_n 2, 1, 2, 0, .null)] (71, [(0, .ref 66), (1, .int (0 : Int32)), (2, .int (0 : Int32))], [], I, G, (gP rd)) (True) hX hi (by decide +kernel) rfl trivial ?_
        exact ih.2.2.1 _ _ _ _ _ _ h
      · rw [if_neg c51] at h
        obtain ⟨g0, h⟩ := rg_some h
        refine am_blk 54 [(.aload_n 0, 1, 0, 0, .null), (.getfield 27, 3, 7, 7, .null), (.iload_n 1, 1, 1, 0, .null), (.iconst (0), 1, 0, 0, .int (0 : Int32)), (.iastore, 1, 0, 0, .null), (.iinc 1 (1), 3, 1, 0, .int (1 : Int32)), (.goto (-19), 3, 0, 45, .null)] (45, [(0, .ref 66), (1, .int (v1 + (1 : Int32)))], [], (am_up I 72 v1.toNatClampNeg (0 : Int32)), G, (gP rd)) (vp_in v1 6 ∧ True) hX hi (by decide +kernel) rfl ⟨g0, trivial⟩ ?_
        exact ih.2.1 _ _ _ _ _ _ h
    · intro I G v1 v2 v3 out h
      rw [L_X7_refresh_66_2] at h
      refine am_blk 71 [(.iload_n 2, 1, 2, 0, .null), (.aload_n 0, 1, 0, 0, .null), (.getfield 44, 3, 7, 0, .null), (.getfield 111, 3, 5, 10, .null)] (79, [(0, .ref 66), (1, .int v1), (2, .int v2)], [.int (I 7 10), .int v2], I, G, (gP rd)) (True) hX hi (by decide +kernel) rfl trivial ?_
      refine am_icmp_ge (tgt := 173) hX hi (off := (94)) (by decide +kernel) (by decide) (fun c79 => ?_) (fun c79 => ?_)
      · rw [if_pos c79] at h
        obtain ⟨g0, h⟩ := rg_some h
        refine am_blk 173 [(.aload_n 0, 1, 0, 0, .null), (.iconst (1), 1, 0, 0, .int (1 : Int32)), (.putfield 97, 3, 7, 14, .null)] (178, [(0, .ref 66), (1, .int v1), (2, .int v2)], [], (am_up I 66 14 (1 : Int32)), G, (gP rd)) (((1 : Int32) = 0 ∨ (1 : Int32) = 1) ∧ True) hX hi (by decide +kernel) rfl ⟨g0, trivial⟩ ?_
        cases h
        refine am_vret hX hi rfl (by decide +kernel) ?_
        exact ⟨rfl, rfl, rfl, rfl⟩
      · rw [if_neg c79] at h
        refine am_blk 82 [(.iconst (0), 1, 0, 0, .int (0 : Int32)), (.istore_n 3, 1, 3, 0, .null)] (84, [(0, .ref 66), (1, .int v1), (2, .int v2), (3, .int (0 : Int32))], [], I, G, (gP rd)) (True) hX hi (by decide +kernel) rfl trivial ?_
        exact ih.2.2.2 _ _ _ _ _ _ h
    · intro I G v1 v2 v3 out h
      rw [L_X7_refresh_66_3] at h
      refine am_blk 84 [(.iload_n 3, 1, 3, 0, .null), (.aload_n 0, 1, 0, 0, .null), (.getfield 44, 3, 7, 0, .null), (.getfield 104, 3, 5, 9, .null)] (92, [(0, .ref 66), (1, .int v1), (2, .int v2), (3, .int v3)], [.int (I 7 9), .int v3], I, G, (gP rd)) (True) hX hi (by decide +kernel) rfl trivial ?_
      refine am_icmp_ge (tgt := 167) hX hi (off := (75)) (by decide +kernel) (by decide) (fun c92 => ?_) (fun c92 => ?_)
      · rw [if_pos c92] at h
        refine am_blk 167 [(.iinc 2 (1), 3, 2, 0, .int (1 : Int32)), (.goto (-99), 3, 0, 71, .null)] (71, [(0, .ref 66), (1, .int v1), (2, .int (v2 + (1 : Int32))), (3, .int v3)], [], I, G, (gP rd)) (True) hX hi (by decide +kernel) rfl trivial ?_
        refine am_sub (L' := [(0, .ref 66), (1, .int v1), (2, .int (v2 + (1 : Int32)))]) (by simp) ?_
        exact ih.2.2.1 _ _ _ _ _ _ h
      · rw [if_neg c92] at h
        refine am_blk 95 [(.aload_n 0, 1, 0, 0, .null), (.aload_n 0, 1, 0, 0, .null), (.iload_n 3, 1, 3, 0, .null), (.iload_n 2, 1, 2, 0, .null)] (99, [(0, .ref 66), (1, .int v1), (2, .int v2), (3, .int v3)], [.int v2, .int v3, .ref 66, .ref 66], I, G, (gP rd)) (True) hX hi (by decide +kernel) rfl trivial ?_
        obtain ⟨r401, I401, G401, hc, h⟩ := rb_some h
        refine am_callV hX hi (M := mX7_source) (idx := 237) (d' := 4) (b := 66) (ci := 7) (As := [.int v3, .int v2]) (rest := [.ref 66]) mkX7_source miX7_source mvX7_source (by decide +kernel) (by decide +kernel) rfl (by decide +kernel) rfl ⟨by omega, by decide, Nat.le_of_ble_eq_true rfl⟩ rfl (c_X7_source_66 _ I G v3 v2 hc) ?_
        rintro r9 I9 G9 P9 ⟨e0, e1, e2, e3⟩
        rw [e0, e1, e2, e3]
        show am_V X 0 0 _ _ ad (102, [(0, .ref 66), (1, .int v1), (2, .int v2), (3, .int v3)], [.int r401, .ref 66], I401, G401, (gP rd))
        obtain ⟨r402, I402, G402, hc, h⟩ := rb_some h
        refine am_callV hX hi (M := mX7_heightFrom) (idx := 240) (d' := 3) (b := 66) (ci := 7) (As := [.int r401]) (rest := []) mkX7_heightFrom miX7_heightFrom mvX7_heightFrom (by decide +kernel) (by decide +kernel) rfl (by decide +kernel) rfl ⟨by omega, by decide, Nat.le_of_ble_eq_true rfl⟩ rfl (c_X7_heightFrom_66 _ I401 G401 r401 hc) ?_
        rintro r9 I9 G9 P9 ⟨e0, e1, e2, e3⟩
        rw [e0, e1, e2, e3]
        show am_V X 0 0 _ _ ad (105, [(0, .ref 66), (1, .int v1), (2, .int v2), (3, .int v3)], [.int r402], I402, G402, (gP rd))
        refine am_blk 105 [(.istore 4, 2, 4, 0, .null), (.aload_n 0, 1, 0, 0, .null), (.getfield 44, 3, 7, 0, .null), (.iload 4, 2, 4, 0, .null)] (113, [(0, .ref 66), (1, .int v1), (2, .int v2), (3, .int v3), (4, .int r402)], [.int r402, .ref 7], I402, G402, (gP rd)) (True) hX hi (by decide +kernel) rfl trivial ?_
        obtain ⟨r403, I403, G403, hc, h⟩ := rb_some h
        refine am_callV hX hi (M := mX5_inkOf) (idx := 243) (d' := 2) (b := 7) (ci := 5) (As := [.int r402]) (rest := []) mkX5_inkOf miX5_inkOf mvX5_inkOf (by decide +kernel) (by decide +kernel) rfl (by decide +kernel) rfl ⟨by omega, by decide, Nat.le_of_ble_eq_true rfl⟩ rfl (c_X5_inkOf_7 _ I402 G402 r402 hc) ?_
        rintro r9 I9 G9 P9 ⟨e0, e1, e2, e3⟩
        rw [e0, e1, e2, e3]
        show am_V X 0 0 _ _ ad (116, [(0, .ref 66), (1, .int v1), (2, .int v2), (3, .int v3), (4, .int r402)], [.int r403], I403, G403, (gP rd))
        refine am_blk 116 [(.istore 5, 2, 5, 0, .null), (.aload_n 0, 1, 0, 0, .null), (.getfield 21, 3, 7, 5, .null), (.iload_n 1, 1, 1, 0, .null), (.iload 4, 2, 4, 0, .null)] (125, [(0, .ref 66), (1, .int v1), (2, .int v2), (3, .int v3), (4, .int r402), (5, .int r403)], [.int r402, .int v1, .ref 70], I403, G403, (gP rd)) (True) hX hi (by decide +kernel) rfl trivial ?_
        refine am_callS hX hi (M := mX0_put) (idx := 89) (d' := 1) (As := [.ref 70, .int v1, .int r402]) (rest := []) mkX0_put msX0_put (by decide +kernel) (by decide +kernel) rfl ⟨by omega, by decide, Nat.le_of_ble_eq_true rfl⟩ rfl (c_put rfl (by decide) v1 r402) ?_
        rintro r9 I9 G9 P9 ⟨e0, e1, e2, e3⟩
        rw [e0, e1, e2, e3]
        show am_V X 0 0 _ _ ad (128, [(0, .ref 66), (1, .int v1), (2, .int v2), (3, .int v3), (4, .int r402), (5, .int r403)], [], (gPut I403 70 576 v1 r402), G403, (gP rd))
        refine am_blk 128 [(.aload_n 0, 1, 0, 0, .null), (.getfield 24, 3, 7, 6, .null), (.iload_n 1, 1, 1, 0, .null), (.iload 5, 2, 5, 0, .null)] (135, [(0, .ref 66), (1, .int v1), (2, .int v2), (3, .int v3), (4, .int r402), (5, .int r403)], [.int r403, .int v1, .ref 71], (gPut I403 70 576 v1 r402), G403, (gP rd)) (True) hX hi (by decide +kernel) rfl trivial ?_
        refine am_callS hX hi (M := mX0_put) (idx := 89) (d' := 1) (As := [.ref 71, .int v1, .int r403]) (rest := []) mkX0_put msX0_put (by decide +kernel) (by decide +kernel) rfl ⟨by omega, by decide, Nat.le_of_ble_eq_true rfl⟩ rfl (c_put rfl (by decide) v1 r403) ?_
        rintro r9 I9 G9 P9 ⟨e0, e1, e2, e3⟩
        rw [e0, e1, e2, e3]
        show am_V X 0 0 _ _ ad (138, [(0, .ref 66), (1, .int v1), (2, .int v2), (3, .int v3), (4, .int r402), (5, .int r403)], [], (gPut (gPut I403 70 576 v1 r402) 71 576 v1 r403), G403, (gP rd))
        refine am_blk 138 [(.aload_n 0, 1, 0, 0, .null), (.getfield 27, 3, 7, 7, .null), (.iload 5, 2, 5, 0, .null), (.aload_n 0, 1, 0, 0, .null), (.getfield 27, 3, 7, 7, .null), (.iload 5, 2, 5, 0, .null)] (150, [(0, .ref 66), (1, .int v1), (2, .int v2), (3, .int v3), (4, .int r402), (5, .int r403)], [.int r403, .ref 72, .int r403, .ref 72], (gPut (gPut I403 70 576 v1 r402) 71 576 v1 r403), G403, (gP rd)) (True) hX hi (by decide +kernel) rfl trivial ?_
        refine am_callS hX hi (M := mX0_at) (idx := 85) (d' := 1) (As := [.ref 72, .int r403]) (rest := [.int r403, .ref 72]) mkX0_at msX0_at (by decide +kernel) (by decide +kernel) rfl ⟨by omega, by decide, Nat.le_of_ble_eq_true rfl⟩ rfl (c_at rfl (by decide) r403) ?_
        rintro r9 I9 G9 P9 ⟨e0, e1, e2, e3⟩
        rw [e0, e1, e2, e3]
        show am_V X 0 0 _ _ ad (153, [(0, .ref 66), (1, .int v1), (2, .int v2), (3, .int v3), (4, .int r402), (5, .int r403)], [.int (gAt ((gPut (gPut I403 70 576 v1 r402) 71 576 v1 r403) 72) 6 r403), .int r403, .ref 72], (gPut (gPut I403 70 576 v1 r402) 71 576 v1 r403), G403, (gP rd))
        refine am_blk 153 [(.iconst (1), 1, 0, 0, .int (1 : Int32)), (.iadd, 1, 0, 0, .null)] (155, [(0, .ref 66), (1, .int v1), (2, .int v2), (3, .int v3), (4, .int r402), (5, .int r403)], [.int ((gAt ((gPut (gPut I403 70 576 v1 r402) 71 576 v1 r403) 72) 6 r403) + (1 : Int32)), .int r403, .ref 72], (gPut (gPut I403 70 576 v1 r402) 71 576 v1 r403), G403, (gP rd)) (True) hX hi (by decide +kernel) rfl trivial ?_
        refine am_callS hX hi (M := mX0_put) (idx := 89) (d' := 1) (As := [.ref 72, .int r403, .int ((gAt ((gPut (gPut I403 70 576 v1 r402) 71 576 v1 r403) 72) 6 r403) + (1 : Int32))]) (rest := []) mkX0_put msX0_put (by decide +kernel) (by decide +kernel) rfl ⟨by omega, by decide, Nat.le_of_ble_eq_true rfl⟩ rfl (c_put rfl (by decide) r403 ((gAt ((gPut (gPut I403 70 576 v1 r402) 71 576 v1 r403) 72) 6 r403) + (1 : Int32))) ?_
        rintro r9 I9 G9 P9 ⟨e0, e1, e2, e3⟩
        rw [e0, e1, e2, e3]
        show am_V X 0 0 _ _ ad (158, [(0, .ref 66), (1, .int v1), (2, .int v2), (3, .int v3), (4, .int r402), (5, .int r403)], [], (gPut (gPut (gPut I403 70 576 v1 r402) 71 576 v1 r403) 72 6 r403 ((gAt ((gPut (gPut I403 70 576 v1 r402) 71 576 v1 r403) 72) 6 r403) + (1 : Int32))), G403, (gP rd))
        refine am_blk 158 [(.iinc 1 (1), 3, 1, 0, .int (1 : Int32)), (.iinc 3 (1), 3, 3, 0, .int (1 : Int32)), (.goto (-80), 3, 0, 84, .null)] (84, [(0, .ref 66), (1, .int (v1 + (1 : Int32))), (2, .int v2), (3, .int (v3 + (1 : Int32))), (4, .int r402), (5, .int r403)], [], (gPut (gPut (gPut I403 70 576 v1 r402) 71 576 v1 r403) 72 6 r403 ((gAt ((gPut (gPut I403 70 576 v1 r402) 71 576 v1 r403) 72) 6 r403) + (1 : Int32))), G403, (gP rd)) (True) hX hi (by decide +kernel) rfl trivial ?_
        refine am_sub (L' := [(0, .ref 66), (1, .int (v1 + (1 : Int32))), (2, .int v2), (3, .int (v3 + (1 : Int32)))]) (by simp) ?_
        exact ih.2.2.2 _ _ _ _ _ _ h
set_option maxRecDepth 20000 in
set_option maxHeartbeats 4000000 in
theorem c_X7_refresh_66 (rd : Nat) (I : am_I) (G : am_G)  {out : Unit × am_I × am_G} (h : R_X7_refresh_66 I G  = some out) : am_Ct mX7_refresh 7 gS [.ref 66] I G (gP rd) (pV out.2.1 out.2.2 (gP rd)) := by
  refine am_ofF (by decide +kernel) rfl (by decide) (by omega) (Nat.le_of_ble_eq_true rfl) (fun X ad hX hi => ?_)
  have hi : am_info X 7 cX7_refresh 6 false none 7 := hi
  show am_V X 0 0 _ _ ad (0, [(0, .ref 66)], [], I, G, (gP rd))
  unfold R_X7_refresh_66 at h
  refine am_blk 0 [(.aload_n 0, 1, 0, 0, .null), (.getfield 97, 3, 7, 14, .null)] (4, [(0, .ref 66)], [.int (I 66 14)], I, G, (gP rd)) (True) hX hi (by decide +kernel) rfl trivial ?_
  refine am_if_eq (tgt := 8) hX hi (off := (4)) (by decide +kernel) (by decide) (fun c4 => ?_) (fun c4 => ?_)
  · rw [if_pos c4] at h
    refine am_blk 8 [(.iconst (0), 1, 0, 0, .int (0 : Int32)), (.istore_n 1, 1, 1, 0, .null)] (10, [(0, .ref 66), (1, .int (0 : Int32))], [], I, G, (gP rd)) (True) hX hi (by decide +kernel) rfl trivial ?_
    exact (l_X7_refresh_66 rd hX hi FU).1 _ _ _ _ _ _ h
  · rw [if_neg c4] at h
    cases h
    refine am_vret hX hi rfl (by decide +kernel) ?_
    exact ⟨rfl, rfl, rfl, rfl⟩
noncomputable def R_X7_group_53 (I : am_I) (G : am_G)  : Option (Unit × am_I × am_G) := rb (R_X7_refresh_53 I G ) (fun r1 I1 G1 => (if (I1 53 15) = 0 then rb (R_X4_find_60_58 I1 G1 (I1 7 9) (I1 7 10)) (fun r2 I2 G2 => rg (((1 : Int32) = 0 ∨ (1 : Int32) = 1)) (some ((), (am_up I2 53 15 (1 : Int32)), G2))) else some ((), I1, G1)))
set_option maxRecDepth 20000 in
set_option maxHeartbeats 4000000 in
theorem c_X7_group_53 (rd : Nat) (I : am_I) (G : am_G)  {out : Unit × am_I × am_G} (h : R_X7_group_53 I G  = some out) : am_Ct mX7_group 8 gS [.ref 53] I G (gP rd) (pV out.2.1 out.2.2 (gP rd)) := by
  refine am_ofF (by decide +kernel) rfl (by decide) (by omega) (Nat.le_of_ble_eq_true rfl) (fun X ad hX hi => ?_)
  have hi : am_info X 7 cX7_group 1 false none 8 := hi
  show am_V X 0 0 _ _ ad (0, [(0, .ref 53)], [], I, G, (gP rd))
  unfold R_X7_group_53 at h
  refine am_blk 0 [(.aload_n 0, 1, 0, 0, .null)] (1, [(0, .ref 53)], [.ref 53], I, G, (gP rd)) (True) hX hi (by decide +kernel) rfl trivial ?_
  obtain ⟨r1, I1, G1, hc, h⟩ := rb_some h
  refine am_callV hX hi (M := mX7_refresh) (idx := 127) (d' := 7) (b := 53) (ci := 7) (As := []) (rest := []) mkX7_refresh miX7_refresh mvX7_refresh (by decide +kernel) (by decide +kernel) rfl (by decide +kernel) rfl ⟨by omega, by decide, Nat.le_of_ble_eq_true rfl⟩ rfl (c_X7_refresh_53 _ I G  hc) ?_
  rintro r9 I9 G9 P9 ⟨e0, e1, e2, e3⟩
  rw [e0, e1, e2, e3]
  show am_V X 0 0 _ _ ad (4, [(0, .ref 53)], [], I1, G1, (gP rd))
  refine am_blk 4 [(.aload_n 0, 1, 0, 0, .null), (.getfield 101, 3, 7, 15, .null)] (8, [(0, .ref 53)], [.int (I1 53 15)], I1, G1, (gP rd)) (True) hX hi (by decide +kernel) rfl trivial ?_
  refine am_if_ne (tgt := 41) hX hi (off := (33)) (by decide +kernel) (by decide) (fun c8 => ?_) (fun c8 => ?_)
  · rw [if_neg c8] at h
    cases h
    refine am_vret hX hi rfl (by decide +kernel) ?_
    exact ⟨rfl, rfl, rfl, rfl⟩
  · rw [if_pos c8] at h
    refine am_blk 11 [(.aload_n 0, 1, 0, 0, .null), (.getfield 33, 3, 7, 8, .null), (.aload_n 0, 1, 0, 0, .null), (.getfield 24, 3, 7, 6, .null), (.aload_n 0, 1, 0, 0, .null), (.getfield 44, 3, 7, 0, .null), (.getfield 104, 3, 5, 9, .null), (.aload_n 0, 1, 0, 0, .null), (.getfield 44, 3, 7, 0, .null), (.getfield 111, 3, 5, 10, .null)] (33, [(0, .ref 53)], [.int (I1 7 10), .int (I1 7 9), .ref 58, .ref 60], I1, G1, (gP rd)) (True) hX hi (by decide +kernel) rfl trivial ?_
    obtain ⟨r2, I2, G2, hc, h⟩ := rb_some h
    refine am_callV hX hi (M := mX4_find) (idx := 252) (d' := 5) (b := 60) (ci := 4) (As := [.ref 58, .int (I1 7 9), .int (I1 7 10)]) (rest := []) mkX4_find miX4_find mvX4_find (by decide +kernel) (by decide +kernel) rfl (by decide +kernel) rfl ⟨by omega, by decide, Nat.le_of_ble_eq_true rfl⟩ rfl (c_X4_find_60_58 _ I1 G1 (I1 7 9) (I1 7 10) hc) ?_
    rintro r9 I9 G9 P9 ⟨e0, e1, e2, e3⟩
    rw [e0, e1, e2, e3]
    show am_V X 0 0 _ _ ad (36, [(0, .ref 53)], [], I2, G2, (gP rd))
    obtain ⟨g0, h⟩ := rg_some h
    refine am_blk 36 [(.aload_n 0, 1, 0, 0, .null), (.iconst (1), 1, 0, 0, .int (1 : Int32)), (.putfield 101, 3, 7, 15, .null)] (41, [(0, .ref 53)], [], (am_up I2 53 15 (1 : Int32)), G2, (gP rd)) (((1 : Int32) = 0 ∨ (1 : Int32) = 1) ∧ True) hX hi (by decide +kernel) rfl ⟨g0, trivial⟩ ?_
    cases h
    refine am_vret hX hi rfl (by decide +kernel) ?_
    exact ⟨rfl, rfl, rfl, rfl⟩
noncomputable def R_X7_group_66 (I : am_I) (G : am_G)  : Option (Unit × am_I × am_G) := rb (R_X7_refresh_66 I G ) (fun r1 I1 G1 => (if (I1 66 15) = 0 then rb (R_X4_find_73_71 I1 G1 (I1 7 9) (I1 7 10)) (fun r2 I2 G2 => rg (((1 : Int32) = 0 ∨ (1 : Int32) = 1)) (some ((), (am_up I2 66 15 (1 : Int32)), G2))) else some ((), I1, G1)))
set_option maxRecDepth 20000 in
set_option maxHeartbeats 4000000 in
theorem c_X7_group_66 (rd : Nat) (I : am_I) (G : am_G)  {out : Unit × am_I × am_G} (h : R_X7_group_66 I G  = some out) : am_Ct mX7_group 8 gS [.ref 66] I G (gP rd) (pV out.2.1 out.2.2 (gP rd)) := by
  refine am_ofF (by decide +kernel) rfl (by decide) (by omega) (Nat.le_of_ble_eq_true rfl) (fun X ad hX hi => ?_)
  have hi : am_info X 7 cX7_group 1 false none 8 := hi
  show am_V X 0 0 _ _ ad (0, [(0, .ref 66)], [], I, G, (gP rd))
  unfold R_X7_group_66 at h
  refine am_blk 0 [(.aload_n 0, 1, 0, 0, .null)] (1, [(0, .ref 66)], [.ref 66], I, G, (gP rd)) (True) hX hi (by decide +kernel) rfl trivial ?_
  obtain ⟨r1, I1, G1, hc, h⟩ := rb_some h
  refine am_callV hX hi (M := mX7_refresh) (idx := 127) (d' := 7) (b := 66) (ci := 7) (As := []) (rest := []) mkX7_refresh miX7_refresh mvX7_refresh (by decide +kernel) (by decide +kernel) rfl (by decide +kernel) rfl ⟨by omega, by decide, Nat.le_of_ble_eq_true rfl⟩ rfl (c_X7_refresh_66 _ I G  hc) ?_
  rintro r9 I9 G9 P9 ⟨e0, e1, e2, e3⟩
  rw [e0, e1, e2, e3]
  show am_V X 0 0 _ _ ad (4, [(0, .ref 66)], [], I1, G1, (gP rd))
  refine am_blk 4 [(.aload_n 0, 1, 0, 0, .null), (.getfield 101, 3, 7, 15, .null)] (8, [(0, .ref 66)], [.int (I1 66 15)], I1, G1, (gP rd)) (True) hX hi (by decide +kernel) rfl trivial ?_
  refine am_if_ne (tgt := 41) hX hi (off := (33)) (by decide +kernel) (by decide) (fun c8 => ?_) (fun c8 => ?_)
  · rw [if_neg c8] at h
    cases h
    refine am_vret hX hi rfl (by decide +kernel) ?_
    exact ⟨rfl, rfl, rfl, rfl⟩
  · rw [if_pos c8] at h
    refine am_blk 11 [(.aload_n 0, 1, 0, 0, .null), (.getfield 33, 3, 7, 8, .null), (.aload_n 0, 1, 0, 0, .null), (.getfield 24, 3, 7, 6, .null), (.aload_n 0, 1, 0, 0, .null), (.getfield 44, 3, 7, 0, .null), (.getfield 104, 3, 5, 9, .null), (.aload_n 0, 1, 0, 0, .null), (.getfield 44, 3, 7, 0, .null), (.getfield 111, 3, 5, 10, .null)] (33, [(0, .ref 66)], [.int (I1 7 10), .int (I1 7 9), .ref 71, .ref 73], I1, G1, (gP rd)) (True) hX hi (by decide +kernel) rfl trivial ?_
    obtain ⟨r2, I2, G2, hc, h⟩ := rb_some h
    refine am_callV hX hi (M := mX4_find) (idx := 252) (d' := 5) (b := 73) (ci := 4) (As := [.ref 71, .int (I1 7 9), .int (I1 7 10)]) (rest := []) mkX4_find miX4_find mvX4_find (by decide +kernel) (by decide +kernel) rfl (by decide +kernel) rfl ⟨by omega, by decide, Nat.le_of_ble_eq_true rfl⟩ rfl (c_X4_find_73_71 _ I1 G1 (I1 7 9) (I1 7 10) hc) ?_
    rintro r9 I9 G9 P9 ⟨e0, e1, e2, e3⟩
    rw [e0, e1, e2, e3]
    show am_V X 0 0 _ _ ad (36, [(0, .ref 66)], [], I2, G2, (gP rd))
    obtain ⟨g0, h⟩ := rg_some h
    refine am_blk 36 [(.aload_n 0, 1, 0, 0, .null), (.iconst (1), 1, 0, 0, .int (1 : Int32)), (.putfield 101, 3, 7, 15, .null)] (41, [(0, .ref 66)], [], (am_up I2 66 15 (1 : Int32)), G2, (gP rd)) (((1 : Int32) = 0 ∨ (1 : Int32) = 1) ∧ True) hX hi (by decide +kernel) rfl ⟨g0, trivial⟩ ?_
    cases h
    refine am_vret hX hi rfl (by decide +kernel) ?_
    exact ⟨rfl, rfl, rfl, rfl⟩
noncomputable def R_X7_tell_53 (I : am_I) (G : am_G) (x1 : Int32) : Option (Int32 × am_I × am_G) := (if x1 = (0 : Int32) then some ((I 53 12), I, G) else if x1 = (1 : Int32) then some ((I 7 9), I, G) else if x1 = (2 : Int32) then some ((I 7 10), I, G) else if x1 = (3 : Int32) then some ((I 7 11), I, G) else if x1 = (4 : Int32) then some ((I 7 12), I, G) else if x1 = (5 : Int32) then some ((I 7 13), I, G) else if x1 = (6 : Int32) then some ((I 16 8), I, G) else if x1 = (7 : Int32) then some ((I 60 4), I, G) else if x1 = (8 : Int32) then some ((I 60 5), I, G) else if x1 = (9 : Int32) then rb (R_X7_smallestHeight_53 I G ) (fun r1 I1 G1 => some (r1, I1, G1)) else if x1 = (10 : Int32) then rb (R_X7_greatestHeight_53 I G ) (fun r2 I2 G2 => some (r2, I2, G2)) else if x1 = (11 : Int32) then some ((I 53 10), I, G) else if x1 = (12 : Int32) then some ((I 53 11), I, G) else some ((I 53 13), I, G))
set_option maxRecDepth 20000 in
set_option maxHeartbeats 4000000 in
theorem c_X7_tell_53 (rd : Nat) (I : am_I) (G : am_G) (x1 : Int32) {out : Int32 × am_I × am_G} (h : R_X7_tell_53 I G x1 = some out) : am_Ct mX7_tell 3 gS [.ref 53, .int x1] I G (gP rd) (pI out.1 out.2.1 out.2.2 (gP rd)) := by
  refine am_ofF (by decide +kernel) rfl (by decide) (by omega) (Nat.le_of_ble_eq_true rfl) (fun X ad hX hi => ?_)
  have hi : am_info X 7 cX7_tell 2 false (Option.some Jvm.ClassFile.FieldType.int) 3 := hi
  show am_V X 0 0 _ _ ad (0, [(0, .ref 53), (1, .int x1)], [], I, G, (gP rd))
  unfold R_X7_tell_53 at h
  refine am_blk 0 [(.iload_n 1, 1, 1, 0, .null)] (1, [(0, .ref 53), (1, .int x1)], [.int x1], I, G, (gP rd)) (True) hX hi (by decide +kernel) rfl trivial ?_
  by_cases s1_0 : x1 = (0 : Int32)
  · rw [if_pos s1_0] at h
    refine am_tsi hX hi (dflt := (159)) (lo := (0)) (hi' := (12)) (offs := #[(67), (72), (80), (88), (96), (104), (112), (123), (131), (139), (144), (149), (154)]) (len := 67) (off := (67)) (tgt := 68) (by decide +kernel) (by rw [s1_0]; decide) (by rw [s1_0]; decide) (by rw [s1_0]; rfl) (by decide) ?_
    refine am_blk 68 [(.aload_n 0, 1, 0, 0, .null), (.getfield 59, 3, 7, 12, .null)] (72, [(0, .ref 53), (1, .int x1)], [.int (I 53 12)], I, G, (gP rd)) (True) hX hi (by decide +kernel) rfl trivial ?_
    cases h
    refine am_iret hX hi rfl rfl (by decide +kernel) ?_
    exact ⟨rfl, rfl, rfl, rfl⟩
  rw [if_neg s1_0] at h
  by_cases s1_1 : x1 = (1 : Int32)
  · rw [if_pos s1_1] at h
    refine am_tsi hX hi (dflt := (159)) (lo := (0)) (hi' := (12)) (offs := #[(67), (72), (80), (88), (96), (104), (112), (123), (131), (139), (144), (149), (154)]) (len := 67) (off := (72)) (tgt := 73) (by decide +kernel) (by rw [s1_1]; decide) (by rw [s1_1]; decide) (by rw [s1_1]; rfl) (by decide) ?_
    refine am_blk 73 [(.aload_n 0, 1, 0, 0, .null), (.getfield 44, 3, 7, 0, .null), (.getfield 104, 3, 5, 9, .null)] (80, [(0, .ref 53), (1, .int x1)], [.int (I 7 9)], I, G, (gP rd)) (True) hX hi (by decide +kernel) rfl trivial ?_
    cases h
    refine am_iret hX hi rfl rfl (by decide +kernel) ?_
    exact ⟨rfl, rfl, rfl, rfl⟩
  rw [if_neg s1_1] at h
  by_cases s1_2 : x1 = (2 : Int32)
  · rw [if_pos s1_2] at h
    refine am_tsi hX hi (dflt := (159)) (lo := (0)) (hi' := (12)) (offs := #[(67), (72), (80), (88), (96), (104), (112), (123), (131), (139), (144), (149), (154)]) (len := 67) (off := (80)) (tgt := 81) (by decide +kernel) (by rw [s1_2]; decide) (by rw [s1_2]; decide) (by rw [s1_2]; rfl) (by decide) ?_
    refine am_blk 81 [(.aload_n 0, 1, 0, 0, .null), (.getfield 44, 3, 7, 0, .null), (.getfield 111, 3, 5, 10, .null)] (88, [(0, .ref 53), (1, .int x1)], [.int (I 7 10)], I, G, (gP rd)) (True) hX hi (by decide +kernel) rfl trivial ?_
    cases h
    refine am_iret hX hi rfl rfl (by decide +kernel) ?_
    exact ⟨rfl, rfl, rfl, rfl⟩
  rw [if_neg s1_2] at h
  by_cases s1_3 : x1 = (3 : Int32)
  · rw [if_pos s1_3] at h
    refine am_tsi hX hi (dflt := (159)) (lo := (0)) (hi' := (12)) (offs := #[(67), (72), (80), (88), (96), (104), (112), (123), (131), (139), (144), (149), (154)]) (len := 67) (off := (88)) (tgt := 89) (by decide +kernel) (by rw [s1_3]; decide) (by rw [s1_3]; decide) (by rw [s1_3]; rfl) (by decide) ?_
    refine am_blk 89 [(.aload_n 0, 1, 0, 0, .null), (.getfield 44, 3, 7, 0, .null), (.getfield 229, 3, 5, 11, .null)] (96, [(0, .ref 53), (1, .int x1)], [.int (I 7 11)], I, G, (gP rd)) (True) hX hi (by decide +kernel) rfl trivial ?_
    cases h
    refine am_iret hX hi rfl rfl (by decide +kernel) ?_
    exact ⟨rfl, rfl, rfl, rfl⟩
  rw [if_neg s1_3] at h
  by_cases s1_4 : x1 = (4 : Int32)
  · rw [if_pos s1_4] at h
    refine am_tsi hX hi (dflt := (159)) (lo := (0)) (hi' := (12)) (offs := #[(67), (72), (80), (88), (96), (104), (112), (123), (131), (139), (144), (149), (154)]) (len := 67) (off := (96)) (tgt := 97) (by decide +kernel) (by rw [s1_4]; decide) (by rw [s1_4]; decide) (by rw [s1_4]; rfl) (by decide) ?_
    refine am_blk 97 [(.aload_n 0, 1, 0, 0, .null), (.getfield 44, 3, 7, 0, .null), (.getfield 82, 3, 5, 12, .null)] (104, [(0, .ref 53), (1, .int x1)], [.int (I 7 12)], I, G, (gP rd)) (True) hX hi (by decide +kernel) rfl trivial ?_
    cases h
    refine am_iret hX hi rfl rfl (by decide +kernel) ?_
    exact ⟨rfl, rfl, rfl, rfl⟩
  rw [if_neg s1_4] at h
  by_cases s1_5 : x1 = (5 : Int32)
  · rw [if_pos s1_5] at h
    refine am_tsi hX hi (dflt := (159)) (lo := (0)) (hi' := (12)) (offs := #[(67), (72), (80), (88), (96), (104), (112), (123), (131), (139), (144), (149), (154)]) (len := 67) (off := (104)) (tgt := 105) (by decide +kernel) (by rw [s1_5]; decide) (by rw [s1_5]; decide) (by rw [s1_5]; rfl) (by decide) ?_
    refine am_blk 105 [(.aload_n 0, 1, 0, 0, .null), (.getfield 44, 3, 7, 0, .null), (.getfield 255, 3, 5, 13, .null)] (112, [(0, .ref 53), (1, .int x1)], [.int (I 7 13)], I, G, (gP rd)) (True) hX hi (by decide +kernel) rfl trivial ?_
    cases h
    refine am_iret hX hi rfl rfl (by decide +kernel) ?_
    exact ⟨rfl, rfl, rfl, rfl⟩
  rw [if_neg s1_5] at h
  by_cases s1_6 : x1 = (6 : Int32)
  · rw [if_pos s1_6] at h
    refine am_tsi hX hi (dflt := (159)) (lo := (0)) (hi' := (12)) (offs := #[(67), (72), (80), (88), (96), (104), (112), (123), (131), (139), (144), (149), (154)]) (len := 67) (off := (112)) (tgt := 113) (by decide +kernel) (by rw [s1_6]; decide) (by rw [s1_6]; decide) (by rw [s1_6]; rfl) (by decide) ?_
    refine am_blk 113 [(.aload_n 0, 1, 0, 0, .null), (.getfield 44, 3, 7, 0, .null), (.getfield 114, 3, 5, 8, .null), (.getfield 118, 3, 3, 8, .null)] (123, [(0, .ref 53), (1, .int x1)], [.int (I 16 8)], I, G, (gP rd)) (True) hX hi (by decide +kernel) rfl trivial ?_
    cases h
    refine am_iret hX hi rfl rfl (by decide +kernel) ?_
    exact ⟨rfl, rfl, rfl, rfl⟩
  rw [if_neg s1_6] at h
  by_cases s1_7 : x1 = (7 : Int32)
  · rw [if_pos s1_7] at h
    refine am_tsi hX hi (dflt := (159)) (lo := (0)) (hi' := (12)) (offs := #[(67), (72), (80), (88), (96), (104), (112), (123), (131), (139), (144), (149), (154)]) (len := 67) (off := (123)) (tgt := 124) (by decide +kernel) (by rw [s1_7]; decide) (by rw [s1_7]; decide) (by rw [s1_7]; rfl) (by decide) ?_
    refine am_blk 124 [(.aload_n 0, 1, 0, 0, .null), (.getfield 33, 3, 7, 8, .null), (.getfield 257, 3, 4, 4, .null)] (131, [(0, .ref 53), (1, .int x1)], [.int (I 60 4)], I, G, (gP rd)) (True) hX hi (by decide +kernel) rfl trivial ?_
    cases h
    refine am_iret hX hi rfl rfl (by decide +kernel) ?_
    exact ⟨rfl, rfl, rfl, rfl⟩
  rw [if_neg s1_7] at h
  by_cases s1_8 : x1 = (8 : Int32)
  · rw [if_pos s1_8] at h
    refine am_tsi hX hi (dflt := (159)) (lo := (0)) (hi' := (12)) (offs := #[(67), (72), (80), (88), (96), (104), (112), (123), (131), (139), (144), (149), (154)]) (len := 67) (off := (131)) (tgt := 132) (by decide +kernel) (by rw [s1_8]; decide) (by rw [s1_8]; decide) (by rw [s1_8]; rfl) (by decide) ?_
    refine am_blk 132 [(.aload_n 0, 1, 0, 0, .null), (.getfield 33, 3, 7, 8, .null), (.getfield 258, 3, 4, 5, .null)] (139, [(0, .ref 53), (1, .int x1)], [.int (I 60 5)], I, G, (gP rd)) (True) hX hi (by decide +kernel) rfl trivial ?_
    cases h
    refine am_iret hX hi rfl rfl (by decide +kernel) ?_
    exact ⟨rfl, rfl, rfl, rfl⟩
  rw [if_neg s1_8] at h
  by_cases s1_9 : x1 = (9 : Int32)
  · rw [if_pos s1_9] at h
    refine am_tsi hX hi (dflt := (159)) (lo := (0)) (hi' := (12)) (offs := #[(67), (72), (80), (88), (96), (104), (112), (123), (131), (139), (144), (149), (154)]) (len := 67) (off := (139)) (tgt := 140) (by decide +kernel) (by rw [s1_9]; decide) (by rw [s1_9]; decide) (by rw [s1_9]; rfl) (by decide) ?_
    refine am_blk 140 [(.aload_n 0, 1, 0, 0, .null)] (141, [(0, .ref 53), (1, .int x1)], [.ref 53], I, G, (gP rd)) (True) hX hi (by decide +kernel) rfl trivial ?_
    obtain ⟨r1, I1, G1, hc, h⟩ := rb_some h
    refine am_callV hX hi (M := mX7_smallestHeight) (idx := 261) (d' := 2) (b := 53) (ci := 7) (As := []) (rest := []) mkX7_smallestHeight miX7_smallestHeight mvX7_smallestHeight (by decide +kernel) (by decide +kernel) rfl (by decide +kernel) rfl ⟨by omega, by decide, Nat.le_of_ble_eq_true rfl⟩ rfl (c_X7_smallestHeight_53 _ I G  hc) ?_
    rintro r9 I9 G9 P9 ⟨e0, e1, e2, e3⟩
    rw [e0, e1, e2, e3]
    show am_V X 0 0 _ _ ad (144, [(0, .ref 53), (1, .int x1)], [.int r1], I1, G1, (gP rd))
    cases h
    refine am_iret hX hi rfl rfl (by decide +kernel) ?_
    exact ⟨rfl, rfl, rfl, rfl⟩
  rw [if_neg s1_9] at h
  by_cases s1_10 : x1 = (10 : Int32)
  · rw [if_pos s1_10] at h
    refine am_tsi hX hi (dflt := (159)) (lo := (0)) (hi' := (12)) (offs := #[(67), (72), (80), (88), (96), (104), (112), (123), (131), (139), (144), (149), (154)]) (len := 67) (off := (144)) (tgt := 145) (by decide +kernel) (by rw [s1_10]; decide) (by rw [s1_10]; decide) (by rw [s1_10]; rfl) (by decide) ?_
    refine am_blk 145 [(.aload_n 0, 1, 0, 0, .null)] (146, [(0, .ref 53), (1, .int x1)], [.ref 53], I, G, (gP rd)) (True) hX hi (by decide +kernel) rfl trivial ?_
    obtain ⟨r2, I2, G2, hc, h⟩ := rb_some h
    refine am_callV hX hi (M := mX7_greatestHeight) (idx := 264) (d' := 2) (b := 53) (ci := 7) (As := []) (rest := []) mkX7_greatestHeight miX7_greatestHeight mvX7_greatestHeight (by decide +kernel) (by decide +kernel) rfl (by decide +kernel) rfl ⟨by omega, by decide, Nat.le_of_ble_eq_true rfl⟩ rfl (c_X7_greatestHeight_53 _ I G  hc) ?_
    rintro r9 I9 G9 P9 ⟨e0, e1, e2, e3⟩
    rw [e0, e1, e2, e3]
    show am_V X 0 0 _ _ ad (149, [(0, .ref 53), (1, .int x1)], [.int r2], I2, G2, (gP rd))
    cases h
    refine am_iret hX hi rfl rfl (by decide +kernel) ?_
    exact ⟨rfl, rfl, rfl, rfl⟩
  rw [if_neg s1_10] at h
  by_cases s1_11 : x1 = (11 : Int32)
  · rw [if_pos s1_11] at h
    refine am_tsi hX hi (dflt := (159)) (lo := (0)) (hi' := (12)) (offs := #[(67), (72), (80), (88), (96), (104), (112), (123), (131), (139), (144), (149), (154)]) (len := 67) (off := (149)) (tgt := 150) (by decide +kernel) (by rw [s1_11]; decide) (by rw [s1_11]; decide) (by rw [s1_11]; rfl) (by decide) ?_
    refine am_blk 150 [(.aload_n 0, 1, 0, 0, .null), (.getfield 52, 3, 7, 10, .null)] (154, [(0, .ref 53), (1, .int x1)], [.int (I 53 10)], I, G, (gP rd)) (True) hX hi (by decide +kernel) rfl trivial ?_
    cases h
    refine am_iret hX hi rfl rfl (by decide +kernel) ?_
    exact ⟨rfl, rfl, rfl, rfl⟩
  rw [if_neg s1_11] at h
  by_cases s1_12 : x1 = (12 : Int32)
  · rw [if_pos s1_12] at h
    refine am_tsi hX hi (dflt := (159)) (lo := (0)) (hi' := (12)) (offs := #[(67), (72), (80), (88), (96), (104), (112), (123), (131), (139), (144), (149), (154)]) (len := 67) (off := (154)) (tgt := 155) (by decide +kernel) (by rw [s1_12]; decide) (by rw [s1_12]; decide) (by rw [s1_12]; rfl) (by decide) ?_
    refine am_blk 155 [(.aload_n 0, 1, 0, 0, .null), (.getfield 56, 3, 7, 11, .null)] (159, [(0, .ref 53), (1, .int x1)], [.int (I 53 11)], I, G, (gP rd)) (True) hX hi (by decide +kernel) rfl trivial ?_
    cases h
    refine am_iret hX hi rfl rfl (by decide +kernel) ?_
    exact ⟨rfl, rfl, rfl, rfl⟩
  rw [if_neg s1_12] at h
  refine am_tso hX hi (dflt := (159)) (lo := (0)) (hi' := (12)) (offs := #[(67), (72), (80), (88), (96), (104), (112), (123), (131), (139), (144), (149), (154)]) (len := 67) (tgt := 160) (by decide +kernel) ?_ (by decide) ?_
  · have eF : ∀ v : Int32, ¬ x1 = v → ¬ (x1).toInt = v.toInt := fun v q z => q ((i_eq _ _).mpr z)
    have e0 := eF (0 : Int32) s1_0
    have e1 := eF (1 : Int32) s1_1
    have e2 := eF (2 : Int32) s1_2
    have e3 := eF (3 : Int32) s1_3
    have e4 := eF (4 : Int32) s1_4
    have e5 := eF (5 : Int32) s1_5
    have e6 := eF (6 : Int32) s1_6
    have e7 := eF (7 : Int32) s1_7
    have e8 := eF (8 : Int32) s1_8
    have e9 := eF (9 : Int32) s1_9
    have e10 := eF (10 : Int32) s1_10
    have e11 := eF (11 : Int32) s1_11
    have e12 := eF (12 : Int32) s1_12
    simp only [show ((0 : Int32) : Int32).toInt = 0 from rfl, show ((1 : Int32) : Int32).toInt = 1 from rfl, show ((2 : Int32) : Int32).toInt = 2 from rfl, show ((3 : Int32) : Int32).toInt = 3 from rfl, show ((4 : Int32) : Int32).toInt = 4 from rfl, show ((5 : Int32) : Int32).toInt = 5 from rfl, show ((6 : Int32) : Int32).toInt = 6 from rfl, show ((7 : Int32) : Int32).toInt = 7 from rfl, show ((8 : Int32) : Int32).toInt = 8 from rfl, show ((9 : Int32) : Int32).toInt = 9 from rfl, show ((10 : Int32) : Int32).toInt = 10 from rfl, show ((11 : Int32) : Int32).toInt = 11 from rfl, show ((12 : Int32) : Int32).toInt = 12 from rfl] at e0 e1 e2 e3 e4 e5 e6 e7 e8 e9 e10 e11 e12
    omega
  refine am_blk 160 [(.aload_n 0, 1, 0, 0, .null), (.getfield 62, 3, 7, 13, .null)] (164, [(0, .ref 53), (1, .int x1)], [.int (I 53 13)], I, G, (gP rd)) (True) hX hi (by decide +kernel) rfl trivial ?_
  cases h
  refine am_iret hX hi rfl rfl (by decide +kernel) ?_
  exact ⟨rfl, rfl, rfl, rfl⟩
noncomputable def R_X7_tell_66 (I : am_I) (G : am_G) (x1 : Int32) : Option (Int32 × am_I × am_G) := (if x1 = (0 : Int32) then some ((I 66 12), I, G) else if x1 = (1 : Int32) then some ((I 7 9), I, G) else if x1 = (2 : Int32) then some ((I 7 10), I, G) else if x1 = (3 : Int32) then some ((I 7 11), I, G) else if x1 = (4 : Int32) then some ((I 7 12), I, G) else if x1 = (5 : Int32) then some ((I 7 13), I, G) else if x1 = (6 : Int32) then some ((I 16 8), I, G) else if x1 = (7 : Int32) then some ((I 73 4), I, G) else if x1 = (8 : Int32) then some ((I 73 5), I, G) else if x1 = (9 : Int32) then rb (R_X7_smallestHeight_66 I G ) (fun r1 I1 G1 => some (r1, I1, G1)) else if x1 = (10 : Int32) then rb (R_X7_greatestHeight_66 I G ) (fun r2 I2 G2 => some (r2, I2, G2)) else if x1 = (11 : Int32) then some ((I 66 10), I, G) else if x1 = (12 : Int32) then some ((I 66 11), I, G) else some ((I 66 13), I, G))
set_option maxRecDepth 20000 in
set_option maxHeartbeats 4000000 in
theorem c_X7_tell_66 (rd : Nat) (I : am_I) (G : am_G) (x1 : Int32) {out : Int32 × am_I × am_G} (h : R_X7_tell_66 I G x1 = some out) : am_Ct mX7_tell 3 gS [.ref 66, .int x1] I G (gP rd) (pI out.1 out.2.1 out.2.2 (gP rd)) := by
  refine am_ofF (by decide +kernel) rfl (by decide) (by omega) (Nat.le_of_ble_eq_true rfl) (fun X ad hX hi => ?_)
  have hi : am_info X 7 cX7_tell 2 false (Option.some Jvm.ClassFile.FieldType.int) 3 := hi
  show am_V X 0 0 _ _ ad (0, [(0, .ref 66), (1, .int x1)], [], I, G, (gP rd))
  unfold R_X7_tell_66 at h
  refine am_blk 0 [(.iload_n 1, 1, 1, 0, .null)] (1, [(0, .ref 66), (1, .int x1)], [.int x1], I, G, (gP rd)) (True) hX hi (by decide +kernel) rfl trivial ?_
  by_cases s1_0 : x1 = (0 : Int32)
  · rw [if_pos s1_0] at h
    refine am_tsi hX hi (dflt := (159)) (lo := (0)) (hi' := (12)) (offs := #[(67), (72), (80), (88), (96), (104), (112), (123), (131), (139), (144), (149), (154)]) (len := 67) (off := (67)) (tgt := 68) (by decide +kernel) (by rw [s1_0]; decide) (by rw [s1_0]; decide) (by rw [s1_0]; rfl) (by decide) ?_
    refine am_blk 68 [(.aload_n 0, 1, 0, 0, .null), (.getfield 59, 3, 7, 12, .null)] (72, [(0, .ref 66), (1, .int x1)], [.int (I 66 12)], I, G, (gP rd)) (True) hX hi (by decide +kernel) rfl trivial ?_
    cases h
    refine am_iret hX hi rfl rfl (by decide +kernel) ?_
    exact ⟨rfl, rfl, rfl, rfl⟩
  rw [if_neg s1_0] at h
  by_cases s1_1 : x1 = (1 : Int32)
  · rw [if_pos s1_1] at h
    refine am_tsi hX hi (dflt := (159)) (lo := (0)) (hi' := (12)) (offs := #[(67), (72), (80), (88), (96), (104), (112), (123), (131), (139), (144), (149), (154)]) (len := 67) (off := (72)) (tgt := 73) (by decide +kernel) (by rw [s1_1]; decide) (by rw [s1_1]; decide) (by rw [s1_1]; rfl) (by decide) ?_
    refine am_blk 73 [(.aload_n 0, 1, 0, 0, .null), (.getfield 44, 3, 7, 0, .null), (.getfield 104, 3, 5, 9, .null)] (80, [(0, .ref 66), (1, .int x1)], [.int (I 7 9)], I, G, (gP rd)) (True) hX hi (by decide +kernel) rfl trivial ?_
    cases h
    refine am_iret hX hi rfl rfl (by decide +kernel) ?_
    exact ⟨rfl, rfl, rfl, rfl⟩
  rw [if_neg s1_1] at h
  by_cases s1_2 : x1 = (2 : Int32)
  · rw [if_pos s1_2] at h
    refine am_tsi hX hi (dflt := (159)) (lo := (0)) (hi' := (12)) (offs := #[(67), (72), (80), (88), (96), (104), (112), (123), (131), (139), (144), (149), (154)]) (len := 67) (off := (80)) (tgt := 81) (by decide +kernel) (by rw [s1_2]; decide) (by rw [s1_2]; decide) (by rw [s1_2]; rfl) (by decide) ?_
    refine am_blk 81 [(.aload_n 0, 1, 0, 0, .null), (.getfield 44, 3, 7, 0, .null), (.getfield 111, 3, 5, 10, .null)] (88, [(0, .ref 66), (1, .int x1)], [.int (I 7 10)], I, G, (gP rd)) (True) hX hi (by decide +kernel) rfl trivial ?_
    cases h
    refine am_iret hX hi rfl rfl (by decide +kernel) ?_
    exact ⟨rfl, rfl, rfl, rfl⟩
  rw [if_neg s1_2] at h
  by_cases s1_3 : x1 = (3 : Int32)
  · rw [if_pos s1_3] at h
    refine am_tsi hX hi (dflt := (159)) (lo := (0)) (hi' := (12)) (offs := #[(67), (72), (80), (88), (96), (104), (112), (123), (131), (139), (144), (149), (154)]) (len := 67) (off := (88)) (tgt := 89) (by decide +kernel) (by rw [s1_3]; decide) (by rw [s1_3]; decide) (by rw [s1_3]; rfl) (by decide) ?_
    refine am_blk 89 [(.aload_n 0, 1, 0, 0, .null), (.getfield 44, 3, 7, 0, .null), (.getfield 229, 3, 5, 11, .null)] (96, [(0, .ref 66), (1, .int x1)], [.int (I 7 11)], I, G, (gP rd)) (True) hX hi (by decide +kernel) rfl trivial ?_
    cases h
    refine am_iret hX hi rfl rfl (by decide +kernel) ?_
    exact ⟨rfl, rfl, rfl, rfl⟩
  rw [if_neg s1_3] at h
  by_cases s1_4 : x1 = (4 : Int32)
  · rw [if_pos s1_4] at h
    refine am_tsi hX hi (dflt := (159)) (lo := (0)) (hi' := (12)) (offs := #[(67), (72), (80), (88), (96), (104), (112), (123), (131), (139), (144), (149), (154)]) (len := 67) (off := (96)) (tgt := 97) (by decide +kernel) (by rw [s1_4]; decide) (by rw [s1_4]; decide) (by rw [s1_4]; rfl) (by decide) ?_
    refine am_blk 97 [(.aload_n 0, 1, 0, 0, .null), (.getfield 44, 3, 7, 0, .null), (.getfield 82, 3, 5, 12, .null)] (104, [(0, .ref 66), (1, .int x1)], [.int (I 7 12)], I, G, (gP rd)) (True) hX hi (by decide +kernel) rfl trivial ?_
    cases h
    refine am_iret hX hi rfl rfl (by decide +kernel) ?_
    exact ⟨rfl, rfl, rfl, rfl⟩
  rw [if_neg s1_4] at h
  by_cases s1_5 : x1 = (5 : Int32)
  · rw [if_pos s1_5] at h
    refine am_tsi hX hi (dflt := (159)) (lo := (0)) (hi' := (12)) (offs := #[(67), (72), (80), (88), (96), (104), (112), (123), (131), (139), (144), (149), (154)]) (len := 67) (off := (104)) (tgt := 105) (by decide +kernel) (by rw [s1_5]; decide) (by rw [s1_5]; decide) (by rw [s1_5]; rfl) (by decide) ?_
    refine am_blk 105 [(.aload_n 0, 1, 0, 0, .null), (.getfield 44, 3, 7, 0, .null), (.getfield 255, 3, 5, 13, .null)] (112, [(0, .ref 66), (1, .int x1)], [.int (I 7 13)], I, G, (gP rd)) (True) hX hi (by decide +kernel) rfl trivial ?_
    cases h
    refine am_iret hX hi rfl rfl (by decide +kernel) ?_
    exact ⟨rfl, rfl, rfl, rfl⟩
  rw [if_neg s1_5] at h
  by_cases s1_6 : x1 = (6 : Int32)
  · rw [if_pos s1_6] at h
    refine am_tsi hX hi (dflt := (159)) (lo := (0)) (hi' := (12)) (offs := #[(67), (72), (80), (88), (96), (104), (112), (123), (131), (139), (144), (149), (154)]) (len := 67) (off := (112)) (tgt := 113) (by decide +kernel) (by rw [s1_6]; decide) (by rw [s1_6]; decide) (by rw [s1_6]; rfl) (by decide) ?_
    refine am_blk 113 [(.aload_n 0, 1, 0, 0, .null), (.getfield 44, 3, 7, 0, .null), (.getfield 114, 3, 5, 8, .null), (.getfield 118, 3, 3, 8, .null)] (123, [(0, .ref 66), (1, .int x1)], [.int (I 16 8)], I, G, (gP rd)) (True) hX hi (by decide +kernel) rfl trivial ?_
    cases h
    refine am_iret hX hi rfl rfl (by decide +kernel) ?_
    exact ⟨rfl, rfl, rfl, rfl⟩
  rw [if_neg s1_6] at h
  by_cases s1_7 : x1 = (7 : Int32)
  · rw [if_pos s1_7] at h
    refine am_tsi hX hi (dflt := (159)) (lo := (0)) (hi' := (12)) (offs := #[(67), (72), (80), (88), (96), (104), (112), (123), (131), (139), (144), (149), (154)]) (len := 67) (off := (123)) (tgt := 124) (by decide +kernel) (by rw [s1_7]; decide) (by rw [s1_7]; decide) (by rw [s1_7]; rfl) (by decide) ?_
    refine am_blk 124 [(.aload_n 0, 1, 0, 0, .null), (.getfield 33, 3, 7, 8, .null), (.getfield 257, 3, 4, 4, .null)] (131, [(0, .ref 66), (1, .int x1)], [.int (I 73 4)], I, G, (gP rd)) (True) hX hi (by decide +kernel) rfl trivial ?_
    cases h
    refine am_iret hX hi rfl rfl (by decide +kernel) ?_
    exact ⟨rfl, rfl, rfl, rfl⟩
  rw [if_neg s1_7] at h
  by_cases s1_8 : x1 = (8 : Int32)
  · rw [if_pos s1_8] at h
    refine am_tsi hX hi (dflt := (159)) (lo := (0)) (hi' := (12)) (offs := #[(67), (72), (80), (88), (96), (104), (112), (123), (131), (139), (144), (149), (154)]) (len := 67) (off := (131)) (tgt := 132) (by decide +kernel) (by rw [s1_8]; decide) (by rw [s1_8]; decide) (by rw [s1_8]; rfl) (by decide) ?_
    refine am_blk 132 [(.aload_n 0, 1, 0, 0, .null), (.getfield 33, 3, 7, 8, .null), (.getfield 258, 3, 4, 5, .null)] (139, [(0, .ref 66), (1, .int x1)], [.int (I 73 5)], I, G, (gP rd)) (True) hX hi (by decide +kernel) rfl trivial ?_
    cases h
    refine am_iret hX hi rfl rfl (by decide +kernel) ?_
    exact ⟨rfl, rfl, rfl, rfl⟩
  rw [if_neg s1_8] at h
  by_cases s1_9 : x1 = (9 : Int32)
  · rw [if_pos s1_9] at h
    refine am_tsi hX hi (dflt := (159)) (lo := (0)) (hi' := (12)) (offs := #[(67), (72), (80), (88), (96), (104), (112), (123), (131), (139), (144), (149), (154)]) (len := 67) (off := (139)) (tgt := 140) (by decide +kernel) (by rw [s1_9]; decide) (by rw [s1_9]; decide) (by rw [s1_9]; rfl) (by decide) ?_
    refine am_blk 140 [(.aload_n 0, 1, 0, 0, .null)] (141, [(0, .ref 66), (1, .int x1)], [.ref 66], I, G, (gP rd)) (True) hX hi (by decide +kernel) rfl trivial ?_
    obtain ⟨r1, I1, G1, hc, h⟩ := rb_some h
    refine am_callV hX hi (M := mX7_smallestHeight) (idx := 261) (d' := 2) (b := 66) (ci := 7) (As := []) (rest := []) mkX7_smallestHeight miX7_smallestHeight mvX7_smallestHeight (by decide +kernel) (by decide +kernel) rfl (by decide +kernel) rfl ⟨by omega, by decide, Nat.le_of_ble_eq_true rfl⟩ rfl (c_X7_smallestHeight_66 _ I G  hc) ?_
    rintro r9 I9 G9 P9 ⟨e0, e1, e2, e3⟩
    rw [e0, e1, e2, e3]
    show am_V X 0 0 _ _ ad (144, [(0, .ref 66), (1, .int x1)], [.int r1], I1, G1, (gP rd))
    cases h
    refine am_iret hX hi rfl rfl (by decide +kernel) ?_
    exact ⟨rfl, rfl, rfl, rfl⟩
  rw [if_neg s1_9] at h
  by_cases s1_10 : x1 = (10 : Int32)
  · rw [if_pos s1_10] at h
    refine am_tsi hX hi (dflt := (159)) (lo := (0)) (hi' := (12)) (offs := #[(67), (72), (80), (88), (96), (104), (112), (123), (131), (139), (144), (149), (154)]) (len := 67) (off := (144)) (tgt := 145) (by decide +kernel) (by rw [s1_10]; decide) (by rw [s1_10]; decide) (by rw [s1_10]; rfl) (by decide) ?_
    refine am_blk 145 [(.aload_n 0, 1, 0, 0, .null)] (146, [(0, .ref 66), (1, .int x1)], [.ref 66], I, G, (gP rd)) (True) hX hi (by decide +kernel) rfl trivial ?_
    obtain ⟨r2, I2, G2, hc, h⟩ := rb_some h
    refine am_callV hX hi (M := mX7_greatestHeight) (idx := 264) (d' := 2) (b := 66) (ci := 7) (As := []) (rest := []) mkX7_greatestHeight miX7_greatestHeight mvX7_greatestHeight (by decide +kernel) (by decide +kernel) rfl (by decide +kernel) rfl ⟨by omega, by decide, Nat.le_of_ble_eq_true rfl⟩ rfl (c_X7_greatestHeight_66 _ I G  hc) ?_
    rintro r9 I9 G9 P9 ⟨e0, e1, e2, e3⟩
    rw [e0, e1, e2, e3]
    show am_V X 0 0 _ _ ad (149, [(0, .ref 66), (1, .int x1)], [.int r2], I2, G2, (gP rd))
    cases h
    refine am_iret hX hi rfl rfl (by decide +kernel) ?_
    exact ⟨rfl, rfl, rfl, rfl⟩
  rw [if_neg s1_10] at h
  by_cases s1_11 : x1 = (11 : Int32)
  · rw [if_pos s1_11] at h
    refine am_tsi hX hi (dflt := (159)) (lo := (0)) (hi' := (12)) (offs := #[(67), (72), (80), (88), (96), (104), (112), (123), (131), (139), (144), (149), (154)]) (len := 67) (off := (149)) (tgt := 150) (by decide +kernel) (by rw [s1_11]; decide) (by rw [s1_11]; decide) (by rw [s1_11]; rfl) (by decide) ?_
    refine am_blk 150 [(.aload_n 0, 1, 0, 0, .null), (.getfield 52, 3, 7, 10, .null)] (154, [(0, .ref 66), (1, .int x1)], [.int (I 66 10)], I, G, (gP rd)) (True) hX hi (by decide +kernel) rfl trivial ?_
    cases h
    refine am_iret hX hi rfl rfl (by decide +kernel) ?_
    exact ⟨rfl, rfl, rfl, rfl⟩
  rw [if_neg s1_11] at h
  by_cases s1_12 : x1 = (12 : Int32)
  · rw [if_pos s1_12] at h
    refine am_tsi hX hi (dflt := (159)) (lo := (0)) (hi' := (12)) (offs := #[(67), (72), (80), (88), (96), (104), (112), (123), (131), (139), (144), (149), (154)]) (len := 67) (off := (154)) (tgt := 155) (by decide +kernel) (by rw [s1_12]; decide) (by rw [s1_12]; decide) (by rw [s1_12]; rfl) (by decide) ?_
    refine am_blk 155 [(.aload_n 0, 1, 0, 0, .null), (.getfield 56, 3, 7, 11, .null)] (159, [(0, .ref 66), (1, .int x1)], [.int (I 66 11)], I, G, (gP rd)) (True) hX hi (by decide +kernel) rfl trivial ?_
    cases h
    refine am_iret hX hi rfl rfl (by decide +kernel) ?_
    exact ⟨rfl, rfl, rfl, rfl⟩
  rw [if_neg s1_12] at h
  refine am_tso hX hi (dflt := (159)) (lo := (0)) (hi' := (12)) (offs := #[(67), (72), (80), (88), (96), (104), (112), (123), (131), (139), (144), (149), (154)]) (len := 67) (tgt := 160) (by decide +kernel) ?_ (by decide) ?_
  · have eF : ∀ v : Int32, ¬ x1 = v → ¬ (x1).toInt = v.toInt := fun v q z => q ((i_eq _ _).mpr z)
    have e0 := eF (0 : Int32) s1_0
    have e1 := eF (1 : Int32) s1_1
    have e2 := eF (2 : Int32) s1_2
    have e3 := eF (3 : Int32) s1_3
    have e4 := eF (4 : Int32) s1_4
    have e5 := eF (5 : Int32) s1_5
    have e6 := eF (6 : Int32) s1_6
    have e7 := eF (7 : Int32) s1_7
    have e8 := eF (8 : Int32) s1_8
    have e9 := eF (9 : Int32) s1_9
    have e10 := eF (10 : Int32) s1_10
    have e11 := eF (11 : Int32) s1_11
    have e12 := eF (12 : Int32) s1_12
    simp only [show ((0 : Int32) : Int32).toInt = 0 from rfl, show ((1 : Int32) : Int32).toInt = 1 from rfl, show ((2 : Int32) : Int32).toInt = 2 from rfl, show ((3 : Int32) : Int32).toInt = 3 from rfl, show ((4 : Int32) : Int32).toInt = 4 from rfl, show ((5 : Int32) : Int32).toInt = 5 from rfl, show ((6 : Int32) : Int32).toInt = 6 from rfl, show ((7 : Int32) : Int32).toInt = 7 from rfl, show ((8 : Int32) : Int32).toInt = 8 from rfl, show ((9 : Int32) : Int32).toInt = 9 from rfl, show ((10 : Int32) : Int32).toInt = 10 from rfl, show ((11 : Int32) : Int32).toInt = 11 from rfl, show ((12 : Int32) : Int32).toInt = 12 from rfl] at e0 e1 e2 e3 e4 e5 e6 e7 e8 e9 e10 e11 e12
    omega
  refine am_blk 160 [(.aload_n 0, 1, 0, 0, .null), (.getfield 62, 3, 7, 13, .null)] (164, [(0, .ref 66), (1, .int x1)], [.int (I 66 13)], I, G, (gP rd)) (True) hX hi (by decide +kernel) rfl trivial ?_
  cases h
  refine am_iret hX hi rfl rfl (by decide +kernel) ?_
  exact ⟨rfl, rfl, rfl, rfl⟩
noncomputable def R_X11_height_0 (I : am_I) (G : am_G) (x1 : Int32) (x2 : Int32) : Option (Int32 × am_I × am_G) := rb (R_X7_refresh_53 I G ) (fun r1 I1 G1 => some ((gAt (I1 57) 576 (f_X5_spot_7 I1 G1 x1 x2)), I1, G1))
set_option maxRecDepth 20000 in
set_option maxHeartbeats 4000000 in
theorem c_X11_height_0 (rd : Nat) (I : am_I) (G : am_G) (x1 : Int32) (x2 : Int32) {out : Int32 × am_I × am_G} (h : R_X11_height_0 I G x1 x2 = some out) : am_Ct mX11_height 8 gS [.ref 0, .int x1, .int x2] I G (gP rd) (pI out.1 out.2.1 out.2.2 (gP rd)) := by
  refine am_ofF (by decide +kernel) rfl (by decide) (by omega) (Nat.le_of_ble_eq_true rfl) (fun X ad hX hi => ?_)
  have hi : am_info X 11 cX11_height 3 false (Option.some Jvm.ClassFile.FieldType.int) 8 := hi
  show am_V X 0 0 _ _ ad (0, [(0, .ref 0), (1, .int x1), (2, .int x2)], [], I, G, (gP rd))
  unfold R_X11_height_0 at h
  refine am_blk 0 [(.aload_n 0, 1, 0, 0, .null), (.getfield 46, 3, 11, 4, .null)] (4, [(0, .ref 0), (1, .int x1), (2, .int x2)], [.ref 53], I, G, (gP rd)) (True) hX hi (by decide +kernel) rfl trivial ?_
  obtain ⟨r1, I1, G1, hc, h⟩ := rb_some h
  refine am_callV hX hi (M := mX7_refresh) (idx := 105) (d' := 7) (b := 53) (ci := 7) (As := []) (rest := []) mkX7_refresh miX7_refresh mvX7_refresh (by decide +kernel) (by decide +kernel) rfl (by decide +kernel) rfl ⟨by omega, by decide, Nat.le_of_ble_eq_true rfl⟩ rfl (c_X7_refresh_53 _ I G  hc) ?_
  rintro r9 I9 G9 P9 ⟨e0, e1, e2, e3⟩
  rw [e0, e1, e2, e3]
  show am_V X 0 0 _ _ ad (7, [(0, .ref 0), (1, .int x1), (2, .int x2)], [], I1, G1, (gP rd))
  refine am_blk 7 [(.aload_n 0, 1, 0, 0, .null), (.getfield 46, 3, 11, 4, .null), (.getfield 108, 3, 7, 5, .null), (.aload_n 0, 1, 0, 0, .null), (.getfield 33, 3, 11, 2, .null), (.iload_n 1, 1, 1, 0, .null), (.iload_n 2, 1, 2, 0, .null)] (20, [(0, .ref 0), (1, .int x1), (2, .int x2)], [.int x2, .int x1, .ref 7, .ref 57], I1, G1, (gP rd)) (True) hX hi (by decide +kernel) rfl trivial ?_
  refine am_callV hX hi (M := mX5_spot) (idx := 112) (d' := 3) (b := 7) (ci := 5) (As := [.int x1, .int x2]) (rest := [.ref 57]) mkX5_spot miX5_spot mvX5_spot (by decide +kernel) (by decide +kernel) rfl (by decide +kernel) rfl ⟨by omega, by decide, Nat.le_of_ble_eq_true rfl⟩ rfl (c_X5_spot_7 _ I1 G1 x1 x2) ?_
  rintro r9 I9 G9 P9 ⟨e0, e1, e2, e3⟩
  rw [e0, e1, e2, e3]
  show am_V X 0 0 _ _ ad (23, [(0, .ref 0), (1, .int x1), (2, .int x2)], [.int (f_X5_spot_7 I1 G1 x1 x2), .ref 57], I1, G1, (gP rd))
  refine am_callS hX hi (M := mX0_at) (idx := 116) (d' := 1) (As := [.ref 57, .int (f_X5_spot_7 I1 G1 x1 x2)]) (rest := []) mkX0_at msX0_at (by decide +kernel) (by decide +kernel) rfl ⟨by omega, by decide, Nat.le_of_ble_eq_true rfl⟩ rfl (c_at rfl (by decide) (f_X5_spot_7 I1 G1 x1 x2)) ?_
  rintro r9 I9 G9 P9 ⟨e0, e1, e2, e3⟩
  rw [e0, e1, e2, e3]
  show am_V X 0 0 _ _ ad (26, [(0, .ref 0), (1, .int x1), (2, .int x2)], [.int (gAt (I1 57) 576 (f_X5_spot_7 I1 G1 x1 x2))], I1, G1, (gP rd))
  cases h
  refine am_iret hX hi rfl rfl (by decide +kernel) ?_
  exact ⟨rfl, rfl, rfl, rfl⟩
noncomputable def R_X11_ink_0 (I : am_I) (G : am_G) (x1 : Int32) (x2 : Int32) : Option (Int32 × am_I × am_G) := rb (R_X7_refresh_53 I G ) (fun r1 I1 G1 => some ((gAt (I1 58) 576 (f_X5_spot_7 I1 G1 x1 x2)), I1, G1))
set_option maxRecDepth 20000 in
set_option maxHeartbeats 4000000 in
theorem c_X11_ink_0 (rd : Nat) (I : am_I) (G : am_G) (x1 : Int32) (x2 : Int32) {out : Int32 × am_I × am_G} (h : R_X11_ink_0 I G x1 x2 = some out) : am_Ct mX11_ink 8 gS [.ref 0, .int x1, .int x2] I G (gP rd) (pI out.1 out.2.1 out.2.2 (gP rd)) := by
  refine am_ofF (by decide +kernel) rfl (by decide) (by omega) (Nat.le_of_ble_eq_true rfl) (fun X ad hX hi => ?_)
  have hi : am_info X 11 cX11_ink 3 false (Option.some Jvm.ClassFile.FieldType.int) 8 := hi
  show am_V X 0 0 _ _ ad (0, [(0, .ref 0), (1, .int x1), (2, .int x2)], [], I, G, (gP rd))
  unfold R_X11_ink_0 at h
  refine am_blk 0 [(.aload_n 0, 1, 0, 0, .null), (.getfield 46, 3, 11, 4, .null)] (4, [(0, .ref 0), (1, .int x1), (2, .int x2)], [.ref 53], I, G, (gP rd)) (True) hX hi (by decide +kernel) rfl trivial ?_
  obtain ⟨r1, I1, G1, hc, h⟩ := rb_some h
  refine am_callV hX hi (M := mX7_refresh) (idx := 105) (d' := 7) (b := 53) (ci := 7) (As := []) (rest := []) mkX7_refresh miX7_refresh mvX7_refresh (by decide +kernel) (by decide +kernel) rfl (by decide +kernel) rfl ⟨by omega, by decide, Nat.le_of_ble_eq_true rfl⟩ rfl (c_X7_refresh_53 _ I G  hc) ?_
  rintro r9 I9 G9 P9 ⟨e0, e1, e2, e3⟩
  rw [e0, e1, e2, e3]
  show am_V X 0 0 _ _ ad (7, [(0, .ref 0), (1, .int x1), (2, .int x2)], [], I1, G1, (gP rd))
  refine am_blk 7 [(.aload_n 0, 1, 0, 0, .null), (.getfield 46, 3, 11, 4, .null), (.getfield 122, 3, 7, 6, .null), (.aload_n 0, 1, 0, 0, .null), (.getfield 33, 3, 11, 2, .null), (.iload_n 1, 1, 1, 0, .null), (.iload_n 2, 1, 2, 0, .null)] (20, [(0, .ref 0), (1, .int x1), (2, .int x2)], [.int x2, .int x1, .ref 7, .ref 58], I1, G1, (gP rd)) (True) hX hi (by decide +kernel) rfl trivial ?_
  refine am_callV hX hi (M := mX5_spot) (idx := 112) (d' := 3) (b := 7) (ci := 5) (As := [.int x1, .int x2]) (rest := [.ref 58]) mkX5_spot miX5_spot mvX5_spot (by decide +kernel) (by decide +kernel) rfl (by decide +kernel) rfl ⟨by omega, by decide, Nat.le_of_ble_eq_true rfl⟩ rfl (c_X5_spot_7 _ I1 G1 x1 x2) ?_
  rintro r9 I9 G9 P9 ⟨e0, e1, e2, e3⟩
  rw [e0, e1, e2, e3]
  show am_V X 0 0 _ _ ad (23, [(0, .ref 0), (1, .int x1), (2, .int x2)], [.int (f_X5_spot_7 I1 G1 x1 x2), .ref 58], I1, G1, (gP rd))
  refine am_callS hX hi (M := mX0_at) (idx := 116) (d' := 1) (As := [.ref 58, .int (f_X5_spot_7 I1 G1 x1 x2)]) (rest := []) mkX0_at msX0_at (by decide +kernel) (by decide +kernel) rfl ⟨by omega, by decide, Nat.le_of_ble_eq_true rfl⟩ rfl (c_at rfl (by decide) (f_X5_spot_7 I1 G1 x1 x2)) ?_
  rintro r9 I9 G9 P9 ⟨e0, e1, e2, e3⟩
  rw [e0, e1, e2, e3]
  show am_V X 0 0 _ _ ad (26, [(0, .ref 0), (1, .int x1), (2, .int x2)], [.int (gAt (I1 58) 576 (f_X5_spot_7 I1 G1 x1 x2))], I1, G1, (gP rd))
  cases h
  refine am_iret hX hi rfl rfl (by decide +kernel) ?_
  exact ⟨rfl, rfl, rfl, rfl⟩
noncomputable def R_X11_patch_0 (I : am_I) (G : am_G) (x1 : Int32) (x2 : Int32) : Option (Int32 × am_I × am_G) := rb (R_X7_group_53 I G ) (fun r1 I1 G1 => some ((f_X4_sizeAt_60 I1 G1 (f_X5_spot_7 I1 G1 x1 x2)), I1, G1))
set_option maxRecDepth 20000 in
set_option maxHeartbeats 4000000 in
theorem c_X11_patch_0 (rd : Nat) (I : am_I) (G : am_G) (x1 : Int32) (x2 : Int32) {out : Int32 × am_I × am_G} (h : R_X11_patch_0 I G x1 x2 = some out) : am_Ct mX11_patch 9 gS [.ref 0, .int x1, .int x2] I G (gP rd) (pI out.1 out.2.1 out.2.2 (gP rd)) := by
  refine am_ofF (by decide +kernel) rfl (by decide) (by omega) (Nat.le_of_ble_eq_true rfl) (fun X ad hX hi => ?_)
  have hi : am_info X 11 cX11_patch 3 false (Option.some Jvm.ClassFile.FieldType.int) 9 := hi
  show am_V X 0 0 _ _ ad (0, [(0, .ref 0), (1, .int x1), (2, .int x2)], [], I, G, (gP rd))
  unfold R_X11_patch_0 at h
  refine am_blk 0 [(.aload_n 0, 1, 0, 0, .null), (.getfield 46, 3, 11, 4, .null)] (4, [(0, .ref 0), (1, .int x1), (2, .int x2)], [.ref 53], I, G, (gP rd)) (True) hX hi (by decide +kernel) rfl trivial ?_
  obtain ⟨r1, I1, G1, hc, h⟩ := rb_some h
  refine am_callV hX hi (M := mX7_group) (idx := 98) (d' := 8) (b := 53) (ci := 7) (As := []) (rest := []) mkX7_group miX7_group mvX7_group (by decide +kernel) (by decide +kernel) rfl (by decide +kernel) rfl ⟨by omega, by decide, Nat.le_of_ble_eq_true rfl⟩ rfl (c_X7_group_53 _ I G  hc) ?_
  rintro r9 I9 G9 P9 ⟨e0, e1, e2, e3⟩
  rw [e0, e1, e2, e3]
  show am_V X 0 0 _ _ ad (7, [(0, .ref 0), (1, .int x1), (2, .int x2)], [], I1, G1, (gP rd))
  refine am_blk 7 [(.aload_n 0, 1, 0, 0, .null), (.getfield 46, 3, 11, 4, .null), (.getfield 125, 3, 7, 8, .null), (.aload_n 0, 1, 0, 0, .null), (.getfield 33, 3, 11, 2, .null), (.iload_n 1, 1, 1, 0, .null), (.iload_n 2, 1, 2, 0, .null)] (20, [(0, .ref 0), (1, .int x1), (2, .int x2)], [.int x2, .int x1, .ref 7, .ref 60], I1, G1, (gP rd)) (True) hX hi (by decide +kernel) rfl trivial ?_
  refine am_callV hX hi (M := mX5_spot) (idx := 112) (d' := 3) (b := 7) (ci := 5) (As := [.int x1, .int x2]) (rest := [.ref 60]) mkX5_spot miX5_spot mvX5_spot (by decide +kernel) (by decide +kernel) rfl (by decide +kernel) rfl ⟨by omega, by decide, Nat.le_of_ble_eq_true rfl⟩ rfl (c_X5_spot_7 _ I1 G1 x1 x2) ?_
  rintro r9 I9 G9 P9 ⟨e0, e1, e2, e3⟩
  rw [e0, e1, e2, e3]
  show am_V X 0 0 _ _ ad (23, [(0, .ref 0), (1, .int x1), (2, .int x2)], [.int (f_X5_spot_7 I1 G1 x1 x2), .ref 60], I1, G1, (gP rd))
  refine am_callV hX hi (M := mX4_sizeAt) (idx := 129) (d' := 2) (b := 60) (ci := 4) (As := [.int (f_X5_spot_7 I1 G1 x1 x2)]) (rest := []) mkX4_sizeAt miX4_sizeAt mvX4_sizeAt (by decide +kernel) (by decide +kernel) rfl (by decide +kernel) rfl ⟨by omega, by decide, Nat.le_of_ble_eq_true rfl⟩ rfl (c_X4_sizeAt_60 _ I1 G1 (f_X5_spot_7 I1 G1 x1 x2)) ?_
  rintro r9 I9 G9 P9 ⟨e0, e1, e2, e3⟩
  rw [e0, e1, e2, e3]
  show am_V X 0 0 _ _ ad (26, [(0, .ref 0), (1, .int x1), (2, .int x2)], [.int (f_X4_sizeAt_60 I1 G1 (f_X5_spot_7 I1 G1 x1 x2))], I1, G1, (gP rd))
  cases h
  refine am_iret hX hi rfl rfl (by decide +kernel) ?_
  exact ⟨rfl, rfl, rfl, rfl⟩
noncomputable def L_X11_digest_0 (n0 : Nat) (hd : Nat) (I : am_I) (G : am_G) (v1 : Int64) (v3 : Int32) (v4 : Int32) : Option (Int64 × am_I × am_G) := match n0 with
  | 0 => none
  | n + 1 => match hd with
    | 0 => (if (14 : Int32) ≤ v3 then L_X11_digest_0 n 1 I G ((v1 * (31)) + (I 1 5).toInt64) (0 : Int32) 0 else rb (R_X7_tell_53 I G v3) (fun r101 I101 G101 => L_X11_digest_0 n 0 I101 G101 ((v1 * (31)) + r101.toInt64) (v3 + (1 : Int32)) 0))
    | 1 => (if (I 7 11) ≤ v3 then L_X11_digest_0 n 3 I G v1 (0 : Int32) 0 else L_X11_digest_0 n 2 I G v1 v3 (0 : Int32))
    | 2 => (if (3 : Int32) < v4 then L_X11_digest_0 n 1 I G v1 (v3 + (1 : Int32)) 0 else L_X11_digest_0 n 2 I G ((v1 * (31)) + (f_X7_tellOctave_53 I G v3 v4).toInt64) v3 (v4 + (1 : Int32)))
    | 3 => (if (I 7 12) ≤ v3 then L_X11_digest_0 n 5 I G v1 (0 : Int32) 0 else L_X11_digest_0 n 4 I G v1 v3 (0 : Int32))
    | 4 => (if (2 : Int32) < v4 then L_X11_digest_0 n 3 I G v1 (v3 + (1 : Int32)) 0 else L_X11_digest_0 n 4 I G ((v1 * (31)) + (f_X7_tellComb_53 I G v3 v4).toInt64) v3 (v4 + (1 : Int32)))
    | 5 => (if (I 7 13) < v3 then L_X11_digest_0 n 6 I G v1 (0 : Int32) 0 else L_X11_digest_0 n 5 I G ((v1 * (31)) + (gAt (I 59) 6 v3).toInt64) (v3 + (1 : Int32)) 0)
    | _ => (if ((I 7 9) * (I 7 10)) ≤ v3 then some (v1, I, G) else L_X11_digest_0 n 6 I G ((v1 * (31)) + (gAt (I 57) 576 v3).toInt64) (v3 + (1 : Int32)) 0)
theorem L_X11_digest_0_0 (n : Nat) (I : am_I) (G : am_G) (v1 : Int64) (v3 : Int32) (v4 : Int32) : L_X11_digest_0 (n + 1) 0 I G v1 v3 v4 = (if (14 : Int32) ≤ v3 then L_X11_digest_0 n 1 I G ((v1 * (31)) + (I 1 5).toInt64) (0 : Int32) 0 else rb (R_X7_tell_53 I G v3) (fun r101 I101 G101 => L_X11_digest_0 n 0 I101 G101 ((v1 * (31)) + r101.toInt64) (v3 + (1 : Int32)) 0)) := rfl
theorem L_X11_digest_0_1 (n : Nat) (I : am_I) (G : am_G) (v1 : Int64) (v3 : Int32) (v4 : Int32) : L_X11_digest_0 (n + 1) 1 I G v1 v3 v4 = (if (I 7 11) ≤ v3 then L_X11_digest_0 n 3 I G v1 (0 : Int32) 0 else L_X11_digest_0 n 2 I G v1 v3 (0 : Int32)) := rfl
theorem L_X11_digest_0_2 (n : Nat) (I : am_I) (G : am_G) (v1 : Int64) (v3 : Int32) (v4 : Int32) : L_X11_digest_0 (n + 1) 2 I G v1 v3 v4 = (if (3 : Int32) < v4 then L_X11_digest_0 n 1 I G v1 (v3 + (1 : Int32)) 0 else L_X11_digest_0 n 2 I G ((v1 * (31)) + (f_X7_tellOctave_53 I G v3 v4).toInt64) v3 (v4 + (1 : Int32))) := rfl
theorem L_X11_digest_0_3 (n : Nat) (I : am_I) (G : am_G) (v1 : Int64) (v3 : Int32) (v4 : Int32) : L_X11_digest_0 (n + 1) 3 I G v1 v3 v4 = (if (I 7 12) ≤ v3 then L_X11_digest_0 n 5 I G v1 (0 : Int32) 0 else L_X11_digest_0 n 4 I G v1 v3 (0 : Int32)) := rfl
theorem L_X11_digest_0_4 (n : Nat) (I : am_I) (G : am_G) (v1 : Int64) (v3 : Int32) (v4 : Int32) : L_X11_digest_0 (n + 1) 4 I G v1 v3 v4 = (if (2 : Int32) < v4 then L_X11_digest_0 n 3 I G v1 (v3 + (1 : Int32)) 0 else L_X11_digest_0 n 4 I G ((v1 * (31)) + (f_X7_tellComb_53 I G v3 v4).toInt64) v3 (v4 + (1 : Int32))) := rfl
theorem L_X11_digest_0_5 (n : Nat) (I : am_I) (G : am_G) (v1 : Int64) (v3 : Int32) (v4 : Int32) : L_X11_digest_0 (n + 1) 5 I G v1 v3 v4 = (if (I 7 13) < v3 then L_X11_digest_0 n 6 I G v1 (0 : Int32) 0 else L_X11_digest_0 n 5 I G ((v1 * (31)) + (gAt (I 59) 6 v3).toInt64) (v3 + (1 : Int32)) 0) := rfl
theorem L_X11_digest_0_6 (n : Nat) (I : am_I) (G : am_G) (v1 : Int64) (v3 : Int32) (v4 : Int32) : L_X11_digest_0 (n + 1) 6 I G v1 v3 v4 = (if ((I 7 9) * (I 7 10)) ≤ v3 then some (v1, I, G) else L_X11_digest_0 n 6 I G ((v1 * (31)) + (gAt (I 57) 576 v3).toInt64) (v3 + (1 : Int32)) 0) := rfl
theorem L_X11_digest_0_z (h : Nat) (I : am_I) (G : am_G) (v1 : Int64) (v3 : Int32) (v4 : Int32) : L_X11_digest_0 0 h I G v1 v3 v4 = none := rfl
noncomputable def R_X11_digest_0 (I : am_I) (G : am_G)  : Option (Int64 × am_I × am_G) := rb (R_X7_group_53 I G ) (fun r1 I1 G1 => L_X11_digest_0 FU 0 I1 G1 (937) (0 : Int32) 0)
set_option maxRecDepth 20000 in
set_option maxHeartbeats 4000000 in
theorem l_X11_digest_0 (rd : Nat) {X : am_X} {ad : Nat → Nat} (hX : am_okz X ad) (hi : am_info X 11 cX11_digest 5 false (Option.some Jvm.ClassFile.FieldType.long) 9) (n : Nat) : (∀ (I : am_I) (G : am_G) (v1 : Int64) (v3 : Int32) (v4 : Int32) (out : Int64 × am_I × am_G), L_X11_digest_0 n 0 I G v1 v3 v4 = some out → am_V X 0 0 (am_Rt X gS ad (pL out.1 out.2.1 out.2.2 (gP rd))) gS ad (13, [(0, .ref 0), (1, .long v1), (3, .int v3)], [], I, G, (gP rd))) ∧ (∀ (I : am_I) (G : am_G) (v1 : Int64) (v3 : Int32) (v4 : Int32) (out : Int64 × am_I × am_G), L_X11_digest_0 n 1 I G v1 v3 v4 = some out → am_V X 0 0 (am_Rt X gS ad (pL out.1 out.2.1 out.2.2 (gP rd))) gS ad (58, [(0, .ref 0), (1, .long v1), (3, .int v3)], [], I, G, (gP rd))) ∧ (∀ (I : am_I) (G : am_G) (v1 : Int64) (v3 : Int32) (v4 : Int32) (out : Int64 × am_I × am_G), L_X11_digest_0 n 2 I G v1 v3 v4 = some out → am_V X 0 0 (am_Rt X gS ad (pL out.1 out.2.1 out.2.2 (gP rd))) gS ad (72, [(0, .ref 0), (1, .long v1), (3, .int v3), (4, .int v4)], [], I, G, (gP rd))) ∧ (∀ (I : am_I) (G : am_G) (v1 : Int64) (v3 : Int32) (v4 : Int32) (out : Int64 × am_I × am_G), L_X11_digest_0 n 3 I G v1 v3 v4 = some out → am_V X 0 0 (am_Rt X gS ad (pL out.1 out.2.1 out.2.2 (gP rd))) gS ad (110, [(0, .ref 0), (1, .long v1), (3, .int v3)], [], I, G, (gP rd))) ∧ (∀ (I : am_I) (G : am_G) (v1 : Int64) (v3 : Int32) (v4 : Int32) (out : Int64 × am_I × am_G), L_X11_digest_0 n 4 I G v1 v3 v4 = some out → am_V X 0 0 (am_Rt X gS ad (pL out.1 out.2.1 out.2.2 (gP rd))) gS ad (124, [(0, .ref 0), (1, .long v1), (3, .int v3), (4, .int v4)], [], I, G, (gP rd))) ∧ (∀ (I : am_I) (G : am_G) (v1 : Int64) (v3 : Int32) (v4 : Int32) (out : Int64 × am_I × am_G), L_X11_digest_0 n 5 I G v1 v3 v4 = some out → am_V X 0 0 (am_Rt X gS ad (pL out.1 out.2.1 out.2.2 (gP rd))) gS ad (162, [(0, .ref 0), (1, .long v1), (3, .int v3)], [], I, G, (gP rd))) ∧ (∀ (I : am_I) (G : am_G) (v1 : Int64) (v3 : Int32) (v4 : Int32) (out : Int64 × am_I × am_G), L_X11_digest_0 n 6 I G v1 v3 v4 = some out → am_V X 0 0 (am_Rt X gS ad (pL out.1 out.2.1 out.2.2 (gP rd))) gS ad (200, [(0, .ref 0), (1, .long v1), (3, .int v3)], [], I, G, (gP rd))) := by
  induction n with
  | zero => exact ⟨(fun I G v1 v3 v4 out h => by rw [L_X11_digest_0_z] at h; cases h), (fun I G v1 v3 v4 out h => by rw [L_X11_digest_0_z] at h; cases h), (fun I G v1 v3 v4 out h => by rw [L_X11_digest_0_z] at h; cases h), (fun I G v1 v3 v4 out h => by rw [L_X11_digest_0_z] at h; cases h), (fun I G v1 v3 v4 out h => by rw [L_X11_digest_0_z] at h; cases h), (fun I G v1 v3 v4 out h => by rw [L_X11_digest_0_z] at h; cases h), (fun I G v1 v3 v4 out h => by rw [L_X11_digest_0_z] at h; cases h)⟩
  | succ n ih =>
    refine ⟨?_, ?_, ?_, ?_, ?_, ?_, ?_⟩
    · intro I G v1 v3 v4 out h
      rw [L_X11_digest_0_0] at h
      refine am_blk 13 [(.iload_n 3, 1, 3, 0, .null), (.bipush (14), 2, 0, 0, .int (14 : Int32))] (16, [(0, .ref 0), (1, .long v1), (3, .int v3)], [.int (14 : Int32), .int v3], I, G, (gP rd)) (True) hX hi (by decide +kernel) rfl trivial ?_
      refine am_icmp_ge (tgt := 41) hX hi (off := (25)) (by decide +kernel) (by decide) (fun c16 => ?_) (fun c16 => ?_)
      · rw [if_pos c16] at h
        refine am_blk 41 [(.lload_n 1, 1, 1, 0, .null), (.ldc2_w 235, 3, 0, 0, .long (31)), (.lmul, 1, 0, 0, .null), (.aload_n 0, 1, 0, 0, .null), (.getfield 20, 3, 11, 0, .null), (.getfield 57, 3, 9, 5, .null), (.i2l, 1, 0, 0, .null), (.ladd, 1, 0, 0, .null), (.lstore_n 1, 1, 1, 0, .null), (.iconst (0), 1, 0, 0, .int (0 : Int32)), (.istore_n 3, 1, 3, 0, .null)] (58, [(0, .ref 0), (1, .long ((v1 * (31)) + (I 1 5).toInt64)), (3, .int (0 : Int32))], [], I, G, (gP rd)) (True) hX hi (by decide +kernel) rfl trivial ?_
        exact ih.2.1 _ _ _ _ _ _ h
      · rw [if_neg c16] at h
        refine am_blk 19 [(.lload_n 1, 1, 1, 0, .null), (.ldc2_w 235, 3, 0, 0, .long (31)), (.lmul, 1, 0, 0, .null), (.aload_n 0, 1, 0, 0, .null), (.getfield 46, 3, 11, 4, .null), (.iload_n 3, 1, 3, 0, .null)] (29, [(0, .ref 0), (1, .long v1), (3, .int v3)], [.int v3, .ref 53, .long (v1 * (31))], I, G, (gP rd)) (True) hX hi (by decide +kernel) rfl trivial ?_
        obtain ⟨r101, I101, G101, hc, h⟩ := rb_some h
        refine am_callV hX hi (M := mX7_tell) (idx := 101) (d' := 3) (b := 53) (ci := 7) (As := [.int v3]) (rest := [.long (v1 * (31))]) mkX7_tell miX7_tell mvX7_tell (by decide +kernel) (by decide +kernel) rfl (by decide +kernel) rfl ⟨by omega, by decide, Nat.le_of_ble_eq_true rfl⟩ rfl (c_X7_tell_53 _ I G v3 hc) ?_
        rintro r9 I9 G9 P9 ⟨e0, e1, e2, e3⟩
        rw [e0, e1, e2, e3]
        show am_V X 0 0 _ _ ad (32, [(0, .ref 0), (1, .long v1), (3, .int v3)], [.int r101, .long (v1 * (31))], I101, G101, (gP rd))
        refine am_blk 32 [(.i2l, 1, 0, 0, .null), (.ladd, 1, 0, 0, .null), (.lstore_n 1, 1, 1, 0, .null), (.iinc 3 (1), 3, 3, 0, .int (1 : Int32)), (.goto (-25), 3, 0, 13, .null)] (13, [(0, .ref 0), (1, .long ((v1 * (31)) + r101.toInt64)), (3, .int (v3 + (1 : Int32)))], [], I101, G101, (gP rd)) (True) hX hi (by decide +kernel) rfl trivial ?_
        exact ih.1 _ _ _ _ _ _ h
    · intro I G v1 v3 v4 out h
      rw [L_X11_digest_0_1] at h
      refine am_blk 58 [(.iload_n 3, 1, 3, 0, .null), (.aload_n 0, 1, 0, 0, .null), (.getfield 33, 3, 11, 2, .null), (.getfield 144, 3, 5, 11, .null)] (66, [(0, .ref 0), (1, .long v1), (3, .int v3)], [.int (I 7 11), .int v3], I, G, (gP rd)) (True) hX hi (by decide +kernel) rfl trivial ?_
      refine am_icmp_ge (tgt := 108) hX hi (off := (42)) (by decide +kernel) (by decide) (fun c66 => ?_) (fun c66 => ?_)
      · rw [if_pos c66] at h
        refine am_blk 108 [(.iconst (0), 1, 0, 0, .int (0 : Int32)), (.istore_n 3, 1, 3, 0, .null)] (110, [(0, .ref 0), (1, .long v1), (3, .int (0 : Int32))], [], I, G, (gP rd)) (True) hX hi (by decide +kernel) rfl trivial ?_
        exact ih.2.2.2.1 _ _ _ _ _ _ h
      · rw [if_neg c66] at h
        refine am_blk 69 [(.iconst (0), 1, 0, 0, .int (0 : Int32)), (.istore 4, 2, 4, 0, .null)] (72, [(0, .ref 0), (1, .long v1), (3, .int v3), (4, .int (0 : Int32))], [], I, G, (gP rd)) (True) hX hi (by decide +kernel) rfl trivial ?_
        exact ih.2.2.1 _ _ _ _ _ _ h
    · intro I G v1 v3 v4 out h
      rw [L_X11_digest_0_2] at h
      refine am_blk 72 [(.iload 4, 2, 4, 0, .null), (.iconst (3), 1, 0, 0, .int (3 : Int32))] (75, [(0, .ref 0), (1, .long v1), (3, .int v3), (4, .int v4)], [.int (3 : Int32), .int v4], I, G, (gP rd)) (True) hX hi (by decide +kernel) rfl trivial ?_
      refine am_icmp_gt (tgt := 102) hX hi (off := (27)) (by decide +kernel) (by decide) (fun c75 => ?_) (fun c75 => ?_)
      · rw [if_pos c75] at h
        refine am_blk 102 [(.iinc 3 (1), 3, 3, 0, .int (1 : Int32)), (.goto (-47), 3, 0, 58, .null)] (58, [(0, .ref 0), (1, .long v1), (3, .int (v3 + (1 : Int32))), (4, .int v4)], [], I, G, (gP rd)) (True) hX hi (by decide +kernel) rfl trivial ?_
        refine am_sub (L' := [(0, .ref 0), (1, .long v1), (3, .int (v3 + (1 : Int32)))]) (by simp) ?_
        exact ih.2.1 _ _ _ _ _ _ h
      · rw [if_neg c75] at h
        refine am_blk 78 [(.lload_n 1, 1, 1, 0, .null), (.ldc2_w 235, 3, 0, 0, .long (31)), (.lmul, 1, 0, 0, .null), (.aload_n 0, 1, 0, 0, .null), (.getfield 46, 3, 11, 4, .null), (.iload_n 3, 1, 3, 0, .null), (.iload 4, 2, 4, 0, .null)] (90, [(0, .ref 0), (1, .long v1), (3, .int v3), (4, .int v4)], [.int v4, .int v3, .ref 53, .long (v1 * (31))], I, G, (gP rd)) (True) hX hi (by decide +kernel) rfl trivial ?_
        refine am_callV hX hi (M := mX7_tellOctave) (idx := 149) (d' := 2) (b := 53) (ci := 7) (As := [.int v3, .int v4]) (rest := [.long (v1 * (31))]) mkX7_tellOctave miX7_tellOctave mvX7_tellOctave (by decide +kernel) (by decide +kernel) rfl (by decide +kernel) rfl ⟨by omega, by decide, Nat.le_of_ble_eq_true rfl⟩ rfl (c_X7_tellOctave_53 _ I G v3 v4) ?_
        rintro r9 I9 G9 P9 ⟨e0, e1, e2, e3⟩
        rw [e0, e1, e2, e3]
        show am_V X 0 0 _ _ ad (93, [(0, .ref 0), (1, .long v1), (3, .int v3), (4, .int v4)], [.int (f_X7_tellOctave_53 I G v3 v4), .long (v1 * (31))], I, G, (gP rd))
        refine am_blk 93 [(.i2l, 1, 0, 0, .null), (.ladd, 1, 0, 0, .null), (.lstore_n 1, 1, 1, 0, .null), (.iinc 4 (1), 3, 4, 0, .int (1 : Int32)), (.goto (-27), 3, 0, 72, .null)] (72, [(0, .ref 0), (1, .long ((v1 * (31)) + (f_X7_tellOctave_53 I G v3 v4).toInt64)), (3, .int v3), (4, .int (v4 + (1 : Int32)))], [], I, G, (gP rd)) (True) hX hi (by decide +kernel) rfl trivial ?_
        exact ih.2.2.1 _ _ _ _ _ _ h
    · intro I G v1 v3 v4 out h
      rw [L_X11_digest_0_3] at h
      refine am_blk 110 [(.iload_n 3, 1, 3, 0, .null), (.aload_n 0, 1, 0, 0, .null), (.getfield 33, 3, 11, 2, .null), (.getfield 176, 3, 5, 12, .null)] (118, [(0, .ref 0), (1, .long v1), (3, .int v3)], [.int (I 7 12), .int v3], I, G, (gP rd)) (True) hX hi (by decide +kernel) rfl trivial ?_
      refine am_icmp_ge (tgt := 160) hX hi (off := (42)) (by decide +kernel) (by decide) (fun c118 => ?_) (fun c118 => ?_)
      · rw [if_pos c118] at h
        refine am_blk 160 [(.iconst (0), 1, 0, 0, .int (0 : Int32)), (.istore_n 3, 1, 3, 0, .null)] (162, [(0, .ref 0), (1, .long v1), (3, .int (0 : Int32))], [], I, G, (gP rd)) (True) hX hi (by decide +kernel) rfl trivial ?_
        exact ih.2.2.2.2.2.1 _ _ _ _ _ _ h
      · rw [if_neg c118] at h
        refine am_blk 121 [(.iconst (0), 1, 0, 0, .int (0 : Int32)), (.istore 4, 2, 4, 0, .null)] (124, [(0, .ref 0), (1, .long v1), (3, .int v3), (4, .int (0 : Int32))], [], I, G, (gP rd)) (True) hX hi (by decide +kernel) rfl trivial ?_
        exact ih.2.2.2.2.1 _ _ _ _ _ _ h
    · intro I G v1 v3 v4 out h
      rw [L_X11_digest_0_4] at h
      refine am_blk 124 [(.iload 4, 2, 4, 0, .null), (.iconst (2), 1, 0, 0, .int (2 : Int32))] (127, [(0, .ref 0), (1, .long v1), (3, .int v3), (4, .int v4)], [.int (2 : Int32), .int v4], I, G, (gP rd)) (True) hX hi (by decide +kernel) rfl trivial ?_
      refine am_icmp_gt (tgt := 154) hX hi (off := (27)) (by decide +kernel) (by decide) (fun c127 => ?_) (fun c127 => ?_)
      · rw [if_pos c127] at h
        refine am_blk 154 [(.iinc 3 (1), 3, 3, 0, .int (1 : Int32)), (.goto (-47), 3, 0, 110, .null)] (110, [(0, .ref 0), (1, .long v1), (3, .int (v3 + (1 : Int32))), (4, .int v4)], [], I, G, (gP rd)) (True) hX hi (by decide +kernel) rfl trivial ?_
        refine am_sub (L' := [(0, .ref 0), (1, .long v1), (3, .int (v3 + (1 : Int32)))]) (by simp) ?_
        exact ih.2.2.2.1 _ _ _ _ _ _ h
      · rw [if_neg c127] at h
        refine am_blk 130 [(.lload_n 1, 1, 1, 0, .null), (.ldc2_w 235, 3, 0, 0, .long (31)), (.lmul, 1, 0, 0, .null), (.aload_n 0, 1, 0, 0, .null), (.getfield 46, 3, 11, 4, .null), (.iload_n 3, 1, 3, 0, .null), (.iload 4, 2, 4, 0, .null)] (142, [(0, .ref 0), (1, .long v1), (3, .int v3), (4, .int v4)], [.int v4, .int v3, .ref 53, .long (v1 * (31))], I, G, (gP rd)) (True) hX hi (by decide +kernel) rfl trivial ?_
        refine am_callV hX hi (M := mX7_tellComb) (idx := 181) (d' := 2) (b := 53) (ci := 7) (As := [.int v3, .int v4]) (rest := [.long (v1 * (31))]) mkX7_tellComb miX7_tellComb mvX7_tellComb (by decide +kernel) (by decide +kernel) rfl (by decide +kernel) rfl ⟨by omega, by decide, Nat.le_of_ble_eq_true rfl⟩ rfl (c_X7_tellComb_53 _ I G v3 v4) ?_
        rintro r9 I9 G9 P9 ⟨e0, e1, e2, e3⟩
        rw [e0, e1, e2, e3]
        show am_V X 0 0 _ _ ad (145, [(0, .ref 0), (1, .long v1), (3, .int v3), (4, .int v4)], [.int (f_X7_tellComb_53 I G v3 v4), .long (v1 * (31))], I, G, (gP rd))
        refine am_blk 145 [(.i2l, 1, 0, 0, .null), (.ladd, 1, 0, 0, .null), (.lstore_n 1, 1, 1, 0, .null), (.iinc 4 (1), 3, 4, 0, .int (1 : Int32)), (.goto (-27), 3, 0, 124, .null)] (124, [(0, .ref 0), (1, .long ((v1 * (31)) + (f_X7_tellComb_53 I G v3 v4).toInt64)), (3, .int v3), (4, .int (v4 + (1 : Int32)))], [], I, G, (gP rd)) (True) hX hi (by decide +kernel) rfl trivial ?_
        exact ih.2.2.2.2.1 _ _ _ _ _ _ h
    · intro I G v1 v3 v4 out h
      rw [L_X11_digest_0_5] at h
      refine am_blk 162 [(.iload_n 3, 1, 3, 0, .null), (.aload_n 0, 1, 0, 0, .null), (.getfield 33, 3, 11, 2, .null), (.getfield 137, 3, 5, 13, .null)] (170, [(0, .ref 0), (1, .long v1), (3, .int v3)], [.int (I 7 13), .int v3], I, G, (gP rd)) (True) hX hi (by decide +kernel) rfl trivial ?_
      refine am_icmp_gt (tgt := 198) hX hi (off := (28)) (by decide +kernel) (by decide) (fun c170 => ?_) (fun c170 => ?_)
      · rw [if_pos c170] at h
        refine am_blk 198 [(.iconst (0), 1, 0, 0, .int (0 : Int32)), (.istore_n 3, 1, 3, 0, .null)] (200, [(0, .ref 0), (1, .long v1), (3, .int (0 : Int32))], [], I, G, (gP rd)) (True) hX hi (by decide +kernel) rfl trivial ?_
        exact ih.2.2.2.2.2.2 _ _ _ _ _ _ h
      · rw [if_neg c170] at h
        refine am_blk 173 [(.lload_n 1, 1, 1, 0, .null), (.ldc2_w 235, 3, 0, 0, .long (31)), (.lmul, 1, 0, 0, .null), (.aload_n 0, 1, 0, 0, .null), (.getfield 46, 3, 11, 4, .null), (.getfield 141, 3, 7, 7, .null), (.iload_n 3, 1, 3, 0, .null)] (186, [(0, .ref 0), (1, .long v1), (3, .int v3)], [.int v3, .ref 59, .long (v1 * (31))], I, G, (gP rd)) (True) hX hi (by decide +kernel) rfl trivial ?_
        refine am_callS hX hi (M := mX0_at) (idx := 116) (d' := 1) (As := [.ref 59, .int v3]) (rest := [.long (v1 * (31))]) mkX0_at msX0_at (by decide +kernel) (by decide +kernel) rfl ⟨by omega, by decide, Nat.le_of_ble_eq_true rfl⟩ rfl (c_at rfl (by decide) v3) ?_
        rintro r9 I9 G9 P9 ⟨e0, e1, e2, e3⟩
        rw [e0, e1, e2, e3]
        show am_V X 0 0 _ _ ad (189, [(0, .ref 0), (1, .long v1), (3, .int v3)], [.int (gAt (I 59) 6 v3), .long (v1 * (31))], I, G, (gP rd))
        refine am_blk 189 [(.i2l, 1, 0, 0, .null), (.ladd, 1, 0, 0, .null), (.lstore_n 1, 1, 1, 0, .null), (.iinc 3 (1), 3, 3, 0, .int (1 : Int32)), (.goto (-33), 3, 0, 162, .null)] (162, [(0, .ref 0), (1, .long ((v1 * (31)) + (gAt (I 59) 6 v3).toInt64)), (3, .int (v3 + (1 : Int32)))], [], I, G, (gP rd)) (True) hX hi (by decide +kernel) rfl trivial ?_
        exact ih.2.2.2.2.2.1 _ _ _ _ _ _ h
    · intro I G v1 v3 v4 out h
      rw [L_X11_digest_0_6] at h
      refine am_blk 200 [(.iload_n 3, 1, 3, 0, .null), (.aload_n 0, 1, 0, 0, .null), (.getfield 33, 3, 11, 2, .null), (.getfield 163, 3, 5, 9, .null), (.aload_n 0, 1, 0, 0, .null), (.getfield 33, 3, 11, 2, .null), (.getfield 170, 3, 5, 10, .null), (.imul, 1, 0, 0, .null)] (216, [(0, .ref 0), (1, .long v1), (3, .int v3)], [.int ((I 7 9) * (I 7 10)), .int v3], I, G, (gP rd)) (True) hX hi (by decide +kernel) rfl trivial ?_
      refine am_icmp_ge (tgt := 244) hX hi (off := (28)) (by decide +kernel) (by decide) (fun c216 => ?_) (fun c216 => ?_)
      · rw [if_pos c216] at h
        refine am_blk 244 [(.lload_n 1, 1, 1, 0, .null)] (245, [(0, .ref 0), (1, .long v1), (3, .int v3)], [.long v1], I, G, (gP rd)) (True) hX hi (by decide +kernel) rfl trivial ?_
        cases h
        refine am_lret hX hi rfl (by decide +kernel) ?_
        exact ⟨rfl, rfl, rfl, rfl⟩
      · rw [if_neg c216] at h
        refine am_blk 219 [(.lload_n 1, 1, 1, 0, .null), (.ldc2_w 235, 3, 0, 0, .long (31)), (.lmul, 1, 0, 0, .null), (.aload_n 0, 1, 0, 0, .null), (.getfield 46, 3, 11, 4, .null), (.getfield 108, 3, 7, 5, .null), (.iload_n 3, 1, 3, 0, .null)] (232, [(0, .ref 0), (1, .long v1), (3, .int v3)], [.int v3, .ref 57, .long (v1 * (31))], I, G, (gP rd)) (True) hX hi (by decide +kernel) rfl trivial ?_
        refine am_callS hX hi (M := mX0_at) (idx := 116) (d' := 1) (As := [.ref 57, .int v3]) (rest := [.long (v1 * (31))]) mkX0_at msX0_at (by decide +kernel) (by decide +kernel) rfl ⟨by omega, by decide, Nat.le_of_ble_eq_true rfl⟩ rfl (c_at rfl (by decide) v3) ?_
        rintro r9 I9 G9 P9 ⟨e0, e1, e2, e3⟩
        rw [e0, e1, e2, e3]
        show am_V X 0 0 _ _ ad (235, [(0, .ref 0), (1, .long v1), (3, .int v3)], [.int (gAt (I 57) 576 v3), .long (v1 * (31))], I, G, (gP rd))
        refine am_blk 235 [(.i2l, 1, 0, 0, .null), (.ladd, 1, 0, 0, .null), (.lstore_n 1, 1, 1, 0, .null), (.iinc 3 (1), 3, 3, 0, .int (1 : Int32)), (.goto (-41), 3, 0, 200, .null)] (200, [(0, .ref 0), (1, .long ((v1 * (31)) + (gAt (I 57) 576 v3).toInt64)), (3, .int (v3 + (1 : Int32)))], [], I, G, (gP rd)) (True) hX hi (by decide +kernel) rfl trivial ?_
        exact ih.2.2.2.2.2.2 _ _ _ _ _ _ h
set_option maxRecDepth 20000 in
set_option maxHeartbeats 4000000 in
theorem c_X11_digest_0 (rd : Nat) (I : am_I) (G : am_G)  {out : Int64 × am_I × am_G} (h : R_X11_digest_0 I G  = some out) : am_Ct mX11_digest 9 gS [.ref 0] I G (gP rd) (pL out.1 out.2.1 out.2.2 (gP rd)) := by
  refine am_ofF (by decide +kernel) rfl (by decide) (by omega) (Nat.le_of_ble_eq_true rfl) (fun X ad hX hi => ?_)
  have hi : am_info X 11 cX11_digest 5 false (Option.some Jvm.ClassFile.FieldType.long) 9 := hi
  show am_V X 0 0 _ _ ad (0, [(0, .ref 0)], [], I, G, (gP rd))
  unfold R_X11_digest_0 at h
  refine am_blk 0 [(.aload_n 0, 1, 0, 0, .null), (.getfield 46, 3, 11, 4, .null)] (4, [(0, .ref 0)], [.ref 53], I, G, (gP rd)) (True) hX hi (by decide +kernel) rfl trivial ?_
  obtain ⟨r1, I1, G1, hc, h⟩ := rb_some h
  refine am_callV hX hi (M := mX7_group) (idx := 98) (d' := 8) (b := 53) (ci := 7) (As := []) (rest := []) mkX7_group miX7_group mvX7_group (by decide +kernel) (by decide +kernel) rfl (by decide +kernel) rfl ⟨by omega, by decide, Nat.le_of_ble_eq_true rfl⟩ rfl (c_X7_group_53 _ I G  hc) ?_
  rintro r9 I9 G9 P9 ⟨e0, e1, e2, e3⟩
  rw [e0, e1, e2, e3]
  show am_V X 0 0 _ _ ad (7, [(0, .ref 0)], [], I1, G1, (gP rd))
  refine am_blk 7 [(.ldc2_w 233, 3, 0, 0, .long (937)), (.lstore_n 1, 1, 1, 0, .null), (.iconst (0), 1, 0, 0, .int (0 : Int32)), (.istore_n 3, 1, 3, 0, .null)] (13, [(0, .ref 0), (1, .long (937)), (3, .int (0 : Int32))], [], I1, G1, (gP rd)) (True) hX hi (by decide +kernel) rfl trivial ?_
  exact (l_X11_digest_0 rd hX hi FU).1 _ _ _ _ _ _ h
noncomputable def R_X6_readLine_28 (I : am_I) (G : am_G)  : Option (Unit × am_I × am_G) := (if (I 28 6) = 0 then some ((), (g_X6_expect_28 (g_X6_readPaper_28 I G ) G (28 : Int32)), G) else (if (I 28 6) = (2 : Int32) then rb (R_X6_readOctave_28 I G ) (fun r6 I6 G6 => some ((), (g_X6_expect_28 I6 G6 (28 : Int32)), G6)) else (if (I 28 6) = (7 : Int32) then rb (R_X6_readComb_28 I G ) (fun r5 I5 G5 => some ((), (g_X6_expect_28 I5 G5 (28 : Int32)), G5)) else (if (I 28 6) = (10 : Int32) then rb (R_X6_readInk_28 I G ) (fun r4 I4 G4 => some ((), (g_X6_expect_28 I4 G4 (28 : Int32)), G4)) else rb (R_X6_readOrderHead_28 I G ) (fun r1 I1 G1 => rb (PG_X6_readTest GDN 3 I1 G1 (0 : Int32) (0 : Int32)) (fun r2 I2 G2 => (if ((g_X3_endSum_38 I2 G2 ) 28 6) = (14 : Int32) then rb (PG_X6_readTest GDN 0 (g_X6_advance_28 (g_X3_endSum_38 I2 G2 ) G2 ) G2 (0 : Int32) (0 : Int32)) (fun r3 I3 G3 => some ((), (g_X6_expect_28 (g_X3_endTest_38 I3 G3 ) G3 (28 : Int32)), G3)) else (if (I 28 6) = (12 : Int32) then some ((), (g_X6_expect_28 (g_X3_endTest_38 (g_X3_endSum_38 I2 G2 ) G2 ) G2 (28 : Int32)), G2) else some ((), (g_X6_expect_28 (g_X3_endTest_38 (g_X6_refuse_28 (g_X3_endSum_38 I2 G2 ) G2 ) G2 ) G2 (28 : Int32)), G2)))))))))
set_option maxRecDepth 20000 in
set_option maxHeartbeats 4000000 in
theorem c_X6_readLine_28 (rd : Nat) (I : am_I) (G : am_G)  {out : Unit × am_I × am_G} (h : R_X6_readLine_28 I G  = some out) : am_Ct mX6_readLine 49 gS [.ref 28] I G (gP rd) (pV out.2.1 out.2.2 (gP rd)) := by
  refine am_ofF (by decide +kernel) rfl (by decide) (by omega) (Nat.le_of_ble_eq_true rfl) (fun X ad hX hi => ?_)
  have hi : am_info X 6 cX6_readLine 2 false none 49 := hi
  show am_V X 0 0 _ _ ad (0, [(0, .ref 28)], [], I, G, (gP rd))
  unfold R_X6_readLine_28 at h
  refine am_blk 0 [(.aload_n 0, 1, 0, 0, .null), (.getfield 62, 3, 6, 6, .null), (.istore_n 1, 1, 1, 0, .null), (.iload_n 1, 1, 1, 0, .null)] (6, [(0, .ref 28), (1, .int (I 28 6))], [.int (I 28 6)], I, G, (gP rd)) (True) hX hi (by decide +kernel) rfl trivial ?_
  refine am_if_ne (tgt := 16) hX hi (off := (10)) (by decide +kernel) (by decide) (fun c6 => ?_) (fun c6 => ?_)
  · rw [if_neg c6] at h
    refine am_blk 16 [(.iload_n 1, 1, 1, 0, .null), (.iconst (2), 1, 0, 0, .int (2 : Int32))] (18, [(0, .ref 28), (1, .int (I 28 6))], [.int (2 : Int32), .int (I 28 6)], I, G, (gP rd)) (True) hX hi (by decide +kernel) rfl trivial ?_
    refine am_icmp_ne (tgt := 28) hX hi (off := (10)) (by decide +kernel) (by decide) (fun c18 => ?_) (fun c18 => ?_)
    · rw [if_neg c18] at h
      refine am_blk 28 [(.iload_n 1, 1, 1, 0, .null), (.bipush (7), 2, 0, 0, .int (7 : Int32))] (31, [(0, .ref 28), (1, .int (I 28 6))], [.int (7 : Int32), .int (I 28 6)], I, G, (gP rd)) (True) hX hi (by decide +kernel) rfl trivial ?_
      refine am_icmp_ne (tgt := 41) hX hi (off := (10)) (by decide +kernel) (by decide) (fun c31 => ?_) (fun c31 => ?_)
      · rw [if_neg c31] at h
        refine am_blk 41 [(.iload_n 1, 1, 1, 0, .null), (.bipush (10), 2, 0, 0, .int (10 : Int32))] (44, [(0, .ref 28), (1, .int (I 28 6))], [.int (10 : Int32), .int (I 28 6)], I, G, (gP rd)) (True) hX hi (by decide +kernel) rfl trivial ?_
        refine am_icmp_ne (tgt := 54) hX hi (off := (10)) (by decide +kernel) (by decide) (fun c44 => ?_) (fun c44 => ?_)
        · rw [if_neg c44] at h
          refine am_blk 54 [(.aload_n 0, 1, 0, 0, .null)] (55, [(0, .ref 28), (1, .int (I 28 6))], [.ref 28], I, G, (gP rd)) (True) hX hi (by decide +kernel) rfl trivial ?_
          obtain ⟨r1, I1, G1, hc, h⟩ := rb_some h
          refine am_callV hX hi (M := mX6_readOrderHead) (idx := 85) (d' := 4) (b := 28) (ci := 6) (As := []) (rest := []) mkX6_readOrderHead miX6_readOrderHead mvX6_readOrderHead (by decide +kernel) (by decide +kernel) rfl (by decide +kernel) rfl ⟨by omega, by decide, Nat.le_of_ble_eq_true rfl⟩ rfl (c_X6_readOrderHead_28 _ I G  hc) ?_
          rintro r9 I9 G9 P9 ⟨e0, e1, e2, e3⟩
          rw [e0, e1, e2, e3]
          show am_V X 0 0 _ _ ad (58, [(0, .ref 28), (1, .int (I 28 6))], [], I1, G1, (gP rd))
          refine am_blk 58 [(.aload_n 0, 1, 0, 0, .null), (.iconst (0), 1, 0, 0, .int (0 : Int32))] (60, [(0, .ref 28), (1, .int (I 28 6))], [.int (0 : Int32), .ref 28], I1, G1, (gP rd)) (True) hX hi (by decide +kernel) rfl trivial ?_
          obtain ⟨r2, I2, G2, hc, h⟩ := rb_some h
          refine am_callV hX hi (M := mX6_readSum) (idx := 88) (d' := 48) (b := 28) (ci := 6) (As := [.int (0 : Int32)]) (rest := []) mkX6_readSum miX6_readSum mvX6_readSum (by decide +kernel) (by decide +kernel) rfl (by decide +kernel) rfl ⟨by omega, by decide, Nat.le_of_ble_eq_true rfl⟩ rfl ((cg_X6_readTest GDN).2.2.2.1 _ I1 G1 (0 : Int32) _ hc) ?_
          rintro r9 I9 G9 P9 ⟨e0, e1, e2, e3⟩
          rw [e0, e1, e2, e3]
          show am_V X 0 0 _ _ ad (63, [(0, .ref 28), (1, .int (I 28 6))], [], I2, G2, (gP rd))
          refine am_blk 63 [(.aload_n 0, 1, 0, 0, .null), (.getfield 12, 3, 6, 1, .null), (.getfield 91, 3, 5, 8, .null)] (70, [(0, .ref 28), (1, .int (I 28 6))], [.ref 38], I2, G2, (gP rd)) (True) hX hi (by decide +kernel) rfl trivial ?_
          refine am_callV hX hi (M := mX3_endSum) (idx := 95) (d' := 2) (b := 38) (ci := 3) (As := []) (rest := []) mkX3_endSum miX3_endSum mvX3_endSum (by decide +kernel) (by decide +kernel) rfl (by decide +kernel) rfl ⟨by omega, by decide, Nat.le_of_ble_eq_true rfl⟩ rfl (c_X3_endSum_38 _ I2 G2 ) ?_
          rintro r9 I9 G9 P9 ⟨e0, e1, e2, e3⟩
          rw [e0, e1, e2, e3]
          show am_V X 0 0 _ _ ad (73, [(0, .ref 28), (1, .int (I 28 6))], [], (g_X3_endSum_38 I2 G2 ), G2, (gP rd))
          refine am_blk 73 [(.aload_n 0, 1, 0, 0, .null), (.getfield 62, 3, 6, 6, .null), (.bipush (14), 2, 0, 0, .int (14 : Int32))] (79, [(0, .ref 28), (1, .int (I 28 6))], [.int (14 : Int32), .int ((g_X3_endSum_38 I2 G2 ) 28 6)], (g_X3_endSum_38 I2 G2 ), G2, (gP rd)) (True) hX hi (by decide +kernel) rfl trivial ?_
          refine am_icmp_ne (tgt := 94) hX hi (off := (15)) (by decide +kernel) (by decide) (fun c79 => ?_) (fun c79 => ?_)
          · rw [if_neg c79] at h
            refine am_blk 94 [(.iload_n 1, 1, 1, 0, .null), (.bipush (12), 2, 0, 0, .int (12 : Int32))] (97, [(0, .ref 28), (1, .int (I 28 6))], [.int (12 : Int32), .int (I 28 6)], (g_X3_endSum_38 I2 G2 ), G2, (gP rd)) (True) hX hi (by decide +kernel) rfl trivial ?_
            refine am_icmp_eq (tgt := 104) hX hi (off := (7)) (by decide +kernel) (by decide) (fun c97 => ?_) (fun c97 => ?_)
            · rw [if_pos c97] at h
              refine am_blk 104 [(.aload_n 0, 1, 0, 0, .null), (.getfield 12, 3, 6, 1, .null), (.getfield 91, 3, 5, 8, .null)] (111, [(0, .ref 28), (1, .int (I 28 6))], [.ref 38], (g_X3_endSum_38 I2 G2 ), G2, (gP rd)) (True) hX hi (by decide +kernel) rfl trivial ?_
              refine am_callV hX hi (M := mX3_endTest) (idx := 106) (d' := 2) (b := 38) (ci := 3) (As := []) (rest := []) mkX3_endTest miX3_endTest mvX3_endTest (by decide +kernel) (by decide +kernel) rfl (by decide +kernel) rfl ⟨by omega, by decide, Nat.le_of_ble_eq_true rfl⟩ rfl (c_X3_endTest_38 _ (g_X3_endSum_38 I2 G2 ) G2 ) ?_
              rintro r9 I9 G9 P9 ⟨e0, e1, e2, e3⟩
              rw [e0, e1, e2, e3]
              show am_V X 0 0 _ _ ad (114, [(0, .ref 28), (1, .int (I 28 6))], [], (g_X3_endTest_38 (g_X3_endSum_38 I2 G2 ) G2 ), G2, (gP rd))
              refine am_blk 114 [(.aload_n 0, 1, 0, 0, .null), (.bipush (28), 2, 0, 0, .int (28 : Int32))] (117, [(0, .ref 28), (1, .int (I 28 6))], [.int (28 : Int32), .ref 28], (g_X3_endTest_38 (g_X3_endSum_38 I2 G2 ) G2 ), G2, (gP rd)) (True) hX hi (by decide +kernel) rfl trivial ?_
              refine am_callV hX hi (M := mX6_expect) (idx := 109) (d' := 3) (b := 28) (ci := 6) (As := [.int (28 : Int32)]) (rest := []) mkX6_expect miX6_expect mvX6_expect (by decide +kernel) (by decide +kernel) rfl (by decide +kernel) rfl ⟨by omega, by decide, Nat.le_of_ble_eq_true rfl⟩ rfl (c_X6_expect_28 _ (g_X3_endTest_38 (g_X3_endSum_38 I2 G2 ) G2 ) G2 (28 : Int32)) ?_
              rintro r9 I9 G9 P9 ⟨e0, e1, e2, e3⟩
              rw [e0, e1, e2, e3]
              show am_V X 0 0 _ _ ad (120, [(0, .ref 28), (1, .int (I 28 6))], [], (g_X6_expect_28 (g_X3_endTest_38 (g_X3_endSum_38 I2 G2 ) G2 ) G2 (28 : Int32)), G2, (gP rd))
              cases h
              refine am_vret hX hi rfl (by decide +kernel) ?_
              exact ⟨rfl, rfl, rfl, rfl⟩
            · rw [if_neg c97] at h
              refine am_blk 100 [(.aload_n 0, 1, 0, 0, .null)] (101, [(0, .ref 28), (1, .int (I 28 6))], [.ref 28], (g_X3_endSum_38 I2 G2 ), G2, (gP rd)) (True) hX hi (by decide +kernel) rfl trivial ?_
              refine am_callV hX hi (M := mX6_refuse) (idx := 70) (d' := 2) (b := 28) (ci := 6) (As := []) (rest := []) mkX6_refuse miX6_refuse mvX6_refuse (by decide +kernel) (by decide +kernel) rfl (by decide +kernel) rfl ⟨by omega, by decide, Nat.le_of_ble_eq_true rfl⟩ rfl (c_X6_refuse_28 _ (g_X3_endSum_38 I2 G2 ) G2 ) ?_
              rintro r9 I9 G9 P9 ⟨e0, e1, e2, e3⟩
              rw [e0, e1, e2, e3]
              show am_V X 0 0 _ _ ad (104, [(0, .ref 28), (1, .int (I 28 6))], [], (g_X6_refuse_28 (g_X3_endSum_38 I2 G2 ) G2 ), G2, (gP rd))
              refine am_blk 104 [(.aload_n 0, 1, 0, 0, .null), (.getfield 12, 3, 6, 1, .null), (.getfield 91, 3, 5, 8, .null)] (111, [(0, .ref 28), (1, .int (I 28 6))], [.ref 38], (g_X6_refuse_28 (g_X3_endSum_38 I2 G2 ) G2 ), G2, (gP rd)) (True) hX hi (by decide +kernel) rfl trivial ?_
              refine am_callV hX hi (M := mX3_endTest) (idx := 106) (d' := 2) (b := 38) (ci := 3) (As := []) (rest := []) mkX3_endTest miX3_endTest mvX3_endTest (by decide +kernel) (by decide +kernel) rfl (by decide +kernel) rfl ⟨by omega, by decide, Nat.le_of_ble_eq_true rfl⟩ rfl (c_X3_endTest_38 _ (g_X6_refuse_28 (g_X3_endSum_38 I2 G2 ) G2 ) G2 ) ?_
              rintro r9 I9 G9 P9 ⟨e0, e1, e2, e3⟩
              rw [e0, e1, e2, e3]
              show am_V X 0 0 _ _ ad (114, [(0, .ref 28), (1, .int (I 28 6))], [], (g_X3_endTest_38 (g_X6_refuse_28 (g_X3_endSum_38 I2 G2 ) G2 ) G2 ), G2, (gP rd))
              refine am_blk 114 [(.aload_n 0, 1, 0, 0, .null), (.bipush (28), 2, 0, 0, .int (28 : Int32))] (117, [(0, .ref 28), (1, .int (I 28 6))], [.int (28 : Int32), .ref 28], (g_X3_endTest_38 (g_X6_refuse_28 (g_X3_endSum_38 I2 G2 ) G2 ) G2 ), G2, (gP rd)) (True) hX hi (by decide +kernel) rfl trivial ?_
              refine am_callV hX hi (M := mX6_expect) (idx := 109) (d' := 3) (b := 28) (ci := 6) (As := [.int (28 : Int32)]) (rest := []) mkX6_expect miX6_expect mvX6_expect (by decide +kernel) (by decide +kernel) rfl (by decide +kernel) rfl ⟨by omega, by decide, Nat.le_of_ble_eq_true rfl⟩ rfl (c_X6_expect_28 _ (g_X3_endTest_38 (g_X6_refuse_28 (g_X3_endSum_38 I2 G2 ) G2 ) G2 ) G2 (28 : Int32)) ?_
              rintro r9 I9 G9 P9 ⟨e0, e1, e2, e3⟩
              rw [e0, e1, e2, e3]
              show am_V X 0 0 _ _ ad (120, [(0, .ref 28), (1, .int (I 28 6))], [], (g_X6_expect_28 (g_X3_endTest_38 (g_X6_refuse_28 (g_X3_endSum_38 I2 G2 ) G2 ) G2 ) G2 (28 : Int32)), G2, (gP rd))
              cases h
              refine am_vret hX hi rfl (by decide +kernel) ?_
              exact ⟨rfl, rfl, rfl, rfl⟩
          · rw [if_pos c79] at h
            refine am_blk 82 [(.aload_n 0, 1, 0, 0, .null)] (83, [(0, .ref 28), (1, .int (I 28 6))], [.ref 28], (g_X3_endSum_38 I2 G2 ), G2, (gP rd)) (True) hX hi (by decide +kernel) rfl trivial ?_
            refine am_callV hX hi (M := mX6_advance) (idx := 100) (d' := 2) (b := 28) (ci := 6) (As := []) (rest := []) mkX6_advance miX6_advance mvX6_advance (by decide +kernel) (by decide +kernel) rfl (by decide +kernel) rfl ⟨by omega, by decide, Nat.le_of_ble_eq_true rfl⟩ rfl (c_X6_advance_28 _ (g_X3_endSum_38 I2 G2 ) G2 ) ?_
            rintro r9 I9 G9 P9 ⟨e0, e1, e2, e3⟩
            rw [e0, e1, e2, e3]
            show am_V X 0 0 _ _ ad (86, [(0, .ref 28), (1, .int (I 28 6))], [], (g_X6_advance_28 (g_X3_endSum_38 I2 G2 ) G2 ), G2, (gP rd))
            refine am_blk 86 [(.aload_n 0, 1, 0, 0, .null), (.iconst (0), 1, 0, 0, .int (0 : Int32))] (88, [(0, .ref 28), (1, .int (I 28 6))], [.int (0 : Int32), .ref 28], (g_X6_advance_28 (g_X3_endSum_38 I2 G2 ) G2 ), G2, (gP rd)) (True) hX hi (by decide +kernel) rfl trivial ?_
            obtain ⟨r3, I3, G3, hc, h⟩ := rb_some h
            refine am_callV hX hi (M := mX6_readTest) (idx := 103) (d' := 48) (b := 28) (ci := 6) (As := [.int (0 : Int32)]) (rest := []) mkX6_readTest miX6_readTest mvX6_readTest (by decide +kernel) (by decide +kernel) rfl (by decide +kernel) rfl ⟨by omega, by decide, Nat.le_of_ble_eq_true rfl⟩ rfl ((cg_X6_readTest GDN).1 _ (g_X6_advance_28 (g_X3_endSum_38 I2 G2 ) G2 ) G2 (0 : Int32) _ hc) ?_
            rintro r9 I9 G9 P9 ⟨e0, e1, e2, e3⟩
            rw [e0, e1, e2, e3]
            show am_V X 0 0 _ _ ad (91, [(0, .ref 28), (1, .int (I 28 6))], [], I3, G3, (gP rd))
            refine am_blk 91 [(.goto (13), 3, 0, 104, .null), (.aload_n 0, 1, 0, 0, .null), (.getfield 12, 3, 6, 1, .null), (.getfield 91, 3, 5, 8, .null)] (111, [(0, .ref 28), (1, .int (I 28 6))], [.ref 38], I3, G3, (gP rd)) (True) hX hi (by decide +kernel) rfl trivial ?_
            refine am_callV hX hi (M := mX3_endTest) (idx := 106) (d' := 2) (b := 38) (ci := 3) (As := []) (rest := []) mkX3_endTest miX3_endTest mvX3_endTest (by decide +kernel) (by decide +kernel) rfl (by decide +kernel) rfl ⟨by omega, by decide, Nat.le_of_ble_eq_true rfl⟩ rfl (c_X3_endTest_38 _ I3 G3 ) ?_
            rintro r9 I9 G9 P9 ⟨e0, e1, e2, e3⟩
            rw [e0, e1, e2, e3]
            show am_V X 0 0 _ _ ad (114, [(0, .ref 28), (1, .int (I 28 6))], [], (g_X3_endTest_38 I3 G3 ), G3, (gP rd))
            refine am_blk 114 [(.aload_n 0, 1, 0, 0, .null), (.bipush (28), 2, 0, 0, .int (28 : Int32))] (117, [(0, .ref 28), (1, .int (I 28 6))], [.int (28 : Int32), .ref 28], (g_X3_endTest_38 I3 G3 ), G3, (gP rd)) (True) hX hi (by decide +kernel) rfl trivial ?_
            refine am_callV hX hi (M := mX6_expect) (idx := 109) (d' := 3) (b := 28) (ci := 6) (As := [.int (28 : Int32)]) (rest := []) mkX6_expect miX6_expect mvX6_expect (by decide +kernel) (by decide +kernel) rfl (by decide +kernel) rfl ⟨by omega, by decide, Nat.le_of_ble_eq_true rfl⟩ rfl (c_X6_expect_28 _ (g_X3_endTest_38 I3 G3 ) G3 (28 : Int32)) ?_
            rintro r9 I9 G9 P9 ⟨e0, e1, e2, e3⟩
            rw [e0, e1, e2, e3]
            show am_V X 0 0 _ _ ad (120, [(0, .ref 28), (1, .int (I 28 6))], [], (g_X6_expect_28 (g_X3_endTest_38 I3 G3 ) G3 (28 : Int32)), G3, (gP rd))
            cases h
            refine am_vret hX hi rfl (by decide +kernel) ?_
            exact ⟨rfl, rfl, rfl, rfl⟩
        · rw [if_pos c44] at h
          refine am_blk 47 [(.aload_n 0, 1, 0, 0, .null)] (48, [(0, .ref 28), (1, .int (I 28 6))], [.ref 28], I, G, (gP rd)) (True) hX hi (by decide +kernel) rfl trivial ?_
          obtain ⟨r4, I4, G4, hc, h⟩ := rb_some h
          refine am_callV hX hi (M := mX6_readInk) (idx := 82) (d' := 4) (b := 28) (ci := 6) (As := []) (rest := []) mkX6_readInk miX6_readInk mvX6_readInk (by decide +kernel) (by decide +kernel) rfl (by decide +kernel) rfl ⟨by omega, by decide, Nat.le_of_ble_eq_true rfl⟩ rfl (c_X6_readInk_28 _ I G  hc) ?_
          rintro r9 I9 G9 P9 ⟨e0, e1, e2, e3⟩
          rw [e0, e1, e2, e3]
          show am_V X 0 0 _ _ ad (51, [(0, .ref 28), (1, .int (I 28 6))], [], I4, G4, (gP rd))
          refine am_blk 51 [(.goto (63), 3, 0, 114, .null), (.aload_n 0, 1, 0, 0, .null), (.bipush (28), 2, 0, 0, .int (28 : Int32))] (117, [(0, .ref 28), (1, .int (I 28 6))], [.int (28 : Int32), .ref 28], I4, G4, (gP rd)) (True) hX hi (by decide +kernel) rfl trivial ?_
          refine am_callV hX hi (M := mX6_expect) (idx := 109) (d' := 3) (b := 28) (ci := 6) (As := [.int (28 : Int32)]) (rest := []) mkX6_expect miX6_expect mvX6_expect (by decide +kernel) (by decide +kernel) rfl (by decide +kernel) rfl ⟨by omega, by decide, Nat.le_of_ble_eq_true rfl⟩ rfl (c_X6_expect_28 _ I4 G4 (28 : Int32)) ?_
          rintro r9 I9 G9 P9 ⟨e0, e1, e2, e3⟩
          rw [e0, e1, e2, e3]
          show am_V X 0 0 _ _ ad (120, [(0, .ref 28), (1, .int (I 28 6))], [], (g_X6_expect_28 I4 G4 (28 : Int32)), G4, (gP rd))
          cases h
          refine am_vret hX hi rfl (by decide +kernel) ?_
          exact ⟨rfl, rfl, rfl, rfl⟩
      · rw [if_pos c31] at h
        refine am_blk 34 [(.aload_n 0, 1, 0, 0, .null)] (35, [(0, .ref 28), (1, .int (I 28 6))], [.ref 28], I, G, (gP rd)) (True) hX hi (by decide +kernel) rfl trivial ?_
        obtain ⟨r5, I5, G5, hc, h⟩ := rb_some h
        refine am_callV hX hi (M := mX6_readComb) (idx := 79) (d' := 4) (b := 28) (ci := 6) (As := []) (rest := []) mkX6_readComb miX6_readComb mvX6_readComb (by decide +kernel) (by decide +kernel) rfl (by decide +kernel) rfl ⟨by omega, by decide, Nat.le_of_ble_eq_true rfl⟩ rfl (c_X6_readComb_28 _ I G  hc) ?_
        rintro r9 I9 G9 P9 ⟨e0, e1, e2, e3⟩
        rw [e0, e1, e2, e3]
        show am_V X 0 0 _ _ ad (38, [(0, .ref 28), (1, .int (I 28 6))], [], I5, G5, (gP rd))
        refine am_blk 38 [(.goto (76), 3, 0, 114, .null), (.aload_n 0, 1, 0, 0, .null), (.bipush (28), 2, 0, 0, .int (28 : Int32))] (117, [(0, .ref 28), (1, .int (I 28 6))], [.int (28 : Int32), .ref 28], I5, G5, (gP rd)) (True) hX hi (by decide +kernel) rfl trivial ?_
        refine am_callV hX hi (M := mX6_expect) (idx := 109) (d' := 3) (b := 28) (ci := 6) (As := [.int (28 : Int32)]) (rest := []) mkX6_expect miX6_expect mvX6_expect (by decide +kernel) (by decide +kernel) rfl (by decide +kernel) rfl ⟨by omega, by decide, Nat.le_of_ble_eq_true rfl⟩ rfl (c_X6_expect_28 _ I5 G5 (28 : Int32)) ?_
        rintro r9 I9 G9 P9 ⟨e0, e1, e2, e3⟩
        rw [e0, e1, e2, e3]
        show am_V X 0 0 _ _ ad (120, [(0, .ref 28), (1, .int (I 28 6))], [], (g_X6_expect_28 I5 G5 (28 : Int32)), G5, (gP rd))
        cases h
        refine am_vret hX hi rfl (by decide +kernel) ?_
        exact ⟨rfl, rfl, rfl, rfl⟩
    · rw [if_pos c18] at h
      refine am_blk 21 [(.aload_n 0, 1, 0, 0, .null)] (22, [(0, .ref 28), (1, .int (I 28 6))], [.ref 28], I, G, (gP rd)) (True) hX hi (by decide +kernel) rfl trivial ?_
      obtain ⟨r6, I6, G6, hc, h⟩ := rb_some h
      refine am_callV hX hi (M := mX6_readOctave) (idx := 76) (d' := 4) (b := 28) (ci := 6) (As := []) (rest := []) mkX6_readOctave miX6_readOctave mvX6_readOctave (by decide +kernel) (by decide +kernel) rfl (by decide +kernel) rfl ⟨by omega, by decide, Nat.le_of_ble_eq_true rfl⟩ rfl (c_X6_readOctave_28 _ I G  hc) ?_
      rintro r9 I9 G9 P9 ⟨e0, e1, e2, e3⟩
      rw [e0, e1, e2, e3]
      show am_V X 0 0 _ _ ad (25, [(0, .ref 28), (1, .int (I 28 6))], [], I6, G6, (gP rd))
      refine am_blk 25 [(.goto (89), 3, 0, 114, .null), (.aload_n 0, 1, 0, 0, .null), (.bipush (28), 2, 0, 0, .int (28 : Int32))] (117, [(0, .ref 28), (1, .int (I 28 6))], [.int (28 : Int32), .ref 28], I6, G6, (gP rd)) (True) hX hi (by decide +kernel) rfl trivial ?_
      refine am_callV hX hi (M := mX6_expect) (idx := 109) (d' := 3) (b := 28) (ci := 6) (As := [.int (28 : Int32)]) (rest := []) mkX6_expect miX6_expect mvX6_expect (by decide +kernel) (by decide +kernel) rfl (by decide +kernel) rfl ⟨by omega, by decide, Nat.le_of_ble_eq_true rfl⟩ rfl (c_X6_expect_28 _ I6 G6 (28 : Int32)) ?_
      rintro r9 I9 G9 P9 ⟨e0, e1, e2, e3⟩
      rw [e0, e1, e2, e3]
      show am_V X 0 0 _ _ ad (120, [(0, .ref 28), (1, .int (I 28 6))], [], (g_X6_expect_28 I6 G6 (28 : Int32)), G6, (gP rd))
      cases h
      refine am_vret hX hi rfl (by decide +kernel) ?_
      exact ⟨rfl, rfl, rfl, rfl⟩
  · rw [if_pos c6] at h
    refine am_blk 9 [(.aload_n 0, 1, 0, 0, .null)] (10, [(0, .ref 28), (1, .int (I 28 6))], [.ref 28], I, G, (gP rd)) (True) hX hi (by decide +kernel) rfl trivial ?_
    refine am_callV hX hi (M := mX6_readPaper) (idx := 73) (d' := 4) (b := 28) (ci := 6) (As := []) (rest := []) mkX6_readPaper miX6_readPaper mvX6_readPaper (by decide +kernel) (by decide +kernel) rfl (by decide +kernel) rfl ⟨by omega, by decide, Nat.le_of_ble_eq_true rfl⟩ rfl (c_X6_readPaper_28 _ I G ) ?_
    rintro r9 I9 G9 P9 ⟨e0, e1, e2, e3⟩
    rw [e0, e1, e2, e3]
    show am_V X 0 0 _ _ ad (13, [(0, .ref 28), (1, .int (I 28 6))], [], (g_X6_readPaper_28 I G ), G, (gP rd))
    refine am_blk 13 [(.goto (101), 3, 0, 114, .null), (.aload_n 0, 1, 0, 0, .null), (.bipush (28), 2, 0, 0, .int (28 : Int32))] (117, [(0, .ref 28), (1, .int (I 28 6))], [.int (28 : Int32), .ref 28], (g_X6_readPaper_28 I G ), G, (gP rd)) (True) hX hi (by decide +kernel) rfl trivial ?_
    refine am_callV hX hi (M := mX6_expect) (idx := 109) (d' := 3) (b := 28) (ci := 6) (As := [.int (28 : Int32)]) (rest := []) mkX6_expect miX6_expect mvX6_expect (by decide +kernel) (by decide +kernel) rfl (by decide +kernel) rfl ⟨by omega, by decide, Nat.le_of_ble_eq_true rfl⟩ rfl (c_X6_expect_28 _ (g_X6_readPaper_28 I G ) G (28 : Int32)) ?_
    rintro r9 I9 G9 P9 ⟨e0, e1, e2, e3⟩
    rw [e0, e1, e2, e3]
    show am_V X 0 0 _ _ ad (120, [(0, .ref 28), (1, .int (I 28 6))], [], (g_X6_expect_28 (g_X6_readPaper_28 I G ) G (28 : Int32)), G, (gP rd))
    cases h
    refine am_vret hX hi rfl (by decide +kernel) ?_
    exact ⟨rfl, rfl, rfl, rfl⟩
noncomputable def R_X7_begin_53 (I : am_I) (G : am_G)  : Option (Unit × am_I × am_G) := rb (R_X7_takePulls_53_14 (am_up (am_up (am_up (am_up I 53 10 (0 : Int32)) 53 11 (0 : Int32)) 53 12 (0 : Int32)) 53 13 (0 : Int32)) G ) (fun r1 I1 G1 => some ((), (g_X7_spoil_53 (am_cp I1 11 56 4) G1 ), G1))
set_option maxRecDepth 20000 in
set_option maxHeartbeats 4000000 in
theorem c_X7_begin_53 (rd : Nat) (I : am_I) (G : am_G)  {out : Unit × am_I × am_G} (h : R_X7_begin_53 I G  = some out) : am_Ct mX7_begin 5 gS [.ref 53] I G (gP rd) (pV out.2.1 out.2.2 (gP rd)) := by
  refine am_ofF (by decide +kernel) rfl (by decide) (by omega) (Nat.le_of_ble_eq_true rfl) (fun X ad hX hi => ?_)
  have hi : am_info X 7 cX7_begin 1 false none 5 := hi
  show am_V X 0 0 _ _ ad (0, [(0, .ref 53)], [], I, G, (gP rd))
  unfold R_X7_begin_53 at h
  refine am_blk 0 [(.aload_n 0, 1, 0, 0, .null), (.iconst (0), 1, 0, 0, .int (0 : Int32)), (.putfield 52, 3, 7, 10, .null), (.aload_n 0, 1, 0, 0, .null), (.iconst (0), 1, 0, 0, .int (0 : Int32)), (.putfield 56, 3, 7, 11, .null), (.aload_n 0, 1, 0, 0, .null), (.iconst (0), 1, 0, 0, .int (0 : Int32)), (.putfield 59, 3, 7, 12, .null), (.aload_n 0, 1, 0, 0, .null), (.iconst (0), 1, 0, 0, .int (0 : Int32)), (.putfield 62, 3, 7, 13, .null), (.aload_n 0, 1, 0, 0, .null), (.aload_n 0, 1, 0, 0, .null), (.getfield 44, 3, 7, 0, .null), (.getfield 65, 3, 5, 6, .null)] (28, [(0, .ref 53)], [.ref 14, .ref 53], (am_up (am_up (am_up (am_up I 53 10 (0 : Int32)) 53 11 (0 : Int32)) 53 12 (0 : Int32)) 53 13 (0 : Int32)), G, (gP rd)) (True) hX hi (by decide +kernel) rfl trivial ?_
  obtain ⟨r1, I1, G1, hc, h⟩ := rb_some h
  refine am_callV hX hi (M := mX7_takePulls) (idx := 68) (d' := 4) (b := 53) (ci := 7) (As := [.ref 14]) (rest := []) mkX7_takePulls miX7_takePulls mvX7_takePulls (by decide +kernel) (by decide +kernel) rfl (by decide +kernel) rfl ⟨by omega, by decide, Nat.le_of_ble_eq_true rfl⟩ rfl (c_X7_takePulls_53_14 _ (am_up (am_up (am_up (am_up I 53 10 (0 : Int32)) 53 11 (0 : Int32)) 53 12 (0 : Int32)) 53 13 (0 : Int32)) G  hc) ?_
  rintro r9 I9 G9 P9 ⟨e0, e1, e2, e3⟩
  rw [e0, e1, e2, e3]
  show am_V X 0 0 _ _ ad (31, [(0, .ref 53)], [], I1, G1, (gP rd))
  refine am_blk 31 [(.aload_n 0, 1, 0, 0, .null), (.getfield 44, 3, 7, 0, .null), (.getfield 72, 3, 5, 3, .null), (.aload_n 0, 1, 0, 0, .null), (.getfield 18, 3, 7, 4, .null)] (42, [(0, .ref 53)], [.ref 56, .ref 11], I1, G1, (gP rd)) (True) hX hi (by decide +kernel) rfl trivial ?_
  refine am_callS hX hi (M := mX0_copy) (idx := 73) (d' := 2) (As := [.ref 11, .ref 56]) (rest := []) mkX0_copy msX0_copy (by decide +kernel) (by decide +kernel) rfl ⟨by omega, by decide, Nat.le_of_ble_eq_true rfl⟩ rfl (c_copy rfl rfl (by decide)) ?_
  rintro r9 I9 G9 P9 ⟨e0, e1, e2, e3⟩
  rw [e0, e1, e2, e3]
  show am_V X 0 0 _ _ ad (45, [(0, .ref 53)], [], (am_cp I1 11 56 4), G1, (gP rd))
  refine am_blk 45 [(.aload_n 0, 1, 0, 0, .null)] (46, [(0, .ref 53)], [.ref 53], (am_cp I1 11 56 4), G1, (gP rd)) (True) hX hi (by decide +kernel) rfl trivial ?_
  refine am_callV hX hi (M := mX7_spoil) (idx := 79) (d' := 1) (b := 53) (ci := 7) (As := []) (rest := []) mkX7_spoil miX7_spoil mvX7_spoil (by decide +kernel) (by decide +kernel) rfl (by decide +kernel) rfl ⟨by omega, by decide, Nat.le_of_ble_eq_true rfl⟩ rfl (c_X7_spoil_53 _ (am_cp I1 11 56 4) G1 ) ?_
  rintro r9 I9 G9 P9 ⟨e0, e1, e2, e3⟩
  rw [e0, e1, e2, e3]
  show am_V X 0 0 _ _ ad (49, [(0, .ref 53)], [], (g_X7_spoil_53 (am_cp I1 11 56 4) G1 ), G1, (gP rd))
  cases h
  refine am_vret hX hi rfl (by decide +kernel) ?_
  exact ⟨rfl, rfl, rfl, rfl⟩
noncomputable def R_X7_take_66_53 (I : am_I) (G : am_G)  : Option (Unit × am_I × am_G) := rb (R_X7_takePulls_66_54 (am_up (am_up (am_up (am_up I 66 10 (I 53 10)) 66 11 (I 53 11)) 66 12 (I 53 12)) 66 13 (I 53 13)) G ) (fun r1 I1 G1 => some ((), (g_X7_spoil_66 (am_cp I1 56 69 4) G1 ), G1))
set_option maxRecDepth 20000 in
set_option maxHeartbeats 4000000 in
theorem c_X7_take_66_53 (rd : Nat) (I : am_I) (G : am_G)  {out : Unit × am_I × am_G} (h : R_X7_take_66_53 I G  = some out) : am_Ct mX7_take 5 gS [.ref 66, .ref 53] I G (gP rd) (pV out.2.1 out.2.2 (gP rd)) := by
  refine am_ofF (by decide +kernel) rfl (by decide) (by omega) (Nat.le_of_ble_eq_true rfl) (fun X ad hX hi => ?_)
  have hi : am_info X 7 cX7_take 2 false none 5 := hi
  show am_V X 0 0 _ _ ad (0, [(0, .ref 66), (1, .ref 53)], [], I, G, (gP rd))
  unfold R_X7_take_66_53 at h
  refine am_blk 0 [(.aload_n 0, 1, 0, 0, .null), (.aload_n 1, 1, 1, 0, .null), (.getfield 52, 3, 7, 10, .null), (.putfield 52, 3, 7, 10, .null), (.aload_n 0, 1, 0, 0, .null), (.aload_n 1, 1, 1, 0, .null), (.getfield 56, 3, 7, 11, .null), (.putfield 56, 3, 7, 11, .null), (.aload_n 0, 1, 0, 0, .null), (.aload_n 1, 1, 1, 0, .null), (.getfield 59, 3, 7, 12, .null), (.putfield 59, 3, 7, 12, .null), (.aload_n 0, 1, 0, 0, .null), (.aload_n 1, 1, 1, 0, .null), (.getfield 62, 3, 7, 13, .null), (.putfield 62, 3, 7, 13, .null), (.aload_n 0, 1, 0, 0, .null), (.aload_n 1, 1, 1, 0, .null), (.getfield 9, 3, 7, 2, .null)] (37, [(0, .ref 66), (1, .ref 53)], [.ref 54, .ref 66], (am_up (am_up (am_up (am_up I 66 10 (I 53 10)) 66 11 (I 53 11)) 66 12 (I 53 12)) 66 13 (I 53 13)), G, (gP rd)) (True) hX hi (by decide +kernel) rfl trivial ?_
  obtain ⟨r1, I1, G1, hc, h⟩ := rb_some h
  refine am_callV hX hi (M := mX7_takePulls) (idx := 68) (d' := 4) (b := 66) (ci := 7) (As := [.ref 54]) (rest := []) mkX7_takePulls miX7_takePulls mvX7_takePulls (by decide +kernel) (by decide +kernel) rfl (by decide +kernel) rfl ⟨by omega, by decide, Nat.le_of_ble_eq_true rfl⟩ rfl (c_X7_takePulls_66_54 _ (am_up (am_up (am_up (am_up I 66 10 (I 53 10)) 66 11 (I 53 11)) 66 12 (I 53 12)) 66 13 (I 53 13)) G  hc) ?_
  rintro r9 I9 G9 P9 ⟨e0, e1, e2, e3⟩
  rw [e0, e1, e2, e3]
  show am_V X 0 0 _ _ ad (40, [(0, .ref 66), (1, .ref 53)], [], I1, G1, (gP rd))
  refine am_blk 40 [(.aload_n 1, 1, 1, 0, .null), (.getfield 18, 3, 7, 4, .null), (.aload_n 0, 1, 0, 0, .null), (.getfield 18, 3, 7, 4, .null)] (48, [(0, .ref 66), (1, .ref 53)], [.ref 69, .ref 56], I1, G1, (gP rd)) (True) hX hi (by decide +kernel) rfl trivial ?_
  refine am_callS hX hi (M := mX0_copy) (idx := 73) (d' := 2) (As := [.ref 56, .ref 69]) (rest := []) mkX0_copy msX0_copy (by decide +kernel) (by decide +kernel) rfl ⟨by omega, by decide, Nat.le_of_ble_eq_true rfl⟩ rfl (c_copy rfl rfl (by decide)) ?_
  rintro r9 I9 G9 P9 ⟨e0, e1, e2, e3⟩
  rw [e0, e1, e2, e3]
  show am_V X 0 0 _ _ ad (51, [(0, .ref 66), (1, .ref 53)], [], (am_cp I1 56 69 4), G1, (gP rd))
  refine am_blk 51 [(.aload_n 0, 1, 0, 0, .null)] (52, [(0, .ref 66), (1, .ref 53)], [.ref 66], (am_cp I1 56 69 4), G1, (gP rd)) (True) hX hi (by decide +kernel) rfl trivial ?_
  refine am_callV hX hi (M := mX7_spoil) (idx := 79) (d' := 1) (b := 66) (ci := 7) (As := []) (rest := []) mkX7_spoil miX7_spoil mvX7_spoil (by decide +kernel) (by decide +kernel) rfl (by decide +kernel) rfl ⟨by omega, by decide, Nat.le_of_ble_eq_true rfl⟩ rfl (c_X7_spoil_66 _ (am_cp I1 56 69 4) G1 ) ?_
  rintro r9 I9 G9 P9 ⟨e0, e1, e2, e3⟩
  rw [e0, e1, e2, e3]
  show am_V X 0 0 _ _ ad (55, [(0, .ref 66), (1, .ref 53)], [], (g_X7_spoil_66 (am_cp I1 56 69 4) G1 ), G1, (gP rd))
  cases h
  refine am_vret hX hi rfl (by decide +kernel) ?_
  exact ⟨rfl, rfl, rfl, rfl⟩
noncomputable def L_X7_reckon_53 (n0 : Nat) (hd : Nat) (I : am_I) (G : am_G) (v1 : Int32) (v2 : Int32) (v3 : Int32) : Option (Int32 × am_I × am_G) := match n0 with
  | 0 => none
  | n + 1 => match hd with
    | _ => (if v2 ≤ v3 then some ((f_X8_pop_64 I G ), (g_X8_pop_64 I G ), G) else rb (R_X7_step_53 I G (gAt (I 23) 400 v3) (gAt (I 24) 400 v3)) (fun r101 I101 G101 => L_X7_reckon_53 n 0 I101 G101 v1 v2 (v3 + (1 : Int32))))
theorem L_X7_reckon_53_0 (n : Nat) (I : am_I) (G : am_G) (v1 : Int32) (v2 : Int32) (v3 : Int32) : L_X7_reckon_53 (n + 1) 0 I G v1 v2 v3 = (if v2 ≤ v3 then some ((f_X8_pop_64 I G ), (g_X8_pop_64 I G ), G) else rb (R_X7_step_53 I G (gAt (I 23) 400 v3) (gAt (I 24) 400 v3)) (fun r101 I101 G101 => L_X7_reckon_53 n 0 I101 G101 v1 v2 (v3 + (1 : Int32)))) := rfl
theorem L_X7_reckon_53_z (h : Nat) (I : am_I) (G : am_G) (v1 : Int32) (v2 : Int32) (v3 : Int32) : L_X7_reckon_53 0 h I G v1 v2 v3 = none := rfl
noncomputable def R_X7_reckon_53 (I : am_I) (G : am_G) (x1 : Int32) (x2 : Int32) : Option (Int32 × am_I × am_G) := L_X7_reckon_53 FU 0 (g_X8_clear_64 I G ) G x1 x2 x1
set_option maxRecDepth 20000 in
set_option maxHeartbeats 4000000 in
theorem l_X7_reckon_53 (rd : Nat) {X : am_X} {ad : Nat → Nat} (hX : am_okz X ad) (hi : am_info X 7 cX7_reckon 4 false (Option.some Jvm.ClassFile.FieldType.int) 5) (n : Nat) : (∀ (I : am_I) (G : am_G) (v1 : Int32) (v2 : Int32) (v3 : Int32) (out : Int32 × am_I × am_G), L_X7_reckon_53 n 0 I G v1 v2 v3 = some out → am_V X 0 0 (am_Rt X gS ad (pI out.1 out.2.1 out.2.2 (gP rd))) gS ad (9, [(0, .ref 53), (1, .int v1), (2, .int v2), (3, .int v3)], [], I, G, (gP rd))) := by
  induction n with
  | zero => exact fun I G v1 v2 v3 out h => by rw [L_X7_reckon_53_z] at h; cases h
  | succ n ih =>
    · intro I G v1 v2 v3 out h
      rw [L_X7_reckon_53_0] at h
      refine am_blk 9 [(.iload_n 3, 1, 3, 0, .null), (.iload_n 2, 1, 2, 0, .null)] (11, [(0, .ref 53), (1, .int v1), (2, .int v2), (3, .int v3)], [.int v2, .int v3], I, G, (gP rd)) (True) hX hi (by decide +kernel) rfl trivial ?_
      refine am_icmp_ge (tgt := 52) hX hi (off := (41)) (by decide +kernel) (by decide) (fun c11 => ?_) (fun c11 => ?_)
      · rw [if_pos c11] at h
        refine am_blk 52 [(.aload_n 0, 1, 0, 0, .null), (.getfield 40, 3, 7, 9, .null)] (56, [(0, .ref 53), (1, .int v1), (2, .int v2), (3, .int v3)], [.ref 64], I, G, (gP rd)) (True) hX hi (by decide +kernel) rfl trivial ?_
        refine am_callV hX hi (M := mX8_pop) (idx := 179) (d' := 1) (b := 64) (ci := 8) (As := []) (rest := []) mkX8_pop miX8_pop mvX8_pop (by decide +kernel) (by decide +kernel) rfl (by decide +kernel) rfl ⟨by omega, by decide, Nat.le_of_ble_eq_true rfl⟩ rfl (c_X8_pop_64 _ I G ) ?_
        rintro r9 I9 G9 P9 ⟨e0, e1, e2, e3⟩
        rw [e0, e1, e2, e3]
        show am_V X 0 0 _ _ ad (59, [(0, .ref 53), (1, .int v1), (2, .int v2), (3, .int v3)], [.int (f_X8_pop_64 I G )], (g_X8_pop_64 I G ), G, (gP rd))
        cases h
        refine am_iret hX hi rfl rfl (by decide +kernel) ?_
        exact ⟨rfl, rfl, rfl, rfl⟩
      · rw [if_neg c11] at h
        refine am_blk 14 [(.aload_n 0, 1, 0, 0, .null), (.aload_n 0, 1, 0, 0, .null), (.getfield 44, 3, 7, 0, .null), (.getfield 114, 3, 5, 8, .null), (.getfield 169, 3, 3, 6, .null), (.iload_n 3, 1, 3, 0, .null)] (26, [(0, .ref 53), (1, .int v1), (2, .int v2), (3, .int v3)], [.int v3, .ref 23, .ref 53], I, G, (gP rd)) (True) hX hi (by decide +kernel) rfl trivial ?_
        refine am_callS hX hi (M := mX0_at) (idx := 85) (d' := 1) (As := [.ref 23, .int v3]) (rest := [.ref 53]) mkX0_at msX0_at (by decide +kernel) (by decide +kernel) rfl ⟨by omega, by decide, Nat.le_of_ble_eq_true rfl⟩ rfl (c_at rfl (by decide) v3) ?_
        rintro r9 I9 G9 P9 ⟨e0, e1, e2, e3⟩
        rw [e0, e1, e2, e3]
        show am_V X 0 0 _ _ ad (29, [(0, .ref 53), (1, .int v1), (2, .int v2), (3, .int v3)], [.int (gAt (I 23) 400 v3), .ref 53], I, G, (gP rd))
        refine am_blk 29 [(.aload_n 0, 1, 0, 0, .null), (.getfield 44, 3, 7, 0, .null), (.getfield 114, 3, 5, 8, .null), (.getfield 172, 3, 3, 7, .null), (.iload_n 3, 1, 3, 0, .null)] (40, [(0, .ref 53), (1, .int v1), (2, .int v2), (3, .int v3)], [.int v3, .ref 24, .int (gAt (I 23) 400 v3), .ref 53], I, G, (gP rd)) (True) hX hi (by decide +kernel) rfl trivial ?_
        refine am_callS hX hi (M := mX0_at) (idx := 85) (d' := 1) (As := [.ref 24, .int v3]) (rest := [.int (gAt (I 23) 400 v3), .ref 53]) mkX0_at msX0_at (by decide +kernel) (by decide +kernel) rfl ⟨by omega, by decide, Nat.le_of_ble_eq_true rfl⟩ rfl (c_at rfl (by decide) v3) ?_
        rintro r9 I9 G9 P9 ⟨e0, e1, e2, e3⟩
        rw [e0, e1, e2, e3]
        show am_V X 0 0 _ _ ad (43, [(0, .ref 53), (1, .int v1), (2, .int v2), (3, .int v3)], [.int (gAt (I 24) 400 v3), .int (gAt (I 23) 400 v3), .ref 53], I, G, (gP rd))
        obtain ⟨r101, I101, G101, hc, h⟩ := rb_some h
        refine am_callV hX hi (M := mX7_step) (idx := 175) (d' := 4) (b := 53) (ci := 7) (As := [.int (gAt (I 23) 400 v3), .int (gAt (I 24) 400 v3)]) (rest := []) mkX7_step miX7_step mvX7_step (by decide +kernel) (by decide +kernel) rfl (by decide +kernel) rfl ⟨by omega, by decide, Nat.le_of_ble_eq_true rfl⟩ rfl (c_X7_step_53 _ I G (gAt (I 23) 400 v3) (gAt (I 24) 400 v3) hc) ?_
        rintro r9 I9 G9 P9 ⟨e0, e1, e2, e3⟩
        rw [e0, e1, e2, e3]
        show am_V X 0 0 _ _ ad (46, [(0, .ref 53), (1, .int v1), (2, .int v2), (3, .int v3)], [], I101, G101, (gP rd))
        refine am_blk 46 [(.iinc 3 (1), 3, 3, 0, .int (1 : Int32)), (.goto (-40), 3, 0, 9, .null)] (9, [(0, .ref 53), (1, .int v1), (2, .int v2), (3, .int (v3 + (1 : Int32)))], [], I101, G101, (gP rd)) (True) hX hi (by decide +kernel) rfl trivial ?_
        exact ih _ _ _ _ _ _ h
set_option maxRecDepth 20000 in
set_option maxHeartbeats 4000000 in
theorem c_X7_reckon_53 (rd : Nat) (I : am_I) (G : am_G) (x1 : Int32) (x2 : Int32) {out : Int32 × am_I × am_G} (h : R_X7_reckon_53 I G x1 x2 = some out) : am_Ct mX7_reckon 5 gS [.ref 53, .int x1, .int x2] I G (gP rd) (pI out.1 out.2.1 out.2.2 (gP rd)) := by
  refine am_ofF (by decide +kernel) rfl (by decide) (by omega) (Nat.le_of_ble_eq_true rfl) (fun X ad hX hi => ?_)
  have hi : am_info X 7 cX7_reckon 4 false (Option.some Jvm.ClassFile.FieldType.int) 5 := hi
  show am_V X 0 0 _ _ ad (0, [(0, .ref 53), (1, .int x1), (2, .int x2)], [], I, G, (gP rd))
  unfold R_X7_reckon_53 at h
  refine am_blk 0 [(.aload_n 0, 1, 0, 0, .null), (.getfield 40, 3, 7, 9, .null)] (4, [(0, .ref 53), (1, .int x1), (2, .int x2)], [.ref 64], I, G, (gP rd)) (True) hX hi (by decide +kernel) rfl trivial ?_
  refine am_callV hX hi (M := mX8_clear) (idx := 166) (d' := 1) (b := 64) (ci := 8) (As := []) (rest := []) mkX8_clear miX8_clear mvX8_clear (by decide +kernel) (by decide +kernel) rfl (by decide +kernel) rfl ⟨by omega, by decide, Nat.le_of_ble_eq_true rfl⟩ rfl (c_X8_clear_64 _ I G ) ?_
  rintro r9 I9 G9 P9 ⟨e0, e1, e2, e3⟩
  rw [e0, e1, e2, e3]
  show am_V X 0 0 _ _ ad (7, [(0, .ref 53), (1, .int x1), (2, .int x2)], [], (g_X8_clear_64 I G ), G, (gP rd))
  refine am_blk 7 [(.iload_n 1, 1, 1, 0, .null), (.istore_n 3, 1, 3, 0, .null)] (9, [(0, .ref 53), (1, .int x1), (2, .int x2), (3, .int x1)], [], (g_X8_clear_64 I G ), G, (gP rd)) (True) hX hi (by decide +kernel) rfl trivial ?_
  exact (l_X7_reckon_53 rd hX hi FU) _ _ _ _ _ _ h
