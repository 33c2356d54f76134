/-! list: its loop over combs -/
theorem tCmb_len (c : Nat → Int32) : ∀ i : Nat, (tCmb c i).length ≤ 30 + 70 * pNo c + 40 * i
  | 0 => tOct_len c (pNo c)
  | i + 1 => by
    have h := tCmb_len c i
    have h2 : (if pCmb c i 0 = 1 then w_135 else w_137).length ≤ 7 := by split <;> decide
    unfold tCmb
    simp only [List.length_append, wl_35, wl_48, wl_50, wl_52, wl_60, wl_62, wl_64, wl_66, wl_68, wl_70, wl_72, wl_74, wl_76, wl_78, wl_80, wl_82, wl_84, wl_104, wl_106, wl_108, wl_118, wl_120, wl_122, wl_124, wl_126, wl_128, wl_130, wl_135, wl_137, wl_139, wl_141, wl_143, wl_145, wl_147, wl_149, wl_151, wl_153, wl_155]
    have := dT_3 i; have := dT_3 (pCmb c i 1); have := dT_3 (pCmb c i 2)
    omega
section AMLC
variable {sh0 : List am_Sh} {I0 : am_I} {G : am_G} {P0 : am_P}
set_option maxHeartbeats 4000000 in
theorem l_cmb {X : am_X} {ad0 : Nat → Nat} {Q : State → Prop} {N : Nat} {xs : Nat → Int32} (hi : am_info X 15 cL_list 9 false (some (.object "MarbledPaperLaw$Sim")) 9) (hm : am_mem X 600 1500000) (hsc : am_scT X ad0 N xs) (hN : N ≤ 260) (h7 : 7 ≤ sh0.length) (h13 : sh0.length ≤ 13)
    (kk : ∀ (ad : Nat → Nat) (sh : List am_Sh) (I : am_I) (P : am_P) (m : Nat), am_okz X ad → (∀ j, j < 1 ∨ 1000 ≤ j → ad j = ad0 j) → gI sh0 I0 P0 3 4 3 (pCmb (lC N xs)) (pNc (lC N xs)) m (tCmb (lC N xs) (pNc (lC N xs))) sh I P → am_V X (90 + 20 * pNc (lC N xs)) (240000 + 60000 * pNc (lC N xs)) Q sh ad (405, [(0, .ref 5000), (1, .ref 0), (2, .ref 2), (3, .int (Int32.ofNat 0))], [], I, G, P)) :
    ∀ k i, i + k = pNc (lC N xs) → ∀ (ad : Nat → Nat) (sh : List am_Sh) (I : am_I) (P : am_P) (m : Nat), am_okz X ad → (∀ j, j < 1 ∨ 1000 ≤ j → ad j = ad0 j) → gI sh0 I0 P0 3 4 3 (pCmb (lC N xs)) i m (tCmb (lC N xs) i) sh I P → am_V X (90 + 20 * i) (240000 + 60000 * i) Q sh ad (269, [(0, .ref 5000), (1, .ref 0), (2, .ref 2), (3, .int (Int32.ofNat k))], [], I, G, P) := by
  have hno : pNo (lC N xs) ≤ 3 := by have := lbel_lt (lC N xs 1) (n := 3) (by decide); show 1 + _ ≤ 3; omega
  have hnc : pNc (lC N xs) ≤ 3 := Nat.lt_succ_iff.mp (lbel_lt (lC N xs 2) (n := 4) (by decide))
  intro k
  induction k with
  | zero =>
    intro i ho ad sh I P m hX ea hI
    obtain rfl : i = pNc (lC N xs) := by omega
    refine am_blk 269 [(.iload_n 3, 1, 3, 0, .null)] (270, [(0, .ref 5000), (1, .ref 0), (2, .ref 2), (3, .int (Int32.ofNat 0))], [.int (Int32.ofNat 0)], I, G, P) True hX hi (by decide +kernel) rfl trivial ?_
    refine am_if_le hX hi (off := 135) (tgt := 405) (by decide +kernel) (by decide) (fun _ => ?_) (fun c => absurd (by rw [i_le]; decide) c)
    exact kk _ _ _ _ _ hX ea hI
  | succ k ih =>
    intro i ho ad sh I P m hX ea hI
    have hlen : sh.length = sh0.length + 2 * i := hI.2.1
    have hR := hI.2.2.2.2.2.2.2.1
    refine am_blk 269 [(.iload_n 3, 1, 3, 0, .null)] (270, [(0, .ref 5000), (1, .ref 0), (2, .ref 2), (3, .int (Int32.ofNat (k + 1)))], [.int (Int32.ofNat (k + 1))], I, G, P) True hX hi (by decide +kernel) rfl trivial ?_
    refine am_if_le hX hi (off := 135) (tgt := 405) (by decide +kernel) (by decide) (fun c => absurd c (by rw [i_le, i_of _ (by omega), show (0 : Int32).toInt = 0 from rfl]; omega)) (fun _ => ?_)
    refine am_blk 273 [(.aload_n 0, 1, 0, 0, .null), (.iconst (2), 1, 0, 0, .int (2 : Int32))] (275, [(0, .ref 5000), (1, .ref 0), (2, .ref 2), (3, .int (Int32.ofNat (k + 1)))], [.int (2 : Int32), .ref 5000], I, G, P) True hX hi (by decide +kernel) rfl trivial ?_
    refine am_callSS hX hi (hsc.adr ((ea 5000 (by omega)))) (M := mL_cell) (idx := 87) (d' := 1) (As := [.ref 5000, .int 2]) (rest := []) mkL_cell msL_cell (by decide +kernel) (by decide +kernel) rfl ⟨by decide, by decide, Nat.le_of_ble_eq_true rfl⟩ rfl (c_cell 2 (by decide) hN) ?_
    rintro r9 I9 G9 P9 ⟨e0, e1, e2, e3⟩
    rw [e0, e1, e2, e3]
    show am_V X (90 + 20 * i) (240000 + 60000 * i) _ sh ad (278, [(0, .ref 5000), (1, .ref 0), (2, .ref 2), (3, .int (Int32.ofNat (k + 1)))], [.int (lC N xs 2)], I, G, P)
    refine am_blk 278 [(.iconst (3), 1, 0, 0, .int (3 : Int32)), (.iload_n 3, 1, 3, 0, .null), (.imul, 1, 0, 0, .null), (.ishr, 1, 0, 0, .null)] (282, [(0, .ref 5000), (1, .ref 0), (2, .ref 2), (3, .int (Int32.ofNat (k + 1)))], [.int ((lC N xs 2) >>> (((3 : Int32) * (Int32.ofNat (k + 1))) &&& 31))], I, G, P) True hX hi (by decide +kernel) rfl trivial ?_
    rw [show ((lC N xs 2) >>> (((3 : Int32) * (Int32.ofNat (k + 1))) &&& 31)) = (pCx (lC N xs) i) from by unfold pCx; rw [show pNc (lC N xs) - i = k + 1 by omega]]
    show am_V X (90 + 20 * i) (240000 + 60000 * i) _ sh ad (282, [(0, .ref 5000), (1, .ref 0), (2, .ref 2), (3, .int (Int32.ofNat (k + 1)))], [.int (pCx (lC N xs) i)], I, G, P)
    refine am_blk 282 [(.istore 4, 2, 4, 0, .null), (.iconst (3), 1, 0, 0, .int (3 : Int32))] (285, [(0, .ref 5000), (1, .ref 0), (2, .ref 2), (3, .int (Int32.ofNat (k + 1))), (4, .int (pCx (lC N xs) i))], [.int (3 : Int32)], I, G, P) True hX hi (by decide +kernel) rfl trivial ?_
    refine am_newS hX hi hm (N := 3) (by decide +kernel) (by decide +kernel) (by decide) rfl (by decide) ⟨by omega, by omega⟩ (by omega) hR (am_kqL_r (Or.inr (by decide)) (am_kqL_r (Or.inl (by omega)) (am_kqL_r (Or.inl (by omega)) (am_kqL_i (am_kqL_i am_kqL_n))))) am_kqS_n (fun ad1 ha1 hX1 => ?_)
    have ea1 : ∀ j, j < 1 ∨ 1000 ≤ j → ad1 j = ad0 j := fun j hj => (ha1 j (by omega)).trans (ea j hj)
    show am_V X (90 + 20 * i + 1) (240000 + 60000 * i + 3) _ (sh ++ [.inr (0, 3)]) ad1 (287, [(0, .ref 5000), (1, .ref 0), (2, .ref 2), (3, .int (Int32.ofNat (k + 1))), (4, .int (pCx (lC N xs) i))], [.ref sh.length], (am_row I sh.length (fun _ => 0)), G, P)
    have lq := len_a (sh := sh) (x := (.inr (0, 3) : am_Sh))
    refine am_blk 287 [(.dup, 1, 0, 0, .null), (.iconst (0), 1, 0, 0, .int (0 : Int32)), (.iload 4, 2, 4, 0, .null), (.iconst (2), 1, 0, 0, .int (2 : Int32))] (292, [(0, .ref 5000), (1, .ref 0), (2, .ref 2), (3, .int (Int32.ofNat (k + 1))), (4, .int (pCx (lC N xs) i))], [.int (2 : Int32), .int (pCx (lC N xs) i), .int (0 : Int32), .ref sh.length, .ref sh.length], (am_row I sh.length (fun _ => 0)), G, P) True hX1 hi (by decide +kernel) rfl trivial ?_
    refine am_callS2 hX1 hi (M := mL_below) (idx := 93) (d' := 1) (As := [.int (pCx (lC N xs) i), .int 2]) (rest := [.int (0 : Int32), .ref sh.length, .ref sh.length]) mkL_below msL_below (by decide +kernel) (by decide +kernel) rfl ⟨by decide, by decide, Nat.le_of_ble_eq_true rfl⟩ rfl (c_below _ _ (by decide)) ?_
    rintro r9 I9 G9 P9 ⟨e0, e1, e2, e3⟩
    rw [e0, e1, e2, e3, show lw_b (pCx (lC N xs) i) (2 : Int32) = Int32.ofNat (lbel (pCx (lC N xs) i) 2) from lw_b_n _ (by decide) (by decide)]
    show am_V X (90 + 20 * i + 1) (240000 + 60000 * i + 3) _ (sh ++ [.inr (0, 3)]) ad1 (295, [(0, .ref 5000), (1, .ref 0), (2, .ref 2), (3, .int (Int32.ofNat (k + 1))), (4, .int (pCx (lC N xs) i))], [.int (Int32.ofNat (lbel (pCx (lC N xs) i) 2)), .int (0 : Int32), .ref sh.length, .ref sh.length], (am_row I sh.length (fun _ => 0)), G, P)
    rw [show (Int32.ofNat (lbel (pCx (lC N xs) i) 2)) = (Int32.ofNat (pCmb (lC N xs) i 0)) from rfl]
    show am_V X (90 + 20 * i + 1) (240000 + 60000 * i + 3) _ (sh ++ [.inr (0, 3)]) ad1 (295, [(0, .ref 5000), (1, .ref 0), (2, .ref 2), (3, .int (Int32.ofNat (k + 1))), (4, .int (pCx (lC N xs) i))], [.int (Int32.ofNat (pCmb (lC N xs) i 0)), .int (0 : Int32), .ref sh.length, .ref sh.length], (am_row I sh.length (fun _ => 0)), G, P)
    refine am_iasS hX1 hi (I' := am_row I sh.length (r_up (fun _ => 0) 0 (Int32.ofNat (pCmb (lC N xs) i 0)))) am_at_end ((i_in _ _).mpr (by decide)) (am_row_up _ _ _ _ _) (by decide +kernel) ?_
    show am_V X (90 + 20 * i + 1) (240000 + 60000 * i + 3) _ (sh ++ [.inr (0, 3)]) ad1 (296, [(0, .ref 5000), (1, .ref 0), (2, .ref 2), (3, .int (Int32.ofNat (k + 1))), (4, .int (pCx (lC N xs) i))], [.ref sh.length], (am_row I sh.length (r_up (fun _ => 0) 0 (Int32.ofNat (pCmb (lC N xs) i 0)))), G, P)
    refine am_blk 296 [(.dup, 1, 0, 0, .null), (.iconst (1), 1, 0, 0, .int (1 : Int32)), (.iconst (1), 1, 0, 0, .int (1 : Int32)), (.iload 4, 2, 4, 0, .null), (.iconst (2), 1, 0, 0, .int (2 : Int32)), (.ishr, 1, 0, 0, .null), (.bipush (8), 2, 0, 0, .int (8 : Int32))] (305, [(0, .ref 5000), (1, .ref 0), (2, .ref 2), (3, .int (Int32.ofNat (k + 1))), (4, .int (pCx (lC N xs) i))], [.int (8 : Int32), .int ((pCx (lC N xs) i) >>> ((2 : Int32) &&& 31)), .int (1 : Int32), .int (1 : Int32), .ref sh.length, .ref sh.length], (am_row I sh.length (r_up (fun _ => 0) 0 (Int32.ofNat (pCmb (lC N xs) i 0)))), G, P) True hX1 hi (by decide +kernel) rfl trivial ?_
    refine am_callS2 hX1 hi (M := mL_below) (idx := 93) (d' := 1) (As := [.int ((pCx (lC N xs) i) >>> ((2 : Int32) &&& 31)), .int 8]) (rest := [.int (1 : Int32), .int (1 : Int32), .ref sh.length, .ref sh.length]) mkL_below msL_below (by decide +kernel) (by decide +kernel) rfl ⟨by decide, by decide, Nat.le_of_ble_eq_true rfl⟩ rfl (c_below _ _ (by decide)) ?_
    rintro r9 I9 G9 P9 ⟨e0, e1, e2, e3⟩
    rw [e0, e1, e2, e3, show lw_b ((pCx (lC N xs) i) >>> ((2 : Int32) &&& 31)) (8 : Int32) = Int32.ofNat (lbel ((pCx (lC N xs) i) >>> ((2 : Int32) &&& 31)) 8) from lw_b_n _ (by decide) (by decide)]
    show am_V X (90 + 20 * i + 1) (240000 + 60000 * i + 3) _ (sh ++ [.inr (0, 3)]) ad1 (308, [(0, .ref 5000), (1, .ref 0), (2, .ref 2), (3, .int (Int32.ofNat (k + 1))), (4, .int (pCx (lC N xs) i))], [.int (Int32.ofNat (lbel ((pCx (lC N xs) i) >>> ((2 : Int32) &&& 31)) 8)), .int (1 : Int32), .int (1 : Int32), .ref sh.length, .ref sh.length], (am_row I sh.length (r_up (fun _ => 0) 0 (Int32.ofNat (pCmb (lC N xs) i 0)))), G, P)
    refine am_blk 308 [(.iadd, 1, 0, 0, .null)] (309, [(0, .ref 5000), (1, .ref 0), (2, .ref 2), (3, .int (Int32.ofNat (k + 1))), (4, .int (pCx (lC N xs) i))], [.int ((1 : Int32) + (Int32.ofNat (lbel ((pCx (lC N xs) i) >>> ((2 : Int32) &&& 31)) 8))), .int (1 : Int32), .ref sh.length, .ref sh.length], (am_row I sh.length (r_up (fun _ => 0) 0 (Int32.ofNat (pCmb (lC N xs) i 0)))), G, P) True hX1 hi (by decide +kernel) rfl trivial ?_
    rw [show ((1 : Int32) + (Int32.ofNat (lbel ((pCx (lC N xs) i) >>> ((2 : Int32) &&& 31)) 8))) = (Int32.ofNat (pCmb (lC N xs) i 1)) from nI_add 1 _]
    show am_V X (90 + 20 * i + 1) (240000 + 60000 * i + 3) _ (sh ++ [.inr (0, 3)]) ad1 (309, [(0, .ref 5000), (1, .ref 0), (2, .ref 2), (3, .int (Int32.ofNat (k + 1))), (4, .int (pCx (lC N xs) i))], [.int (Int32.ofNat (pCmb (lC N xs) i 1)), .int (1 : Int32), .ref sh.length, .ref sh.length], (am_row I sh.length (r_up (fun _ => 0) 0 (Int32.ofNat (pCmb (lC N xs) i 0)))), G, P)
    refine am_iasS hX1 hi (I' := am_row I sh.length (r_up (r_up (fun _ => 0) 0 (Int32.ofNat (pCmb (lC N xs) i 0))) 1 (Int32.ofNat (pCmb (lC N xs) i 1)))) am_at_end ((i_in _ _).mpr (by decide)) (am_row_up _ _ _ _ _) (by decide +kernel) ?_
    show am_V X (90 + 20 * i + 1) (240000 + 60000 * i + 3) _ (sh ++ [.inr (0, 3)]) ad1 (310, [(0, .ref 5000), (1, .ref 0), (2, .ref 2), (3, .int (Int32.ofNat (k + 1))), (4, .int (pCx (lC N xs) i))], [.ref sh.length], (am_row I sh.length (r_up (r_up (fun _ => 0) 0 (Int32.ofNat (pCmb (lC N xs) i 0))) 1 (Int32.ofNat (pCmb (lC N xs) i 1)))), G, P)
    refine am_blk 310 [(.dup, 1, 0, 0, .null), (.iconst (2), 1, 0, 0, .int (2 : Int32)), (.iload 4, 2, 4, 0, .null), (.iconst (5), 1, 0, 0, .int (5 : Int32)), (.ishr, 1, 0, 0, .null), (.bipush (17), 2, 0, 0, .int (17 : Int32))] (318, [(0, .ref 5000), (1, .ref 0), (2, .ref 2), (3, .int (Int32.ofNat (k + 1))), (4, .int (pCx (lC N xs) i))], [.int (17 : Int32), .int ((pCx (lC N xs) i) >>> ((5 : Int32) &&& 31)), .int (2 : Int32), .ref sh.length, .ref sh.length], (am_row I sh.length (r_up (r_up (fun _ => 0) 0 (Int32.ofNat (pCmb (lC N xs) i 0))) 1 (Int32.ofNat (pCmb (lC N xs) i 1)))), G, P) True hX1 hi (by decide +kernel) rfl trivial ?_
    refine am_callS2 hX1 hi (M := mL_below) (idx := 93) (d' := 1) (As := [.int ((pCx (lC N xs) i) >>> ((5 : Int32) &&& 31)), .int 17]) (rest := [.int (2 : Int32), .ref sh.length, .ref sh.length]) mkL_below msL_below (by decide +kernel) (by decide +kernel) rfl ⟨by decide, by decide, Nat.le_of_ble_eq_true rfl⟩ rfl (c_below _ _ (by decide)) ?_
    rintro r9 I9 G9 P9 ⟨e0, e1, e2, e3⟩
    rw [e0, e1, e2, e3, show lw_b ((pCx (lC N xs) i) >>> ((5 : Int32) &&& 31)) (17 : Int32) = Int32.ofNat (lbel ((pCx (lC N xs) i) >>> ((5 : Int32) &&& 31)) 17) from lw_b_n _ (by decide) (by decide)]
    show am_V X (90 + 20 * i + 1) (240000 + 60000 * i + 3) _ (sh ++ [.inr (0, 3)]) ad1 (321, [(0, .ref 5000), (1, .ref 0), (2, .ref 2), (3, .int (Int32.ofNat (k + 1))), (4, .int (pCx (lC N xs) i))], [.int (Int32.ofNat (lbel ((pCx (lC N xs) i) >>> ((5 : Int32) &&& 31)) 17)), .int (2 : Int32), .ref sh.length, .ref sh.length], (am_row I sh.length (r_up (r_up (fun _ => 0) 0 (Int32.ofNat (pCmb (lC N xs) i 0))) 1 (Int32.ofNat (pCmb (lC N xs) i 1)))), G, P)
    rw [show (Int32.ofNat (lbel ((pCx (lC N xs) i) >>> ((5 : Int32) &&& 31)) 17)) = (Int32.ofNat (pCmb (lC N xs) i 2)) from rfl]
    show am_V X (90 + 20 * i + 1) (240000 + 60000 * i + 3) _ (sh ++ [.inr (0, 3)]) ad1 (321, [(0, .ref 5000), (1, .ref 0), (2, .ref 2), (3, .int (Int32.ofNat (k + 1))), (4, .int (pCx (lC N xs) i))], [.int (Int32.ofNat (pCmb (lC N xs) i 2)), .int (2 : Int32), .ref sh.length, .ref sh.length], (am_row I sh.length (r_up (r_up (fun _ => 0) 0 (Int32.ofNat (pCmb (lC N xs) i 0))) 1 (Int32.ofNat (pCmb (lC N xs) i 1)))), G, P)
    refine am_iasS hX1 hi (I' := am_row I sh.length (r_up (r_up (r_up (fun _ => 0) 0 (Int32.ofNat (pCmb (lC N xs) i 0))) 1 (Int32.ofNat (pCmb (lC N xs) i 1))) 2 (Int32.ofNat (pCmb (lC N xs) i 2)))) am_at_end ((i_in _ _).mpr (by decide)) (am_row_up _ _ _ _ _) (by decide +kernel) ?_
    show am_V X (90 + 20 * i + 1) (240000 + 60000 * i + 3) _ (sh ++ [.inr (0, 3)]) ad1 (322, [(0, .ref 5000), (1, .ref 0), (2, .ref 2), (3, .int (Int32.ofNat (k + 1))), (4, .int (pCx (lC N xs) i))], [.ref sh.length], (am_row I sh.length (r_up (r_up (r_up (fun _ => 0) 0 (Int32.ofNat (pCmb (lC N xs) i 0))) 1 (Int32.ofNat (pCmb (lC N xs) i 1))) 2 (Int32.ofNat (pCmb (lC N xs) i 2)))), G, P)
    refine am_blk 322 [(.astore 5, 2, 5, 0, .null), (.aload_n 1, 1, 1, 0, .null)] (325, [(0, .ref 5000), (1, .ref 0), (2, .ref 2), (3, .int (Int32.ofNat (k + 1))), (4, .int (pCx (lC N xs) i)), (5, .ref sh.length)], [.ref 0], (am_row I sh.length (r_up (r_up (r_up (fun _ => 0) 0 (Int32.ofNat (pCmb (lC N xs) i 0))) 1 (Int32.ofNat (pCmb (lC N xs) i 1))) 2 (Int32.ofNat (pCmb (lC N xs) i 2)))), G, P) True hX1 hi (by decide +kernel) rfl trivial ?_
    have hJ := hI.own (w := 3) (V := pCmb (lC N xs)) (f := (r_up (r_up (r_up (fun _ => 0) 0 (Int32.ofNat (pCmb (lC N xs) i 0))) 1 (Int32.ofNat (pCmb (lC N xs) i 1))) 2 (Int32.ofNat (pCmb (lC N xs) i 2)))) (by omega) (fun j hj => by match j, hj with | 0, _ => rfl | 1, _ => rfl | 2, _ => rfl)
    generalize hsh2 : sh ++ [(.inr (0, 3) : am_Sh)] = sh2 at *
    generalize hI2 : am_row I sh.length (r_up (r_up (r_up (fun _ => 0) 0 (Int32.ofNat (pCmb (lC N xs) i 0))) 1 (Int32.ofNat (pCmb (lC N xs) i 1))) 2 (Int32.ofNat (pCmb (lC N xs) i 2))) = I2 at *
    have hJ9 := hJ
    obtain ⟨J1, J2, J3, J4, J5, J6, J7, J8, J9⟩ := hJ
    obtain ⟨W1, -, W3⟩ := J6 i (by omega)
    rw [← hlen] at W1 W3
    have hF0 : aF sh2 I2 sh2 I2 := aF.rf
    have htl := tCmb_len (lC N xs) i
    have q0 := dT_3 i
    have q1 := dT_3 (pCmb (lC N xs) i 1)
    have q2 := dT_3 (pCmb (lC N xs) i 2)
    have n0 : pCmb (lC N xs) i 0 < 2 := lbel_lt _ (by decide)
    have n1 : pCmb (lC N xs) i 1 < 1000 := by have := lbel_lt (pCx (lC N xs) i >>> ((2 : Int32) &&& 31)) (n := 8) (by decide); show 1 + _ < 1000; omega
    have n2 : pCmb (lC N xs) i 2 < 1000 := by have := lbel_lt (pCx (lC N xs) i >>> ((5 : Int32) &&& 31)) (n := 17) (by decide); show _ < 1000; exact Nat.lt_trans this (by decide)
    show am_V X (90 + 20 * i + 1) (240000 + 60000 * i + 3) _ sh2 ad1 (325, [(0, .ref 5000), (1, .ref 0), (2, .ref 2), (3, .int (Int32.ofNat (k + 1))), (4, .int (pCx (lC N xs) i)), (5, .ref sh.length)], [.ref 0], I2, G, P)
    refine am_ldcS hX1 hi (i := 20) (idx := 130) rfl rfl rfl (by decide +kernel) ?_
    refine ap_Sm hX1 hi hm (idx := 37) (by decide +kernel) (by decide +kernel) (by decide) rfl (Nat.le_of_ble_eq_true rfl) ⟨by omega, by omega⟩ hF0 J7 x_130 (by simp only [List.length_append, wl_35, wl_48, wl_50, wl_52, wl_60, wl_62, wl_64, wl_66, wl_68, wl_70, wl_72, wl_74, wl_76, wl_78, wl_80, wl_82, wl_84, wl_104, wl_106, wl_108, wl_118, wl_120, wl_122, wl_124, wl_126, wl_128, wl_130, wl_135, wl_137, wl_139, wl_141, wl_143, wl_145, wl_147, wl_149, wl_151, wl_153, wl_155]; omega) (by omega) J8 J9 (am_kqL_r (Or.inr (by decide)) (am_kqL_r (Or.inl (by omega)) (am_kqL_r (Or.inl (by omega)) (am_kqL_i (am_kqL_i (am_kqL_r (Or.inl (by omega)) am_kqL_n)))))) am_kqS_n (am_nqL_r (by omega) (am_nqL_r (by omega) (am_nqL_r (by omega) (am_nqL_i (am_nqL_i (am_nqL_r (by omega) am_nqL_n)))))) am_nqS_n (fun ad6 m6 sh6 I6 ha6 hX6 hF6 hB6 hR6 hV6 => ?_)
    have l6 : sh6.length = sh2.length := hF6.1.trans rfl
    have ea6 : ∀ j, j < 1 ∨ 1000 ≤ j → ad6 j = ad0 j := fun j hj => (ha6 j (by omega) (by omega)).trans (ea1 j hj)
    show am_V X (90 + 20 * i + 2) (240000 + 60000 * i + 4099) _ sh6 ad6 (330, [(0, .ref 5000), (1, .ref 0), (2, .ref 2), (3, .int (Int32.ofNat (k + 1))), (4, .int (pCx (lC N xs) i)), (5, .ref sh.length)], [.ref 0], I6, G, P)
    refine am_blk 330 [(.aload_n 2, 1, 2, 0, .null)] (331, [(0, .ref 5000), (1, .ref 0), (2, .ref 2), (3, .int (Int32.ofNat (k + 1))), (4, .int (pCx (lC N xs) i)), (5, .ref sh.length)], [.ref 2, .ref 0], I6, G, P) True hX6 hi (by decide +kernel) rfl trivial ?_
    refine am_gfP hX6 hi (c := 12) (b := 3) (idx := 132) ((hF6.2.1 2 (by decide)).trans J3) rfl (by decide +kernel) J5 (by decide +kernel) ?_
    have hgn : gN sh0.length 4 i ≠ 1 := by unfold gN; split <;> omega
    refine am_lenS hX6 hi ((hF6.2.1 _ hgn).trans J4) (by decide +kernel) ?_
    show am_V X (90 + 20 * i + 2) (240000 + 60000 * i + 4099) _ sh6 ad6 (335, [(0, .ref 5000), (1, .ref 0), (2, .ref 2), (3, .int (Int32.ofNat (k + 1))), (4, .int (pCx (lC N xs) i)), (5, .ref sh.length)], [.int (Int32.ofNat i), .ref 0], I6, G, P)
    refine ap_Nm (x := i) hX6 hi hm (idx := 41) (by decide +kernel) (by decide +kernel) (by decide) (rfl) rfl (Nat.le_of_ble_eq_true rfl) ⟨by omega, by omega⟩ hF6 hB6 (by omega) (by simp only [List.length_append, wl_35, wl_48, wl_50, wl_52, wl_60, wl_62, wl_64, wl_66, wl_68, wl_70, wl_72, wl_74, wl_76, wl_78, wl_80, wl_82, wl_84, wl_104, wl_106, wl_108, wl_118, wl_120, wl_122, wl_124, wl_126, wl_128, wl_130, wl_135, wl_137, wl_139, wl_141, wl_143, wl_145, wl_147, wl_149, wl_151, wl_153, wl_155]; omega) (by omega) hR6 hV6 (am_kqL_r (Or.inr (by decide)) (am_kqL_r (Or.inl (by omega)) (am_kqL_r (Or.inl (by omega)) (am_kqL_i (am_kqL_i (am_kqL_r (Or.inl (by omega)) am_kqL_n)))))) am_kqS_n (am_nqL_r (by omega) (am_nqL_r (by omega) (am_nqL_r (by omega) (am_nqL_i (am_nqL_i (am_nqL_r (by omega) am_nqL_n)))))) am_nqS_n (fun ad7 m7 sh7 I7 ha7 hX7 hF7 hB7 hR7 hV7 => ?_)
    have l7 : sh7.length = sh2.length := hF7.1.trans rfl
    have ea7 : ∀ j, j < 1 ∨ 1000 ≤ j → ad7 j = ad0 j := fun j hj => (ha7 j (by omega) (by omega)).trans (ea6 j hj)
    show am_V X (90 + 20 * i + 3) (240000 + 60000 * i + 8195) _ sh7 ad7 (338, [(0, .ref 5000), (1, .ref 0), (2, .ref 2), (3, .int (Int32.ofNat (k + 1))), (4, .int (pCx (lC N xs) i)), (5, .ref sh.length)], [.ref 0], I7, G, P)
    refine am_blk 338 [(.aload 5, 2, 5, 0, .null), (.iconst (0), 1, 0, 0, .int (0 : Int32))] (341, [(0, .ref 5000), (1, .ref 0), (2, .ref 2), (3, .int (Int32.ofNat (k + 1))), (4, .int (pCx (lC N xs) i)), (5, .ref sh.length)], [.int (0 : Int32), .ref sh.length, .ref 0], I7, G, P) True hX7 hi (by decide +kernel) rfl trivial ?_
    refine am_iaS hX7 hi (v := (Int32.ofNat (pCmb (lC N xs) i 0))) ((hF7.2.1 _ (by omega)).trans W1) ((i_in _ _).mpr (by decide)) (by rw [hF7.2.2 _ (by omega) (by omega)]; exact W3 0 (by decide)) (by decide +kernel) ?_
    refine am_blk 342 [(.iconst (1), 1, 0, 0, .int (1 : Int32))] (343, [(0, .ref 5000), (1, .ref 0), (2, .ref 2), (3, .int (Int32.ofNat (k + 1))), (4, .int (pCx (lC N xs) i)), (5, .ref sh.length)], [.int (1 : Int32), .int (Int32.ofNat (pCmb (lC N xs) i 0)), .ref 0], I7, G, P) True hX7 hi (by decide +kernel) rfl trivial ?_
    have hor : (pCmb (lC N xs) i 0 = 1 ∧ (if pCmb (lC N xs) i 0 = 1 then w_135 else w_137) = w_135) ∨ (¬ pCmb (lC N xs) i 0 = 1 ∧ (if pCmb (lC N xs) i 0 = 1 then w_135 else w_137) = w_137) := by by_cases h9 : pCmb (lC N xs) i 0 = 1 <;> simp [h9]
    suffices hsf : ∀ q : Nat, xS sh7 I7 P (2000 + q) (3000 + q) (if pCmb (lC N xs) i 0 = 1 then w_135 else w_137) → am_V X (90 + 20 * i + 3) (240000 + 60000 * i + 8195) Q sh7 ad7 (353, [(0, .ref 5000), (1, .ref 0), (2, .ref 2), (3, .int (Int32.ofNat (k + 1))), (4, .int (pCx (lC N xs) i)), (5, .ref sh.length)], [.ref (2000 + q), .ref 0], I7, G, P) by
      rcases hor with ⟨h9, h8⟩ | ⟨h9, h8⟩
      · refine am_icmp_ne hX7 hi (off := 8) (tgt := 351) (by decide +kernel) (by decide) (fun c => absurd ((n_eq (a := pCmb (lC N xs) i 0) (b := 1) (by omega) (by decide)).mpr h9) c) (fun _ => ?_)
        refine am_ldcS hX7 hi (i := 21) (idx := 135) rfl rfl rfl (by decide +kernel) ?_
        refine am_blk 348 [(.goto (5), 3, 0, 353, .null)] (353, [(0, .ref 5000), (1, .ref 0), (2, .ref 2), (3, .int (Int32.ofNat (k + 1))), (4, .int (pCx (lC N xs) i)), (5, .ref sh.length)], [.ref (2000 + 21), .ref 0], I7, G, P) True hX7 hi (by decide +kernel) rfl trivial ?_
        exact hsf 21 (by rw [h8]; exact x_135)
      · refine am_icmp_ne hX7 hi (off := 8) (tgt := 351) (by decide +kernel) (by decide) (fun _ => ?_) (fun c => absurd c (fun e => h9 ((n_eq (a := pCmb (lC N xs) i 0) (b := 1) (by omega) (by decide)).mp e)))
        refine am_ldcS hX7 hi (i := 22) (idx := 137) rfl rfl rfl (by decide +kernel) ?_
        exact hsf 22 (by rw [h8]; exact x_137)
    intro q hq
    have h7 : (if pCmb (lC N xs) i 0 = 1 then w_135 else w_137).length ≤ 7 := by split <;> decide
    generalize hS7 : (if pCmb (lC N xs) i 0 = 1 then w_135 else w_137) = S7 at *
    refine ap_Sm hX7 hi hm (idx := 37) (by decide +kernel) (by decide +kernel) (by decide) rfl (Nat.le_of_ble_eq_true rfl) ⟨by omega, by omega⟩ hF7 hB7 hq (by simp only [List.length_append, wl_35, wl_48, wl_50, wl_52, wl_60, wl_62, wl_64, wl_66, wl_68, wl_70, wl_72, wl_74, wl_76, wl_78, wl_80, wl_82, wl_84, wl_104, wl_106, wl_108, wl_118, wl_120, wl_122, wl_124, wl_126, wl_128, wl_130, wl_135, wl_137, wl_139, wl_141, wl_143, wl_145, wl_147, wl_149, wl_151, wl_153, wl_155]; omega) (by omega) hR7 hV7 (am_kqL_r (Or.inr (by decide)) (am_kqL_r (Or.inl (by omega)) (am_kqL_r (Or.inl (by omega)) (am_kqL_i (am_kqL_i (am_kqL_r (Or.inl (by omega)) am_kqL_n)))))) am_kqS_n (am_nqL_r (by omega) (am_nqL_r (by omega) (am_nqL_r (by omega) (am_nqL_i (am_nqL_i (am_nqL_r (by omega) am_nqL_n)))))) am_nqS_n (fun ad8 m8 sh8 I8 ha8 hX8 hF8 hB8 hR8 hV8 => ?_)
    have l8 : sh8.length = sh2.length := hF8.1.trans rfl
    have ea8 : ∀ j, j < 1 ∨ 1000 ≤ j → ad8 j = ad0 j := fun j hj => (ha8 j (by omega) (by omega)).trans (ea7 j hj)
    show am_V X (90 + 20 * i + 4) (240000 + 60000 * i + 12291) _ sh8 ad8 (356, [(0, .ref 5000), (1, .ref 0), (2, .ref 2), (3, .int (Int32.ofNat (k + 1))), (4, .int (pCx (lC N xs) i)), (5, .ref sh.length)], [.ref 0], I8, G, P)
    refine am_ldcS hX8 hi (i := 23) (idx := 139) rfl rfl rfl (by decide +kernel) ?_
    refine ap_Sm hX8 hi hm (idx := 37) (by decide +kernel) (by decide +kernel) (by decide) rfl (Nat.le_of_ble_eq_true rfl) ⟨by omega, by omega⟩ hF8 hB8 x_139 (by simp only [List.length_append, wl_35, wl_48, wl_50, wl_52, wl_60, wl_62, wl_64, wl_66, wl_68, wl_70, wl_72, wl_74, wl_76, wl_78, wl_80, wl_82, wl_84, wl_104, wl_106, wl_108, wl_118, wl_120, wl_122, wl_124, wl_126, wl_128, wl_130, wl_135, wl_137, wl_139, wl_141, wl_143, wl_145, wl_147, wl_149, wl_151, wl_153, wl_155]; omega) (by omega) hR8 hV8 (am_kqL_r (Or.inr (by decide)) (am_kqL_r (Or.inl (by omega)) (am_kqL_r (Or.inl (by omega)) (am_kqL_i (am_kqL_i (am_kqL_r (Or.inl (by omega)) am_kqL_n)))))) am_kqS_n (am_nqL_r (by omega) (am_nqL_r (by omega) (am_nqL_r (by omega) (am_nqL_i (am_nqL_i (am_nqL_r (by omega) am_nqL_n)))))) am_nqS_n (fun ad9 m9 sh9 I9 ha9 hX9 hF9 hB9 hR9 hV9 => ?_)
    have l9 : sh9.length = sh2.length := hF9.1.trans rfl
    have ea9 : ∀ j, j < 1 ∨ 1000 ≤ j → ad9 j = ad0 j := fun j hj => (ha9 j (by omega) (by omega)).trans (ea8 j hj)
    show am_V X (90 + 20 * i + 5) (240000 + 60000 * i + 16387) _ sh9 ad9 (361, [(0, .ref 5000), (1, .ref 0), (2, .ref 2), (3, .int (Int32.ofNat (k + 1))), (4, .int (pCx (lC N xs) i)), (5, .ref sh.length)], [.ref 0], I9, G, P)
    refine am_blk 361 [(.aload 5, 2, 5, 0, .null), (.iconst (1), 1, 0, 0, .int (1 : Int32))] (364, [(0, .ref 5000), (1, .ref 0), (2, .ref 2), (3, .int (Int32.ofNat (k + 1))), (4, .int (pCx (lC N xs) i)), (5, .ref sh.length)], [.int (1 : Int32), .ref sh.length, .ref 0], I9, G, P) True hX9 hi (by decide +kernel) rfl trivial ?_
    refine am_iaS hX9 hi (v := (Int32.ofNat (pCmb (lC N xs) i 1))) ((hF9.2.1 _ (by omega)).trans W1) ((i_in _ _).mpr (by decide)) (by rw [hF9.2.2 _ (by omega) (by omega)]; exact W3 1 (by decide)) (by decide +kernel) ?_
    refine ap_Nm (x := (pCmb (lC N xs) i 1)) hX9 hi hm (idx := 41) (by decide +kernel) (by decide +kernel) (by decide) (rfl) rfl (Nat.le_of_ble_eq_true rfl) ⟨by omega, by omega⟩ hF9 hB9 (by omega) (by simp only [List.length_append, wl_35, wl_48, wl_50, wl_52, wl_60, wl_62, wl_64, wl_66, wl_68, wl_70, wl_72, wl_74, wl_76, wl_78, wl_80, wl_82, wl_84, wl_104, wl_106, wl_108, wl_118, wl_120, wl_122, wl_124, wl_126, wl_128, wl_130, wl_135, wl_137, wl_139, wl_141, wl_143, wl_145, wl_147, wl_149, wl_151, wl_153, wl_155]; omega) (by omega) hR9 hV9 (am_kqL_r (Or.inr (by decide)) (am_kqL_r (Or.inl (by omega)) (am_kqL_r (Or.inl (by omega)) (am_kqL_i (am_kqL_i (am_kqL_r (Or.inl (by omega)) am_kqL_n)))))) am_kqS_n (am_nqL_r (by omega) (am_nqL_r (by omega) (am_nqL_r (by omega) (am_nqL_i (am_nqL_i (am_nqL_r (by omega) am_nqL_n)))))) am_nqS_n (fun ad10 m10 sh10 I10 ha10 hX10 hF10 hB10 hR10 hV10 => ?_)
    have l10 : sh10.length = sh2.length := hF10.1.trans rfl
    have ea10 : ∀ j, j < 1 ∨ 1000 ≤ j → ad10 j = ad0 j := fun j hj => (ha10 j (by omega) (by omega)).trans (ea9 j hj)
    show am_V X (90 + 20 * i + 6) (240000 + 60000 * i + 20483) _ sh10 ad10 (368, [(0, .ref 5000), (1, .ref 0), (2, .ref 2), (3, .int (Int32.ofNat (k + 1))), (4, .int (pCx (lC N xs) i)), (5, .ref sh.length)], [.ref 0], I10, G, P)
    refine am_ldcS hX10 hi (i := 24) (idx := 141) rfl rfl rfl (by decide +kernel) ?_
    refine ap_Sm hX10 hi hm (idx := 37) (by decide +kernel) (by decide +kernel) (by decide) rfl (Nat.le_of_ble_eq_true rfl) ⟨by omega, by omega⟩ hF10 hB10 x_141 (by simp only [List.length_append, wl_35, wl_48, wl_50, wl_52, wl_60, wl_62, wl_64, wl_66, wl_68, wl_70, wl_72, wl_74, wl_76, wl_78, wl_80, wl_82, wl_84, wl_104, wl_106, wl_108, wl_118, wl_120, wl_122, wl_124, wl_126, wl_128, wl_130, wl_135, wl_137, wl_139, wl_141, wl_143, wl_145, wl_147, wl_149, wl_151, wl_153, wl_155]; omega) (by omega) hR10 hV10 (am_kqL_r (Or.inr (by decide)) (am_kqL_r (Or.inl (by omega)) (am_kqL_r (Or.inl (by omega)) (am_kqL_i (am_kqL_i (am_kqL_r (Or.inl (by omega)) am_kqL_n)))))) am_kqS_n (am_nqL_r (by omega) (am_nqL_r (by omega) (am_nqL_r (by omega) (am_nqL_i (am_nqL_i (am_nqL_r (by omega) am_nqL_n)))))) am_nqS_n (fun ad11 m11 sh11 I11 ha11 hX11 hF11 hB11 hR11 hV11 => ?_)
    have l11 : sh11.length = sh2.length := hF11.1.trans rfl
    have ea11 : ∀ j, j < 1 ∨ 1000 ≤ j → ad11 j = ad0 j := fun j hj => (ha11 j (by omega) (by omega)).trans (ea10 j hj)
    show am_V X (90 + 20 * i + 7) (240000 + 60000 * i + 24579) _ sh11 ad11 (373, [(0, .ref 5000), (1, .ref 0), (2, .ref 2), (3, .int (Int32.ofNat (k + 1))), (4, .int (pCx (lC N xs) i)), (5, .ref sh.length)], [.ref 0], I11, G, P)
    refine am_blk 373 [(.aload 5, 2, 5, 0, .null), (.iconst (2), 1, 0, 0, .int (2 : Int32))] (376, [(0, .ref 5000), (1, .ref 0), (2, .ref 2), (3, .int (Int32.ofNat (k + 1))), (4, .int (pCx (lC N xs) i)), (5, .ref sh.length)], [.int (2 : Int32), .ref sh.length, .ref 0], I11, G, P) True hX11 hi (by decide +kernel) rfl trivial ?_
    refine am_iaS hX11 hi (v := (Int32.ofNat (pCmb (lC N xs) i 2))) ((hF11.2.1 _ (by omega)).trans W1) ((i_in _ _).mpr (by decide)) (by rw [hF11.2.2 _ (by omega) (by omega)]; exact W3 2 (by decide)) (by decide +kernel) ?_
    refine ap_Nm (x := (pCmb (lC N xs) i 2)) hX11 hi hm (idx := 41) (by decide +kernel) (by decide +kernel) (by decide) (rfl) rfl (Nat.le_of_ble_eq_true rfl) ⟨by omega, by omega⟩ hF11 hB11 (by omega) (by simp only [List.length_append, wl_35, wl_48, wl_50, wl_52, wl_60, wl_62, wl_64, wl_66, wl_68, wl_70, wl_72, wl_74, wl_76, wl_78, wl_80, wl_82, wl_84, wl_104, wl_106, wl_108, wl_118, wl_120, wl_122, wl_124, wl_126, wl_128, wl_130, wl_135, wl_137, wl_139, wl_141, wl_143, wl_145, wl_147, wl_149, wl_151, wl_153, wl_155]; omega) (by omega) hR11 hV11 (am_kqL_r (Or.inr (by decide)) (am_kqL_r (Or.inl (by omega)) (am_kqL_r (Or.inl (by omega)) (am_kqL_i (am_kqL_i (am_kqL_r (Or.inl (by omega)) am_kqL_n)))))) am_kqS_n (am_nqL_r (by omega) (am_nqL_r (by omega) (am_nqL_r (by omega) (am_nqL_i (am_nqL_i (am_nqL_r (by omega) am_nqL_n)))))) am_nqS_n (fun ad12 m12 sh12 I12 ha12 hX12 hF12 hB12 hR12 hV12 => ?_)
    have l12 : sh12.length = sh2.length := hF12.1.trans rfl
    have ea12 : ∀ j, j < 1 ∨ 1000 ≤ j → ad12 j = ad0 j := fun j hj => (ha12 j (by omega) (by omega)).trans (ea11 j hj)
    show am_V X (90 + 20 * i + 8) (240000 + 60000 * i + 28675) _ sh12 ad12 (380, [(0, .ref 5000), (1, .ref 0), (2, .ref 2), (3, .int (Int32.ofNat (k + 1))), (4, .int (pCx (lC N xs) i)), (5, .ref sh.length)], [.ref 0], I12, G, P)
    refine am_ldcS hX12 hi (i := 13) (idx := 108) rfl rfl rfl (by decide +kernel) ?_
    refine ap_Sm hX12 hi hm (idx := 37) (by decide +kernel) (by decide +kernel) (by decide) rfl (Nat.le_of_ble_eq_true rfl) ⟨by omega, by omega⟩ hF12 hB12 x_108 (by simp only [List.length_append, wl_35, wl_48, wl_50, wl_52, wl_60, wl_62, wl_64, wl_66, wl_68, wl_70, wl_72, wl_74, wl_76, wl_78, wl_80, wl_82, wl_84, wl_104, wl_106, wl_108, wl_118, wl_120, wl_122, wl_124, wl_126, wl_128, wl_130, wl_135, wl_137, wl_139, wl_141, wl_143, wl_145, wl_147, wl_149, wl_151, wl_153, wl_155]; omega) (by omega) hR12 hV12 (am_kqL_r (Or.inr (by decide)) (am_kqL_r (Or.inl (by omega)) (am_kqL_r (Or.inl (by omega)) (am_kqL_i (am_kqL_i (am_kqL_r (Or.inl (by omega)) am_kqL_n)))))) am_kqS_n (am_nqL_r (by omega) (am_nqL_r (by omega) (am_nqL_r (by omega) (am_nqL_i (am_nqL_i (am_nqL_r (by omega) am_nqL_n)))))) am_nqS_n (fun ad13 m13 sh13 I13 ha13 hX13 hF13 hB13 hR13 hV13 => ?_)
    have l13 : sh13.length = sh2.length := hF13.1.trans rfl
    have ea13 : ∀ j, j < 1 ∨ 1000 ≤ j → ad13 j = ad0 j := fun j hj => (ha13 j (by omega) (by omega)).trans (ea12 j hj)
    show am_V X (90 + 20 * i + 9) (240000 + 60000 * i + 32771) _ sh13 ad13 (385, [(0, .ref 5000), (1, .ref 0), (2, .ref 2), (3, .int (Int32.ofNat (k + 1))), (4, .int (pCx (lC N xs) i)), (5, .ref sh.length)], [.ref 0], I13, G, P)
    refine am_blk 385 [(.pop, 1, 0, 0, .null)] (386, [(0, .ref 5000), (1, .ref 0), (2, .ref 2), (3, .int (Int32.ofNat (k + 1))), (4, .int (pCx (lC N xs) i)), (5, .ref sh.length)], [], I13, G, P) True hX13 hi (by decide +kernel) rfl trivial ?_
    have hE := hJ9.app (by omega) (by decide) hF13 hB13 hR13 hV13
    have hE9 := hE
    obtain ⟨E1, E2, E3, E4, E5, E6, E7, E8, E9⟩ := hE
    refine am_blk 386 [(.aload_n 2, 1, 2, 0, .null), (.aload_n 2, 1, 2, 0, .null)] (388, [(0, .ref 5000), (1, .ref 0), (2, .ref 2), (3, .int (Int32.ofNat (k + 1))), (4, .int (pCx (lC N xs) i)), (5, .ref sh.length)], [.ref 2, .ref 2], I13, G, P) True hX13 hi (by decide +kernel) rfl trivial ?_
    refine am_gfP hX13 hi (c := 12) (b := 3) (idx := 132) E3 rfl (by decide +kernel) E5 (by decide +kernel) ?_
    refine am_blk 391 [(.aload 5, 2, 5, 0, .null)] (393, [(0, .ref 5000), (1, .ref 0), (2, .ref 2), (3, .int (Int32.ofNat (k + 1))), (4, .int (pCx (lC N xs) i)), (5, .ref sh.length)], [.ref sh.length, .ref (gN sh0.length 4 i), .ref 2], I13, G, P) True hX13 hi (by decide +kernel) rfl trivial ?_
    refine am_callSA hX13 hi hm (M := mX12_with) (idx := 114) (d' := 1) (As := [.ref (gN sh0.length 4 i), .ref sh.length]) (rest := [.ref 2]) mkX12_with msX12_with (by decide +kernel) (by decide +kernel) rfl ⟨by decide, by decide, Nat.le_of_ble_eq_true rfl⟩ rfl ⟨by omega, by omega⟩ (am_kqL_r (Or.inr (by decide)) (am_kqL_r (Or.inl (by omega)) (am_kqL_r (Or.inl (by omega)) (am_kqL_i (am_kqL_i (am_kqL_r (Or.inl (by omega)) am_kqL_n)))))) (am_kqS_r (Or.inl (by omega)) am_kqS_n) (k_with E4 (by rw [hlen]; exact (E6 i (by omega)).1) (by omega) (fun k hk => ⟨_, _, (E6 k (by omega)).2.1 hk, (E6 k (by omega)).1⟩) (by omega) E8) ?_
    rintro r9 sh9 ad99 I13 G P9 ⟨rfl, rfl, rfl, rfl, rfl⟩ ha99 hX99
    have ea99 : ∀ j, j < 1 ∨ 1000 ≤ j → ad99 j = ad0 j := fun j hj => (ha99 j (by omega)).trans (ea13 j hj)
    refine am_pfP hX99 hi (c := 12) (b := 3) (idx := 132) (am_at_app E3) rfl (by decide +kernel) rfl (by decide +kernel) ?_
    have hK := hE9.next (w9 := fun j => if j = i then .ref sh.length else if j < i then P (gN sh0.length 4 i) j else .null) (by omega) ⟨by omega, by decide⟩ ⟨by decide, by decide⟩ (fun j => by rw [← hlen])
    refine am_blk 399 [(.iinc 3 (-1), 3, 3, 0, .int (-1 : Int32)), (.goto (-133), 3, 0, 269, .null)] (269, [(0, .ref 5000), (1, .ref 0), (2, .ref 2), (3, .int (Int32.ofNat (k + 1) + (-1 : Int32))), (4, .int (pCx (lC N xs) i)), (5, .ref sh.length)], [], I13, G, _) True hX99 hi (by decide +kernel) rfl trivial ?_
    rw [show Int32.ofNat (k + 1) + (-1 : Int32) = Int32.ofNat k from n_decm]
    refine am_sub (L' := [(0, .ref 5000), (1, .ref 0), (2, .ref 2), (3, .int (Int32.ofNat k))]) (fun q hq => by simp at hq ⊢; rcases hq with h | h | h | h <;> simp [h]) ?_
    refine am_wid hm (cells' := 90 + 20 * (i + 1)) (slots' := 240000 + 60000 * (i + 1)) ⟨by omega, by omega⟩ ⟨by omega, by omega⟩ ?_
    have eT : tCmb (lC N xs) (i + 1) = ((((((((tCmb (lC N xs) i ++ w_130) ++ dT i) ++ S7) ++ w_139) ++ dT (pCmb (lC N xs) i 1)) ++ w_141) ++ dT (pCmb (lC N xs) i 2)) ++ w_108) := by rw [← hS7]; rfl
    rw [← eT] at hK
    exact ih (i + 1) (by omega) _ _ _ _ _ hX99 ea99 hK
end AMLC
