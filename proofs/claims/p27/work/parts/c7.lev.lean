/-! list: its loop over levels -/
def lI (sh0 : List am_Sh) (I0 : am_I) (P0 : am_P) (n : Nat) (V : Nat → Nat) (k m : Nat) (T : List Nat) (sh : List am_Sh) (I : am_I) (P : am_P) : Prop :=
  gF sh0 I0 P0 4 sh I P ∧ sh.length = sh0.length + 1 ∧ sh[2]? = some (.inl 12) ∧ sh[sh0.length]? = some (.inr (0, n)) ∧ P 2 4 = .ref sh0.length ∧
  (∀ j, j < k → I sh0.length j = Int32.ofNat (V j)) ∧ sB sh I P 0 1 m T ∧ lR sh.length sh P ∧ lV 1 0 sh P
section AMLL0
variable {sh0 sh sh1 : List am_Sh} {I0 I I1 : am_I} {P0 P : am_P} {n k m m1 : Nat} {V : Nat → Nat} {T T1 : List Nat}
theorem sB.row {v : Nat} {f : Nat → Int32} (h : sB sh I P 0 1 m T) (hv : v ≠ 0 ∧ v ≠ 1) : sB sh (am_row I v f) P 0 1 m T := by
  obtain ⟨s1, s2, s3, s4, s5, s6, s7, s8, s9, s10⟩ := h
  exact ⟨s1, s2, s3, by rw [am_row_ne _ _ (Ne.symm hv.1)]; exact s4, by rw [am_row_ne _ _ (Ne.symm hv.1)]; exact s5, s6, s7, s8, by rw [am_row_ne _ _ (Ne.symm hv.2)]; exact s9, by rw [am_row_ne _ _ (Ne.symm hv.2)]; exact s10⟩
theorem lI.start (h7 : 7 ≤ sh0.length) (h2 : sh0[2]? = some (.inl 12)) (hB : sB sh0 I0 P0 0 1 m T) (hR : lR sh0.length sh0 P0) (hV : lV 1 0 sh0 P0) : lI sh0 I0 P0 n V 0 m T (sh0 ++ [.inr (0, n)]) (am_row I0 sh0.length (fun _ => 0)) (am_up P0 2 4 (.ref sh0.length)) := by
  have hB2 := hB.row (v := sh0.length) (f := fun _ => 0) ⟨by omega, by omega⟩
  obtain ⟨s1, s2, s3, s4, s5, s6, s7, s8, s9, s10⟩ := hB2
  have hr : lR (sh0.length + 1) (sh0 ++ [.inr (0, n)]) P0 := (hR.le (by omega)).row (by decide)
  refine ⟨⟨fun q hq h1 => List.getElem?_append_left hq, fun q hq h0 h1 => am_row_ne _ _ (by omega), fun q hq h9 => am_up_rowb _ _ _ h9, fun j hj => am_up_k _ _ hj⟩, len_a, am_at_app h2, am_at_end, am_up_self _ _ _ _, fun j hj => absurd hj (Nat.not_lt_zero _), ⟨am_at_app s1, am_at_app s2, by rw [am_up_rowb _ _ _ (by decide)]; exact s3, s4, s5, s6, s7, s8, s9, s10⟩, ?_, ?_⟩
  · rw [len_a]; exact hr.upo (c := 0) (by omega)
  · refine ⟨fun b c j h3 h4 h5 => ?_, fun b q j h3 h4 => ?_⟩
    · rcases am_snoc_at h3 with h6 | ⟨-, h6⟩
      · by_cases e : b = 2
        · subst e
          by_cases e2 : j = 4
          · subst e2; rw [am_up_self]; exact ref_ne (by omega)
          · rw [am_up_k _ _ e2]; exact hV.1 2 c j h6 h4 h5
        · rw [am_up_rowb _ _ _ e]; exact hV.1 b c j h6 h4 h5
      · cases h6
    · rcases am_snoc_at h3 with h6 | ⟨-, h6⟩
      · have e : b ≠ 2 := fun e => by subst e; rw [h2] at h6; cases h6
        rw [am_up_rowb _ _ _ e]; exact hV.2 b q j h6 h4
      · cases h6
theorem lI.put (h : lI sh0 I0 P0 n V k m T sh I P) (h7 : 7 ≤ sh0.length) : lI sh0 I0 P0 n V (k + 1) m T sh (am_up I sh0.length k (Int32.ofNat (V k))) P := by
  obtain ⟨⟨a1, a2, a3, a4⟩, b1, b2, b3, b4, b5, b6, b7, b8⟩ := h
  obtain ⟨s1, s2, s3, s4, s5, s6, s7, s8, s9, s10⟩ := b6
  refine ⟨⟨a1, fun q hq h0 h1 => ?_, a3, a4⟩, b1, b2, b3, b4, fun j hj => ?_, ⟨s1, s2, s3, by rw [am_up_rowb _ _ _ (by omega)]; exact s4, by rw [am_up_rowb _ _ _ (by omega)]; exact s5, s6, s7, s8, by rw [am_up_rowb _ _ _ (by omega)]; exact s9, by rw [am_up_rowb _ _ _ (by omega)]; exact s10⟩, b7, b8⟩
  · rw [am_up_rowb _ _ _ (by omega)]; exact a2 q hq h0 h1
  · by_cases e : j = k
    · subst e; exact am_up_self _ _ _ _
    · rw [am_up_k _ _ e]; exact b5 j (by omega)
theorem lI.app (h : lI sh0 I0 P0 n V k m T sh I P) (h7 : 7 ≤ sh0.length) (hF : aF sh I sh1 I1) (hB : sB sh1 I1 P 0 1 m1 T1) (hR : lR sh1.length sh1 P) (hV : lV 1 0 sh1 P) : lI sh0 I0 P0 n V k m1 T1 sh1 I1 P := by
  obtain ⟨a1, b1, b2, b3, b4, b5, -, -, -⟩ := h
  exact ⟨a1.app hF, hF.1.trans b1, (hF.2.1 2 (by decide)).trans b2, (hF.2.1 _ (by omega)).trans b3, b4, fun j hj => by rw [hF.2.2 _ (by omega) (by omega)]; exact b5 j hj, hB, hR, hV⟩
end AMLL0
theorem pLev_lt (c : Nat → Int32) : ∀ k, pLev c k < 470 + 70 * k
  | 0 => by have := lbel_lt (c 3 >>> ((3 : Int32) &&& 31)) (n := 120) (by decide); show 350 + _ < _; omega
  | k + 1 => by
    have := pLev_lt c k
    have h2 := lbel_lt (c 3 >>> (((4 : Int32) + Int32.ofNat k) &&& 31)) (n := 70) (by decide)
    show pLev c k + (1 + _) < _
    omega
theorem tLev_len (c : Nat → Int32) : ∀ i : Nat, (tLev c i).length ≤ 30 + 70 * pNo c + 40 * pNc c + 20 * i
  | 0 => tCmb_len c (pNc c)
  | i + 1 => by
    have h := tLev_len c i
    unfold tLev
    simp only [List.length_append, wl_35, wl_48, wl_50, wl_52, wl_60, wl_62, wl_64, wl_66, wl_68, wl_70, wl_72, wl_74, wl_76, wl_78, wl_80, wl_82, wl_84, wl_104, wl_106, wl_108, wl_118, wl_120, wl_122, wl_124, wl_126, wl_128, wl_130, wl_135, wl_137, wl_139, wl_141, wl_143, wl_145, wl_147, wl_149, wl_151, wl_153, wl_155]
    have := dT_3 i; have := dT_3 (pLev c i)
    omega
section AMLL
variable {sh0 : List am_Sh} {I0 : am_I} {G : am_G} {P0 : am_P}
set_option maxHeartbeats 4000000 in
theorem l_lev {X : am_X} {ad0 : Nat → Nat} {Q : State → Prop} {N : Nat} {xs : Nat → Int32} (hi : am_info X 15 cL_list 9 false (some (.object "MarbledPaperLaw$Sim")) 9) (hm : am_mem X 600 1500000) (hsc : am_scT X ad0 N xs) (hN : N ≤ 260) (h7 : 7 ≤ sh0.length) (h13 : sh0.length ≤ 19)
    (kk : ∀ (ad : Nat → Nat) (sh : List am_Sh) (I : am_I) (P : am_P) (m : Nat), am_okz X ad → (∀ j, j < 1 ∨ 1000 ≤ j → ad j = ad0 j) → lI sh0 I0 P0 (pNi (lC N xs)) (pLev (lC N xs)) (pNi (lC N xs)) m (tLev (lC N xs) (pNi (lC N xs))) sh I P → am_V X (151 + 10 * pNi (lC N xs)) (420004 + 30000 * pNi (lC N xs)) Q sh ad (515, [(0, .ref 5000), (1, .ref 0), (2, .ref 2), (3, .int (Int32.ofNat (pNi (lC N xs)))), (4, .int (Int32.ofNat (pLev (lC N xs) (pNi (lC N xs))))), (5, .int (Int32.ofNat (pNi (lC N xs))))], [], I, G, P)) :
    ∀ i k, k + i = pNi (lC N xs) → ∀ (ad : Nat → Nat) (sh : List am_Sh) (I : am_I) (P : am_P) (m : Nat), am_okz X ad → (∀ j, j < 1 ∨ 1000 ≤ j → ad j = ad0 j) → lI sh0 I0 P0 (pNi (lC N xs)) (pLev (lC N xs)) k m (tLev (lC N xs) k) sh I P → am_V X (151 + 10 * k) (420004 + 30000 * k) Q sh ad (445, [(0, .ref 5000), (1, .ref 0), (2, .ref 2), (3, .int (Int32.ofNat (pNi (lC N xs)))), (4, .int (Int32.ofNat (pLev (lC N xs) k))), (5, .int (Int32.ofNat k))], [], I, G, P) := by
  have hno : pNo (lC N xs) ≤ 3 := by have := lbel_lt (lC N xs 1) (n := 3) (by decide); show 1 + _ ≤ 3; omega
  have hnc : pNc (lC N xs) ≤ 3 := Nat.lt_succ_iff.mp (lbel_lt (lC N xs 2) (n := 4) (by decide))
  have hni : pNi (lC N xs) ≤ 4 := by have := lbel_lt (lC N xs 3) (n := 4) (by decide); show 1 + _ ≤ 4; omega
  intro i
  induction i with
  | zero =>
    intro k ho ad sh I P m hX ea hI
    obtain rfl : k = pNi (lC N xs) := by omega
    refine am_blk 445 [(.iload 5, 2, 5, 0, .null), (.iload_n 3, 1, 3, 0, .null)] (448, [(0, .ref 5000), (1, .ref 0), (2, .ref 2), (3, .int (Int32.ofNat (pNi (lC N xs)))), (4, .int (Int32.ofNat (pLev (lC N xs) (pNi (lC N xs))))), (5, .int (Int32.ofNat (pNi (lC N xs))))], [.int (Int32.ofNat (pNi (lC N xs))), .int (Int32.ofNat (pNi (lC N xs)))], I, G, P) True hX hi (by decide +kernel) rfl trivial ?_
    refine am_icmp_ge hX hi (off := 67) (tgt := 515) (by decide +kernel) (by decide) (fun _ => ?_) (fun c => absurd (by rw [i_le]; omega) c)
    exact kk _ _ _ _ _ hX ea hI
  | succ i ih =>
    intro k ho ad sh I P m hX ea hI
    have hI9 := hI
    obtain ⟨B1, B2, B3, B4, B5, B6, B7, B8, B9⟩ := hI9
    have hlen := B2
    refine am_blk 445 [(.iload 5, 2, 5, 0, .null), (.iload_n 3, 1, 3, 0, .null)] (448, [(0, .ref 5000), (1, .ref 0), (2, .ref 2), (3, .int (Int32.ofNat (pNi (lC N xs)))), (4, .int (Int32.ofNat (pLev (lC N xs) k))), (5, .int (Int32.ofNat k))], [.int (Int32.ofNat (pNi (lC N xs))), .int (Int32.ofNat k)], I, G, P) True hX hi (by decide +kernel) rfl trivial ?_
    refine am_icmp_ge hX hi (off := 67) (tgt := 515) (by decide +kernel) (by decide) (fun c => absurd c (by rw [i_le, i_of _ (by omega), i_of _ (by omega)]; omega)) (fun _ => ?_)
    refine am_blk 451 [(.aload_n 2, 1, 2, 0, .null)] (452, [(0, .ref 5000), (1, .ref 0), (2, .ref 2), (3, .int (Int32.ofNat (pNi (lC N xs)))), (4, .int (Int32.ofNat (pLev (lC N xs) k))), (5, .int (Int32.ofNat k))], [.ref 2], I, G, P) True hX hi (by decide +kernel) rfl trivial ?_
    refine am_gfP hX hi (c := 12) (b := 4) (idx := 54) B3 rfl (by decide +kernel) B5 (by decide +kernel) ?_
    refine am_blk 455 [(.iload 5, 2, 5, 0, .null), (.iload 4, 2, 4, 0, .null)] (459, [(0, .ref 5000), (1, .ref 0), (2, .ref 2), (3, .int (Int32.ofNat (pNi (lC N xs)))), (4, .int (Int32.ofNat (pLev (lC N xs) k))), (5, .int (Int32.ofNat k))], [.int (Int32.ofNat (pLev (lC N xs) k)), .int (Int32.ofNat k), .ref sh0.length], I, G, P) True hX hi (by decide +kernel) rfl trivial ?_
    refine am_iasS hX hi (I' := am_up I sh0.length k (Int32.ofNat (pLev (lC N xs) k))) B4 ((i_in _ _).mpr (by rw [i_of _ (by omega)]; omega)) (by rw [n_cl (by omega)]) (by decide +kernel) ?_
    have hP := hI.put h7
    generalize hI2 : am_up I sh0.length k (Int32.ofNat (pLev (lC N xs) k)) = I2 at *
    have hP9 := hP
    obtain ⟨C1, C2, C3, C4, C5, C6, C7, C8, C9⟩ := hP
    have hF0 : aF sh I2 sh I2 := aF.rf
    have htl := tLev_len (lC N xs) k
    have q0 := dT_3 k
    have q1 := dT_3 (pLev (lC N xs) k)
    have n1 := pLev_lt (lC N xs) k
    show am_V X (151 + 10 * k) (420004 + 30000 * k) _ sh ad (460, [(0, .ref 5000), (1, .ref 0), (2, .ref 2), (3, .int (Int32.ofNat (pNi (lC N xs)))), (4, .int (Int32.ofNat (pLev (lC N xs) k))), (5, .int (Int32.ofNat k))], [], I2, G, P)
    refine am_blk 460 [(.aload_n 1, 1, 1, 0, .null)] (461, [(0, .ref 5000), (1, .ref 0), (2, .ref 2), (3, .int (Int32.ofNat (pNi (lC N xs)))), (4, .int (Int32.ofNat (pLev (lC N xs) k))), (5, .int (Int32.ofNat k))], [.ref 0], I2, G, P) True hX hi (by decide +kernel) rfl trivial ?_
    refine am_ldcS hX hi (i := 25) (idx := 143) rfl rfl rfl (by decide +kernel) ?_
    refine ap_Sm hX hi hm (idx := 37) (by decide +kernel) (by decide +kernel) (by decide) rfl (Nat.le_of_ble_eq_true rfl) ⟨by omega, by omega⟩ hF0 C7 x_143 (by simp only [List.length_append, wl_35, wl_48, wl_50, wl_52, wl_60, wl_62, wl_64, wl_66, wl_68, wl_70, wl_72, wl_74, wl_76, wl_78, wl_80, wl_82, wl_84, wl_104, wl_106, wl_108, wl_118, wl_120, wl_122, wl_124, wl_126, wl_128, wl_130, wl_135, wl_137, wl_139, wl_141, wl_143, wl_145, wl_147, wl_149, wl_151, wl_153, wl_155]; omega) (by omega) C8 C9 (am_kqL_r (Or.inr (by decide)) (am_kqL_r (Or.inl (by omega)) (am_kqL_r (Or.inl (by omega)) (am_kqL_i (am_kqL_i (am_kqL_i am_kqL_n)))))) am_kqS_n (am_nqL_r (by omega) (am_nqL_r (by omega) (am_nqL_r (by omega) (am_nqL_i (am_nqL_i (am_nqL_i am_nqL_n)))))) am_nqS_n (fun ad6 m6 sh6 I6 ha6 hX6 hF6 hB6 hR6 hV6 => ?_)
    have l6 : sh6.length = sh.length := hF6.1.trans rfl
    have ea6 : ∀ j, j < 1 ∨ 1000 ≤ j → ad6 j = ad0 j := fun j hj => (ha6 j (by omega) (by omega)).trans (ea j hj)
    show am_V X (151 + 10 * k + 1) (420004 + 30000 * k + 4096) _ sh6 ad6 (466, [(0, .ref 5000), (1, .ref 0), (2, .ref 2), (3, .int (Int32.ofNat (pNi (lC N xs)))), (4, .int (Int32.ofNat (pLev (lC N xs) k))), (5, .int (Int32.ofNat k))], [.ref 0], I6, G, P)
    refine am_blk 466 [(.iload 5, 2, 5, 0, .null)] (468, [(0, .ref 5000), (1, .ref 0), (2, .ref 2), (3, .int (Int32.ofNat (pNi (lC N xs)))), (4, .int (Int32.ofNat (pLev (lC N xs) k))), (5, .int (Int32.ofNat k))], [.int (Int32.ofNat k), .ref 0], I6, G, P) True hX6 hi (by decide +kernel) rfl trivial ?_
    refine ap_Nm (x := k) hX6 hi hm (idx := 41) (by decide +kernel) (by decide +kernel) (by decide) (rfl) rfl (Nat.le_of_ble_eq_true rfl) ⟨by omega, by omega⟩ hF6 hB6 (by omega) (by simp only [List.length_append, wl_35, wl_48, wl_50, wl_52, wl_60, wl_62, wl_64, wl_66, wl_68, wl_70, wl_72, wl_74, wl_76, wl_78, wl_80, wl_82, wl_84, wl_104, wl_106, wl_108, wl_118, wl_120, wl_122, wl_124, wl_126, wl_128, wl_130, wl_135, wl_137, wl_139, wl_141, wl_143, wl_145, wl_147, wl_149, wl_151, wl_153, wl_155]; omega) (by omega) hR6 hV6 (am_kqL_r (Or.inr (by decide)) (am_kqL_r (Or.inl (by omega)) (am_kqL_r (Or.inl (by omega)) (am_kqL_i (am_kqL_i (am_kqL_i am_kqL_n)))))) am_kqS_n (am_nqL_r (by omega) (am_nqL_r (by omega) (am_nqL_r (by omega) (am_nqL_i (am_nqL_i (am_nqL_i am_nqL_n)))))) am_nqS_n (fun ad7 m7 sh7 I7 ha7 hX7 hF7 hB7 hR7 hV7 => ?_)
    have l7 : sh7.length = sh.length := hF7.1.trans rfl
    have ea7 : ∀ j, j < 1 ∨ 1000 ≤ j → ad7 j = ad0 j := fun j hj => (ha7 j (by omega) (by omega)).trans (ea6 j hj)
    show am_V X (151 + 10 * k + 2) (420004 + 30000 * k + 8192) _ sh7 ad7 (471, [(0, .ref 5000), (1, .ref 0), (2, .ref 2), (3, .int (Int32.ofNat (pNi (lC N xs)))), (4, .int (Int32.ofNat (pLev (lC N xs) k))), (5, .int (Int32.ofNat k))], [.ref 0], I7, G, P)
    refine am_ldcS hX7 hi (i := 26) (idx := 145) rfl rfl rfl (by decide +kernel) ?_
    refine ap_Sm hX7 hi hm (idx := 37) (by decide +kernel) (by decide +kernel) (by decide) rfl (Nat.le_of_ble_eq_true rfl) ⟨by omega, by omega⟩ hF7 hB7 x_145 (by simp only [List.length_append, wl_35, wl_48, wl_50, wl_52, wl_60, wl_62, wl_64, wl_66, wl_68, wl_70, wl_72, wl_74, wl_76, wl_78, wl_80, wl_82, wl_84, wl_104, wl_106, wl_108, wl_118, wl_120, wl_122, wl_124, wl_126, wl_128, wl_130, wl_135, wl_137, wl_139, wl_141, wl_143, wl_145, wl_147, wl_149, wl_151, wl_153, wl_155]; omega) (by omega) hR7 hV7 (am_kqL_r (Or.inr (by decide)) (am_kqL_r (Or.inl (by omega)) (am_kqL_r (Or.inl (by omega)) (am_kqL_i (am_kqL_i (am_kqL_i am_kqL_n)))))) am_kqS_n (am_nqL_r (by omega) (am_nqL_r (by omega) (am_nqL_r (by omega) (am_nqL_i (am_nqL_i (am_nqL_i am_nqL_n)))))) am_nqS_n (fun ad8 m8 sh8 I8 ha8 hX8 hF8 hB8 hR8 hV8 => ?_)
    have l8 : sh8.length = sh.length := hF8.1.trans rfl
    have ea8 : ∀ j, j < 1 ∨ 1000 ≤ j → ad8 j = ad0 j := fun j hj => (ha8 j (by omega) (by omega)).trans (ea7 j hj)
    show am_V X (151 + 10 * k + 3) (420004 + 30000 * k + 12288) _ sh8 ad8 (476, [(0, .ref 5000), (1, .ref 0), (2, .ref 2), (3, .int (Int32.ofNat (pNi (lC N xs)))), (4, .int (Int32.ofNat (pLev (lC N xs) k))), (5, .int (Int32.ofNat k))], [.ref 0], I8, G, P)
    refine am_blk 476 [(.iload 4, 2, 4, 0, .null)] (478, [(0, .ref 5000), (1, .ref 0), (2, .ref 2), (3, .int (Int32.ofNat (pNi (lC N xs)))), (4, .int (Int32.ofNat (pLev (lC N xs) k))), (5, .int (Int32.ofNat k))], [.int (Int32.ofNat (pLev (lC N xs) k)), .ref 0], I8, G, P) True hX8 hi (by decide +kernel) rfl trivial ?_
    refine ap_Nm (x := (pLev (lC N xs) k)) hX8 hi hm (idx := 41) (by decide +kernel) (by decide +kernel) (by decide) (rfl) rfl (Nat.le_of_ble_eq_true rfl) ⟨by omega, by omega⟩ hF8 hB8 (by omega) (by simp only [List.length_append, wl_35, wl_48, wl_50, wl_52, wl_60, wl_62, wl_64, wl_66, wl_68, wl_70, wl_72, wl_74, wl_76, wl_78, wl_80, wl_82, wl_84, wl_104, wl_106, wl_108, wl_118, wl_120, wl_122, wl_124, wl_126, wl_128, wl_130, wl_135, wl_137, wl_139, wl_141, wl_143, wl_145, wl_147, wl_149, wl_151, wl_153, wl_155]; omega) (by omega) hR8 hV8 (am_kqL_r (Or.inr (by decide)) (am_kqL_r (Or.inl (by omega)) (am_kqL_r (Or.inl (by omega)) (am_kqL_i (am_kqL_i (am_kqL_i am_kqL_n)))))) am_kqS_n (am_nqL_r (by omega) (am_nqL_r (by omega) (am_nqL_r (by omega) (am_nqL_i (am_nqL_i (am_nqL_i am_nqL_n)))))) am_nqS_n (fun ad9 m9 sh9 I9 ha9 hX9 hF9 hB9 hR9 hV9 => ?_)
    have l9 : sh9.length = sh.length := hF9.1.trans rfl
    have ea9 : ∀ j, j < 1 ∨ 1000 ≤ j → ad9 j = ad0 j := fun j hj => (ha9 j (by omega) (by omega)).trans (ea8 j hj)
    show am_V X (151 + 10 * k + 4) (420004 + 30000 * k + 16384) _ sh9 ad9 (481, [(0, .ref 5000), (1, .ref 0), (2, .ref 2), (3, .int (Int32.ofNat (pNi (lC N xs)))), (4, .int (Int32.ofNat (pLev (lC N xs) k))), (5, .int (Int32.ofNat k))], [.ref 0], I9, G, P)
    refine am_ldcS hX9 hi (i := 13) (idx := 108) rfl rfl rfl (by decide +kernel) ?_
    refine ap_Sm hX9 hi hm (idx := 37) (by decide +kernel) (by decide +kernel) (by decide) rfl (Nat.le_of_ble_eq_true rfl) ⟨by omega, by omega⟩ hF9 hB9 x_108 (by simp only [List.length_append, wl_35, wl_48, wl_50, wl_52, wl_60, wl_62, wl_64, wl_66, wl_68, wl_70, wl_72, wl_74, wl_76, wl_78, wl_80, wl_82, wl_84, wl_104, wl_106, wl_108, wl_118, wl_120, wl_122, wl_124, wl_126, wl_128, wl_130, wl_135, wl_137, wl_139, wl_141, wl_143, wl_145, wl_147, wl_149, wl_151, wl_153, wl_155]; omega) (by omega) hR9 hV9 (am_kqL_r (Or.inr (by decide)) (am_kqL_r (Or.inl (by omega)) (am_kqL_r (Or.inl (by omega)) (am_kqL_i (am_kqL_i (am_kqL_i am_kqL_n)))))) am_kqS_n (am_nqL_r (by omega) (am_nqL_r (by omega) (am_nqL_r (by omega) (am_nqL_i (am_nqL_i (am_nqL_i am_nqL_n)))))) am_nqS_n (fun ad10 m10 sh10 I10 ha10 hX10 hF10 hB10 hR10 hV10 => ?_)
    have l10 : sh10.length = sh.length := hF10.1.trans rfl
    have ea10 : ∀ j, j < 1 ∨ 1000 ≤ j → ad10 j = ad0 j := fun j hj => (ha10 j (by omega) (by omega)).trans (ea9 j hj)
    show am_V X (151 + 10 * k + 5) (420004 + 30000 * k + 20480) _ sh10 ad10 (486, [(0, .ref 5000), (1, .ref 0), (2, .ref 2), (3, .int (Int32.ofNat (pNi (lC N xs)))), (4, .int (Int32.ofNat (pLev (lC N xs) k))), (5, .int (Int32.ofNat k))], [.ref 0], I10, G, P)
    refine am_blk 486 [(.pop, 1, 0, 0, .null)] (487, [(0, .ref 5000), (1, .ref 0), (2, .ref 2), (3, .int (Int32.ofNat (pNi (lC N xs)))), (4, .int (Int32.ofNat (pLev (lC N xs) k))), (5, .int (Int32.ofNat k))], [], I10, G, P) True hX10 hi (by decide +kernel) rfl trivial ?_
    have hE := hP9.app h7 hF10 hB10 hR10 hV10
    refine am_blk 487 [(.iload 4, 2, 4, 0, .null), (.iconst (1), 1, 0, 0, .int (1 : Int32)), (.aload_n 0, 1, 0, 0, .null), (.iconst (3), 1, 0, 0, .int (3 : Int32))] (492, [(0, .ref 5000), (1, .ref 0), (2, .ref 2), (3, .int (Int32.ofNat (pNi (lC N xs)))), (4, .int (Int32.ofNat (pLev (lC N xs) k))), (5, .int (Int32.ofNat k))], [.int (3 : Int32), .ref 5000, .int (1 : Int32), .int (Int32.ofNat (pLev (lC N xs) k))], I10, G, P) True hX10 hi (by decide +kernel) rfl trivial ?_
    refine am_callSS hX10 hi (hsc.adr ((ea10 5000 (by omega)))) (M := mL_cell) (idx := 87) (d' := 1) (As := [.ref 5000, .int 3]) (rest := [.int (1 : Int32), .int (Int32.ofNat (pLev (lC N xs) k))]) mkL_cell msL_cell (by decide +kernel) (by decide +kernel) rfl ⟨by decide, by decide, Nat.le_of_ble_eq_true rfl⟩ rfl (c_cell 3 (by decide) hN) ?_
    rintro r9 I9 G9 P9 ⟨e0, e1, e2, e3⟩
    rw [e0, e1, e2, e3]
    show am_V X (151 + 10 * k + 5) (420004 + 30000 * k + 20480) _ sh10 ad10 (495, [(0, .ref 5000), (1, .ref 0), (2, .ref 2), (3, .int (Int32.ofNat (pNi (lC N xs)))), (4, .int (Int32.ofNat (pLev (lC N xs) k))), (5, .int (Int32.ofNat k))], [.int (lC N xs 3), .int (1 : Int32), .int (Int32.ofNat (pLev (lC N xs) k))], I10, G, P)
    refine am_blk 495 [(.iconst (4), 1, 0, 0, .int (4 : Int32)), (.iload 5, 2, 5, 0, .null), (.iadd, 1, 0, 0, .null), (.ishr, 1, 0, 0, .null), (.bipush (70), 2, 0, 0, .int (70 : Int32))] (502, [(0, .ref 5000), (1, .ref 0), (2, .ref 2), (3, .int (Int32.ofNat (pNi (lC N xs)))), (4, .int (Int32.ofNat (pLev (lC N xs) k))), (5, .int (Int32.ofNat k))], [.int (70 : Int32), .int ((lC N xs 3) >>> (((4 : Int32) + (Int32.ofNat k)) &&& 31)), .int (1 : Int32), .int (Int32.ofNat (pLev (lC N xs) k))], I10, G, P) True hX10 hi (by decide +kernel) rfl trivial ?_
    refine am_callS2 hX10 hi (M := mL_below) (idx := 93) (d' := 1) (As := [.int ((lC N xs 3) >>> (((4 : Int32) + (Int32.ofNat k)) &&& 31)), .int 70]) (rest := [.int (1 : Int32), .int (Int32.ofNat (pLev (lC N xs) k))]) mkL_below msL_below (by decide +kernel) (by decide +kernel) rfl ⟨by decide, by decide, Nat.le_of_ble_eq_true rfl⟩ rfl (c_below _ _ (by decide)) ?_
    rintro r9 I9 G9 P9 ⟨e0, e1, e2, e3⟩
    rw [e0, e1, e2, e3, show lw_b ((lC N xs 3) >>> (((4 : Int32) + (Int32.ofNat k)) &&& 31)) (70 : Int32) = Int32.ofNat (lbel ((lC N xs 3) >>> (((4 : Int32) + (Int32.ofNat k)) &&& 31)) 70) from lw_b_n _ (by decide) (by decide)]
    show am_V X (151 + 10 * k + 5) (420004 + 30000 * k + 20480) _ sh10 ad10 (505, [(0, .ref 5000), (1, .ref 0), (2, .ref 2), (3, .int (Int32.ofNat (pNi (lC N xs)))), (4, .int (Int32.ofNat (pLev (lC N xs) k))), (5, .int (Int32.ofNat k))], [.int (Int32.ofNat (lbel ((lC N xs 3) >>> (((4 : Int32) + (Int32.ofNat k)) &&& 31)) 70)), .int (1 : Int32), .int (Int32.ofNat (pLev (lC N xs) k))], I10, G, P)
    refine am_blk 505 [(.iadd, 1, 0, 0, .null), (.iadd, 1, 0, 0, .null)] (507, [(0, .ref 5000), (1, .ref 0), (2, .ref 2), (3, .int (Int32.ofNat (pNi (lC N xs)))), (4, .int (Int32.ofNat (pLev (lC N xs) k))), (5, .int (Int32.ofNat k))], [.int ((Int32.ofNat (pLev (lC N xs) k)) + ((1 : Int32) + (Int32.ofNat (lbel ((lC N xs 3) >>> (((4 : Int32) + (Int32.ofNat k)) &&& 31)) 70))))], I10, G, P) True hX10 hi (by decide +kernel) rfl trivial ?_
    rw [show ((Int32.ofNat (pLev (lC N xs) k)) + ((1 : Int32) + (Int32.ofNat (lbel ((lC N xs 3) >>> (((4 : Int32) + (Int32.ofNat k)) &&& 31)) 70)))) = (Int32.ofNat (pLev (lC N xs) (k + 1))) from by rw [show (1 : Int32) + Int32.ofNat (lbel ((lC N xs 3) >>> (((4 : Int32) + (Int32.ofNat k)) &&& 31)) 70) = Int32.ofNat (1 + lbel ((lC N xs 3) >>> (((4 : Int32) + (Int32.ofNat k)) &&& 31)) 70) from nI_add 1 _]; exact nI_add _ _]
    show am_V X (151 + 10 * k + 5) (420004 + 30000 * k + 20480) _ sh10 ad10 (507, [(0, .ref 5000), (1, .ref 0), (2, .ref 2), (3, .int (Int32.ofNat (pNi (lC N xs)))), (4, .int (Int32.ofNat (pLev (lC N xs) k))), (5, .int (Int32.ofNat k))], [.int (Int32.ofNat (pLev (lC N xs) (k + 1)))], I10, G, P)
    refine am_blk 507 [(.istore 4, 2, 4, 0, .null), (.iinc 5 (1), 3, 5, 0, .int (1 : Int32)), (.goto (-67), 3, 0, 445, .null)] (445, [(0, .ref 5000), (1, .ref 0), (2, .ref 2), (3, .int (Int32.ofNat (pNi (lC N xs)))), (4, .int (Int32.ofNat (pLev (lC N xs) (k + 1)))), (5, .int (Int32.ofNat k + (1 : Int32)))], [], I10, G, P) True hX10 hi (by decide +kernel) rfl trivial ?_
    rw [show Int32.ofNat k + (1 : Int32) = Int32.ofNat (k + 1) from nI_1 k]
    refine am_wid hm (cells' := 151 + 10 * (k + 1)) (slots' := 420004 + 30000 * (k + 1)) ⟨by omega, by omega⟩ ⟨by omega, by omega⟩ ?_
    exact ih (k + 1) (by omega) _ _ _ _ _ hX10 ea10 hE
end AMLL
