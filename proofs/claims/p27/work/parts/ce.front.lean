/-! the law from its entry to its loop -/
def iI0 : am_I := fun _ _ => 0
def iG0 : am_G := fun _ _ => 0
theorem am_z0 {α : Type} (z : α) (a : Nat) : am_z (fun _ _ => z) a z = fun _ _ => z := by
  funext b j
  unfold am_z
  cases Nat.beq b a <;> rfl
/-- the law's own paper as told -/
def iL (c : Nat → Int32) (I : am_I) : Prop := (I 79 0 = Int32.ofNat (pCols c) ∧ I 79 1 = Int32.ofNat (pRows c) ∧ I 79 6 = 0 ∧ I 79 7 = 0 ∧ I 79 8 = 0 ∧ I 79 9 = 0) ∧ (∀ j, j < pNi c → I 80 j = Int32.ofNat (pLev c j)) ∧
  (∀ k, k < pNo c → ∀ j, j < 4 → I (84 + k) j = Int32.ofNat (pOct c k j)) ∧ (∀ k, k < pNc c → ∀ j, j < 3 → I (84 + pNo c + k) j = Int32.ofNat (pCmb c k j)) ∧ ∀ k, k < pNd c → ∀ j, j < 6 → I (84 + pNo c + pNc c + k) j = Int32.ofNat (pOrd c k j)
theorem iL_of {c : Nat → Int32} {sh2 : List am_Sh} {I2 I5 : am_I} {P2 : am_P} (h : lS c sh2 I2 P2) (hI : ∀ k, k < sh2.length → I5 (79 + k) = I2 k) : iL c (fun k => I5 (fPi (pNo c) (pNc c) (pNd c) k)) := by
  obtain ⟨m, hl, hB, h2, hi, ho, hn, ⟨v1, v2, v3⟩, hd, hR, hV⟩ := h
  refine ⟨?_, fun j hj => ?_, fun k hk j hj => ?_, fun k hk j hj => ?_, fun k hk j hj => ?_⟩
  · show I5 (79 + 2) 0 = _ ∧ I5 (79 + 2) 1 = _ ∧ I5 (79 + 2) 6 = _ ∧ I5 (79 + 2) 7 = _ ∧ I5 (79 + 2) 8 = _ ∧ I5 (79 + 2) 9 = _
    rw [hI 2 (by omega)]; exact hi
  · show I5 (fPi (pNo c) (pNc c) (pNd c) 80) j = _
    rw [fPi_80, show 86 + 2 * pNo c + 2 * pNc c = 79 + (7 + 2 * pNo c + 2 * pNc c) by omega, hI _ (am_at_lt v2)]; exact v3 j hj
  · show I5 (fPi (pNo c) (pNc c) (pNd c) (84 + k)) j = _
    rw [fPi_o hk, show 86 + 2 * k = 79 + (7 + 2 * k) by omega, hI _ (by omega)]; exact (ho.2.2 k hk).2.2 j hj
  · show I5 (fPi (pNo c) (pNc c) (pNd c) (84 + pNo c + k)) j = _
    rw [fPi_n hk, show 86 + 2 * pNo c + 2 * k = 79 + (7 + 2 * pNo c + 2 * k) by omega, hI _ (by omega)]; exact (hn.2.2 k hk).2.2 j hj
  · show I5 (fPi (pNo c) (pNc c) (pNd c) (84 + pNo c + pNc c + k)) j = _
    rw [fPi_d, show 87 + 2 * pNo c + 2 * pNc c + 2 * k = 79 + (8 + 2 * pNo c + 2 * pNc c + 2 * k) by omega, hI _ (by omega)]; exact (hd.2.2 k hk).2.2 j hj
/-- the class's references, made by its constructor, are those of the contracts -/
def vq (v w : Value) : Bool := match v, w with
  | .ref a, .ref b => Nat.beq a b
  | .null, .null => true
  | _, _ => false
theorem vq_eq {v w : Value} (h : vq v w = true) : v = w := by
  unfold vq at h
  split at h
  · rw [Nat.eq_of_beq_eq_true h]
  · rfl
  · cases h
set_option maxRecDepth 20000 in
theorem z33_gP {b c j : Nat} (h1 : gS[b]? = some (.inl c)) (h2 : j < (am_ks c).length) (h3 : ∀ t, (am_ks c)[j]? = some t → t ≠ 0 ∧ t ≠ 1 ∧ t ≠ 3) : gP 0 b j = zP_33 b j := by
  have key : (List.range 79).all (fun b => match gS[b]? with
    | some (.inl c) => (List.range (am_ks c).length).all (fun j => match (am_ks c)[j]? with
      | some t => Nat.beq t 0 || Nat.beq t 1 || Nat.beq t 3 || vq (gP 0 b j) (zP_33 b j)
      | none => true)
    | _ => true) = true := by decide +kernel
  have hb := am_at_lt h1
  rw [gS_len] at hb
  have h4 := List.all_eq_true.mp key b (List.mem_range.mpr hb)
  rw [h1] at h4
  have h5 := List.all_eq_true.mp h4 j (List.mem_range.mpr h2)
  obtain ⟨t, ht⟩ : ∃ t, (am_ks c)[j]? = some t := ⟨_, List.getElem?_eq_getElem h2⟩
  rw [ht] at h5
  obtain ⟨t0, t1, t3⟩ := h3 t ht
  have e0 : Nat.beq t 0 = false := by rw [am_beq]; exact beq_eq_false_iff_ne.mpr t0
  have e1 : Nat.beq t 1 = false := by rw [am_beq]; exact beq_eq_false_iff_ne.mpr t1
  have e3 : Nat.beq t 3 = false := by rw [am_beq]; exact beq_eq_false_iff_ne.mpr t3
  simp only [e0, e1, e3, Bool.false_or] at h5
  exact vq_eq h5
set_option maxRecDepth 20000 in
theorem z33_R : lR 79 gS zP_33 := by
  have key : (List.range 79).all (fun b => match gS[b]? with
    | some (.inl c) => (List.range (am_ks c).length).all (fun j => match zP_33 b j with
      | .ref k => Nat.blt k 79
      | _ => true)
    | some (.inr (t, _)) => !(Nat.beq t 3)
    | none => true) = true := by decide +kernel
  refine ⟨fun b c j h1 h2 => ?_, fun b m j h1 h2 => ?_⟩
  · have hb := am_at_lt h1
    rw [gS_len] at hb
    have h3 := List.all_eq_true.mp key b (List.mem_range.mpr hb)
    rw [h1] at h3
    have h4 := List.all_eq_true.mp h3 j (List.mem_range.mpr h2)
    cases hv : zP_33 b j with
    | ref k =>
      rw [hv] at h4
      exact Or.inl (by rw [Nat.blt_eq] at h4; exact h4)
    | _ => trivial
  · have hb := am_at_lt h1
    rw [gS_len] at hb
    have h3 := List.all_eq_true.mp key b (List.mem_range.mpr hb)
    rw [h1] at h3
    cases h3
theorem sfI_lt {α : Type} {n k : Nat} {f g : Nat → α} (h : k < n) : sfI n f g k = f k := if_pos h
theorem sfI_ge {α : Type} {n k : Nat} {f g : Nat → α} : sfI n f g (n + k) = g k := by unfold sfI; rw [if_neg (by omega), Nat.add_sub_cancel_left]
set_option maxRecDepth 100000 in
theorem cl_10 : Cond.classLink (am_own 15) 10 RX11 ∈ lw_tbl ∧ Cond.instantiable RX11 7 ∈ lw_tbl ∧ Cond.initialized RX11 ∈ lw_tbl := ⟨List.mem_of_getElem? (i := 76) rfl, List.mem_of_getElem? (i := 77) rfl, List.mem_of_getElem? (i := 58) rfl⟩
theorem tAll_len (c : Nat → Int32) : (tAll c).length ≤ 1200 := by
  have h := tOrd_len c (pNd c)
  have hno : pNo c ≤ 3 := by have := lbel_lt (c 1) (n := 3) (by decide); show 1 + _ ≤ 3; omega
  have hnc : pNc c ≤ 3 := Nat.lt_succ_iff.mp (lbel_lt (c 2) (n := 4) (by decide))
  have hni : pNi c ≤ 4 := by have := lbel_lt (c 3) (n := 4) (by decide); show 1 + _ ≤ 4; omega
  have hnd : pNd c ≤ 5 := Nat.lt_succ_iff.mp (lbel_lt (c 4) (n := 6) (by decide))
  show (tOrd c (pNd c)).length ≤ 1200
  omega
/-- what mathematics is to give: KJ speaks of the class's cells -/
def lw_math (N : Nat) (xs : Nat → Int32) (KJ : am_I → am_G → Prop) : Prop :=
  (∀ (I I' : am_I) (G G' : am_G), (∀ b, b < 79 → I' b = I b) → (∀ b, b < 79 → G' b = G b) → KJ I G → KJ I' G') ∧
  (∃ (I9 : am_I) (G9 : am_G), L_X9_init_1 FU 0 (zI_X9a (am_z iI0 1 0)) (zG_X9a (am_z iG0 1 0)) 0 0 0 = some ((), I9, G9) ∧ ∀ (I : am_I) (G : am_G), (∀ b, b < 79 → I b = zI_X11_init_0 I9 b) → (∀ b, b < 79 → G b = zG_X11_init_0 G9 b) → ∃ (I' : am_I) (G' : am_G), R_L_taught I G (tAll (lC N xs)) = some (0, I', G') ∧ KJ I' G') ∧
  ∀ (I : am_I) (G : am_G), KJ I G → iL (lC N xs) I → R_L_law (84 + pNo (lC N xs) + pNc (lC N xs) + pNd (lC N xs)) 8000 I G (pNi (lC N xs)) (pNo (lC N xs)) (pNc (lC N xs)) (pNd (lC N xs)) N xs = some 1
theorem taught_fr {I I' : am_I} {G G' : am_G} {T : List Nat} {x : Int32} (h : R_L_taught I G T = some (x, I', G')) : ∀ b, 79 ≤ b → I' b = I b := by
  have go : ∀ m k (I : am_I) (G : am_G) (f : Nat → Int32) (r : am_I × am_G), lt_go T m k I G f = some r → ∀ b, 79 ≤ b → r.1 b = I b := by
    intro m
    induction m with
    | zero => intro k I G f r h b hb; cases h; rfl
    | succ m ih =>
      intro k I G f r h b hb
      obtain ⟨c, hc, h⟩ := ob_some h
      obtain ⟨J, K, -, h2, -⟩ := clX_some hc
      rw [ih _ _ _ _ _ h b hb, ← h2, gl_ge _ _ hb]
  intro b hb
  unfold R_L_taught at h
  obtain ⟨a, ha, h⟩ := ob_some h
  obtain ⟨r, hr, h⟩ := ob_some h
  obtain ⟨c, hc, h⟩ := ob_some h
  obtain ⟨J1, K1, -, e1, -⟩ := clX_some ha
  obtain ⟨J2, K2, -, e2, -⟩ := clX_some hc
  obtain ⟨J3, K3, -, e3, -⟩ := clR_some h
  have e3 : gl 79 J3 c.2.1 = I' := e3
  rw [← e3, gl_ge _ _ hb, ← e2, gl_ge _ _ hb, go _ _ _ _ _ _ hr b hb, ← e1, gl_ge _ _ hb]
set_option maxRecDepth 20000 in
set_option maxHeartbeats 8000000 in
theorem t_front {X : am_X} {ad : Nat → Nat} {N : Nat} {xs : Nat → Int32} {Q : State → Prop} {KJ : am_I → am_G → Prop} (hX : am_okz X ad) (hi : am_info X 15 code 25 false (some FieldType.boolean) 60) (hm : am_mem X 600086 7301442) (hsc : am_scT X ad N xs) (hN : N ≤ 260) (hM : lw_math N xs KJ)
    (hend : ∀ (ad2 : Nat → Nat) (sh : List am_Sh) (ex : List am_Sh) (P : am_P) (L : am_L) (I : am_I) (G : am_G) (k pc : Nat), am_okz X ad2 → k ≤ 14000 → decode code pc = .ok (.ireturn, 1) → am_V X k (200 * k) Q (sh ++ ex) ad2 (pc, L, [.int 1], I, G, P)) : am_V X 0 0 Q [] ad (0, [(0, .ref 5000)], [], iI0, iG0, zP_0) := by
  obtain ⟨hK1, ⟨I9, G9, hc9, hTa⟩, hLaw⟩ := hM
  have hno : pNo (lC N xs) ≤ 3 := by have := lbel_lt (lC N xs 1) (n := 3) (by decide); show 1 + _ ≤ 3; omega
  have hnc : pNc (lC N xs) ≤ 3 := Nat.lt_succ_iff.mp (lbel_lt (lC N xs 2) (n := 4) (by decide))
  have hni : pNi (lC N xs) ≤ 4 := by have := lbel_lt (lC N xs 3) (n := 4) (by decide); show 1 + _ ≤ 4; omega
  have hnd : pNd (lC N xs) ≤ 5 := Nat.lt_succ_iff.mp (lbel_lt (lC N xs 4) (n := 6) (by decide))
  have hTl := tAll_len (lC N xs)
  -- the text's StringBuilder
  refine c_new (sh := []) (i1 := 32) (i2 := 34) hX hi hm cl_32 (by decide +kernel) (by decide +kernel) (by decide +kernel) (by decide +kernel) (by decide) (Nat.le_of_ble_eq_true rfl) ⟨by decide, by decide⟩ (by decide) ⟨fun b c j h1 _ => (by cases h1), fun b m j h1 _ => (by cases h1)⟩ (am_kqL_r (Or.inr (by decide)) am_kqL_n) am_kqS_n (fun ad1 I1 G1 P1 ha1 hX1 hc1 => ?_)
  obtain ⟨-, hB1, hN1⟩ := hc1
  have ea1 : ad1 5000 = ad 5000 := ha1 5000 (Or.inr (by decide))
  show am_V X 2 20 _ [(.inl 1 : am_Sh), .inr (4, 16)] ad1 (7, [(0, .ref 5000)], [.ref 0], I1, G1, P1)
  refine am_blk 7 [(.astore_n 1, 1, 1, 0, .null), (.aload_n 0, 1, 0, 0, .null), (.aload_n 1, 1, 1, 0, .null)] (10, [(0, .ref 5000), (1, .ref 0)], [.ref 0, .ref 5000], I1, G1, P1) True hX1 hi (by decide +kernel) rfl trivial ?_
  refine am_callSAS hX1 hi hm (hsc.adr ea1) (M := mL_list) (idx := 190) (d' := 9) (mc := 600) (ms := 1500000) (keep := 1) (As := [.ref 5000, .ref 0]) (rest := []) mkL_list msL_list (by decide +kernel) (by decide +kernel) rfl ⟨by decide, by decide, Nat.le_of_ble_eq_true rfl⟩ rfl ⟨by decide, by decide⟩ (am_kqL_r (Or.inr (by decide)) (am_kqL_r (Or.inl (by decide)) am_kqL_n)) am_kqS_n (c_list (m := 16) hN hB1 hN1) ?_
  rintro r9 sh2 ad2 I2 G2 P2 ⟨rfl, hS⟩ ha2 hX2
  have ea2 : ad2 5000 = ad 5000 := (ha2 5000 (Or.inr (by decide))).trans ea1
  have hS0 := hS
  obtain ⟨m, hl, hB, h2, hI, -, -, -, -, hR, hV⟩ := hS0
  show am_V X 602 1500020 _ sh2 ad2 (13, [(0, .ref 5000), (1, .ref 0)], [.ref 2], I2, G2, P2)
  refine am_blk 13 [(.astore_n 2, 1, 2, 0, .null)] (14, [(0, .ref 5000), (1, .ref 0), (2, .ref 2)], [], I2, G2, P2) True hX2 hi (by decide +kernel) rfl trivial ?_
  -- the paper
  refine am_newR hX2 hi hm (ci := 11) (r := (RX11, TX11, 7)) rfl cl_10.1 cl_10.2.1 cl_10.2.2 (by decide +kernel) ⟨by decide, by decide⟩ (hR.noR (by omega)) (am_kq_noL (by omega) (am_kqL_r (Or.inr (by decide)) (am_kqL_r (Or.inl (by omega)) (am_kqL_r (Or.inl (by omega)) am_kqL_n))) am_kqS_n) (fun ad3 ha3 => ?_)
  have hX3 : am_okz X ad3 := hX2.adr (fun j hj => ha3 j (by omega))
  show am_V X 603 1500027 _ (sh2 ++ [.inl 11]) ad3 (17, [(0, .ref 5000), (1, .ref 0), (2, .ref 2)], [.ref sh2.length], am_z I2 sh2.length 0, am_z G2 sh2.length 0, am_z P2 sh2.length .null)
  refine am_blk 17 [(.dup, 1, 0, 0, .null)] (18, [(0, .ref 5000), (1, .ref 0), (2, .ref 2)], [.ref sh2.length, .ref sh2.length], am_z I2 sh2.length 0, am_z G2 sh2.length 0, am_z P2 sh2.length .null) True hX3 hi (by decide +kernel) rfl trivial ?_
  have hRz : lR sh2.length sh2 (am_z P2 sh2.length .null) := lR.z (x := .inl 11) hR
  refine am_callIF (I0 := iI0) (G0 := iG0) (P0 := zP_0) (sh2 := sh2) hX3 hi hm (M := mX11_init) (idx := 194) (d' := 6) (ci := 11) (n := 79) (mc := 78) (ms := 30513) (keep := 1) mkX11_init miX11_init rfl rfl (by decide +kernel) (by decide +kernel) rfl ⟨by decide, by decide, Nat.le_of_ble_eq_true rfl⟩ rfl ⟨by decide, by decide⟩ (by decide) (shN := gS) gS_len (by decide) (by omega) (by rw [am_z_self]; rfl) (by rw [am_z_self]; rfl) (fun _ => rfl) (fun j => by rw [am_z_self]) (c_X11_init_0 iI0 iG0 hc9) z33_R hRz (am_kqL_r (Or.inr (by decide)) (am_kqL_r (Or.inl (by omega)) (am_kqL_r (Or.inl (by omega)) am_kqL_n))) (am_kqS_r (Or.inl (by omega)) am_kqS_n) (fun ad4 hX4 ha4 => ?_)
  have ea4 : ad4 5000 = ad 5000 := (ha4 5000 (by decide)).trans ((ha3 5000 (by omega)).trans ea2)
  show am_V X 681 1530540 _ (gS ++ sh2) ad4 (21, [(0, sfV 79 sh2.length (.ref 5000)), (1, sfV 79 sh2.length (.ref 0)), (2, sfV 79 sh2.length (.ref 2))], [sfV 79 sh2.length (.ref sh2.length)], _, _, _)
  rw [sf_ge (show sh2.length < 5000 by omega), sf_lt (show 0 < sh2.length by omega), sf_lt (show 2 < sh2.length by omega), sf_eq]
  -- its references as the contracts have them
  refine am_ren (fun k => k) (sh1 := gS ++ sh2) (ad1 := ad4) (P1 := sfI 79 (gP 0) (fun k j => sfV 79 sh2.length (am_z P2 sh2.length .null k j))) (fun i j _ _ e => e) (fun k s hk => hk) (fun k hk => rfl) (fun _ _ _ _ _ => rfl) (fun _ _ _ _ _ _ _ => rfl) (fun _ _ _ _ _ => rfl) (fun _ _ _ _ _ => rfl) (fun k c j t hk hj t0 t1 t3 => ?_) (fun k m j hk hj => ?_) rfl rfl ?_
  · by_cases h79 : k < 79
    · rw [sfI_lt h79, sfI_lt h79]
      rw [List.getElem?_append_left (by rw [gS_len]; exact h79)] at hk
      rw [z33_gP hk (am_at_lt2 hj) (fun t' ht' => by rw [hj] at ht'; cases ht'; exact ⟨t0, t1, t3⟩)]
    · obtain ⟨k, rfl⟩ : ∃ k', k = 79 + k' := ⟨k - 79, by omega⟩
      rw [sfI_ge, sfI_ge]
  · by_cases h79 : k < 79
    · rw [List.getElem?_append_left (by rw [gS_len]; exact h79)] at hk
      have h9 : ∀ b m : Nat, gS[b]? ≠ some (.inr (3, m)) := fun b m hb => by
        have hb1 := am_at_lt hb
        rw [gS_len] at hb1
        have h4 := List.all_eq_true.mp (show (List.range 79).all (fun b => match gS[b]? with
          | some (.inr (t, _)) => !(Nat.beq t 3)
          | _ => true) = true by decide +kernel) b (List.mem_range.mpr hb1)
        rw [hb] at h4
        cases h4
      exact absurd hk (h9 k m)
    · obtain ⟨k, rfl⟩ : ∃ k', k = 79 + k' := ⟨k - 79, by omega⟩
      rw [sfI_ge, sfI_ge]
  generalize hI3 : sfI 79 (zI_X11_init_0 I9) (am_z I2 sh2.length 0) = I3
  generalize hG3 : sfI 79 (zG_X11_init_0 G9) (am_z G2 sh2.length 0) = G3
  generalize hP3 : sfI 79 (gP 0) (fun k j => sfV 79 sh2.length (am_z P2 sh2.length .null k j)) = P3
  have i3c : ∀ b, b < 79 → I3 b = zI_X11_init_0 I9 b := fun b hb => by rw [← hI3, sfI_lt hb]
  have g3c : ∀ b, b < 79 → G3 b = zG_X11_init_0 G9 b := fun b hb => by rw [← hG3, sfI_lt hb]
  have p3c : ∀ b, b < 79 → P3 b = gP 0 b := fun b hb => by rw [← hP3, sfI_lt hb]
  have i3l : ∀ k, k < sh2.length → I3 (79 + k) = I2 k := fun k hk => by rw [← hI3, sfI_ge, am_z_ne _ _ (by omega)]
  have p3l : ∀ k, k < sh2.length → ∀ j, P3 (79 + k) j = sfV 79 sh2.length (P2 k j) := fun k hk j => by rw [← hP3, sfI_ge, am_z_ne _ _ (by omega)]
  clear hI3 hG3 hP3
  obtain ⟨n3, hn3⟩ : ∃ n3, n3 = 79 + sh2.length := ⟨_, rfl⟩
  have len3 : (gS ++ sh2).length = n3 := by rw [List.length_append, gS_len, hn3]
  have atL : ∀ {k : Nat} {s : am_Sh}, sh2[k]? = some s → (gS ++ sh2)[79 + k]? = some s := fun hk => by
    rw [List.getElem?_append_right (by rw [gS_len]; omega), gS_len, Nat.add_sub_cancel_left]
    exact hk
  have atM : ∀ {k : Nat} {s : am_Sh}, (gS ++ sh2)[k]? = some s → (k < 79 ∧ gS[k]? = some s) ∨ ∃ j, k = 79 + j ∧ sh2[j]? = some s := fun {k s} hk => by
    rcases app_at hk with ⟨h3, h4⟩ | ⟨h3, h4⟩
    · rw [gS_len] at h3; exact Or.inl ⟨h3, h4⟩
    · rw [gS_len] at h3 h4; exact Or.inr ⟨k - 79, by omega, h4⟩
  have sfR : ∀ v, am_kr sh2.length v → am_kr n3 (sfV 79 sh2.length v) := fun v hv => by
    cases v with
    | ref k =>
      have hv : am_nk sh2.length k := hv
      rcases hv with hv | hv
      · rw [sf_lt hv]; exact Or.inl (by omega)
      · rw [sf_ge (by omega)]; exact Or.inr hv
    | _ => trivial
  have hR3 : lR n3 (gS ++ sh2) P3 := by
    refine ⟨fun b c j h3 h4 => ?_, fun b m j h3 h4 => ?_⟩
    · rcases atM h3 with ⟨h5, h6⟩ | ⟨k, rfl, h6⟩
      · rw [p3c b h5]; exact (gS_R.1 b c j h6 h4).le (by omega)
      · rw [p3l k (am_at_lt h6)]; exact sfR _ (hR.1 k c j h6 h4)
    · rcases atM h3 with ⟨h5, h6⟩ | ⟨k, rfl, h6⟩
      · rw [p3c b h5]; exact (gS_R.2 b m j h6 h4).le (by omega)
      · rw [p3l k (am_at_lt h6)]; exact sfR _ (hR.2 k m j h6 h4)
  have hB3 : sB (gS ++ sh2) I3 P3 79 80 m (tAll (lC N xs)) := by
    obtain ⟨s1, s2, s3, s4, s5, s6, s7, s8, s9, s10⟩ := hB
    refine ⟨atL s1, atL s2, ?_, ?_, ?_, s6, s7, s8, ?_, ?_⟩
    · have := p3l 0 (by omega) 0
      rw [s3, sf_lt (by omega)] at this
      exact this
    · have := i3l 0 (by omega)
      rw [show I3 79 = I2 0 from this]; exact s4
    · have := i3l 0 (by omega)
      rw [show I3 79 = I2 0 from this]; exact s5
    · have := i3l 1 (by omega)
      rw [show I3 80 = I2 1 from this]; exact s9
    · have := i3l 1 (by omega)
      rw [show I3 80 = I2 1 from this]; exact s10
  refine am_blk 21 [(.astore_n 3, 1, 3, 0, .null), (.aload_n 3, 1, 3, 0, .null), (.aload_n 1, 1, 1, 0, .null)] (24, [(0, .ref 5000), (1, .ref 79), (2, .ref 81), (3, .ref 0)], [.ref 79, .ref 0], I3, G3, P3) True hX4 hi (by decide +kernel) rfl trivial ?_
  -- its text
  refine am_callVA hX4 hi hm (M := mJ4_toString_0e30d) (idx := 44) (d' := 6) (mc := 2) (As := []) (rest := [.ref 0]) mkJ4_toString_0e30d miJ4_toString_0e30d mvJ4_toString_0e30d (by decide +kernel) (by decide +kernel) hB3.1 rfl rfl ⟨by decide, by decide, Nat.le_of_ble_eq_true rfl⟩ rfl ⟨by decide, by omega⟩ (am_kqL_r (Or.inr (by decide)) (am_kqL_r (Or.inl (by rw [len3]; omega)) (am_kqL_r (Or.inl (by rw [len3]; omega)) (am_kqL_r (Or.inl (by rw [len3]; omega)) am_kqL_n)))) (am_kqS_r (Or.inl (by rw [len3]; omega)) am_kqS_n) (k_toStr hB3 (by rw [len3]; omega) (by rw [len3]; exact hR3)) ?_
  rintro r9 sh9 ad5 I9' G9' P9' ⟨rfl, rfl, rfl, rfl, f, rfl, f1⟩ ha5 hX5
  have ea5 : ad5 5000 = ad 5000 := (ha5 5000 (Or.inr (by decide))).trans ea4
  rw [len3]
  generalize hI4 : am_row (am_up (am_z I3 n3 0) n3 1 0) (n3 + 1) f = I4
  generalize hG4 : am_z G3 n3 0 = G4
  generalize hP4 : am_up (am_z P3 n3 .null) n3 0 (.ref (n3 + 1)) = P4
  have i4 : ∀ b, b < n3 → I4 b = I3 b := fun b hb => by rw [← hI4, am_row_ne _ _ (by omega), am_up_rowb _ _ _ (by omega), am_z_ne _ _ (by omega)]
  have g4 : ∀ b, b < n3 → G4 b = G3 b := fun b hb => by rw [← hG4, am_z_ne _ _ (by omega)]
  have p4 : ∀ b, b < n3 → P4 b = P3 b := fun b hb => by rw [← hP4, am_up_rowb _ _ _ (by omega), am_z_ne _ _ (by omega)]
  have i4n : I4 n3 1 = 0 := by rw [← hI4, am_row_ne _ _ (by omega), am_up_self]
  have i4r : I4 (n3 + 1) = f := by rw [← hI4, am_row_self]
  have p4n : P4 n3 0 = .ref (n3 + 1) := by rw [← hP4, am_up_self]
  have p4z : ∀ j, j ≠ 0 → P4 n3 j = .null := fun j hj => by rw [← hP4, am_up_k _ _ hj, am_z_self]
  clear hI4 hG4 hP4
  have eap : gS ++ sh2 ++ [(.inl 0 : am_Sh)] ++ [.inr (4, (tAll (lC N xs)).length)] = gS ++ (sh2 ++ [(.inl 0 : am_Sh), .inr (4, (tAll (lC N xs)).length)]) := by rw [List.append_assoc, List.append_assoc]; rfl
  have eap2 : gS ++ (sh2 ++ [(.inl 0 : am_Sh), .inr (4, (tAll (lC N xs)).length)]) = (gS ++ sh2) ++ [(.inl 0 : am_Sh), .inr (4, (tAll (lC N xs)).length)] := (List.append_assoc _ _ _).symm
  rw [eap]
  have hx4a : (gS ++ (sh2 ++ [(.inl 0 : am_Sh), .inr (4, (tAll (lC N xs)).length)]))[n3]? = some (.inl 0) := by rw [eap2, List.getElem?_append_right (by omega), len3, Nat.sub_self]; rfl
  have hx4b : (gS ++ (sh2 ++ [(.inl 0 : am_Sh), .inr (4, (tAll (lC N xs)).length)]))[n3 + 1]? = some (.inr (4, (tAll (lC N xs)).length)) := by rw [eap2, List.getElem?_append_right (by omega), len3, Nat.add_sub_cancel_left]; rfl
  have hT4 : xS (gS ++ (sh2 ++ [(.inl 0 : am_Sh), .inr (4, (tAll (lC N xs)).length)])) I4 P4 n3 (n3 + 1) (tAll (lC N xs)) := ⟨hB3.2.2.2.2.2.2.2.1, by omega, Or.inr ⟨hx4a, hx4b, p4n, i4n, by rw [i4r]; exact f1⟩⟩
  have len4 : (gS ++ (sh2 ++ [(.inl 0 : am_Sh), .inr (4, (tAll (lC N xs)).length)])).length = n3 + 2 := by rw [eap2, len2, len3]
  have hR4 : lR (n3 + 2) (gS ++ (sh2 ++ [(.inl 0 : am_Sh), .inr (4, (tAll (lC N xs)).length)])) P4 := by
    rw [eap2]
    refine ⟨fun b c j h3 h4 => ?_, fun b m j h3 h4 => ?_⟩
    · rcases at2 (sh := gS ++ sh2) h3 with e | ⟨e, -⟩ | ⟨-, e⟩
      · rw [p4 b (by have := am_at_lt e; omega)]; exact (hR3.1 b c j e h4).le (by omega)
      · rw [e, len3]
        by_cases h9 : j = 0
        · rw [h9, p4n]; exact Or.inl (by omega)
        · rw [p4z j h9]; trivial
      · cases e
    · rcases at2 (sh := gS ++ sh2) h3 with e | ⟨-, e⟩ | ⟨-, e⟩
      · rw [p4 b (by have := am_at_lt e; omega)]; exact (hR3.2 b m j e h4).le (by omega)
      · cases e
      · cases e
  have hG4 : lG (gS ++ (sh2 ++ [(.inl 0 : am_Sh), .inr (4, (tAll (lC N xs)).length)])) P4 := ⟨⟨_, rfl⟩, fun b hb => (p4 b (by omega)).trans (p3c b hb)⟩
  obtain ⟨I', G', ht, hKJ⟩ := hTa I4 G4 (fun b hb => (i4 b (by omega)).trans (i3c b hb)) (fun b hb => (g4 b (by omega)).trans (g3c b hb))
  have hfr := taught_fr ht
  show am_V X 683 (1530540 + ((tAll (lC N xs)).length + 4)) _ (gS ++ (sh2 ++ [(.inl 0 : am_Sh), .inr (4, (tAll (lC N xs)).length)])) ad5 (27, [(0, .ref 5000), (1, .ref 79), (2, .ref 81), (3, .ref 0)], [.ref n3, .ref 0], I4, G4, P4)
  refine am_callSM2 hX5 hi hm (M := mL_taught) (idx := 195) (d' := 54) (mc := 1) (ms := 5) (As := [.ref 0, .ref n3]) (rest := []) mkL_taught msL_taught (by decide +kernel) (by decide +kernel) rfl ⟨by decide, by decide, Nat.le_of_ble_eq_true rfl⟩ rfl ⟨by omega, by omega⟩ (k_taught hG4 (by rw [len4]; exact hR4) hT4 ⟨by omega, by omega⟩ hx4a (by omega) (by rw [len4]; omega) ht) ?_
  rintro r I' G' P4 ⟨rfl, rfl, rfl, rfl⟩
  show am_V X 684 (1530540 + ((tAll (lC N xs)).length + 4) + 5) _ (gS ++ (sh2 ++ [(.inl 0 : am_Sh), .inr (4, (tAll (lC N xs)).length)])) ad5 (30, [(0, .ref 5000), (1, .ref 79), (2, .ref 81), (3, .ref 0)], [.int 0], I', G', P4)
  refine am_if_eq hX5 hi (off := 5) (tgt := 35) (by decide +kernel) (by decide) (fun _ => ?_) (fun c => absurd rfl c)
  refine am_sub (L' := [(0, .ref 5000), (2, .ref 81), (3, .ref 0)]) (fun q hq => by simp at hq ⊢; rcases hq with h | h | h <;> simp [h]) ?_
  refine am_wid hm (cells' := 8000) (slots' := 200 * 8000) ⟨by omega, by omega⟩ ⟨by omega, by omega⟩ ?_
  have hI5 : ∀ k, k < sh2.length → I' (79 + k) = I2 k := fun k hk => by rw [hfr _ (by omega), i4 _ (by omega), i3l k hk]
  refine t_ren (I2 := I2) (P2 := P2) hX5 hS (fun b hb => (p4 b (by omega)).trans (p3c b hb)) (fun k hk j => by rw [p4 _ (by omega)]; exact p3l k hk j) hI5 (fun ad6 hX6 ha6 => ?_)
  obtain ⟨hH, hGf⟩ := fH (pNi (lC N xs)) (pNo (lC N xs)) (pNc (lC N xs)) (pNd (lC N xs))
  have hlw := hLaw _ _ (hK1 I' (fun k => I' (fPi (pNo (lC N xs)) (pNc (lC N xs)) (pNd (lC N xs)) k)) G' (fun k => G' (fPi (pNo (lC N xs)) (pNc (lC N xs)) (pNd (lC N xs)) k)) (fun b hb => by rw [fPi_c hb]) (fun b hb => by rw [fPi_c hb]) hKJ) (iL_of hS hI5)
  refine t_L_law hH hGf hN (by rw [fSh_len]; omega) hX6 hi hm (hsc.adr ((ha6 5000 (by decide)).trans ea5)) (fun ad9 ex L I G k pc hX9 hk hd => hend ad9 _ ex _ L I G k pc hX9 hk hd) 8000 _ _ (by decide) ?_ rfl
  rw [fSh_len]
  exact hlw
