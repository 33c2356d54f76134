/-! list: its beginning, and the whole of it -/
section AMCA0
variable {X : am_X} {o : Nat} {cc : ByteArray} {nL : Nat} {ini : Bool} {ret : Option FieldType} {d : Nat}
variable {cells slots mc ms MC MS keep : Nat} {Q : State → Prop} {sh : List am_Sh} {ad : Nat → Nat} {pc : Nat} {L : am_L} {st : List Value} {I : am_I} {G : am_G} {P : am_P} {postA : am_PoA}
theorem am_callINA (hX : am_okz X ad) (hi : am_info X o cc nL ini ret d) (hm : am_mem X MC MS) {M : am_M} {d' idx b : Nat} {As rest : List Value} (hM : am_Mok M) (hin : Cond.instanceMethod M.1 ∈ lw_tbl) (hnm : M.1.name = "<init>") (hret : M.2.2.2.1 = none) (hl : am_lnk o idx M.1 true = true) (hd : decode cc pc = .ok (.invokespecial idx, 3))
    (hn : As.length = M.2.2.2.2.2.1) (hdd : d' + 1 ≤ d ∧ 19 + M.2.2.1 + 30 * d' ≤ 30 * d ∧ (rest.map fun v => v.category).sum ≤ 8) (hst : st = As.reverse ++ .ref b :: rest) (hroom : cells + mc ≤ MC ∧ slots + ms ≤ MS) (hkL : am_kqL keep L) (hkS : am_kqS keep rest) (hC : am_CtA M d' mc ms keep sh (.ref b :: As) I G P postA)
    (kk : ∀ r sh' ad' I' G' P', postA r sh' I' G' P' → (∀ j, j < keep ∨ 1000 ≤ j → ad' j = ad j) → am_okz X ad' → am_V X (cells + mc) (slots + ms) Q sh' ad' (pc + 3, L, r.toList ++ rest, I', G', P')) : am_V X cells slots Q sh ad (pc, L, st, I, G, P) := by
  subst hst
  have hX0 := hX
  obtain ⟨y, cb, mL, rt, oM, nA, iniM⟩ := M
  simp only at hret hnm hn hdd hin hl
  subst hret
  obtain ⟨p, l, e, R, s, m, args, below, meth, c, A, D, cys, o', cc', nL', ini'⟩ := X
  obtain ⟨rfl, rfl, rfl, rfl, -, hR1, hR2⟩ := hi
  obtain ⟨rfl, rfl⟩ := hm
  obtain ⟨⟨hx, hb, hml, hown, hts, hlk, hK, hN, hA, hini, hR3, hR4⟩, hZ⟩ := hX
  intro h1 h2 H locs ls hP hD hS hlo
  obtain ⟨q1, q2, q3, q4, q5⟩ := hM
  have hlw : Cond.methodLinkNest (am_own o') idx y (am_host o') ∈ lw_tbl := by
    have := am_lnk_ok hl
    simpa using this
  have cw : va_CN R s args (am_own o') idx y (am_host o') cb mL none (am_wl y cb mL none) (am_rm d' mc ms) mc ms nA ∧ y.name = "<init>" ∧ (Cond.instanceMethod y).before args s = true :=
    ⟨va_cnB _ hts (am_goodIn (M := (y, cb, mL, none, oM, nA, iniM)) ⟨q1, q2, q3, q4, q5⟩) rfl rfl rfl (hN _ hlw rfl) (hts _ (am_good q2 rfl)) ⟨q3, q4, q5⟩ ⟨by show d' + 1 ≤ R.frames; omega, by show 8 + (mL + 11) + 30 * d' ≤ R.locals; omega⟩, hnm, hts _ (am_good hin rfl)⟩
  have hA1 := am_A1 hD hS hA
  refine am_goesA (A1 := va_A (am_ws cys ad sh I G P) H.size) (va_runIN (As := As.map (am_tv ad)) (b := ad b) (rest := rest.map (am_tv ad)) ⟨hx, hb, hml, hown, hts⟩ (hC l D cys ad H.size) cw ⟨am_blind, ?_⟩ rfl (by rw [List.length_map]; exact hn) hlo.1 ?_ ?_ hd hroom) hS hA1 ?_
  · intro U hU hW
    exact ⟨rfl, by rw [hU], by rw [hU]; exact hP, va_K.moved hW.alike hK, hD.weaken (fun _ _ _ _ => trivial), am_nst.warm hW hN, by rw [hU]; exact (am_Zs.warm hW (hZ.kept hS.2.1)).narrow hA1⟩
  · simp [am_tv]
  · exact lv_room (by rw [am_cats]; exact hdd.2.2)
  · intro r sh' ad' I' G' P' hp had H1 locs1 hP1 hD1 hS1
    obtain ⟨e1, e2⟩ := am_kq_map hkL hkS had
    rw [← e2, am_out]
    exact kk r sh' ad' I' G' P' hp had (hX0.adr (fun j hj => had j (Or.inr hj))) hroom.1 hroom.2 H1 locs1 ls hP1 hD1 hS1 (by rw [e1]; exact hlo)
end AMCA0
/-- rows told: the outer row out of n own rows of w numbers, from cell b on, said by the Sim's field pl -/
def rAt (sh : List am_Sh) (I : am_I) (P : am_P) (pl b out n w : Nat) (V : Nat → Nat → Nat) : Prop := P 2 pl = .ref out ∧ sh[out]? = some (.inr (3, n)) ∧ ∀ k, k < n → sh[b + 2 * k]? = some (.inr (0, w)) ∧ P out k = .ref (b + 2 * k) ∧ ∀ j, j < w → I (b + 2 * k) j = Int32.ofNat (V k j)
section AMCA1
variable {sh0 sh : List am_Sh} {I0 I : am_I} {P0 P : am_P} {pl pl' b out n w m : Nat} {V : Nat → Nat → Nat} {T : List Nat}
theorem rAt.kept (h : rAt sh0 I0 P0 pl b out n w V) (hF : gF sh0 I0 P0 pl' sh I P) (h1 : pl ≠ pl') (h2 : 2 < out) (h3 : 2 < b) : rAt sh I P pl b out n w V := by
  obtain ⟨a1, a2, a3⟩ := h
  obtain ⟨c1, c2, c3, c4⟩ := hF
  have lo := am_at_lt a2
  refine ⟨(c4 pl h1).trans a1, (c1 out lo (by omega)).trans a2, fun k hk => ?_⟩
  obtain ⟨b1, b2, b3⟩ := a3 k hk
  have lb := am_at_lt b1
  exact ⟨(c1 _ lb (by omega)).trans b1, by rw [c3 out lo (by omega)]; exact b2, fun j hj => by rw [c2 _ lb (by omega) (by omega)]; exact b3 j hj⟩
theorem gI.rAt (h : gI sh0 I0 P0 pl out w V n m T sh I P) : rAt sh I P pl sh0.length (gN sh0.length out n) n w V := ⟨h.2.2.2.2.1, h.2.2.2.1, h.2.2.2.2.2.1⟩
theorem gF.rf : gF sh I P pl sh I P := ⟨fun _ _ _ => rfl, fun _ _ _ _ => rfl, fun _ _ _ => rfl, fun _ _ => rfl⟩
/-- no turn yet -/
theorem gI.start (h2 : sh[2]? = some (.inl 12)) (ho : sh[out]? = some (.inr (3, 0))) (hP : P 2 pl = .ref out) (hB : sB sh I P 0 1 m T) (hR : lR sh.length sh P) (hV : lV 1 0 sh P) : gI sh I P pl out w V 0 m T sh I P :=
  ⟨gF.rf, rfl, h2, ho, hP, fun k hk => absurd hk (Nat.not_lt_zero _), hB, hR, hV⟩
end AMCA1
/-- what list leaves -/
def lS (c : Nat → Int32) (sh : List am_Sh) (I : am_I) (P : am_P) : Prop := ∃ m, sh.length = 8 + 2 * pNo c + 2 * pNc c + 2 * pNd c ∧ sB sh I P 0 1 m (tAll c) ∧ sh[2]? = some (.inl 12) ∧
  (I 2 0 = Int32.ofNat (pCols c) ∧ I 2 1 = Int32.ofNat (pRows c) ∧ I 2 6 = 0 ∧ I 2 7 = 0 ∧ I 2 8 = 0 ∧ I 2 9 = 0) ∧
  rAt sh I P 2 7 (gN 7 3 (pNo c)) (pNo c) 4 (pOct c) ∧ rAt sh I P 3 (7 + 2 * pNo c) (gN (7 + 2 * pNo c) 4 (pNc c)) (pNc c) 3 (pCmb c) ∧
  (P 2 4 = .ref (7 + 2 * pNo c + 2 * pNc c) ∧ sh[7 + 2 * pNo c + 2 * pNc c]? = some (.inr (0, pNi c)) ∧ ∀ j, j < pNi c → I (7 + 2 * pNo c + 2 * pNc c) j = Int32.ofNat (pLev c j)) ∧
  rAt sh I P 5 (8 + 2 * pNo c + 2 * pNc c) (gN (8 + 2 * pNo c + 2 * pNc c) 6 (pNd c)) (pNd c) 6 (pOrd c) ∧ lR sh.length sh P ∧ lV 1 0 sh P
def pList (c : Nat → Int32) : am_PoA := fun r sh' I' _ P' => r = some (.ref 2) ∧ lS c sh' I' P'
set_option maxRecDepth 100000 in
theorem cl_55 : Cond.classLink (am_own 15) 55 RX12 ∈ lw_tbl ∧ Cond.instantiable RX12 10 ∈ lw_tbl ∧ Cond.initialized RX12 ∈ lw_tbl := ⟨List.mem_of_getElem? (i := 1297) rfl, List.mem_of_getElem? (i := 901) rfl, List.mem_of_getElem? (i := 50) rfl⟩
theorem am_z_at {α : Type} (f : Nat → Nat → α) (N j : Nat) {x : α} : (am_z f N x) N j = x := by rw [am_z_self]
theorem sB.up2 {sh : List am_Sh} {I : am_I} {P : am_P} {m k : Nat} {x : Int32} {T : List Nat} (h : sB sh I P 0 1 m T) : sB sh (am_up I 2 k x) P 0 1 m T := by
  obtain ⟨s1, s2, s3, s4, s5, s6, s7, s8, s9, s10⟩ := h
  exact ⟨s1, s2, s3, by rw [am_up_rowb _ _ _ (by decide)]; exact s4, by rw [am_up_rowb _ _ _ (by decide)]; exact s5, s6, s7, s8, by rw [am_up_rowb _ _ _ (by decide)]; exact s9, by rw [am_up_rowb _ _ _ (by decide)]; exact s10⟩
/-- where list's loops begin -/
def l88 (c : Nat → Int32) (m : Nat) (T : List Nat) (sh : List am_Sh) (I : am_I) (P : am_P) : Prop := sh.length = 7 ∧ sh[2]? = some (.inl 12) ∧ (sh[3]? = some (.inr (3, 0)) ∧ sh[4]? = some (.inr (3, 0)) ∧ sh[6]? = some (.inr (3, 0))) ∧ (P 2 2 = .ref 3 ∧ P 2 3 = .ref 4 ∧ P 2 5 = .ref 6) ∧ (I 2 0 = Int32.ofNat (pCols c) ∧ I 2 1 = Int32.ofNat (pRows c) ∧ I 2 6 = 0 ∧ I 2 7 = 0 ∧ I 2 8 = 0 ∧ I 2 9 = 0) ∧ sB sh I P 0 1 m T ∧ lR sh.length sh P ∧ lV 1 0 sh P
section AMCB
variable {X : am_X} {ad0 : Nat → Nat} {N : Nat} {xs : Nat → Int32} {G : am_G}
theorem gN_b {L0 o i : Nat} (h1 : 2 < o) (h2 : o < L0) : 2 < gN L0 o i ∧ gN L0 o i ≠ 1 ∧ gN L0 o i ≠ 2 := by unfold gN; split <;> omega
set_option maxHeartbeats 4000000 in
theorem l_515 (hi : am_info X 15 cL_list 9 false (some (.object "MarbledPaperLaw$Sim")) 9) (hm : am_mem X 600 1500000) (hsc : am_scT X ad0 N xs) (hN : N ≤ 260) {ad : Nat → Nat} {sh : List am_Sh} {I : am_I} {P : am_P} {m : Nat} (hX : am_okz X ad) (ea : ∀ j, j < 1 ∨ 1000 ≤ j → ad j = ad0 j) (hl : sh.length = 8 + 2 * pNo (lC N xs) + 2 * pNc (lC N xs)) (h2 : sh[2]? = some (.inl 12)) (hp : rAt sh I P 2 7 (gN 7 3 (pNo (lC N xs))) (pNo (lC N xs)) 4 (pOct (lC N xs)) ∧ rAt sh I P 3 (7 + 2 * pNo (lC N xs)) (gN (7 + 2 * pNo (lC N xs)) 4 (pNc (lC N xs))) (pNc (lC N xs)) 3 (pCmb (lC N xs)) ∧ (P 2 4 = .ref (7 + 2 * pNo (lC N xs) + 2 * pNc (lC N xs)) ∧ sh[7 + 2 * pNo (lC N xs) + 2 * pNc (lC N xs)]? = some (.inr (0, pNi (lC N xs))) ∧ ∀ j, j < pNi (lC N xs) → I (7 + 2 * pNo (lC N xs) + 2 * pNc (lC N xs)) j = Int32.ofNat (pLev (lC N xs) j)) ∧ (P 2 5 = .ref 6 ∧ sh[6]? = some (.inr (3, 0))) ∧ (I 2 0 = Int32.ofNat (pCols (lC N xs)) ∧ I 2 1 = Int32.ofNat (pRows (lC N xs)) ∧ I 2 6 = 0 ∧ I 2 7 = 0 ∧ I 2 8 = 0 ∧ I 2 9 = 0)) (hB : sB sh I P 0 1 m (tLev (lC N xs) (pNi (lC N xs)))) (hR : lR sh.length sh P) (hV : lV 1 0 sh P) : am_V X (151 + 10 * pNi (lC N xs)) (420004 + 30000 * pNi (lC N xs)) (am_RtA X 1 ad0 (pList (lC N xs)) 600 1500000) sh ad (515, [(0, .ref 5000), (1, .ref 0), (2, .ref 2), (3, .int (Int32.ofNat (pNi (lC N xs)))), (4, .int (Int32.ofNat (pLev (lC N xs) (pNi (lC N xs))))), (5, .int (Int32.ofNat (pNi (lC N xs))))], [], I, G, P) := by
  have hno : pNo (lC N xs) ≤ 3 ∧ 1 ≤ pNo (lC N xs) := by have := lbel_lt (lC N xs 1) (n := 3) (by decide); show 1 + _ ≤ 3 ∧ 1 ≤ 1 + _; omega
  have hnc : pNc (lC N xs) ≤ 3 := Nat.lt_succ_iff.mp (lbel_lt (lC N xs 2) (n := 4) (by decide))
  have hni : pNi (lC N xs) ≤ 4 ∧ 1 ≤ pNi (lC N xs) := by have := lbel_lt (lC N xs 3) (n := 4) (by decide); show 1 + _ ≤ 4 ∧ 1 ≤ 1 + _; omega
  have hnd : pNd (lC N xs) ≤ 5 := Nat.lt_succ_iff.mp (lbel_lt (lC N xs 4) (n := 6) (by decide))
  refine am_blk 515 [(.aload_n 0, 1, 0, 0, .null), (.iconst (4), 1, 0, 0, .int (4 : Int32))] (517, [(0, .ref 5000), (1, .ref 0), (2, .ref 2), (3, .int (Int32.ofNat (pNi (lC N xs)))), (4, .int (Int32.ofNat (pLev (lC N xs) (pNi (lC N xs))))), (5, .int (Int32.ofNat (pNi (lC N xs))))], [.int (4 : Int32), .ref 5000], I, G, P) True hX hi (by decide +kernel) rfl trivial ?_
  refine am_callSS hX hi (hsc.adr ((ea 5000 (by omega)))) (M := mL_cell) (idx := 87) (d' := 1) (As := [.ref 5000, .int 4]) (rest := []) mkL_cell msL_cell (by decide +kernel) (by decide +kernel) rfl ⟨by decide, by decide, Nat.le_of_ble_eq_true rfl⟩ rfl (c_cell 4 (by decide) hN) ?_
  rintro r9 I9 G9 P9 ⟨e0, e1, e2, e3⟩
  rw [e0, e1, e2, e3]
  show am_V X (151 + 10 * pNi (lC N xs)) (420004 + 30000 * pNi (lC N xs)) _ sh ad (520, [(0, .ref 5000), (1, .ref 0), (2, .ref 2), (3, .int (Int32.ofNat (pNi (lC N xs)))), (4, .int (Int32.ofNat (pLev (lC N xs) (pNi (lC N xs))))), (5, .int (Int32.ofNat (pNi (lC N xs))))], [.int (lC N xs 4)], I, G, P)
  refine am_blk 520 [(.bipush (6), 2, 0, 0, .int (6 : Int32))] (522, [(0, .ref 5000), (1, .ref 0), (2, .ref 2), (3, .int (Int32.ofNat (pNi (lC N xs)))), (4, .int (Int32.ofNat (pLev (lC N xs) (pNi (lC N xs))))), (5, .int (Int32.ofNat (pNi (lC N xs))))], [.int (6 : Int32), .int (lC N xs 4)], I, G, P) True hX hi (by decide +kernel) rfl trivial ?_
  refine am_callS2 hX hi (M := mL_below) (idx := 93) (d' := 1) (As := [.int (lC N xs 4), .int 6]) (rest := []) mkL_below msL_below (by decide +kernel) (by decide +kernel) rfl ⟨by decide, by decide, Nat.le_of_ble_eq_true rfl⟩ rfl (c_below _ _ (by decide)) ?_
  rintro r9 I9 G9 P9 ⟨e0, e1, e2, e3⟩
  rw [e0, e1, e2, e3, show lw_b (lC N xs 4) (6 : Int32) = Int32.ofNat (lbel (lC N xs 4) 6) from lw_b_n _ (by decide) (by decide)]
  show am_V X (151 + 10 * pNi (lC N xs)) (420004 + 30000 * pNi (lC N xs)) _ sh ad (525, [(0, .ref 5000), (1, .ref 0), (2, .ref 2), (3, .int (Int32.ofNat (pNi (lC N xs)))), (4, .int (Int32.ofNat (pLev (lC N xs) (pNi (lC N xs))))), (5, .int (Int32.ofNat (pNi (lC N xs))))], [.int (Int32.ofNat (lbel (lC N xs 4) 6))], I, G, P)
  refine am_blk 525 [(.istore 5, 2, 5, 0, .null)] (527, [(0, .ref 5000), (1, .ref 0), (2, .ref 2), (3, .int (Int32.ofNat (pNi (lC N xs)))), (4, .int (Int32.ofNat (pLev (lC N xs) (pNi (lC N xs))))), (5, .int (Int32.ofNat (lbel (lC N xs 4) 6)))], [], I, G, P) True hX hi (by decide +kernel) rfl trivial ?_
  refine am_wid hm (cells' := 200 + 70 * 0 + 0) (slots' := 560000 + 170000 * 0 + 0) ⟨by omega, by omega⟩ ⟨by omega, by omega⟩ ?_
  refine l_ord (sh0 := sh) (I0 := I) (P0 := P) (cq := gN (7 + 2 * pNo (lC N xs)) 4 (pNc (lC N xs))) (oq := gN 7 3 (pNo (lC N xs))) (lv := 7 + 2 * pNo (lC N xs) + 2 * pNc (lC N xs)) hi hm hsc hN (by omega) (by omega) hp.2.1.1 hp.2.1.2.1 (gN_b (by decide) (by omega)).2.1 hp.1.1 hp.1.2.1 (gN_b (by decide) (by decide)).2.1 hp.2.2.1.1 hp.2.2.1.2.1 (by omega) ?_ (pNd (lC N xs)) 0 (by omega) _ _ _ _ m hX ea (gI.start h2 hp.2.2.2.1.2 hp.2.2.2.1.1 hB hR hV)
  intro ad9 sh9 I9 P9 m9 hX9 ea9 h9
  refine am_blk 829 [(.aload_n 2, 1, 2, 0, .null)] (830, [(0, .ref 5000), (1, .ref 0), (2, .ref 2), (3, .int (Int32.ofNat (pNi (lC N xs)))), (4, .int (Int32.ofNat (pLev (lC N xs) (pNi (lC N xs))))), (5, .int (Int32.ofNat 0))], [.ref 2], I9, G, P9) True hX9 hi (by decide +kernel) rfl trivial ?_
  have hF := h9.1
  have eL : sh9.length = sh.length + 2 * pNd (lC N xs) := h9.2.1
  refine am_aretA hX9 hi rfl (by decide +kernel) ea9 ⟨rfl, m9, by omega, h9.2.2.2.2.2.2.1, h9.2.2.1, ?_, hp.1.kept hF (by decide) (gN_b (by decide) (by decide)).1 (by decide), hp.2.1.kept hF (by decide) (gN_b (by decide) (by omega)).1 (by omega), ⟨(hF.2.2.2 4 (by decide)).trans hp.2.2.1.1, (hF.1 _ (by omega) (by omega)).trans hp.2.2.1.2.1, fun j hj => ?_⟩, ?_, h9.2.2.2.2.2.2.2.1, h9.2.2.2.2.2.2.2.2⟩ ⟨by omega, by omega⟩
  · rw [hF.2.1 2 (by omega) (by decide) (by decide)]; exact hp.2.2.2.2
  · rw [hF.2.1 _ (by omega) (by omega) (by omega)]; exact hp.2.2.1.2.2 j hj
  · have h := h9.rAt; rw [hl] at h; exact h
set_option maxHeartbeats 4000000 in
theorem l_405 (hi : am_info X 15 cL_list 9 false (some (.object "MarbledPaperLaw$Sim")) 9) (hm : am_mem X 600 1500000) (hsc : am_scT X ad0 N xs) (hN : N ≤ 260) {ad : Nat → Nat} {sh : List am_Sh} {I : am_I} {P : am_P} {m : Nat} (hX : am_okz X ad) (ea : ∀ j, j < 1 ∨ 1000 ≤ j → ad j = ad0 j) (hl : sh.length = 7 + 2 * pNo (lC N xs) + 2 * pNc (lC N xs)) (h2 : sh[2]? = some (.inl 12)) (hp : rAt sh I P 2 7 (gN 7 3 (pNo (lC N xs))) (pNo (lC N xs)) 4 (pOct (lC N xs)) ∧ rAt sh I P 3 (7 + 2 * pNo (lC N xs)) (gN (7 + 2 * pNo (lC N xs)) 4 (pNc (lC N xs))) (pNc (lC N xs)) 3 (pCmb (lC N xs)) ∧ (P 2 5 = .ref 6 ∧ sh[6]? = some (.inr (3, 0))) ∧ (I 2 0 = Int32.ofNat (pCols (lC N xs)) ∧ I 2 1 = Int32.ofNat (pRows (lC N xs)) ∧ I 2 6 = 0 ∧ I 2 7 = 0 ∧ I 2 8 = 0 ∧ I 2 9 = 0)) (hB : sB sh I P 0 1 m (tCmb (lC N xs) (pNc (lC N xs)))) (hR : lR sh.length sh P) (hV : lV 1 0 sh P) : am_V X (90 + 20 * pNc (lC N xs)) (240000 + 60000 * pNc (lC N xs)) (am_RtA X 1 ad0 (pList (lC N xs)) 600 1500000) sh ad (405, [(0, .ref 5000), (1, .ref 0), (2, .ref 2), (3, .int (Int32.ofNat 0))], [], I, G, P) := by
  have hno : pNo (lC N xs) ≤ 3 ∧ 1 ≤ pNo (lC N xs) := by have := lbel_lt (lC N xs 1) (n := 3) (by decide); show 1 + _ ≤ 3 ∧ 1 ≤ 1 + _; omega
  have hnc : pNc (lC N xs) ≤ 3 := Nat.lt_succ_iff.mp (lbel_lt (lC N xs 2) (n := 4) (by decide))
  have hni : pNi (lC N xs) ≤ 4 ∧ 1 ≤ pNi (lC N xs) := by have := lbel_lt (lC N xs 3) (n := 4) (by decide); show 1 + _ ≤ 4 ∧ 1 ≤ 1 + _; omega
  have hnd : pNd (lC N xs) ≤ 5 := Nat.lt_succ_iff.mp (lbel_lt (lC N xs 4) (n := 6) (by decide))
  refine am_blk 405 [(.iconst (1), 1, 0, 0, .int (1 : Int32)), (.aload_n 0, 1, 0, 0, .null), (.iconst (3), 1, 0, 0, .int (3 : Int32))] (408, [(0, .ref 5000), (1, .ref 0), (2, .ref 2), (3, .int (Int32.ofNat 0))], [.int (3 : Int32), .ref 5000, .int (1 : Int32)], I, G, P) True hX hi (by decide +kernel) rfl trivial ?_
  refine am_callSS hX hi (hsc.adr ((ea 5000 (by omega)))) (M := mL_cell) (idx := 87) (d' := 1) (As := [.ref 5000, .int 3]) (rest := [.int (1 : Int32)]) mkL_cell msL_cell (by decide +kernel) (by decide +kernel) rfl ⟨by decide, by decide, Nat.le_of_ble_eq_true rfl⟩ rfl (c_cell 3 (by decide) hN) ?_
  rintro r9 I9 G9 P9 ⟨e0, e1, e2, e3⟩
  rw [e0, e1, e2, e3]
  show am_V X (90 + 20 * pNc (lC N xs)) (240000 + 60000 * pNc (lC N xs)) _ sh ad (411, [(0, .ref 5000), (1, .ref 0), (2, .ref 2), (3, .int (Int32.ofNat 0))], [.int (lC N xs 3), .int (1 : Int32)], I, G, P)
  refine am_blk 411 [(.iconst (4), 1, 0, 0, .int (4 : Int32))] (412, [(0, .ref 5000), (1, .ref 0), (2, .ref 2), (3, .int (Int32.ofNat 0))], [.int (4 : Int32), .int (lC N xs 3), .int (1 : Int32)], I, G, P) True hX hi (by decide +kernel) rfl trivial ?_
  refine am_callS2 hX hi (M := mL_below) (idx := 93) (d' := 1) (As := [.int (lC N xs 3), .int 4]) (rest := [.int (1 : Int32)]) mkL_below msL_below (by decide +kernel) (by decide +kernel) rfl ⟨by decide, by decide, Nat.le_of_ble_eq_true rfl⟩ rfl (c_below _ _ (by decide)) ?_
  rintro r9 I9 G9 P9 ⟨e0, e1, e2, e3⟩
  rw [e0, e1, e2, e3, show lw_b (lC N xs 3) (4 : Int32) = Int32.ofNat (lbel (lC N xs 3) 4) from lw_b_n _ (by decide) (by decide)]
  show am_V X (90 + 20 * pNc (lC N xs)) (240000 + 60000 * pNc (lC N xs)) _ sh ad (415, [(0, .ref 5000), (1, .ref 0), (2, .ref 2), (3, .int (Int32.ofNat 0))], [.int (Int32.ofNat (lbel (lC N xs 3) 4)), .int (1 : Int32)], I, G, P)
  refine am_blk 415 [(.iadd, 1, 0, 0, .null)] (416, [(0, .ref 5000), (1, .ref 0), (2, .ref 2), (3, .int (Int32.ofNat 0))], [.int ((1 : Int32) + (Int32.ofNat (lbel (lC N xs 3) 4)))], I, G, P) True hX hi (by decide +kernel) rfl trivial ?_
  rw [show ((1 : Int32) + (Int32.ofNat (lbel (lC N xs 3) 4))) = (Int32.ofNat (pNi (lC N xs))) from nI_add 1 _]
  show am_V X (90 + 20 * pNc (lC N xs)) (240000 + 60000 * pNc (lC N xs)) _ sh ad (416, [(0, .ref 5000), (1, .ref 0), (2, .ref 2), (3, .int (Int32.ofNat 0))], [.int (Int32.ofNat (pNi (lC N xs)))], I, G, P)
  refine am_blk 416 [(.istore_n 3, 1, 3, 0, .null), (.aload_n 2, 1, 2, 0, .null), (.iload_n 3, 1, 3, 0, .null)] (419, [(0, .ref 5000), (1, .ref 0), (2, .ref 2), (3, .int (Int32.ofNat (pNi (lC N xs))))], [.int (Int32.ofNat (pNi (lC N xs))), .ref 2], I, G, P) True hX hi (by decide +kernel) rfl trivial ?_
  refine am_newS hX hi hm (N := pNi (lC N xs)) (by decide +kernel) (by decide +kernel) (n_nlt0 _ (by omega)) (n_cl (by omega)) (by omega) ⟨by omega, by omega⟩ (by omega) hR (am_kqL_r (Or.inr (by decide)) (am_kqL_r (Or.inl (by omega)) (am_kqL_r (Or.inl (by omega)) (am_kqL_i am_kqL_n)))) (am_kqS_r (Or.inl (by omega)) am_kqS_n) (fun ad1 ha1 hX1 => ?_)
  have ea1 : ∀ j, j < 1 ∨ 1000 ≤ j → ad1 j = ad0 j := fun j hj => (ha1 j (by omega)).trans (ea j hj)
  have hS := lI.start (n := pNi (lC N xs)) (V := pLev (lC N xs)) (by omega) h2 hB hR hV
  refine am_pfP hX1 hi (c := 12) (b := 4) (idx := 54) (am_at_app h2) rfl (by decide +kernel) rfl (by decide +kernel) ?_
  generalize hsh2 : sh ++ [(.inr (0, pNi (lC N xs)) : am_Sh)] = sh2 at *
  generalize hI2 : am_row I sh.length (fun _ => 0) = I2 at *
  generalize hP2 : am_up P 2 4 (.ref sh.length) = P2 at *
  show am_V X (90 + 20 * pNc (lC N xs) + 1) (240000 + 60000 * pNc (lC N xs) + pNi (lC N xs)) _ sh2 ad1 (424, [(0, .ref 5000), (1, .ref 0), (2, .ref 2), (3, .int (Int32.ofNat (pNi (lC N xs))))], [], I2, G, P2)
  refine am_blk 424 [(.sipush (350), 3, 0, 0, .int (350 : Int32)), (.aload_n 0, 1, 0, 0, .null), (.iconst (3), 1, 0, 0, .int (3 : Int32))] (429, [(0, .ref 5000), (1, .ref 0), (2, .ref 2), (3, .int (Int32.ofNat (pNi (lC N xs))))], [.int (3 : Int32), .ref 5000, .int (350 : Int32)], I2, G, P2) True hX1 hi (by decide +kernel) rfl trivial ?_
  refine am_callSS hX1 hi (hsc.adr ((ea1 5000 (by omega)))) (M := mL_cell) (idx := 87) (d' := 1) (As := [.ref 5000, .int 3]) (rest := [.int (350 : Int32)]) mkL_cell msL_cell (by decide +kernel) (by decide +kernel) rfl ⟨by decide, by decide, Nat.le_of_ble_eq_true rfl⟩ rfl (c_cell 3 (by decide) hN) ?_
  rintro r9 I9 G9 P9 ⟨e0, e1, e2, e3⟩
  rw [e0, e1, e2, e3]
  show am_V X (90 + 20 * pNc (lC N xs) + 1) (240000 + 60000 * pNc (lC N xs) + pNi (lC N xs)) _ sh2 ad1 (432, [(0, .ref 5000), (1, .ref 0), (2, .ref 2), (3, .int (Int32.ofNat (pNi (lC N xs))))], [.int (lC N xs 3), .int (350 : Int32)], I2, G, P2)
  refine am_blk 432 [(.iconst (3), 1, 0, 0, .int (3 : Int32)), (.ishr, 1, 0, 0, .null), (.bipush (120), 2, 0, 0, .int (120 : Int32))] (436, [(0, .ref 5000), (1, .ref 0), (2, .ref 2), (3, .int (Int32.ofNat (pNi (lC N xs))))], [.int (120 : Int32), .int ((lC N xs 3) >>> ((3 : Int32) &&& 31)), .int (350 : Int32)], I2, G, P2) True hX1 hi (by decide +kernel) rfl trivial ?_
  refine am_callS2 hX1 hi (M := mL_below) (idx := 93) (d' := 1) (As := [.int ((lC N xs 3) >>> ((3 : Int32) &&& 31)), .int 120]) (rest := [.int (350 : Int32)]) mkL_below msL_below (by decide +kernel) (by decide +kernel) rfl ⟨by decide, by decide, Nat.le_of_ble_eq_true rfl⟩ rfl (c_below _ _ (by decide)) ?_
  rintro r9 I9 G9 P9 ⟨e0, e1, e2, e3⟩
  rw [e0, e1, e2, e3, show lw_b ((lC N xs 3) >>> ((3 : Int32) &&& 31)) (120 : Int32) = Int32.ofNat (lbel ((lC N xs 3) >>> ((3 : Int32) &&& 31)) 120) from lw_b_n _ (by decide) (by decide)]
  show am_V X (90 + 20 * pNc (lC N xs) + 1) (240000 + 60000 * pNc (lC N xs) + pNi (lC N xs)) _ sh2 ad1 (439, [(0, .ref 5000), (1, .ref 0), (2, .ref 2), (3, .int (Int32.ofNat (pNi (lC N xs))))], [.int (Int32.ofNat (lbel ((lC N xs 3) >>> ((3 : Int32) &&& 31)) 120)), .int (350 : Int32)], I2, G, P2)
  refine am_blk 439 [(.iadd, 1, 0, 0, .null)] (440, [(0, .ref 5000), (1, .ref 0), (2, .ref 2), (3, .int (Int32.ofNat (pNi (lC N xs))))], [.int ((350 : Int32) + (Int32.ofNat (lbel ((lC N xs 3) >>> ((3 : Int32) &&& 31)) 120)))], I2, G, P2) True hX1 hi (by decide +kernel) rfl trivial ?_
  rw [show ((350 : Int32) + (Int32.ofNat (lbel ((lC N xs 3) >>> ((3 : Int32) &&& 31)) 120))) = (Int32.ofNat (pLev (lC N xs) 0)) from nI_add 350 _]
  show am_V X (90 + 20 * pNc (lC N xs) + 1) (240000 + 60000 * pNc (lC N xs) + pNi (lC N xs)) _ sh2 ad1 (440, [(0, .ref 5000), (1, .ref 0), (2, .ref 2), (3, .int (Int32.ofNat (pNi (lC N xs))))], [.int (Int32.ofNat (pLev (lC N xs) 0))], I2, G, P2)
  refine am_blk 440 [(.istore 4, 2, 4, 0, .null), (.iconst (0), 1, 0, 0, .int (0 : Int32)), (.istore 5, 2, 5, 0, .null)] (445, [(0, .ref 5000), (1, .ref 0), (2, .ref 2), (3, .int (Int32.ofNat (pNi (lC N xs)))), (4, .int (Int32.ofNat (pLev (lC N xs) 0))), (5, .int (0 : Int32))], [], I2, G, P2) True hX1 hi (by decide +kernel) rfl trivial ?_
  refine am_wid hm (cells' := 151 + 10 * 0) (slots' := 420004 + 30000 * 0) ⟨by omega, by omega⟩ ⟨by omega, by omega⟩ ?_
  refine l_lev (sh0 := sh) (I0 := I) (P0 := P) hi hm hsc hN (by omega) (by omega) ?_ (pNi (lC N xs)) 0 (by omega) _ _ _ _ m hX1 ea1 hS
  intro ad9 sh9 I9 P9 m9 hX9 ea9 h9
  have hF := h9.1
  have eL : sh9.length = sh.length + 1 := h9.2.1
  refine l_515 hi hm hsc hN hX9 ea9 (by omega) h9.2.2.1 ⟨hp.1.kept hF (by decide) (gN_b (by decide) (by decide)).1 (by decide), hp.2.1.kept hF (by decide) (gN_b (by decide) (by omega)).1 (by omega), ?_, ⟨(hF.2.2.2 5 (by decide)).trans hp.2.2.1.1, (hF.1 6 (by omega) (by decide)).trans hp.2.2.1.2⟩, ?_⟩ h9.2.2.2.2.2.2.1 h9.2.2.2.2.2.2.2.1 h9.2.2.2.2.2.2.2.2
  · rw [← hl]; exact ⟨h9.2.2.2.2.1, h9.2.2.2.1, h9.2.2.2.2.2.1⟩
  · rw [hF.2.1 2 (by omega) (by decide) (by decide)]; exact hp.2.2.2
set_option maxHeartbeats 4000000 in
theorem l_88 (hi : am_info X 15 cL_list 9 false (some (.object "MarbledPaperLaw$Sim")) 9) (hm : am_mem X 600 1500000) (hsc : am_scT X ad0 N xs) (hN : N ≤ 260) {ad : Nat → Nat} {sh : List am_Sh} {I : am_I} {P : am_P} {m : Nat} (hX : am_okz X ad) (ea : ∀ j, j < 1 ∨ 1000 ≤ j → ad j = ad0 j) (h : l88 (lC N xs) m (tPap (lC N xs)) sh I P) : am_V X 30 60000 (am_RtA X 1 ad0 (pList (lC N xs)) 600 1500000) sh ad (88, [(0, .ref 5000), (1, .ref 0), (2, .ref 2)], [], I, G, P) := by
  have hno : pNo (lC N xs) ≤ 3 ∧ 1 ≤ pNo (lC N xs) := by have := lbel_lt (lC N xs 1) (n := 3) (by decide); show 1 + _ ≤ 3 ∧ 1 ≤ 1 + _; omega
  have hnc : pNc (lC N xs) ≤ 3 := Nat.lt_succ_iff.mp (lbel_lt (lC N xs 2) (n := 4) (by decide))
  have hni : pNi (lC N xs) ≤ 4 ∧ 1 ≤ pNi (lC N xs) := by have := lbel_lt (lC N xs 3) (n := 4) (by decide); show 1 + _ ≤ 4 ∧ 1 ≤ 1 + _; omega
  have hnd : pNd (lC N xs) ≤ 5 := Nat.lt_succ_iff.mp (lbel_lt (lC N xs 4) (n := 6) (by decide))
  refine am_blk 88 [(.iconst (0), 1, 0, 0, .int (0 : Int32)), (.istore_n 3, 1, 3, 0, .null)] (90, [(0, .ref 5000), (1, .ref 0), (2, .ref 2), (3, .int (0 : Int32))], [], I, G, P) True hX hi (by decide +kernel) rfl trivial ?_
  refine l_oct (sh0 := sh) (I0 := I) (P0 := P) hi hm hsc hN h.1 ?_ (pNo (lC N xs)) 0 (by omega) _ _ _ _ m hX ea (gI.start h.2.1 h.2.2.1.1 h.2.2.2.1.1 h.2.2.2.2.2.1 h.2.2.2.2.2.2.1 h.2.2.2.2.2.2.2)
  intro adz shz Iz Pz mz hXz eaz hz
  have hF := hz.1
  have eL : shz.length = sh.length + 2 * pNo (lC N xs) := hz.2.1
  have el := h.1
  refine am_blk 259 [(.aload_n 0, 1, 0, 0, .null), (.iconst (2), 1, 0, 0, .int (2 : Int32))] (261, [(0, .ref 5000), (1, .ref 0), (2, .ref 2), (3, .int (Int32.ofNat (pNo (lC N xs))))], [.int (2 : Int32), .ref 5000], Iz, G, Pz) True hXz hi (by decide +kernel) rfl trivial ?_
  refine am_callSS hXz hi (hsc.adr ((eaz 5000 (by omega)))) (M := mL_cell) (idx := 87) (d' := 1) (As := [.ref 5000, .int 2]) (rest := []) mkL_cell msL_cell (by decide +kernel) (by decide +kernel) rfl ⟨by decide, by decide, Nat.le_of_ble_eq_true rfl⟩ rfl (c_cell 2 (by decide) hN) ?_
  rintro r9 I9 G9 P9 ⟨e0, e1, e2, e3⟩
  rw [e0, e1, e2, e3]
  show am_V X (30 + 20 * pNo (lC N xs)) (60000 + 60000 * pNo (lC N xs)) _ shz adz (264, [(0, .ref 5000), (1, .ref 0), (2, .ref 2), (3, .int (Int32.ofNat (pNo (lC N xs))))], [.int (lC N xs 2)], Iz, G, Pz)
  refine am_blk 264 [(.iconst (4), 1, 0, 0, .int (4 : Int32))] (265, [(0, .ref 5000), (1, .ref 0), (2, .ref 2), (3, .int (Int32.ofNat (pNo (lC N xs))))], [.int (4 : Int32), .int (lC N xs 2)], Iz, G, Pz) True hXz hi (by decide +kernel) rfl trivial ?_
  refine am_callS2 hXz hi (M := mL_below) (idx := 93) (d' := 1) (As := [.int (lC N xs 2), .int 4]) (rest := []) mkL_below msL_below (by decide +kernel) (by decide +kernel) rfl ⟨by decide, by decide, Nat.le_of_ble_eq_true rfl⟩ rfl (c_below _ _ (by decide)) ?_
  rintro r9 I9 G9 P9 ⟨e0, e1, e2, e3⟩
  rw [e0, e1, e2, e3, show lw_b (lC N xs 2) (4 : Int32) = Int32.ofNat (lbel (lC N xs 2) 4) from lw_b_n _ (by decide) (by decide)]
  show am_V X (30 + 20 * pNo (lC N xs)) (60000 + 60000 * pNo (lC N xs)) _ shz adz (268, [(0, .ref 5000), (1, .ref 0), (2, .ref 2), (3, .int (Int32.ofNat (pNo (lC N xs))))], [.int (Int32.ofNat (lbel (lC N xs 2) 4))], Iz, G, Pz)
  refine am_blk 268 [(.istore_n 3, 1, 3, 0, .null)] (269, [(0, .ref 5000), (1, .ref 0), (2, .ref 2), (3, .int (Int32.ofNat (lbel (lC N xs 2) 4)))], [], Iz, G, Pz) True hXz hi (by decide +kernel) rfl trivial ?_
  refine am_wid hm (cells' := 90 + 20 * 0) (slots' := 240000 + 60000 * 0) ⟨by omega, by omega⟩ ⟨by omega, by omega⟩ ?_
  refine l_cmb (sh0 := shz) (I0 := Iz) (P0 := Pz) hi hm hsc hN (by omega) (by omega) ?_ (pNc (lC N xs)) 0 (by omega) _ _ _ _ mz hXz eaz (gI.start hz.2.2.1 ((hF.1 4 (by omega) (by decide)).trans h.2.2.1.2.1) ((hF.2.2.2 3 (by decide)).trans h.2.2.2.1.2.1) hz.2.2.2.2.2.2.1 hz.2.2.2.2.2.2.2.1 hz.2.2.2.2.2.2.2.2)
  intro ad8 sh8 I8 P8 m8 hX8 ea8 h8
  have hF8 := h8.1
  have eL8 : sh8.length = shz.length + 2 * pNc (lC N xs) := h8.2.1
  have r9 := hz.rAt
  rw [el] at r9
  have r8 := h8.rAt
  rw [show shz.length = 7 + 2 * pNo (lC N xs) by omega] at r8
  refine l_405 hi hm hsc hN hX8 ea8 (by omega) h8.2.2.1 ⟨r9.kept hF8 (by decide) (gN_b (by decide) (by decide)).1 (by decide), r8, ⟨(hF8.2.2.2 5 (by decide)).trans ((hF.2.2.2 5 (by decide)).trans h.2.2.2.1.2.2), (hF8.1 6 (by omega) (by decide)).trans ((hF.1 6 (by omega) (by decide)).trans h.2.2.1.2.2)⟩, ?_⟩ h8.2.2.2.2.2.2.1 h8.2.2.2.2.2.2.2.1 h8.2.2.2.2.2.2.2.2
  rw [hF8.2.1 2 (by omega) (by decide) (by decide), hF.2.1 2 (by omega) (by decide) (by decide)]; exact h.2.2.2.2.1
set_option maxHeartbeats 4000000 in
theorem l_8 (hi : am_info X 15 cL_list 9 false (some (.object "MarbledPaperLaw$Sim")) 9) (hm : am_mem X 600 1500000) (hsc : am_scT X ad0 N xs) (hN : N ≤ 260) {ad : Nat → Nat} {sh : List am_Sh} {I : am_I} {P : am_P} {m : Nat} (hX : am_okz X ad) (ea : ∀ j, j < 1 ∨ 1000 ≤ j → ad j = ad0 j) (h : sh.length = 7 ∧ sh[2]? = some (.inl 12) ∧ (sh[3]? = some (.inr (3, 0)) ∧ sh[4]? = some (.inr (3, 0)) ∧ sh[6]? = some (.inr (3, 0))) ∧ (P 2 2 = .ref 3 ∧ P 2 3 = .ref 4 ∧ P 2 5 = .ref 6) ∧ (I 2 0 = 16 ∧ I 2 1 = 12 ∧ I 2 6 = 0 ∧ I 2 7 = 0 ∧ I 2 8 = 0 ∧ I 2 9 = 0) ∧ sB sh I P 0 1 m [] ∧ lR sh.length sh P ∧ lV 1 0 sh P) : am_V X 5 10 (am_RtA X 1 ad0 (pList (lC N xs)) 600 1500000) sh ad (8, [(0, .ref 5000), (1, .ref 0), (2, .ref 2)], [], I, G, P) := by
  refine am_blk 8 [(.aload_n 0, 1, 0, 0, .null), (.iconst (0), 1, 0, 0, .int (0 : Int32))] (10, [(0, .ref 5000), (1, .ref 0), (2, .ref 2)], [.int (0 : Int32), .ref 5000], I, G, P) True hX hi (by decide +kernel) rfl trivial ?_
  refine am_callSS hX hi (hsc.adr ((ea 5000 (by omega)))) (M := mL_cell) (idx := 87) (d' := 1) (As := [.ref 5000, .int 0]) (rest := []) mkL_cell msL_cell (by decide +kernel) (by decide +kernel) rfl ⟨by decide, by decide, Nat.le_of_ble_eq_true rfl⟩ rfl (c_cell 0 (by decide) hN) ?_
  rintro r9 I9 G9 P9 ⟨e0, e1, e2, e3⟩
  rw [e0, e1, e2, e3]
  show am_V X 5 10 _ sh ad (13, [(0, .ref 5000), (1, .ref 0), (2, .ref 2)], [.int (lC N xs 0)], I, G, P)
  refine am_blk 13 [(.iconst (4), 1, 0, 0, .int (4 : Int32))] (14, [(0, .ref 5000), (1, .ref 0), (2, .ref 2)], [.int (4 : Int32), .int (lC N xs 0)], I, G, P) True hX hi (by decide +kernel) rfl trivial ?_
  refine am_callS2 hX hi (M := mL_below) (idx := 93) (d' := 1) (As := [.int (lC N xs 0), .int 4]) (rest := []) mkL_below msL_below (by decide +kernel) (by decide +kernel) rfl ⟨by decide, by decide, Nat.le_of_ble_eq_true rfl⟩ rfl (c_below _ _ (by decide)) ?_
  rintro r9 I9 G9 P9 ⟨e0, e1, e2, e3⟩
  rw [e0, e1, e2, e3, show lw_b (lC N xs 0) (4 : Int32) = Int32.ofNat (lbel (lC N xs 0) 4) from lw_b_n _ (by decide) (by decide)]
  show am_V X 5 10 _ sh ad (17, [(0, .ref 5000), (1, .ref 0), (2, .ref 2)], [.int (Int32.ofNat (lbel (lC N xs 0) 4))], I, G, P)
  obtain ⟨h1, h2, ⟨h3, h4, h6⟩, ⟨p2, p3, p5⟩, ⟨i0, i1, i6⟩, hB, hR, hV⟩ := h
  have hk4 : (lbel (lC N xs 0) 4) < 4 := lbel_lt _ (by decide)
  by_cases hk : 0 < (lbel (lC N xs 0) 4)
  · refine am_if_le hX hi (off := 71) (tgt := 88) (by decide +kernel) (by decide) (fun c => absurd c (by rw [i_le, i_of _ (by omega), show (0 : Int32).toInt = 0 from rfl]; omega)) (fun _ => ?_)
    have eC : pCols (lC N xs) = 4 + lbel (lC N xs 0 >>> ((2 : Int32) &&& 31)) 11 := if_pos hk
    have eR : pRows (lC N xs) = 4 + lbel (lC N xs 0 >>> ((6 : Int32) &&& 31)) 9 := if_pos hk
    have eT : tPap (lC N xs) = ((((([] ++ w_104) ++ dT (pCols (lC N xs))) ++ w_106) ++ dT (pRows (lC N xs))) ++ w_108) := if_pos hk
    have bC : pCols (lC N xs) < 1000 := by rw [eC]; have := lbel_lt (lC N xs 0 >>> ((2 : Int32) &&& 31)) (n := 11) (by decide); omega
    have bR : pRows (lC N xs) < 1000 := by rw [eR]; have := lbel_lt (lC N xs 0 >>> ((6 : Int32) &&& 31)) (n := 9) (by decide); omega
    have q1 := dT_3 (pCols (lC N xs))
    have q2 := dT_3 (pRows (lC N xs))
    refine am_blk 20 [(.aload_n 2, 1, 2, 0, .null), (.iconst (4), 1, 0, 0, .int (4 : Int32)), (.aload_n 0, 1, 0, 0, .null), (.iconst (0), 1, 0, 0, .int (0 : Int32))] (24, [(0, .ref 5000), (1, .ref 0), (2, .ref 2)], [.int (0 : Int32), .ref 5000, .int (4 : Int32), .ref 2], I, G, P) True hX hi (by decide +kernel) rfl trivial ?_
    refine am_callSS hX hi (hsc.adr ((ea 5000 (by omega)))) (M := mL_cell) (idx := 87) (d' := 1) (As := [.ref 5000, .int 0]) (rest := [.int (4 : Int32), .ref 2]) mkL_cell msL_cell (by decide +kernel) (by decide +kernel) rfl ⟨by decide, by decide, Nat.le_of_ble_eq_true rfl⟩ rfl (c_cell 0 (by decide) hN) ?_
    rintro r9 I9 G9 P9 ⟨e0, e1, e2, e3⟩
    rw [e0, e1, e2, e3]
    show am_V X 5 10 _ sh ad (27, [(0, .ref 5000), (1, .ref 0), (2, .ref 2)], [.int (lC N xs 0), .int (4 : Int32), .ref 2], I, G, P)
    refine am_blk 27 [(.iconst (2), 1, 0, 0, .int (2 : Int32)), (.ishr, 1, 0, 0, .null), (.bipush (11), 2, 0, 0, .int (11 : Int32))] (31, [(0, .ref 5000), (1, .ref 0), (2, .ref 2)], [.int (11 : Int32), .int ((lC N xs 0) >>> ((2 : Int32) &&& 31)), .int (4 : Int32), .ref 2], I, G, P) True hX hi (by decide +kernel) rfl trivial ?_
    refine am_callS2 hX hi (M := mL_below) (idx := 93) (d' := 1) (As := [.int ((lC N xs 0) >>> ((2 : Int32) &&& 31)), .int 11]) (rest := [.int (4 : Int32), .ref 2]) mkL_below msL_below (by decide +kernel) (by decide +kernel) rfl ⟨by decide, by decide, Nat.le_of_ble_eq_true rfl⟩ rfl (c_below _ _ (by decide)) ?_
    rintro r9 I9 G9 P9 ⟨e0, e1, e2, e3⟩
    rw [e0, e1, e2, e3, show lw_b ((lC N xs 0) >>> ((2 : Int32) &&& 31)) (11 : Int32) = Int32.ofNat (lbel ((lC N xs 0) >>> ((2 : Int32) &&& 31)) 11) from lw_b_n _ (by decide) (by decide)]
    show am_V X 5 10 _ sh ad (34, [(0, .ref 5000), (1, .ref 0), (2, .ref 2)], [.int (Int32.ofNat (lbel ((lC N xs 0) >>> ((2 : Int32) &&& 31)) 11)), .int (4 : Int32), .ref 2], I, G, P)
    refine am_blk 34 [(.iadd, 1, 0, 0, .null)] (35, [(0, .ref 5000), (1, .ref 0), (2, .ref 2)], [.int ((4 : Int32) + (Int32.ofNat (lbel ((lC N xs 0) >>> ((2 : Int32) &&& 31)) 11))), .ref 2], I, G, P) True hX hi (by decide +kernel) rfl trivial ?_
    rw [show ((4 : Int32) + (Int32.ofNat (lbel ((lC N xs 0) >>> ((2 : Int32) &&& 31)) 11))) = (Int32.ofNat (pCols (lC N xs))) from by rw [eC]; exact nI_add 4 _]
    show am_V X 5 10 _ sh ad (35, [(0, .ref 5000), (1, .ref 0), (2, .ref 2)], [.int (Int32.ofNat (pCols (lC N xs))), .ref 2], I, G, P)
    refine am_pfI hX hi (c := 12) (b := 0) (idx := 97) (I' := am_up I 2 0 (Int32.ofNat (pCols (lC N xs)))) h2 rfl (by decide +kernel) rfl (by decide +kernel) ?_
    show am_V X 5 10 _ sh ad (38, [(0, .ref 5000), (1, .ref 0), (2, .ref 2)], [], (am_up I 2 0 (Int32.ofNat (pCols (lC N xs)))), G, P)
    refine am_blk 38 [(.aload_n 2, 1, 2, 0, .null), (.iconst (4), 1, 0, 0, .int (4 : Int32)), (.aload_n 0, 1, 0, 0, .null), (.iconst (0), 1, 0, 0, .int (0 : Int32))] (42, [(0, .ref 5000), (1, .ref 0), (2, .ref 2)], [.int (0 : Int32), .ref 5000, .int (4 : Int32), .ref 2], (am_up I 2 0 (Int32.ofNat (pCols (lC N xs)))), G, P) True hX hi (by decide +kernel) rfl trivial ?_
    refine am_callSS hX hi (hsc.adr ((ea 5000 (by omega)))) (M := mL_cell) (idx := 87) (d' := 1) (As := [.ref 5000, .int 0]) (rest := [.int (4 : Int32), .ref 2]) mkL_cell msL_cell (by decide +kernel) (by decide +kernel) rfl ⟨by decide, by decide, Nat.le_of_ble_eq_true rfl⟩ rfl (c_cell 0 (by decide) hN) ?_
    rintro r9 I9 G9 P9 ⟨e0, e1, e2, e3⟩
    rw [e0, e1, e2, e3]
    show am_V X 5 10 _ sh ad (45, [(0, .ref 5000), (1, .ref 0), (2, .ref 2)], [.int (lC N xs 0), .int (4 : Int32), .ref 2], (am_up I 2 0 (Int32.ofNat (pCols (lC N xs)))), G, P)
    refine am_blk 45 [(.bipush (6), 2, 0, 0, .int (6 : Int32)), (.ishr, 1, 0, 0, .null), (.bipush (9), 2, 0, 0, .int (9 : Int32))] (50, [(0, .ref 5000), (1, .ref 0), (2, .ref 2)], [.int (9 : Int32), .int ((lC N xs 0) >>> ((6 : Int32) &&& 31)), .int (4 : Int32), .ref 2], (am_up I 2 0 (Int32.ofNat (pCols (lC N xs)))), G, P) True hX hi (by decide +kernel) rfl trivial ?_
    refine am_callS2 hX hi (M := mL_below) (idx := 93) (d' := 1) (As := [.int ((lC N xs 0) >>> ((6 : Int32) &&& 31)), .int 9]) (rest := [.int (4 : Int32), .ref 2]) mkL_below msL_below (by decide +kernel) (by decide +kernel) rfl ⟨by decide, by decide, Nat.le_of_ble_eq_true rfl⟩ rfl (c_below _ _ (by decide)) ?_
    rintro r9 I9 G9 P9 ⟨e0, e1, e2, e3⟩
    rw [e0, e1, e2, e3, show lw_b ((lC N xs 0) >>> ((6 : Int32) &&& 31)) (9 : Int32) = Int32.ofNat (lbel ((lC N xs 0) >>> ((6 : Int32) &&& 31)) 9) from lw_b_n _ (by decide) (by decide)]
    show am_V X 5 10 _ sh ad (53, [(0, .ref 5000), (1, .ref 0), (2, .ref 2)], [.int (Int32.ofNat (lbel ((lC N xs 0) >>> ((6 : Int32) &&& 31)) 9)), .int (4 : Int32), .ref 2], (am_up I 2 0 (Int32.ofNat (pCols (lC N xs)))), G, P)
    refine am_blk 53 [(.iadd, 1, 0, 0, .null)] (54, [(0, .ref 5000), (1, .ref 0), (2, .ref 2)], [.int ((4 : Int32) + (Int32.ofNat (lbel ((lC N xs 0) >>> ((6 : Int32) &&& 31)) 9))), .ref 2], (am_up I 2 0 (Int32.ofNat (pCols (lC N xs)))), G, P) True hX hi (by decide +kernel) rfl trivial ?_
    rw [show ((4 : Int32) + (Int32.ofNat (lbel ((lC N xs 0) >>> ((6 : Int32) &&& 31)) 9))) = (Int32.ofNat (pRows (lC N xs))) from by rw [eR]; exact nI_add 4 _]
    show am_V X 5 10 _ sh ad (54, [(0, .ref 5000), (1, .ref 0), (2, .ref 2)], [.int (Int32.ofNat (pRows (lC N xs))), .ref 2], (am_up I 2 0 (Int32.ofNat (pCols (lC N xs)))), G, P)
    refine am_pfI hX hi (c := 12) (b := 1) (idx := 101) (I' := am_up (am_up I 2 0 (Int32.ofNat (pCols (lC N xs)))) 2 1 (Int32.ofNat (pRows (lC N xs)))) h2 rfl (by decide +kernel) rfl (by decide +kernel) ?_
    show am_V X 5 10 _ sh ad (57, [(0, .ref 5000), (1, .ref 0), (2, .ref 2)], [], (am_up (am_up I 2 0 (Int32.ofNat (pCols (lC N xs)))) 2 1 (Int32.ofNat (pRows (lC N xs)))), G, P)
    have hB2 : sB sh (am_up (am_up I 2 0 (Int32.ofNat (pCols (lC N xs)))) 2 1 (Int32.ofNat (pRows (lC N xs)))) P 0 1 m [] := hB.up2.up2
    have j0 : (am_up (am_up I 2 0 (Int32.ofNat (pCols (lC N xs)))) 2 1 (Int32.ofNat (pRows (lC N xs)))) 2 0 = Int32.ofNat (pCols (lC N xs)) := by rw [am_up_k _ _ (by decide), am_up_self]
    have j1 : (am_up (am_up I 2 0 (Int32.ofNat (pCols (lC N xs)))) 2 1 (Int32.ofNat (pRows (lC N xs)))) 2 1 = Int32.ofNat (pRows (lC N xs)) := am_up_self _ _ _ _
    have j6 : ∀ j, 2 ≤ j → (am_up (am_up I 2 0 (Int32.ofNat (pCols (lC N xs)))) 2 1 (Int32.ofNat (pRows (lC N xs)))) 2 j = I 2 j := fun j hj => by rw [am_up_k _ _ (by omega), am_up_k _ _ (by omega)]
    generalize (am_up (am_up I 2 0 (Int32.ofNat (pCols (lC N xs)))) 2 1 (Int32.ofNat (pRows (lC N xs)))) = I2 at *
    have hF0 : aF sh I2 sh I2 := aF.rf
    show am_V X 5 10 _ sh ad (57, [(0, .ref 5000), (1, .ref 0), (2, .ref 2)], [], I2, G, P)
    refine am_blk 57 [(.aload_n 1, 1, 1, 0, .null)] (58, [(0, .ref 5000), (1, .ref 0), (2, .ref 2)], [.ref 0], I2, G, P) True hX hi (by decide +kernel) rfl trivial ?_
    refine am_ldcS hX hi (i := 11) (idx := 104) rfl rfl rfl (by decide +kernel) ?_
    refine ap_Sm hX hi hm (idx := 37) (by decide +kernel) (by decide +kernel) (by decide) rfl (Nat.le_of_ble_eq_true rfl) ⟨by omega, by omega⟩ hF0 hB2 x_104 (by simp only [List.length_append, List.length_nil, wl_35, wl_48, wl_50, wl_52, wl_60, wl_62, wl_64, wl_66, wl_68, wl_70, wl_72, wl_74, wl_76, wl_78, wl_80, wl_82, wl_84, wl_104, wl_106, wl_108, wl_118, wl_120, wl_122, wl_124, wl_126, wl_128, wl_130, wl_135, wl_137, wl_139, wl_141, wl_143, wl_145, wl_147, wl_149, wl_151, wl_153, wl_155]; omega) (by omega) hR hV (am_kqL_r (Or.inr (by decide)) (am_kqL_r (Or.inl (by omega)) (am_kqL_r (Or.inl (by omega)) am_kqL_n))) am_kqS_n (am_nqL_r (by omega) (am_nqL_r (by omega) (am_nqL_r (by omega) am_nqL_n))) am_nqS_n (fun ad6 m6 sh6 I6 ha6 hX6 hF6 hB6 hR6 hV6 => ?_)
    have l6 : sh6.length = sh.length := hF6.1.trans rfl
    have ea6 : ∀ j, j < 1 ∨ 1000 ≤ j → ad6 j = ad0 j := fun j hj => (ha6 j (by omega) (by omega)).trans (ea j hj)
    show am_V X 6 4106 _ sh6 ad6 (63, [(0, .ref 5000), (1, .ref 0), (2, .ref 2)], [.ref 0], I6, G, P)
    refine am_blk 63 [(.aload_n 2, 1, 2, 0, .null)] (64, [(0, .ref 5000), (1, .ref 0), (2, .ref 2)], [.ref 2, .ref 0], I6, G, P) True hX6 hi (by decide +kernel) rfl trivial ?_
    refine am_gfI hX6 hi (c := 12) (b := 0) (idx := 97) (v := (Int32.ofNat (pCols (lC N xs)))) ((hF6.2.1 2 (by decide)).trans h2) rfl (by decide +kernel) (by rw [hF6.2.2 2 (by decide) (by decide)]; exact j0) (by decide +kernel) ?_
    refine ap_Nm (x := (pCols (lC N xs))) hX6 hi hm (idx := 41) (by decide +kernel) (by decide +kernel) (by decide) (rfl) rfl (Nat.le_of_ble_eq_true rfl) ⟨by omega, by omega⟩ hF6 hB6 (by omega) (by simp only [List.length_append, List.length_nil, wl_35, wl_48, wl_50, wl_52, wl_60, wl_62, wl_64, wl_66, wl_68, wl_70, wl_72, wl_74, wl_76, wl_78, wl_80, wl_82, wl_84, wl_104, wl_106, wl_108, wl_118, wl_120, wl_122, wl_124, wl_126, wl_128, wl_130, wl_135, wl_137, wl_139, wl_141, wl_143, wl_145, wl_147, wl_149, wl_151, wl_153, wl_155]; omega) (by omega) hR6 hV6 (am_kqL_r (Or.inr (by decide)) (am_kqL_r (Or.inl (by omega)) (am_kqL_r (Or.inl (by omega)) am_kqL_n))) am_kqS_n (am_nqL_r (by omega) (am_nqL_r (by omega) (am_nqL_r (by omega) am_nqL_n))) am_nqS_n (fun ad7 m7 sh7 I7 ha7 hX7 hF7 hB7 hR7 hV7 => ?_)
    have l7 : sh7.length = sh.length := hF7.1.trans rfl
    have ea7 : ∀ j, j < 1 ∨ 1000 ≤ j → ad7 j = ad0 j := fun j hj => (ha7 j (by omega) (by omega)).trans (ea6 j hj)
    show am_V X 7 8202 _ sh7 ad7 (70, [(0, .ref 5000), (1, .ref 0), (2, .ref 2)], [.ref 0], I7, G, P)
    refine am_ldcS hX7 hi (i := 12) (idx := 106) rfl rfl rfl (by decide +kernel) ?_
    refine ap_Sm hX7 hi hm (idx := 37) (by decide +kernel) (by decide +kernel) (by decide) rfl (Nat.le_of_ble_eq_true rfl) ⟨by omega, by omega⟩ hF7 hB7 x_106 (by simp only [List.length_append, List.length_nil, wl_35, wl_48, wl_50, wl_52, wl_60, wl_62, wl_64, wl_66, wl_68, wl_70, wl_72, wl_74, wl_76, wl_78, wl_80, wl_82, wl_84, wl_104, wl_106, wl_108, wl_118, wl_120, wl_122, wl_124, wl_126, wl_128, wl_130, wl_135, wl_137, wl_139, wl_141, wl_143, wl_145, wl_147, wl_149, wl_151, wl_153, wl_155]; omega) (by omega) hR7 hV7 (am_kqL_r (Or.inr (by decide)) (am_kqL_r (Or.inl (by omega)) (am_kqL_r (Or.inl (by omega)) am_kqL_n))) am_kqS_n (am_nqL_r (by omega) (am_nqL_r (by omega) (am_nqL_r (by omega) am_nqL_n))) am_nqS_n (fun ad8 m8 sh8 I8 ha8 hX8 hF8 hB8 hR8 hV8 => ?_)
    have l8 : sh8.length = sh.length := hF8.1.trans rfl
    have ea8 : ∀ j, j < 1 ∨ 1000 ≤ j → ad8 j = ad0 j := fun j hj => (ha8 j (by omega) (by omega)).trans (ea7 j hj)
    show am_V X 8 12298 _ sh8 ad8 (75, [(0, .ref 5000), (1, .ref 0), (2, .ref 2)], [.ref 0], I8, G, P)
    refine am_blk 75 [(.aload_n 2, 1, 2, 0, .null)] (76, [(0, .ref 5000), (1, .ref 0), (2, .ref 2)], [.ref 2, .ref 0], I8, G, P) True hX8 hi (by decide +kernel) rfl trivial ?_
    refine am_gfI hX8 hi (c := 12) (b := 1) (idx := 101) (v := (Int32.ofNat (pRows (lC N xs)))) ((hF8.2.1 2 (by decide)).trans h2) rfl (by decide +kernel) (by rw [hF8.2.2 2 (by decide) (by decide)]; exact j1) (by decide +kernel) ?_
    refine ap_Nm (x := (pRows (lC N xs))) hX8 hi hm (idx := 41) (by decide +kernel) (by decide +kernel) (by decide) (rfl) rfl (Nat.le_of_ble_eq_true rfl) ⟨by omega, by omega⟩ hF8 hB8 (by omega) (by simp only [List.length_append, List.length_nil, wl_35, wl_48, wl_50, wl_52, wl_60, wl_62, wl_64, wl_66, wl_68, wl_70, wl_72, wl_74, wl_76, wl_78, wl_80, wl_82, wl_84, wl_104, wl_106, wl_108, wl_118, wl_120, wl_122, wl_124, wl_126, wl_128, wl_130, wl_135, wl_137, wl_139, wl_141, wl_143, wl_145, wl_147, wl_149, wl_151, wl_153, wl_155]; omega) (by omega) hR8 hV8 (am_kqL_r (Or.inr (by decide)) (am_kqL_r (Or.inl (by omega)) (am_kqL_r (Or.inl (by omega)) am_kqL_n))) am_kqS_n (am_nqL_r (by omega) (am_nqL_r (by omega) (am_nqL_r (by omega) am_nqL_n))) am_nqS_n (fun ad9 m9 sh9 I9 ha9 hX9 hF9 hB9 hR9 hV9 => ?_)
    have l9 : sh9.length = sh.length := hF9.1.trans rfl
    have ea9 : ∀ j, j < 1 ∨ 1000 ≤ j → ad9 j = ad0 j := fun j hj => (ha9 j (by omega) (by omega)).trans (ea8 j hj)
    show am_V X 9 16394 _ sh9 ad9 (82, [(0, .ref 5000), (1, .ref 0), (2, .ref 2)], [.ref 0], I9, G, P)
    refine am_ldcS hX9 hi (i := 13) (idx := 108) rfl rfl rfl (by decide +kernel) ?_
    refine ap_Sm hX9 hi hm (idx := 37) (by decide +kernel) (by decide +kernel) (by decide) rfl (Nat.le_of_ble_eq_true rfl) ⟨by omega, by omega⟩ hF9 hB9 x_108 (by simp only [List.length_append, List.length_nil, wl_35, wl_48, wl_50, wl_52, wl_60, wl_62, wl_64, wl_66, wl_68, wl_70, wl_72, wl_74, wl_76, wl_78, wl_80, wl_82, wl_84, wl_104, wl_106, wl_108, wl_118, wl_120, wl_122, wl_124, wl_126, wl_128, wl_130, wl_135, wl_137, wl_139, wl_141, wl_143, wl_145, wl_147, wl_149, wl_151, wl_153, wl_155]; omega) (by omega) hR9 hV9 (am_kqL_r (Or.inr (by decide)) (am_kqL_r (Or.inl (by omega)) (am_kqL_r (Or.inl (by omega)) am_kqL_n))) am_kqS_n (am_nqL_r (by omega) (am_nqL_r (by omega) (am_nqL_r (by omega) am_nqL_n))) am_nqS_n (fun ad10 m10 sh10 I10 ha10 hX10 hF10 hB10 hR10 hV10 => ?_)
    have l10 : sh10.length = sh.length := hF10.1.trans rfl
    have ea10 : ∀ j, j < 1 ∨ 1000 ≤ j → ad10 j = ad0 j := fun j hj => (ha10 j (by omega) (by omega)).trans (ea9 j hj)
    show am_V X 10 20490 _ sh10 ad10 (87, [(0, .ref 5000), (1, .ref 0), (2, .ref 2)], [.ref 0], I10, G, P)
    refine am_blk 87 [(.pop, 1, 0, 0, .null)] (88, [(0, .ref 5000), (1, .ref 0), (2, .ref 2)], [], I10, G, P) True hX10 hi (by decide +kernel) rfl trivial ?_
    refine am_wid hm (cells' := 30) (slots' := 60000) ⟨by omega, by omega⟩ ⟨by omega, by omega⟩ ?_
    refine l_88 (m := m10) hi hm hsc hN hX10 ea10 ⟨hF10.1.trans h1, (hF10.2.1 2 (by decide)).trans h2, ⟨(hF10.2.1 3 (by decide)).trans h3, (hF10.2.1 4 (by decide)).trans h4, (hF10.2.1 6 (by decide)).trans h6⟩, ⟨p2, p3, p5⟩, ?_, by rw [eT]; exact hB10, hR10, hV10⟩
    rw [hF10.2.2 2 (by decide) (by decide), j0, j1, j6 6 (by decide), j6 7 (by decide), j6 8 (by decide), j6 9 (by decide)]; exact ⟨rfl, rfl, i6⟩
  · refine am_if_le hX hi (off := 71) (tgt := 88) (by decide +kernel) (by decide) (fun _ => ?_) (fun c => absurd (by rw [i_le, i_of _ (by omega), show (0 : Int32).toInt = 0 from rfl]; omega) c)
    refine am_wid hm (cells' := 30) (slots' := 60000) ⟨by omega, by omega⟩ ⟨by omega, by omega⟩ ?_
    exact l_88 (m := m) hi hm hsc hN hX ea ⟨h1, h2, ⟨h3, h4, h6⟩, ⟨p2, p3, p5⟩, ⟨by rw [show pCols (lC N xs) = 16 from if_neg hk]; exact i0, by rw [show pRows (lC N xs) = 12 from if_neg hk]; exact i1, i6⟩, by rw [show tPap (lC N xs) = [] from if_neg hk]; exact hB, hR, hV⟩
end AMCB
set_option maxHeartbeats 4000000 in
/-- list: what it leaves -/
theorem c_list {N m : Nat} {xs : Nat → Int32} {I : am_I} {G : am_G} {P : am_P} (hN : N ≤ 260) (hB : sB [.inl 1, .inr (4, m)] I P 0 1 m []) (hP0 : ∀ j, j ≠ 0 → P 0 j = .null) : am_CtAS N xs mL_list 9 600 1500000 1 [.inl 1, .inr (4, m)] [.ref 5000, .ref 0] I G P (pList (lC N xs)) := by
  obtain ⟨s1, s2, s3, s4, s5, s6, s7, s8, s9, s10⟩ := hB
  refine am_ofAS (by decide +kernel) rfl (by decide) (by decide) (Nat.le_of_ble_eq_true rfl) (fun X ad hX hi hm hsc => ?_)
  have hi : am_info X 15 cL_list 9 false (some (.object "MarbledPaperLaw$Sim")) 9 := hi
  have hm : am_mem X 600 1500000 := hm
  have hR0 : lR 2 [(.inl 1 : am_Sh), .inr (4, m)] P := by
    refine ⟨fun b c j h1 h2 => ?_, fun b k j h1 h2 => ?_⟩
    · match b, h1 with
      | 0, h1 =>
        by_cases e : j = 0
        · rw [e, s3]; exact Or.inl (by decide)
        · rw [hP0 j e]; trivial
      | 1, h1 => cases h1
      | b + 2, h1 => cases h1
    · match b, h1 with
      | 0, h1 => cases h1
      | 1, h1 => cases h1
      | b + 2, h1 => cases h1
  show am_V X _ _ _ [(.inl 1 : am_Sh), .inr (4, m)] ad (0, [(0, .ref 5000), (1, .ref 0)], [], I, G, P)
  refine am_newR hX hi hm (ci := 12) (r := (RX12, TX12, 10)) rfl cl_55.1 cl_55.2.1 cl_55.2.2 (by decide +kernel) ⟨by decide, by decide⟩ (hR0.noR (show (2 : Nat) < 1000 by decide)) (am_kq_noL (show (2 : Nat) < 1000 by decide) (am_kqL_r (Or.inr (by decide)) (am_kqL_r (Or.inl (show (0 : Nat) < 2 by decide)) am_kqL_n)) am_kqS_n) (fun ad1 ha1 => ?_)
  have hX1 : am_okz X ad1 := hX.adr (fun j hj => ha1 j (by show j ≠ 2; omega))
  have hR1 : lR 3 [(.inl 1 : am_Sh), .inr (4, m), .inl 12] (am_z P 2 .null) := lR.obj (sh := [(.inl 1 : am_Sh), .inr (4, m)]) (c := 12) (lR.z (x := .inl 12) (sh := [(.inl 1 : am_Sh), .inr (4, m)]) hR0) (fun j _ => by show am_kr 2 (am_z P 2 .null 2 j); rw [am_z_self]; trivial)
  show am_V X 1 10 _ [(.inl 1 : am_Sh), .inr (4, m), .inl 12] ad1 (3, [(0, .ref 5000), (1, .ref 0)], [.ref 2], am_z I 2 0, am_z G 2 0, am_z P 2 .null)
  refine am_blk 3 [(.dup, 1, 0, 0, .null)] (4, [(0, .ref 5000), (1, .ref 0)], [.ref 2, .ref 2], am_z I 2 0, am_z G 2 0, am_z P 2 .null) True hX1 hi (by decide +kernel) rfl trivial ?_
  refine am_callINA hX1 hi hm (M := mX12_init) (idx := 86) (d' := 1) (b := 2) (mc := 4) (ms := 0) (As := []) (rest := [.ref 2]) mkX12_init miX12_init rfl rfl (by decide +kernel) (by decide +kernel) rfl ⟨by decide, Nat.le_of_ble_eq_true rfl, Nat.le_of_ble_eq_true rfl⟩ rfl ⟨by decide, by decide⟩ (am_kqL_r (Or.inr (by decide)) (am_kqL_r (Or.inl (show (0 : Nat) < 3 by decide)) am_kqL_n)) (am_kqS_r (Or.inl (show (2 : Nat) < 3 by decide)) am_kqS_n) (k_sim (sh := [(.inl 1 : am_Sh), .inr (4, m), .inl 12]) (s := 2) rfl (by show 3 + 5 < 1000; decide) hR1) ?_
  rintro r9 sh9 ad2 I9 G9 P9 ⟨rfl, rfl, rfl, hI, hP, hI2, hP2⟩ ha2 hX2
  have ea : ∀ j, j < 1 ∨ 1000 ≤ j → ad2 j = ad j := fun j hj => (ha2 j (by show j < 3 ∨ _; omega)).trans (ha1 j (by show j ≠ 2; omega))
  have z0 : P9 0 = P 0 := (hP 0 (show (0 : Nat) < 3 by decide) (by decide)).trans (am_z_ne _ _ (by decide))
  have x0 : I9 0 = I 0 := (hI 0 (show (0 : Nat) < 3 by decide) (by decide)).trans (am_z_ne _ _ (by decide))
  have x1 : I9 1 = I 1 := (hI 1 (show (1 : Nat) < 3 by decide) (by decide)).trans (am_z_ne _ _ (by decide))
  have k2 : ∀ j, P9 2 j = .null ∨ ∃ q, P9 2 j = .ref q ∧ 3 ≤ q ∧ q < 7 := fun j => by
    rw [hP2 j]
    show (if j = 2 then Value.ref 3 else if j = 3 then .ref 4 else if j = 4 then .ref 5 else if j = 5 then .ref 6 else am_z P 2 .null 2 j) = .null ∨ _
    split
    · exact Or.inr ⟨3, rfl, by decide, by decide⟩
    · split
      · exact Or.inr ⟨4, rfl, by decide, by decide⟩
      · split
        · exact Or.inr ⟨5, rfl, by decide, by decide⟩
        · split
          · exact Or.inr ⟨6, rfl, by decide, by decide⟩
          · exact Or.inl (by rw [am_z_self])
  refine am_blk 7 [(.astore_n 2, 1, 2, 0, .null)] (8, [(0, .ref 5000), (1, .ref 0), (2, .ref 2)], [], I9, am_z G 2 0, P9) True hX2 hi (by decide +kernel) rfl trivial ?_
  refine l_8 (m := m) hi hm hsc hN hX2 ea ⟨rfl, rfl, ⟨rfl, rfl, rfl⟩, ⟨by rw [hP2]; rfl, by rw [hP2]; rfl, by rw [hP2]; rfl⟩, ⟨by rw [hI2]; rfl, by rw [hI2]; rfl, by rw [hI2]; exact am_z_at I 2 6, by rw [hI2]; exact am_z_at I 2 7, by rw [hI2]; exact am_z_at I 2 8, by rw [hI2]; exact am_z_at I 2 9⟩, ⟨rfl, rfl, by rw [z0]; exact s3, by rw [x0]; exact s4, by rw [x0]; exact s5, s6, s7, s8, by rw [x1]; exact s9, by rw [x1]; exact s10⟩, ?_, ?_⟩
  · refine ⟨fun b c j h1 h2 => ?_, fun b k j h1 h2 => ?_⟩
    · match b, h1 with
      | 0, h1 =>
        rw [z0]
        by_cases e : j = 0
        · rw [e, s3]; exact Or.inl (show (1 : Nat) < 7 by decide)
        · rw [hP0 j e]; trivial
      | 1, h1 => cases h1
      | 2, h1 =>
        rcases k2 j with e | ⟨q, e, e1, e2⟩
        · rw [e]; trivial
        · rw [e]; exact Or.inl e2
      | 3, h1 => cases h1
      | 4, h1 => cases h1
      | 5, h1 => cases h1
      | 6, h1 => cases h1
      | b + 7, h1 => cases h1
    · match b, h1 with
      | 0, h1 => cases h1
      | 1, h1 => cases h1
      | 2, h1 => cases h1
      | 3, h1 => cases h1; exact absurd h2 (Nat.not_lt_zero _)
      | 4, h1 => cases h1; exact absurd h2 (Nat.not_lt_zero _)
      | 5, h1 => cases h1
      | 6, h1 => cases h1; exact absurd h2 (Nat.not_lt_zero _)
      | b + 7, h1 => cases h1
  · refine ⟨fun b c j h1 h2 h3 => ?_, fun b k j h1 h2 => ?_⟩
    · match b, h1 with
      | 0, h1 => rw [z0, hP0 j (by omega)]; exact fun z => by cases z
      | 1, h1 => cases h1
      | 2, h1 =>
        rcases k2 j with e | ⟨q, e, e1, e2⟩
        · rw [e]; exact fun z => by cases z
        · rw [e]; exact fun z => by cases z; exact absurd e1 (by decide)
      | 3, h1 => cases h1
      | 4, h1 => cases h1
      | 5, h1 => cases h1
      | 6, h1 => cases h1
      | b + 7, h1 => cases h1
    · match b, h1 with
      | 0, h1 => cases h1
      | 1, h1 => cases h1
      | 2, h1 => cases h1
      | 3, h1 => cases h1; exact absurd h2 (Nat.not_lt_zero _)
      | 4, h1 => cases h1; exact absurd h2 (Nat.not_lt_zero _)
      | 5, h1 => cases h1
      | 6, h1 => cases h1; exact absurd h2 (Nat.not_lt_zero _)
      | b + 7, h1 => cases h1
