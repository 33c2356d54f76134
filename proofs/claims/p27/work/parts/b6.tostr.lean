/-! StringBuilder.toString, constructors of StringBuilder and String -/
section AMO5
variable {X : am_X} {o : Nat} {cc : ByteArray} {nL : Nat} {ini : Bool} {ret : Option FieldType} {d : Nat}
variable {cells slots mc ms MC MS keep : Nat} {Q : State → Prop} {sh : List am_Sh} {ad : Nat → Nat} {pc : Nat} {L : am_L} {st : List Value} {I : am_I} {G : am_G} {P : am_P} {postA : am_PoA} {post : am_Po}
theorem am_callSU (hX : am_okz X ad) (hi : am_info X o cc nL ini ret d) {M : am_M} {d' idx b ci : Nat} {C : String} {As rest : List Value} (hM : am_Mok M) (hin : Cond.instanceMethod M.1 ∈ lw_tbl) (hsm : Cond.sameMethod M.1.cls M.1.cls M.1.name M.1.desc ∈ lw_tbl) (hsu : Cond.superclass (am_own o) M.1.cls ∈ lw_tbl) (hno : M.1.name ≠ "<init>") (hl : am_lnk o idx M.1 false = true) (hd : decode cc pc = .ok (.invokespecial idx, 3))
    (hs : sh[b]? = some (.inl ci)) (hcn : (vwCl[ci]?).map (fun r => r.1) = some C) (hn : As.length = M.2.2.2.2.2.1) (hdd : d' + 1 ≤ d ∧ 19 + M.2.2.1 + 30 * d' ≤ 30 * d ∧ (rest.map fun v => v.category).sum ≤ 8) (hst : st = As.reverse ++ .ref b :: rest) (hC : am_Ct M d' sh (.ref b :: As) I G P post)
    (kk : ∀ r I' G' P', post r I' G' P' → am_V X cells slots Q sh ad (pc + 3, L, r.toList ++ rest, I', G', P')) : am_V X cells slots Q sh ad (pc, L, st, I, G, P) := by
  subst hst
  have hX0 := hX
  obtain ⟨p, l, e, R, s, m, args, below, meth, c, A, D, cys, o', cc', nL', ini'⟩ := X
  obtain ⟨rfl, rfl, rfl, rfl, -, hR1, hR2⟩ := hi
  obtain ⟨⟨hx, hb, hml, hown, hts, hlk, hK, hN, hA, hini, hR3, hR4⟩, hZ⟩ := hX
  intro h1 h2 H locs ls hP hD hS hlo
  have hM0 := hM
  obtain ⟨q1, q2, q3, q4, q5⟩ := hM
  have hlw : Cond.methodLink (am_own o') idx M.1 ∈ lw_tbl := by
    have := am_lnk_ok hl
    simpa using this
  obtain ⟨r0, hr0, hr1⟩ := Option.map_eq_some_iff.mp hcn
  have hws := am_ws_at (cys := cys) (ad := ad) (I := I) (G := G) (P := P) hs
  have cw : va_CS R s args (am_own o') idx M.1 M.2.1 M.2.2.1 M.2.2.2.1 (am_wl M.1 M.2.1 M.2.2.1 M.2.2.2.1) (am_rm d' 0 0) 0 0 M.2.2.2.2.2.1 :=
    ⟨⟨rfl, rfl, by show d' + 1 ≤ R.frames; omega, by show 8 + (M.2.2.1 + 11) + 30 * d' ≤ R.locals; omega, pay_in hts (am_goodIn hM0), List.mem_cons_self ..⟩, hts _ (am_good hlw rfl), hts _ (am_good hsm rfl), hts _ (am_good hsu rfl), hts _ (am_good hin rfl), hts _ (am_good q2 rfl), am_ofCt hM0 hts, hno, am_lenOf q5⟩
  have hA1 := am_A1 hD hS hA
  refine am_goes (A1 := va_A (am_ws cys ad sh I G P) H.size) (va_runSU (C := C) (cC := D.1 ci) (As := As.map (am_tv ad)) (b := ad b) (rest := rest.map (am_tv ad)) (by rw [← hr1]; exact (hK.1 ci _ hr0).2) ⟨hx, hb, hml, hown, hts⟩ (hC l D cys ad H.size) cw ⟨am_blind, ?_, ?_⟩ rfl (by rw [List.length_map]; exact hn) hlo.1 ?_ ?_ hd ⟨h1, h2⟩) hS hA1 hD ?_
  · rw [← hr1]
    exact va_recv hK hP hr0 hws
  · intro U hU hW
    exact ⟨rfl, by rw [hU], by rw [hU]; exact hP, va_K.moved hW.alike hK, hD.weaken (fun _ _ _ _ => trivial), am_nst.warm hW hN, by rw [hU]; exact (am_Zs.warm hW (hZ.kept hS.2.1)).narrow hA1⟩
  · simp [am_tv]
  · exact lv_room (by rw [am_cats]; exact hdd.2.2)
  · intro r I' G' P' hp H1 locs1 hP1 hD1 hS1
    rw [am_out]
    exact kk r I' G' P' hp h1 h2 H1 locs1 ls hP1 hD1 hS1 hlo
end AMO5
theorem am_kqL_0 {n i : Nat} {r : am_L} (t : am_kqL n r) : am_kqL n ((i, .null) :: r) := t
section AMO6
variable {X : am_X} {o : Nat} {cc : ByteArray} {nL : Nat} {ini : Bool} {ret : Option FieldType} {d : Nat}
variable {cells slots mc ms MC MS keep : Nat} {Q : State → Prop} {sh : List am_Sh} {ad : Nat → Nat} {pc : Nat} {L : am_L} {st : List Value} {I : am_I} {G : am_G} {P : am_P} {postA : am_PoA} {post : am_Po}
theorem am_callO (hX : am_okz X ad) (hi : am_info X o cc nL ini ret d) {M Mx : am_M} {d' idx b ci : Nat} {C : String} {As rest : List Value} (hM : am_Mok M) (hMx : am_Mok Mx) (hin : Cond.instanceMethod M.1 ∈ lw_tbl) (hix : Cond.instanceMethod Mx.1 ∈ lw_tbl) (hsl : Cond.selects C Mx.1 M.1 ∈ am_all) (hnn : Mx.2.2.2.2.2.1 = M.2.2.2.2.2.1) (hsm : Cond.sameMethod Mx.1.cls Mx.1.cls Mx.1.name Mx.1.desc ∈ lw_tbl) (hl : am_lnk o idx Mx.1 false = true) (hd : decode cc pc = .ok (.invokevirtual idx, 3))
    (hs : sh[b]? = some (.inl ci)) (hcn : (vwCl[ci]?).map (fun r => r.1) = some C) (hn : As.length = M.2.2.2.2.2.1) (hdd : d' + 1 ≤ d ∧ 19 + M.2.2.1 + 30 * d' ≤ 30 * d ∧ (rest.map fun v => v.category).sum ≤ 8) (hst : st = As.reverse ++ .ref b :: rest) (hC : am_Ct M d' sh (.ref b :: As) I G P post)
    (kk : ∀ r I' G' P', post r I' G' P' → am_V X cells slots Q sh ad (pc + 3, L, r.toList ++ rest, I', G', P')) : am_V X cells slots Q sh ad (pc, L, st, I, G, P) := by
  subst hst
  have hX0 := hX
  obtain ⟨p, l, e, R, s, m, args, below, meth, c, A, D, cys, o', cc', nL', ini'⟩ := X
  obtain ⟨rfl, rfl, rfl, rfl, -, hR1, hR2⟩ := hi
  obtain ⟨⟨hx, hb, hml, hown, hts, hlk, hK, hN, hA, hini, hR3, hR4⟩, hZ⟩ := hX
  intro h1 h2 H locs ls hP hD hS hlo
  have hM0 := hM
  obtain ⟨q1, q2, q3, q4, q5⟩ := hM
  have hMx0 := hMx
  obtain ⟨-, -, p3, p4, p5⟩ := hMx
  have hlw : Cond.methodLink (am_own o') idx Mx.1 ∈ lw_tbl := by
    have := am_lnk_ok hl
    simpa using this
  obtain ⟨r0, hr0, hr1⟩ := Option.map_eq_some_iff.mp hcn
  have hws := am_ws_at (cys := cys) (ad := ad) (I := I) (G := G) (P := P) hs
  have cw : va_CU R s args (am_own o') C Mx.1.cls idx Mx.1 M.1 M.2.1 M.2.2.1 M.2.2.2.1 (am_wl M.1 M.2.1 M.2.2.1 M.2.2.2.1) (am_rm d' 0 0) 0 0 M.2.2.2.2.2.1 :=
    ⟨⟨rfl, rfl, by show d' + 1 ≤ R.frames; omega, by show 8 + (M.2.2.1 + 11) + 30 * d' ≤ R.locals; omega, pay_in hts (am_goodIn hM0), List.mem_cons_self ..⟩, am_ofCt hM0 hts, hts _ (am_good q2 rfl), ⟨p3, p4⟩, am_lenOf (by rw [← hnn]; exact p5), hts _ (am_good hlw rfl), hts _ (am_good hsm rfl), va_Decl.of (hts _ (am_good hix rfl)) (am_ofCt hMx0 hts), hts _ hsl, hts _ (am_good hin rfl)⟩
  have hA1 := am_A1 hD hS hA
  refine am_goes (A1 := va_A (am_ws cys ad sh I G P) H.size) (va_runU (As := As.map (am_tv ad)) (b := ad b) (rest := rest.map (am_tv ad)) ⟨hx, hb, hml, hown, hts⟩ (hC l D cys ad H.size) cw ⟨am_blind, ?_, ?_⟩ rfl (by rw [List.length_map]; exact hn) hlo.1 ?_ ?_ hd ⟨h1, h2⟩) hS hA1 hD ?_
  · rw [← hr1]
    exact va_recv hK hP hr0 hws
  · intro U hU hW
    exact ⟨rfl, by rw [hU], by rw [hU]; exact hP, va_K.moved hW.alike hK, hD.weaken (fun _ _ _ _ => trivial), am_nst.warm hW hN, by rw [hU]; exact (am_Zs.warm hW (hZ.kept hS.2.1)).narrow hA1⟩
  · simp [am_tv]
  · exact lv_room (by rw [am_cats]; exact hdd.2.2)
  · intro r I' G' P' hp H1 locs1 hP1 hD1 hS1
    rw [am_out]
    exact kk r I' G' P' hp h1 h2 H1 locs1 ls hP1 hD1 hS1 hlo
theorem am_nul1 (hX : am_okz X ad) (hi : am_info X o cc nL ini ret d) (hd : decode cc pc = .ok (.aconst_null, 1)) (kk : am_V X cells slots Q sh ad (pc + 1, L, .null :: st, I, G, P)) : am_V X cells slots Q sh ad (pc, L, st, I, G, P) := by
  obtain ⟨p, l, e, R, s, m, args, below, meth, c, A, D, cys, o', cc', nL', ini'⟩ := X
  obtain ⟨rfl, rfl, rfl, rfl, -, -, -⟩ := hi
  obtain ⟨⟨hx, hb, -⟩, -⟩ := hX
  intro q1 q2 H locs ls hP hD hS hl
  exact lv_null hx hb hd (kk q1 q2 H locs ls hP hD hS hl)
end AMO6
set_option maxRecDepth 100000 in
theorem sl_length : Cond.selects "java/lang/StringBuilder" mJ5_length_8abf5.1 mJ4_length_8abf5.1 ∈ am_all := am_good (List.mem_of_getElem? (i := 1527) rfl) rfl
set_option maxRecDepth 100000 in
theorem oi_ASB : Cond.methodLink (am_own 21) 3 Lib.objectInit ∈ lw_tbl := List.mem_of_getElem? (i := 1491) rfl
set_option maxRecDepth 100000 in
theorem oi_STR : Cond.methodLink (am_own 0) 1 Lib.objectInit ∈ lw_tbl := List.mem_of_getElem? (i := 1518) rfl
set_option maxRecDepth 100000 in
theorem nw_STR : Cond.classLink (am_own 1) 18 "java/lang/String" ∈ lw_tbl ∧ Cond.instantiable "java/lang/String" 4 ∈ lw_tbl ∧ Cond.initialized "java/lang/String" ∈ lw_tbl := ⟨List.mem_of_getElem? (i := 1510) rfl, List.mem_of_getElem? (i := 1511) rfl, List.mem_of_getElem? (i := 48) rfl⟩
section AMTN
variable {sh : List am_Sh} {I : am_I} {G : am_G} {P : am_P} {q w b v m n x : Nat} {T S : List Nat}
set_option maxHeartbeats 1000000 in
theorem k_bLength (hb : sh[b]? = some (.inl 1)) : am_Ct mJ4_length_8abf5 2 sh [.ref b] I G P (pI (I b 3) I G P) := by
  refine am_ofF (by decide +kernel) rfl (by decide) (by decide) (Nat.le_of_ble_eq_true rfl) (fun X ad hX hi => ?_)
  have hi : am_info X 1 cJ4_length_8abf5 1 false (some .int) 2 := hi
  show am_V X _ _ _ sh ad (0, [(0, .ref b)], [], I, G, P)
  refine am_blk 0 [(.aload_n 0, 1, 0, 0, .null)] (1, [(0, .ref b)], [.ref b], I, G, P) True hX hi (by decide +kernel) rfl trivial ?_
  refine am_callSU hX hi (C := "java/lang/StringBuilder") (M := mJ5_length_8abf5) (idx := 343) (d' := 1) (As := []) (rest := []) mkJ5_length_8abf5 miJ5_length_8abf5 sm_length_8abf5 sp_SB (by decide +kernel) (by decide +kernel) (by decide +kernel) hb rfl rfl ⟨by decide, by decide, Nat.le_of_ble_eq_true rfl⟩ rfl (k_bLength0 hb) ?_
  rintro r9 I9 G9 P9 ⟨e0, e1, e2, e3⟩
  rw [e0, e1, e2, e3]
  exact am_iret hX hi rfl rfl (by decide +kernel) (pI_eq rfl)
set_option maxHeartbeats 1000000 in
theorem k_chkLen (hn : n ≤ 4096) : am_Ct mJ7_checkLength_df160 1 sh [.int 0, .int (Int32.ofNat n)] I G P (pV I G P) := by
  refine am_ofF (by decide +kernel) rfl (by decide) (by decide) (Nat.le_of_ble_eq_true rfl) (fun X ad hX hi => ?_)
  have hi : am_info X 23 cJ7_checkLength_df160 2 false none 1 := hi
  show am_V X _ _ _ sh ad (0, [(0, .int (0 : Int32)), (1, .int (Int32.ofNat n))], [], I, G, P)
  refine am_blk 0 [(.iload_n 1, 1, 1, 0, .null), (.iload_n 0, 1, 0, 0, .null)] (2, [(0, .int (0 : Int32)), (1, .int (Int32.ofNat n))], [.int (0 : Int32), .int (Int32.ofNat n)], I, G, P) True hX hi (by decide +kernel) rfl trivial ?_
  refine am_icmp_ge hX hi (off := 35) (tgt := 37) (by decide +kernel) (by decide) (fun _ => ?_) (fun c => absurd (by rw [i_le, i_of _ (by omega)]; have : (0 : Int32).toInt = 0 := rfl; omega) c)
  exact am_vret hX hi rfl (by decide +kernel) (pV_eq rfl)
set_option maxHeartbeats 1000000 in
theorem k_copyRB (hv : sh[v]? = some (.inr (4, m))) (hmn : n < m) (hn : m ≤ 4096) (hf : sb_Fit (I v)) (hl : sh.length < 1000) (hR : lR sh.length sh P) : am_CtA mJ7_copyOfRangeByte_39247 2 1 n sh.length sh [.ref v, .int 0, .int (Int32.ofNat n)] I G P (pCpy sh v n n I G P) := by
  have lv := am_at_lt hv
  refine am_ofA (by decide +kernel) rfl (by decide) (by decide) (Nat.le_of_ble_eq_true rfl) (fun X ad hX hi hm => ?_)
  have hi : am_info X 23 cJ7_copyOfRangeByte_39247 5 false (some (FieldType.array FieldType.byte)) 2 := hi
  have hm : am_mem X 1 n := hm
  show am_V X _ _ _ sh ad (0, [(0, .ref v), (1, .int (0 : Int32)), (2, .int (Int32.ofNat n))], [], I, G, P)
  refine am_blk 0 [(.iload_n 1, 1, 1, 0, .null), (.iload_n 2, 1, 2, 0, .null)] (2, [(0, .ref v), (1, .int (0 : Int32)), (2, .int (Int32.ofNat n))], [.int (Int32.ofNat n), .int (0 : Int32)], I, G, P) True hX hi (by decide +kernel) rfl trivial ?_
  refine am_callS2 hX hi (M := mJ7_checkLength_df160) (idx := 343) (d' := 1) (As := [.int (0 : Int32), .int (Int32.ofNat n)]) (rest := []) mkJ7_checkLength_df160 msJ7_checkLength_df160 (by decide +kernel) (by decide +kernel) rfl ⟨by decide, by decide, Nat.le_of_ble_eq_true rfl⟩ rfl (k_chkLen (by omega)) ?_
  rintro r9 I9 G9 P9 ⟨e0, e1, e2, e3⟩
  rw [e0, e1, e2, e3]
  show am_V X _ _ _ sh ad (5, [(0, .ref v), (1, .int (0 : Int32)), (2, .int (Int32.ofNat n))], [], I, G, P)
  refine am_blk 5 [(.iload_n 2, 1, 2, 0, .null), (.iload_n 1, 1, 1, 0, .null), (.isub, 1, 0, 0, .null)] (8, [(0, .ref v), (1, .int (0 : Int32)), (2, .int (Int32.ofNat n))], [.int ((Int32.ofNat n) - (0 : Int32))], I, G, P) True hX hi (by decide +kernel) rfl trivial ?_
  rw [show Int32.ofNat n - (0 : Int32) = Int32.ofNat n from pk_sub (a := n) (b := 0) (by omega)]
  show am_V X _ _ _ sh ad (8, [(0, .ref v), (1, .int (0 : Int32)), (2, .int (Int32.ofNat n))], [.int (Int32.ofNat n)], I, G, P)
  refine am_blk 8 [(.istore_n 3, 1, 3, 0, .null), (.iload_n 3, 1, 3, 0, .null)] (10, [(0, .ref v), (1, .int (0 : Int32)), (2, .int (Int32.ofNat n)), (3, .int (Int32.ofNat n))], [.int (Int32.ofNat n)], I, G, P) True hX hi (by decide +kernel) rfl trivial ?_
  refine am_newB hX hi hm (N := n) am_w_byte (by decide +kernel) (by rw [i_lt, i_0, i_of _ (by omega)]; omega) (by rw [i_cl, i_of _ (by omega)]; omega) (by omega) ⟨by omega, by omega⟩ hl hR (am_kqL_r (Or.inl lv) (am_kqL_i (am_kqL_i (am_kqL_i am_kqL_n)))) am_kqS_n (fun ad1 ha1 hX1 => ?_)
  show am_V X _ _ _ (sh ++ [.inr (4, n)]) ad1 (12, [(0, .ref v), (1, .int (0 : Int32)), (2, .int (Int32.ofNat n)), (3, .int (Int32.ofNat n))], [.ref sh.length], (am_row I sh.length (fun _ => 0)), G, P)
  refine am_blk 12 [(.astore 4, 2, 4, 0, .null), (.aload_n 0, 1, 0, 0, .null), (.iload_n 1, 1, 1, 0, .null), (.aload 4, 2, 4, 0, .null), (.iconst (0), 1, 0, 0, .int (0 : Int32)), (.aload_n 0, 1, 0, 0, .null)] (20, [(0, .ref v), (1, .int (0 : Int32)), (2, .int (Int32.ofNat n)), (3, .int (Int32.ofNat n)), (4, .ref sh.length)], [.ref v, .int (0 : Int32), .ref sh.length, .int (0 : Int32), .ref v], (am_row I sh.length (fun _ => 0)), G, P) True hX1 hi (by decide +kernel) rfl trivial ?_
  refine am_lenS hX1 hi (am_at_app hv) (by decide +kernel) ?_
  refine am_blk 21 [(.iload_n 1, 1, 1, 0, .null), (.isub, 1, 0, 0, .null), (.iload_n 3, 1, 3, 0, .null), (.invokestatic 304, 3, 1, 0, .null)] (27, [(0, .ref v), (1, .int (0 : Int32)), (2, .int (Int32.ofNat n)), (3, .int (Int32.ofNat n)), (4, .ref sh.length)], [.int (if (Int32.ofNat n) < ((Int32.ofNat m) - (0 : Int32)) then (Int32.ofNat n) else ((Int32.ofNat m) - (0 : Int32))), .int (0 : Int32), .ref sh.length, .int (0 : Int32), .ref v], (am_row I sh.length (fun _ => 0)), G, P) True hX1 hi (by decide +kernel) rfl trivial ?_
  rw [show (if (Int32.ofNat n) < ((Int32.ofNat m) - (0 : Int32)) then (Int32.ofNat n) else ((Int32.ofNat m) - (0 : Int32))) = Int32.ofNat n from by rw [show Int32.ofNat m - (0 : Int32) = Int32.ofNat m from pk_sub (a := m) (b := 0) (by omega)]; first | exact if_pos (by rw [i_lt, i_of _ (by omega), i_of _ (by omega)]; omega) | exact if_neg (by rw [i_lt, i_of _ (by omega), i_of _ (by omega)]; omega)]
  have e0 : am_row I sh.length (fun _ => 0) v = I v := am_row_ne _ _ (by omega)
  refine am_acpB hX1 hi (am_at_app hv) am_at_end (by decide) (by rw [i_of _ (by omega)]; have : (0 : Int32).toInt = 0 := rfl; omega) (fun i _ => by rw [e0]; exact hf _) am_w_acB (by decide +kernel) ⟨Nat.le_refl _, Nat.le_of_ble_eq_true rfl⟩ ?_
  rw [e0, am_row_self, am_row_row]
  show am_V X _ _ _ (sh ++ [.inr (4, n)]) ad1 (30, [(0, .ref v), (1, .int (0 : Int32)), (2, .int (Int32.ofNat n)), (3, .int (Int32.ofNat n)), (4, .ref sh.length)], [], (am_row I sh.length (va_cpy (I v) (fun _ => 0) 0 (0 : Int32).toNatClampNeg (Int32.ofNat n).toNatClampNeg)), G, P)
  refine am_blk 30 [(.aload 4, 2, 4, 0, .null)] (32, [(0, .ref v), (1, .int (0 : Int32)), (2, .int (Int32.ofNat n)), (3, .int (Int32.ofNat n)), (4, .ref sh.length)], [.ref sh.length], (am_row I sh.length (va_cpy (I v) (fun _ => 0) 0 (0 : Int32).toNatClampNeg (Int32.ofNat n).toNatClampNeg)), G, P) True hX1 hi (by decide +kernel) rfl trivial ?_
  refine am_aretR hX1 hi rfl (by decide +kernel) ha1 ⟨rfl, rfl, rfl, rfl, _, rfl, fun j hj => ?_, cpy_fit hf sb_fit0⟩ ⟨by omega, by omega⟩
  rw [show (Int32.ofNat n).toNatClampNeg = n from by rw [i_cl, i_of _ (by omega)]; omega]
  exact sb_cpy0 hj
set_option maxHeartbeats 1000000 in
theorem k_copyR (hv : sh[v]? = some (.inr (4, m))) (hmn : n ≤ m) (hn : m ≤ 4096) (hf : sb_Fit (I v)) (hl : sh.length < 1000) (hR : lR sh.length sh P) : am_CtA mJ7_copyOfRange_39247 3 1 n sh.length sh [.ref v, .int 0, .int (Int32.ofNat n)] I G P (pCpy sh v n n I G P) := by
  have lv := am_at_lt hv
  refine am_ofA (by decide +kernel) rfl (by decide) (by decide) (Nat.le_of_ble_eq_true rfl) (fun X ad hX hi hm => ?_)
  have hi : am_info X 23 cJ7_copyOfRange_39247 3 false (some (FieldType.array FieldType.byte)) 3 := hi
  have hm : am_mem X 1 n := hm
  show am_V X _ _ _ sh ad (0, [(0, .ref v), (1, .int (0 : Int32)), (2, .int (Int32.ofNat n))], [], I, G, P)
  refine am_blk 0 [(.iload_n 1, 1, 1, 0, .null)] (1, [(0, .ref v), (1, .int (0 : Int32)), (2, .int (Int32.ofNat n))], [.int (0 : Int32)], I, G, P) True hX hi (by decide +kernel) rfl trivial ?_
  refine am_if_ne hX hi (off := 9) (tgt := 10) (by decide +kernel) (by decide) (fun c => absurd (rfl) c) (fun _ => ?_)
  refine am_blk 4 [(.iload_n 2, 1, 2, 0, .null), (.aload_n 0, 1, 0, 0, .null)] (6, [(0, .ref v), (1, .int (0 : Int32)), (2, .int (Int32.ofNat n))], [.ref v, .int (Int32.ofNat n)], I, G, P) True hX hi (by decide +kernel) rfl trivial ?_
  refine am_lenS hX hi hv (by decide +kernel) ?_
  by_cases h : n = m
  · refine am_icmp_eq hX hi (off := 10) (tgt := 17) (by decide +kernel) (by decide) (fun _ => ?_) (fun c => absurd (by rw [h]) c)
    refine am_blk 17 [(.aload_n 0, 1, 0, 0, .null)] (18, [(0, .ref v), (1, .int (0 : Int32)), (2, .int (Int32.ofNat n))], [.ref v], I, G, P) True hX hi (by decide +kernel) rfl trivial ?_
    refine am_clB hX hi hm hv (fun j => hf j) (by decide +kernel) (by decide +kernel) ⟨by omega, by omega⟩ ⟨by decide, Nat.le_of_ble_eq_true rfl⟩ hl hR (am_kqL_r (Or.inl lv) (am_kqL_i (am_kqL_i am_kqL_n))) am_kqS_n (fun ad1 ha1 hX1 => ?_)
    exact am_aretR hX1 hi rfl (by decide +kernel) ha1 ⟨rfl, by rw [h], rfl, rfl, _, rfl, fun j hj => rfl, hf⟩ ⟨by omega, by omega⟩
  · refine am_icmp_eq hX hi (off := 10) (tgt := 17) (by decide +kernel) (by decide) (fun c => absurd c (fun e => h (by have := congrArg Int32.toInt e; rw [i_of _ (by omega), i_of _ (by omega)] at this; omega))) (fun _ => ?_)
    refine am_blk 10 [(.aload_n 0, 1, 0, 0, .null), (.iload_n 1, 1, 1, 0, .null), (.iload_n 2, 1, 2, 0, .null)] (13, [(0, .ref v), (1, .int (0 : Int32)), (2, .int (Int32.ofNat n))], [.int (Int32.ofNat n), .int (0 : Int32), .ref v], I, G, P) True hX hi (by decide +kernel) rfl trivial ?_
    refine am_callSA hX hi hm (M := mJ7_copyOfRangeByte_39247) (idx := 339) (d' := 2) (As := [.ref v, .int (0 : Int32), .int (Int32.ofNat n)]) (rest := []) mkJ7_copyOfRangeByte_39247 msJ7_copyOfRangeByte_39247 (by decide +kernel) (by decide +kernel) rfl ⟨by decide, by decide, Nat.le_of_ble_eq_true rfl⟩ rfl ⟨by omega, by omega⟩ (am_kqL_r (Or.inl lv) (am_kqL_i (am_kqL_i am_kqL_n))) am_kqS_n (k_copyRB hv (by omega) hn hf hl hR) ?_
    rintro r9 sh9 ad1 I9 G P ⟨rfl, rfl, rfl, rfl, f, rfl, f1, f2⟩ ha1 hX1
    show am_V X _ _ _ (sh ++ [.inr (4, n)]) ad1 (16, [(0, .ref v), (1, .int (0 : Int32)), (2, .int (Int32.ofNat n))], [.ref sh.length], (am_row I sh.length f), G, P)
    exact am_aretR hX1 hi rfl (by decide +kernel) ha1 ⟨rfl, rfl, rfl, rfl, f, rfl, f1, f2⟩ ⟨by omega, by omega⟩
/-- a String gets its bytes -/
def pStI (sh : List am_Sh) (q : Nat) (T : List Nat) (I : am_I) (G : am_G) (P : am_P) : am_PoA := fun r sh' I' G' P' => r = none ∧ sh' = sh ++ [.inr (4, T.length)] ∧ G' = G ∧ P' = am_up P q 0 (.ref sh.length) ∧ ∃ f : Nat → Int32, I' = am_row (am_up I q 1 0) sh.length f ∧ bT T f
set_option maxHeartbeats 1000000 in
theorem k_stInit (hB : sB sh I P b v m T) (hq : sh[q]? = some (.inl 0)) (hl : sh.length < 1000) (hR : lR sh.length sh P) : am_CtA mJ0_init_db425 4 1 T.length sh.length sh [.ref q, .ref b, .null] I G P (pStI sh q T I G P) := by
  obtain ⟨hb, hv, hP, h0, h3, hTm, hm9, haT, hbT, hf⟩ := hB
  have lb := am_at_lt hb
  have lv := am_at_lt hv
  have lq := am_at_lt hq
  have hvq : v ≠ q := fun e => by subst e; rw [hv] at hq; cases hq
  refine am_ofA (by decide +kernel) rfl (fun _ => rfl) (by decide) (Nat.le_of_ble_eq_true rfl) (fun X ad hX hi hm => ?_)
  have hi : am_info X 0 cJ0_init_db425 5 true none 4 := hi
  have hm : am_mem X 1 T.length := hm
  show am_V X _ _ _ sh ad (0, [(0, .ref q), (1, .ref b), (2, .null)], [], I, G, P)
  refine am_blk 0 [(.aload_n 0, 1, 0, 0, .null)] (1, [(0, .ref q), (1, .ref b), (2, .null)], [.ref q], I, G, P) True hX hi (by decide +kernel) rfl trivial ?_
  refine am_obj hX hi (idx := 1) oi_STR (by decide +kernel) (Nat.le_of_ble_eq_true rfl) ?_
  show am_V X _ _ _ sh ad (4, [(0, .ref q), (1, .ref b), (2, .null)], [], I, G, P)
  refine am_blk 4 [(.aload_n 1, 1, 1, 0, .null)] (5, [(0, .ref q), (1, .ref b), (2, .null)], [.ref b], I, G, P) True hX hi (by decide +kernel) rfl trivial ?_
  refine am_callU hX hi (C := "java/lang/StringBuilder") (M := mJ5_getValue_6d5f1) (idx := 552) (d' := 1) (As := []) (rest := []) mkJ5_getValue_6d5f1 miJ5_getValue_6d5f1 sl_value sm_getValue_6d5f1 (by decide +kernel) (by decide +kernel) hb rfl rfl ⟨by decide, by decide, Nat.le_of_ble_eq_true rfl⟩ rfl (k_bValue hb hP) ?_
  rintro r9 I9 G9 P9 ⟨e0, e1, e2, e3⟩
  rw [e0, e1, e2, e3]
  show am_V X _ _ _ sh ad (8, [(0, .ref q), (1, .ref b), (2, .null)], [.ref v], I, G, P)
  refine am_blk 8 [(.astore_n 3, 1, 3, 0, .null), (.aload_n 1, 1, 1, 0, .null)] (10, [(0, .ref q), (1, .ref b), (2, .null), (3, .ref v)], [.ref b], I, G, P) True hX hi (by decide +kernel) rfl trivial ?_
  refine am_callO hX hi (C := "java/lang/StringBuilder") (M := mJ4_length_8abf5) (Mx := mJ5_length_8abf5) (idx := 549) (d' := 2) (As := []) (rest := []) mkJ4_length_8abf5 mkJ5_length_8abf5 miJ4_length_8abf5 miJ5_length_8abf5 sl_length rfl sm_length_8abf5 (by decide +kernel) (by decide +kernel) hb rfl rfl ⟨by decide, by decide, Nat.le_of_ble_eq_true rfl⟩ rfl (k_bLength hb) ?_
  rintro r9 I9 G9 P9 ⟨e0, e1, e2, e3⟩
  rw [e0, e1, e2, e3]
  show am_V X _ _ _ sh ad (13, [(0, .ref q), (1, .ref b), (2, .null), (3, .ref v)], [.int (I b 3)], I, G, P)
  rw [h3]
  show am_V X _ _ _ sh ad (13, [(0, .ref q), (1, .ref b), (2, .null), (3, .ref v)], [.int (Int32.ofNat T.length)], I, G, P)
  refine am_blk 13 [(.istore 4, 2, 4, 0, .null), (.aload_n 1, 1, 1, 0, .null)] (16, [(0, .ref q), (1, .ref b), (2, .null), (3, .ref v), (4, .int (Int32.ofNat T.length))], [.ref b], I, G, P) True hX hi (by decide +kernel) rfl trivial ?_
  refine am_callU hX hi (C := "java/lang/StringBuilder") (M := mJ5_isLatin1_aae02) (idx := 1047) (d' := 1) (As := []) (rest := []) mkJ5_isLatin1_aae02 miJ5_isLatin1_aae02 sl_latin sm_isLatin1_aae02 (by decide +kernel) (by decide +kernel) hb rfl rfl ⟨by decide, by decide, Nat.le_of_ble_eq_true rfl⟩ rfl (k_bLatin hb h0) ?_
  rintro r9 I9 G9 P9 ⟨e0, e1, e2, e3⟩
  rw [e0, e1, e2, e3]
  show am_V X _ _ _ sh ad (19, [(0, .ref q), (1, .ref b), (2, .null), (3, .ref v), (4, .int (Int32.ofNat T.length))], [.int (1 : Int32)], I, G, P)
  refine am_if_eq hX hi (off := 22) (tgt := 41) (by decide +kernel) (by decide) (fun c => absurd c (by decide)) (fun _ => ?_)
  refine am_blk 22 [(.aload_n 0, 1, 0, 0, .null), (.iconst (0), 1, 0, 0, .int (0 : Int32))] (24, [(0, .ref q), (1, .ref b), (2, .null), (3, .ref v), (4, .int (Int32.ofNat T.length))], [.int (0 : Int32), .ref q], I, G, P) True hX hi (by decide +kernel) rfl trivial ?_
  refine am_pfB hX hi (c := 0) (b := 1) (idx := 15) hq rfl (by decide +kernel) (Or.inl rfl) rfl (by decide +kernel) ?_
  show am_V X _ _ _ sh ad (27, [(0, .ref q), (1, .ref b), (2, .null), (3, .ref v), (4, .int (Int32.ofNat T.length))], [], (am_up I q 1 0), G, P)
  refine am_blk 27 [(.aload_n 0, 1, 0, 0, .null), (.aload_n 3, 1, 3, 0, .null), (.iconst (0), 1, 0, 0, .int (0 : Int32)), (.iload 4, 2, 4, 0, .null)] (32, [(0, .ref q), (1, .ref b), (2, .null), (3, .ref v), (4, .int (Int32.ofNat T.length))], [.int (Int32.ofNat T.length), .int (0 : Int32), .ref v, .ref q], (am_up I q 1 0), G, P) True hX hi (by decide +kernel) rfl trivial ?_
  have eI : am_up I q 1 0 v = I v := am_up_rowb _ _ _ hvq
  refine am_callSA hX hi hm (M := mJ7_copyOfRange_39247) (idx := 54) (d' := 3) (As := [.ref v, .int (0 : Int32), .int (Int32.ofNat T.length)]) (rest := [.ref q]) mkJ7_copyOfRange_39247 msJ7_copyOfRange_39247 (by decide +kernel) (by decide +kernel) rfl ⟨by decide, by decide, Nat.le_of_ble_eq_true rfl⟩ rfl ⟨by omega, by omega⟩ (am_kqL_r (Or.inl lq) (am_kqL_r (Or.inl lb) (am_kqL_0 (am_kqL_r (Or.inl lv) (am_kqL_i am_kqL_n))))) (am_kqS_r (Or.inl lq) am_kqS_n) (k_copyR hv hTm hm9 (by rw [eI]; exact hf) hl hR) ?_
  rintro r9 sh9 ad1 I9 G P ⟨rfl, rfl, rfl, rfl, f, rfl, f1, f2⟩ ha1 hX1
  show am_V X _ _ _ (sh ++ [.inr (4, T.length)]) ad1 (35, [(0, .ref q), (1, .ref b), (2, .null), (3, .ref v), (4, .int (Int32.ofNat T.length))], [.ref sh.length, .ref q], (am_row (am_up I q 1 0) sh.length f), G, P)
  refine am_pfP hX1 hi (c := 0) (b := 0) (idx := 9) (am_at_app hq) rfl (by decide +kernel) rfl (by decide +kernel) ?_
  show am_V X _ _ _ (sh ++ [.inr (4, T.length)]) ad1 (38, [(0, .ref q), (1, .ref b), (2, .null), (3, .ref v), (4, .int (Int32.ofNat T.length))], [], (am_row (am_up I q 1 0) sh.length f), G, (am_up P q 0 (.ref sh.length)))
  refine am_blk 38 [(.goto (59), 3, 0, 97, .null)] (97, [(0, .ref q), (1, .ref b), (2, .null), (3, .ref v), (4, .int (Int32.ofNat T.length))], [], (am_row (am_up I q 1 0) sh.length f), G, (am_up P q 0 (.ref sh.length))) True hX1 hi (by decide +kernel) rfl trivial ?_
  exact am_vretA hX1 hi rfl (by decide +kernel) ha1 ⟨rfl, rfl, rfl, rfl, f, rfl, fun j hj => by rw [f1 j hj, eI]; exact hbT j hj⟩ ⟨by omega, by omega⟩
set_option maxHeartbeats 1000000 in
theorem k_stInitB (hB : sB sh I P b v m T) (hq : sh[q]? = some (.inl 0)) (hl : sh.length < 1000) (hR : lR sh.length sh P) : am_CtA mJ0_init_81219 5 1 T.length sh.length sh [.ref q, .ref b] I G P (pStI sh q T I G P) := by
  have lb := am_at_lt hB.1
  have lq := am_at_lt hq
  refine am_ofA (by decide +kernel) rfl (fun _ => rfl) (by decide) (Nat.le_of_ble_eq_true rfl) (fun X ad hX hi hm => ?_)
  have hi : am_info X 0 cJ0_init_81219 2 true none 5 := hi
  have hm : am_mem X 1 T.length := hm
  show am_V X _ _ _ sh ad (0, [(0, .ref q), (1, .ref b)], [], I, G, P)
  refine am_blk 0 [(.aload_n 0, 1, 0, 0, .null), (.aload_n 1, 1, 1, 0, .null)] (2, [(0, .ref q), (1, .ref b)], [.ref b, .ref q], I, G, P) True hX hi (by decide +kernel) rfl trivial ?_
  refine am_nul1 hX hi (by decide +kernel) ?_
  show am_V X _ _ _ sh ad (3, [(0, .ref q), (1, .ref b)], [.null, .ref b, .ref q], I, G, P)
  refine am_callIA hX hi hm (M := mJ0_init_db425) (idx := 489) (d' := 4) (As := [.ref b, .null]) (rest := []) mkJ0_init_db425 miJ0_init_db425 (by decide +kernel) rfl (by decide +kernel) (by decide +kernel) rfl ⟨by decide, by decide, Nat.le_of_ble_eq_true rfl⟩ rfl ⟨by omega, by omega⟩ (am_kqL_r (Or.inl lq) (am_kqL_r (Or.inl lb) am_kqL_n)) am_kqS_n (k_stInit hB hq hl hR) ?_
  rintro r9 sh9 ad1 I9 G9 P9 ⟨rfl, hp⟩ ha1 hX1
  exact am_vretA hX1 hi rfl (by decide +kernel) ha1 ⟨rfl, hp⟩ ⟨by omega, by omega⟩
def pTos (sh : List am_Sh) (T : List Nat) (I : am_I) (G : am_G) (P : am_P) : am_PoA := fun r sh' I' G' P' => r = some (.ref sh.length) ∧ sh' = sh ++ [.inl 0] ++ [.inr (4, T.length)] ∧ G' = am_z G sh.length 0 ∧ P' = am_up (am_z P sh.length .null) sh.length 0 (.ref (sh.length + 1)) ∧ ∃ f : Nat → Int32, I' = am_row (am_up (am_z I sh.length 0) sh.length 1 0) (sh.length + 1) f ∧ bT T f
theorem lR.obj {c : Nat} (h : lR sh.length sh P) (hc : ∀ j, j < (am_ks c).length → am_kr sh.length (P sh.length j)) : lR (sh.length + 1) (sh ++ [.inl c]) P := by
  refine ⟨fun b c' j h1 h2 => ?_, fun b k j h1 h2 => ?_⟩
  · rcases am_snoc_at h1 with h3 | ⟨e3, h3⟩
    · exact (h.1 b c' j h3 h2).le (by omega)
    · subst e3; cases h3; exact (hc j h2).le (by omega)
  · rcases am_snoc_at h1 with h1 | ⟨-, h1⟩
    · exact (h.2 b k j h1 h2).le (by omega)
    · cases h1
theorem am_z_lt {α : Type} (f : Nat → Nat → α) {a n : Nat} (z : α) (h : a < n) : am_z f n z a = f a := am_z_ne _ _ (by omega)
theorem lR.z {x : am_Sh} (h : lR sh.length sh P) : lR sh.length sh (am_z P sh.length .null) := ⟨fun b c j h1 h2 => by rw [am_z_lt _ _ (am_at_lt h1)]; exact h.1 b c j h1 h2, fun b k j h1 h2 => by rw [am_z_lt _ _ (am_at_lt h1)]; exact h.2 b k j h1 h2⟩
theorem sB.new {s : am_Sh} (h : sB sh I P b v m T) : sB (sh ++ [s]) (am_z I sh.length 0) (am_z P sh.length .null) b v m T := by
  obtain ⟨hb, hv, hP, h0, h3, hr⟩ := h
  have l1 := am_at_lt hb
  have l2 := am_at_lt hv
  exact ⟨am_at_app hb, am_at_app hv, by rw [am_z_lt _ _ l1]; exact hP, by rw [am_z_lt _ _ l1]; exact h0, by rw [am_z_lt _ _ l1]; exact h3, by rw [am_z_lt _ _ l2]; exact hr⟩
set_option maxHeartbeats 1000000 in
theorem k_toStr (hB : sB sh I P b v m T) (hl : sh.length + 1 < 1000) (hR : lR sh.length sh P) : am_CtA mJ4_toString_0e30d 6 2 (T.length + 4) sh.length sh [.ref b] I G P (pTos sh T I G P) := by
  have lb := am_at_lt hB.1
  refine am_ofA (by decide +kernel) rfl (by decide) (by decide) (Nat.le_of_ble_eq_true rfl) (fun X ad hX hi hm => ?_)
  have hi : am_info X 1 cJ4_toString_0e30d 1 false (some (FieldType.object "java/lang/String")) 6 := hi
  have hm : am_mem X 2 (T.length + 4) := hm
  show am_V X _ _ _ sh ad (0, [(0, .ref b)], [], I, G, P)
  refine am_newR hX hi hm (ci := 0) (r := (RJ0, TJ0, 4)) rfl nw_STR.1 nw_STR.2.1 nw_STR.2.2 (by decide +kernel) ⟨by omega, by show 0 + 4 ≤ _; omega⟩ (hR.noR (by omega)) (am_kq_noL (by omega) (am_kqL_r (Or.inl lb) am_kqL_n) am_kqS_n) (fun ad1 ha1 => ?_)
  have hX1 : am_okz X ad1 := hX.adr (fun j hj => ha1 j (by omega))
  show am_V X (0 + 1) (0 + 4) _ (sh ++ [.inl 0]) ad1 (3, [(0, .ref b)], [.ref sh.length], (am_z I sh.length 0), am_z G sh.length 0, (am_z P sh.length .null))
  refine am_blk 3 [(.dup, 1, 0, 0, .null), (.aload_n 0, 1, 0, 0, .null)] (5, [(0, .ref b)], [.ref b, .ref sh.length, .ref sh.length], (am_z I sh.length 0), am_z G sh.length 0, (am_z P sh.length .null)) True hX1 hi (by decide +kernel) rfl trivial ?_
  have eL : (sh ++ [(.inl 0 : am_Sh)]).length = sh.length + 1 := by rw [List.length_append]; rfl
  refine am_callIA hX1 hi hm (M := mJ0_init_81219) (idx := 137) (d' := 5) (As := [.ref b]) (rest := [.ref sh.length]) mkJ0_init_81219 miJ0_init_81219 (by decide +kernel) rfl (by decide +kernel) (by decide +kernel) rfl ⟨by decide, by decide, Nat.le_of_ble_eq_true rfl⟩ rfl ⟨by omega, by omega⟩ (am_kqL_r (Or.inl (by omega)) am_kqL_n) (am_kqS_r (Or.inl (by omega)) am_kqS_n) (k_stInitB (hB.new) am_at_end (by omega) (by rw [eL]; exact (hR.z (x := .inl 0)).obj (fun j _ => by rw [am_z_self]; trivial))) ?_
  rintro r9 sh9 ad2 I9 G9 P9 ⟨rfl, rfl, rfl, rfl, f, rfl, f1⟩ ha2 hX2
  rw [eL] at ha2 ⊢
  refine am_aretA hX2 hi rfl (by decide +kernel) (fun j hj => (ha2 j (by omega)).trans (ha1 j (by omega))) ⟨rfl, rfl, rfl, rfl, f, rfl, f1⟩ ⟨by omega, by omega⟩
def pSbI (sh : List am_Sh) (b : Nat) (I : am_I) (G : am_G) (P : am_P) : am_PoA := fun r sh' I' G' P' => r = none ∧ sh' = sh ++ [.inr (4, 16)] ∧ G' = G ∧ P' = am_up P b 0 (.ref sh.length) ∧ I' = am_up (am_row I sh.length (fun _ => 0)) b 1 0
set_option maxHeartbeats 1000000 in
theorem k_asbInit (hb : sh[b]? = some (.inl 1)) (hl : sh.length < 1000) (hR : lR sh.length sh P) : am_CtA mJ5_init_d00df 1 1 16 sh.length sh [.ref b, .int 16] I G P (pSbI sh b I G P) := by
  have lb := am_at_lt hb
  refine am_ofA (by decide +kernel) rfl (fun _ => rfl) (by decide) (Nat.le_of_ble_eq_true rfl) (fun X ad hX hi hm => ?_)
  have hi : am_info X 21 cJ5_init_d00df 2 true none 1 := hi
  have hm : am_mem X 1 16 := hm
  show am_V X _ _ _ sh ad (0, [(0, .ref b), (1, .int (16 : Int32))], [], I, G, P)
  refine am_blk 0 [(.aload_n 0, 1, 0, 0, .null)] (1, [(0, .ref b), (1, .int (16 : Int32))], [.ref b], I, G, P) True hX hi (by decide +kernel) rfl trivial ?_
  refine am_obj hX hi (idx := 3) oi_ASB (by decide +kernel) (Nat.le_of_ble_eq_true rfl) ?_
  show am_V X _ _ _ sh ad (4, [(0, .ref b), (1, .int (16 : Int32))], [], I, G, P)
  refine am_csS hX hi (idx := 18) am_w_cs21 (by decide +kernel) ?_
  refine am_if_eq hX hi (off := 18) (tgt := 25) (by decide +kernel) (by decide) (fun c => absurd c (by decide)) (fun _ => ?_)
  refine am_blk 10 [(.aload_n 0, 1, 0, 0, .null), (.iload_n 1, 1, 1, 0, .null)] (12, [(0, .ref b), (1, .int (16 : Int32))], [.int (16 : Int32), .ref b], I, G, P) True hX hi (by decide +kernel) rfl trivial ?_
  refine am_newB hX hi hm (N := 16) am_w_byte (by decide +kernel) (by decide) rfl (by decide) ⟨by omega, by omega⟩ hl hR (am_kqL_r (Or.inl lb) (am_kqL_i am_kqL_n)) (am_kqS_r (Or.inl lb) am_kqS_n) (fun ad1 ha1 hX1 => ?_)
  show am_V X _ _ _ (sh ++ [.inr (4, 16)]) ad1 (14, [(0, .ref b), (1, .int (16 : Int32))], [.ref sh.length, .ref b], (am_row I sh.length (fun _ => 0)), G, P)
  refine am_pfP hX1 hi (c := 1) (b := 0) (idx := 15) (am_at_app hb) rfl (by decide +kernel) rfl (by decide +kernel) ?_
  show am_V X _ _ _ (sh ++ [.inr (4, 16)]) ad1 (17, [(0, .ref b), (1, .int (16 : Int32))], [], (am_row I sh.length (fun _ => 0)), G, (am_up P b 0 (.ref sh.length)))
  refine am_blk 17 [(.aload_n 0, 1, 0, 0, .null), (.iconst (0), 1, 0, 0, .int (0 : Int32))] (19, [(0, .ref b), (1, .int (16 : Int32))], [.int (0 : Int32), .ref b], (am_row I sh.length (fun _ => 0)), G, (am_up P b 0 (.ref sh.length))) True hX1 hi (by decide +kernel) rfl trivial ?_
  refine am_pfB hX1 hi (c := 1) (b := 1) (idx := 22) (am_at_app hb) rfl (by decide +kernel) (Or.inl rfl) rfl (by decide +kernel) ?_
  show am_V X _ _ _ (sh ++ [.inr (4, 16)]) ad1 (22, [(0, .ref b), (1, .int (16 : Int32))], [], (am_up (am_row I sh.length (fun _ => 0)) b 1 0), G, (am_up P b 0 (.ref sh.length)))
  refine am_blk 22 [(.goto (16), 3, 0, 38, .null)] (38, [(0, .ref b), (1, .int (16 : Int32))], [], (am_up (am_row I sh.length (fun _ => 0)) b 1 0), G, (am_up P b 0 (.ref sh.length))) True hX1 hi (by decide +kernel) rfl trivial ?_
  exact am_vretA hX1 hi rfl (by decide +kernel) ha1 ⟨rfl, rfl, rfl, rfl, rfl⟩ ⟨by omega, by omega⟩
set_option maxHeartbeats 1000000 in
theorem k_sbInit (hb : sh[b]? = some (.inl 1)) (hl : sh.length < 1000) (hR : lR sh.length sh P) : am_CtA mJ4_init_da8c8 2 1 16 sh.length sh [.ref b] I G P (pSbI sh b I G P) := by
  have lb := am_at_lt hb
  refine am_ofA (by decide +kernel) rfl (fun _ => rfl) (by decide) (Nat.le_of_ble_eq_true rfl) (fun X ad hX hi hm => ?_)
  have hi : am_info X 1 cJ4_init_da8c8 1 true none 2 := hi
  have hm : am_mem X 1 16 := hm
  show am_V X _ _ _ sh ad (0, [(0, .ref b)], [], I, G, P)
  refine am_blk 0 [(.aload_n 0, 1, 0, 0, .null), (.bipush (16), 2, 0, 0, .int (16 : Int32))] (3, [(0, .ref b)], [.int (16 : Int32), .ref b], I, G, P) True hX hi (by decide +kernel) rfl trivial ?_
  refine am_callIA hX hi hm (M := mJ5_init_d00df) (idx := 1) (d' := 1) (As := [.int (16 : Int32)]) (rest := []) mkJ5_init_d00df miJ5_init_d00df (by decide +kernel) rfl (by decide +kernel) (by decide +kernel) rfl ⟨by decide, by decide, Nat.le_of_ble_eq_true rfl⟩ rfl ⟨by omega, by omega⟩ (am_kqL_r (Or.inl lb) am_kqL_n) am_kqS_n (k_asbInit hb hl hR) ?_
  rintro r9 sh9 ad1 I9 G9 P9 ⟨rfl, hp⟩ ha1 hX1
  exact am_vretA hX1 hi rfl (by decide +kernel) ha1 ⟨rfl, hp⟩ ⟨by omega, by omega⟩
end AMTN
