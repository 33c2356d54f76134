/-! texts that are made: calls, cells said under other numbers -/
theorem sx_selects {C : String} {y z : MethodName} {s : State} {args : Array Value} (hz : (Cond.selects C z z).before args s = true) (hc : y.cls = z.cls) (hy : y.cls ≠ "java/lang/invoke/MethodHandle" ∧ y.cls ≠ "java/lang/invoke/VarHandle") (hpriv : (Cond.privateMethod y).before args s = true) (hinst : (Cond.instanceMethod y).before args s = true) : (Cond.selects C y y).before args s = true := by
  obtain ⟨c, r, m, h1, -, h2, -, mk, h3, h4⟩ := Cond.selects_spec hz
  obtain ⟨my, methM, hnamed, hmethM, -, -⟩ := Cond.instanceMethod_spec hinst
  have hfound : s.methodFound? y.cls y.name y.desc = some my := State.methodFound?_of_named hnamed hy
  have h5 : my.cls = m.cls := by
    have a := findClass_of_methodNamed hnamed
    have b := findClass_of_methodNamed h2
    rw [hc] at a
    exact Option.some.inj (a.symm.trans b)
  have hsel : selectMethod {} s.vm c my = .method my := selectMethod_private hmethM (Cond.privateMethod_at hpriv my methM hnamed hmethM)
  simp only [Cond.before, Cond.holds, Cond.value, h1, hfound, hnamed, hsel, h5, h3]
  simp; exact h4
/-- who is called on a receiver of the class C -/
def am_selP (C : String) (y : MethodName) : Prop := ∀ (s : State) (args : Array Value), (∀ w ∈ am_all, w.before args s = true) → (∀ w ∈ lw_tbl, am_nestW w = true → va_Nw w s) → (Cond.selects C y y).before args s = true
theorem am_selP.of {C : String} {y : MethodName} (h : Cond.selects C y y ∈ am_all) : am_selP C y := fun _ _ hts _ => hts _ h
theorem am_selP.priv {C : String} {y z : MethodName} (hz : Cond.selects C z z ∈ am_all) (hc : y.cls = z.cls) (hy : y.cls ≠ "java/lang/invoke/MethodHandle" ∧ y.cls ≠ "java/lang/invoke/VarHandle") (h1 : Cond.privateMethod y ∈ lw_tbl) (h9 : am_nestW (Cond.privateMethod y) = true) (h2 : Cond.instanceMethod y ∈ am_all) : am_selP C y := fun _ _ hts hN => sx_selects (hts _ hz) hc hy (va_Nw.use rfl (hN _ h1 h9)) (hts _ h2)
theorem am_ofCt {M : am_M} (hM : am_Mok M) {s : State} {args : Array Value} (hts : ∀ w ∈ am_all, w.before args s = true) : (Cond.code M.1 M.2.1 M.2.2.1 M.2.2.2.1).before args s = true := hts _ (am_goodIn hM _ (List.mem_cons_self ..)).1
theorem am_lenOf {y : MethodName} {n : Nat} (h : (parseMethodDescriptor y.desc).map (fun d => d.parameters.length) = some n) : ∀ sig, parseMethodDescriptor y.desc = some sig → n = sig.parameters.length := fun sig e => by
  rw [e] at h
  exact (Option.some.inj h).symm
section AMB1
variable {X : am_X} {o : Nat} {cc : ByteArray} {nL : Nat} {ini : Bool} {ret : Option FieldType} {d : Nat}
variable {cells slots mc ms MC MS keep : Nat} {Q : State → Prop} {sh : List am_Sh} {ad : Nat → Nat} {pc : Nat} {L : am_L} {st : List Value} {I : am_I} {G : am_G} {P : am_P} {postA : am_PoA} {post : am_Po}
theorem am_callU (hX : am_okz X ad) (hi : am_info X o cc nL ini ret d) {M : am_M} {d' idx b ci : Nat} {C : String} {As rest : List Value} (hM : am_Mok M) (hin : Cond.instanceMethod M.1 ∈ lw_tbl) (hsl : am_selP C M.1) (hsm : Cond.sameMethod M.1.cls M.1.cls M.1.name M.1.desc ∈ lw_tbl) (hl : am_lnk o idx M.1 false = true) (hd : decode cc pc = .ok (.invokevirtual idx, 3))
    (hs : sh[b]? = some (.inl ci)) (hcn : (vwCl[ci]?).map (fun r => r.1) = some C) (hn : As.length = M.2.2.2.2.2.1) (hdd : d' + 1 ≤ d ∧ 19 + M.2.2.1 + 30 * d' ≤ 30 * d ∧ (rest.map fun v => v.category).sum ≤ 8) (hst : st = As.reverse ++ .ref b :: rest) (hC : am_Ct M d' sh (.ref b :: As) I G P post)
    (kk : ∀ r I' G' P', post r I' G' P' → am_V X cells slots Q sh ad (pc + 3, L, r.toList ++ rest, I', G', P')) : am_V X cells slots Q sh ad (pc, L, st, I, G, P) := by
  subst hst
  have hX0 := hX
  obtain ⟨p, l, e, R, s, m, args, below, meth, c, A, D, cys, o', cc', nL', ini'⟩ := X
  obtain ⟨rfl, rfl, rfl, rfl, -, hR1, hR2⟩ := hi
  obtain ⟨⟨hx, hb, hml, hown, hts, hlk, hK, hN, hA, hini, hR3, hR4⟩, hZ⟩ := hX
  intro h1 h2 H locs ls hP hD hS hlo
  have hM0 := hM
  obtain ⟨q1, q2, q3, q4, q5⟩ := hM
  have hlw : Cond.methodLink (am_own o') idx M.1 ∈ lw_tbl := by
    have := am_lnk_ok hl
    simpa using this
  obtain ⟨r0, hr0, hr1⟩ := Option.map_eq_some_iff.mp hcn
  have hws := am_ws_at (cys := cys) (ad := ad) (I := I) (G := G) (P := P) hs
  have cw : va_CU R s args (am_own o') C M.1.cls idx M.1 M.1 M.2.1 M.2.2.1 M.2.2.2.1 (am_wl M.1 M.2.1 M.2.2.1 M.2.2.2.1) (am_rm d' 0 0) 0 0 M.2.2.2.2.2.1 :=
    ⟨⟨rfl, rfl, by show d' + 1 ≤ R.frames; omega, by show 8 + (M.2.2.1 + 11) + 30 * d' ≤ R.locals; omega, pay_in hts (am_goodIn hM0), List.mem_cons_self ..⟩, am_ofCt hM0 hts, hts _ (am_good q2 rfl), ⟨q3, q4⟩, am_lenOf q5, hts _ (am_good hlw rfl), hts _ (am_good hsm rfl), va_Decl.of (hts _ (am_good hin rfl)) (am_ofCt hM0 hts), hsl s args hts hN, hts _ (am_good hin rfl)⟩
  have hA1 := am_A1 hD hS hA
  refine am_goes (A1 := va_A (am_ws cys ad sh I G P) H.size) (va_runU (As := As.map (am_tv ad)) (b := ad b) (rest := rest.map (am_tv ad)) ⟨hx, hb, hml, hown, hts⟩ (hC l D cys ad H.size) cw ⟨am_blind, ?_, ?_⟩ rfl (by rw [List.length_map]; exact hn) hlo.1 ?_ ?_ hd ⟨h1, h2⟩) hS hA1 hD ?_
  · rw [← hr1]
    exact va_recv hK hP hr0 hws
  · intro U hU hW
    exact ⟨rfl, by rw [hU], by rw [hU]; exact hP, va_K.moved hW.alike hK, hD.weaken (fun _ _ _ _ => trivial), am_nst.warm hW hN, by rw [hU]; exact (am_Zs.warm hW (hZ.kept hS.2.1)).narrow hA1⟩
  · simp [am_tv]
  · exact lv_room (by rw [am_cats]; exact hdd.2.2)
  · intro r I' G' P' hp H1 locs1 hP1 hD1 hS1
    rw [am_out]
    exact kk r I' G' P' hp h1 h2 H1 locs1 ls hP1 hD1 hS1 hlo
theorem am_callUA (hX : am_okz X ad) (hi : am_info X o cc nL ini ret d) (hm : am_mem X MC MS) {M : am_M} {d' idx b ci : Nat} {C : String} {As rest : List Value} (hM : am_Mok M) (hin : Cond.instanceMethod M.1 ∈ lw_tbl) (hsl : am_selP C M.1) (hsm : Cond.sameMethod M.1.cls M.1.cls M.1.name M.1.desc ∈ lw_tbl) (hl : am_lnk o idx M.1 false = true) (hd : decode cc pc = .ok (.invokevirtual idx, 3))
    (hs : sh[b]? = some (.inl ci)) (hcn : (vwCl[ci]?).map (fun r => r.1) = some C) (hn : As.length = M.2.2.2.2.2.1) (hdd : d' + 1 ≤ d ∧ 19 + M.2.2.1 + 30 * d' ≤ 30 * d ∧ (rest.map fun v => v.category).sum ≤ 8) (hst : st = As.reverse ++ .ref b :: rest) (hroom : cells + mc ≤ MC ∧ slots + ms ≤ MS) (hkL : am_kqL keep L) (hkS : am_kqS keep rest) (hC : am_CtA M d' mc ms keep sh (.ref b :: As) I G P postA)
    (kk : ∀ r sh' ad' I' G' P', postA r sh' I' G' P' → (∀ j, j < keep ∨ 1000 ≤ j → ad' j = ad j) → am_okz X ad' → am_V X (cells + mc) (slots + ms) Q sh' ad' (pc + 3, L, r.toList ++ rest, I', G', P')) : am_V X cells slots Q sh ad (pc, L, st, I, G, P) := by
  subst hst
  have hX0 := hX
  obtain ⟨p, l, e, R, s, m, args, below, meth, c, A, D, cys, o', cc', nL', ini'⟩ := X
  obtain ⟨rfl, rfl, rfl, rfl, -, hR1, hR2⟩ := hi
  obtain ⟨rfl, rfl⟩ := hm
  obtain ⟨⟨hx, hb, hml, hown, hts, hlk, hK, hN, hA, hini, hR3, hR4⟩, hZ⟩ := hX
  intro h1 h2 H locs ls hP hD hS hlo
  have hM0 := hM
  obtain ⟨q1, q2, q3, q4, q5⟩ := hM
  have hlw : Cond.methodLink (am_own o') idx M.1 ∈ lw_tbl := by
    have := am_lnk_ok hl
    simpa using this
  obtain ⟨r0, hr0, hr1⟩ := Option.map_eq_some_iff.mp hcn
  have hws := am_ws_at (cys := cys) (ad := ad) (I := I) (G := G) (P := P) hs
  have cw : va_CU R s args (am_own o') C M.1.cls idx M.1 M.1 M.2.1 M.2.2.1 M.2.2.2.1 (am_wl M.1 M.2.1 M.2.2.1 M.2.2.2.1) (am_rm d' mc ms) mc ms M.2.2.2.2.2.1 :=
    ⟨⟨rfl, rfl, by show d' + 1 ≤ R.frames; omega, by show 8 + (M.2.2.1 + 11) + 30 * d' ≤ R.locals; omega, pay_in hts (am_goodIn hM0), List.mem_cons_self ..⟩, am_ofCt hM0 hts, hts _ (am_good q2 rfl), ⟨q3, q4⟩, am_lenOf q5, hts _ (am_good hlw rfl), hts _ (am_good hsm rfl), va_Decl.of (hts _ (am_good hin rfl)) (am_ofCt hM0 hts), hsl s args hts hN, hts _ (am_good hin rfl)⟩
  have hA1 := am_A1 hD hS hA
  refine am_goesA (A1 := va_A (am_ws cys ad sh I G P) H.size) (va_runU (As := As.map (am_tv ad)) (b := ad b) (rest := rest.map (am_tv ad)) ⟨hx, hb, hml, hown, hts⟩ (hC l D cys ad H.size) cw ⟨am_blind, ?_, ?_⟩ rfl (by rw [List.length_map]; exact hn) hlo.1 ?_ ?_ hd hroom) hS hA1 ?_
  · rw [← hr1]
    exact va_recv hK hP hr0 hws
  · intro U hU hW
    exact ⟨rfl, by rw [hU], by rw [hU]; exact hP, va_K.moved hW.alike hK, hD.weaken (fun _ _ _ _ => trivial), am_nst.warm hW hN, by rw [hU]; exact (am_Zs.warm hW (hZ.kept hS.2.1)).narrow hA1⟩
  · simp [am_tv]
  · exact lv_room (by rw [am_cats]; exact hdd.2.2)
  · intro r sh' ad' I' G' P' hp had H1 locs1 hP1 hD1 hS1
    obtain ⟨e1, e2⟩ := am_kq_map hkL hkS had
    rw [← e2, am_out]
    exact kk r sh' ad' I' G' P' hp had (hX0.adr (fun j hj => had j (Or.inr hj))) hroom.1 hroom.2 H1 locs1 ls hP1 hD1 hS1 (by rw [e1]; exact hlo)
theorem am_callSUA (hX : am_okz X ad) (hi : am_info X o cc nL ini ret d) (hm : am_mem X MC MS) {M : am_M} {d' idx b ci : Nat} {C : String} {As rest : List Value} (hM : am_Mok M) (hin : Cond.instanceMethod M.1 ∈ lw_tbl) (hsm : Cond.sameMethod M.1.cls M.1.cls M.1.name M.1.desc ∈ lw_tbl) (hsu : Cond.superclass (am_own o) M.1.cls ∈ lw_tbl) (hno : M.1.name ≠ "<init>") (hl : am_lnk o idx M.1 false = true) (hd : decode cc pc = .ok (.invokespecial idx, 3))
    (hs : sh[b]? = some (.inl ci)) (hcn : (vwCl[ci]?).map (fun r => r.1) = some C) (hn : As.length = M.2.2.2.2.2.1) (hdd : d' + 1 ≤ d ∧ 19 + M.2.2.1 + 30 * d' ≤ 30 * d ∧ (rest.map fun v => v.category).sum ≤ 8) (hst : st = As.reverse ++ .ref b :: rest) (hroom : cells + mc ≤ MC ∧ slots + ms ≤ MS) (hkL : am_kqL keep L) (hkS : am_kqS keep rest) (hC : am_CtA M d' mc ms keep sh (.ref b :: As) I G P postA)
    (kk : ∀ r sh' ad' I' G' P', postA r sh' I' G' P' → (∀ j, j < keep ∨ 1000 ≤ j → ad' j = ad j) → am_okz X ad' → am_V X (cells + mc) (slots + ms) Q sh' ad' (pc + 3, L, r.toList ++ rest, I', G', P')) : am_V X cells slots Q sh ad (pc, L, st, I, G, P) := by
  subst hst
  have hX0 := hX
  obtain ⟨p, l, e, R, s, m, args, below, meth, c, A, D, cys, o', cc', nL', ini'⟩ := X
  obtain ⟨rfl, rfl, rfl, rfl, -, hR1, hR2⟩ := hi
  obtain ⟨rfl, rfl⟩ := hm
  obtain ⟨⟨hx, hb, hml, hown, hts, hlk, hK, hN, hA, hini, hR3, hR4⟩, hZ⟩ := hX
  intro h1 h2 H locs ls hP hD hS hlo
  have hM0 := hM
  obtain ⟨q1, q2, q3, q4, q5⟩ := hM
  have hlw : Cond.methodLink (am_own o') idx M.1 ∈ lw_tbl := by
    have := am_lnk_ok hl
    simpa using this
  obtain ⟨r0, hr0, hr1⟩ := Option.map_eq_some_iff.mp hcn
  have hws := am_ws_at (cys := cys) (ad := ad) (I := I) (G := G) (P := P) hs
  have cw : va_CS R s args (am_own o') idx M.1 M.2.1 M.2.2.1 M.2.2.2.1 (am_wl M.1 M.2.1 M.2.2.1 M.2.2.2.1) (am_rm d' mc ms) mc ms M.2.2.2.2.2.1 :=
    ⟨⟨rfl, rfl, by show d' + 1 ≤ R.frames; omega, by show 8 + (M.2.2.1 + 11) + 30 * d' ≤ R.locals; omega, pay_in hts (am_goodIn hM0), List.mem_cons_self ..⟩, hts _ (am_good hlw rfl), hts _ (am_good hsm rfl), hts _ (am_good hsu rfl), hts _ (am_good hin rfl), hts _ (am_good q2 rfl), am_ofCt hM0 hts, hno, am_lenOf q5⟩
  have hA1 := am_A1 hD hS hA
  refine am_goesA (A1 := va_A (am_ws cys ad sh I G P) H.size) (va_runSU (C := C) (cC := D.1 ci) (As := As.map (am_tv ad)) (b := ad b) (rest := rest.map (am_tv ad)) (by rw [← hr1]; exact (hK.1 ci _ hr0).2) ⟨hx, hb, hml, hown, hts⟩ (hC l D cys ad H.size) cw ⟨am_blind, ?_, ?_⟩ rfl (by rw [List.length_map]; exact hn) hlo.1 ?_ ?_ hd hroom) hS hA1 ?_
  · rw [← hr1]
    exact va_recv hK hP hr0 hws
  · intro U hU hW
    exact ⟨rfl, by rw [hU], by rw [hU]; exact hP, va_K.moved hW.alike hK, hD.weaken (fun _ _ _ _ => trivial), am_nst.warm hW hN, by rw [hU]; exact (am_Zs.warm hW (hZ.kept hS.2.1)).narrow hA1⟩
  · simp [am_tv]
  · exact lv_room (by rw [am_cats]; exact hdd.2.2)
  · intro r sh' ad' I' G' P' hp had H1 locs1 hP1 hD1 hS1
    obtain ⟨e1, e2⟩ := am_kq_map hkL hkS had
    rw [← e2, am_out]
    exact kk r sh' ad' I' G' P' hp had (hX0.adr (fun j hj => had j (Or.inr hj))) hroom.1 hroom.2 H1 locs1 ls hP1 hD1 hS1 (by rw [e1]; exact hlo)
theorem am_callSA (hX : am_okz X ad) (hi : am_info X o cc nL ini ret d) (hm : am_mem X MC MS) {M : am_M} {d' idx : Nat} {As rest : List Value} (hM : am_Mok M) (hin : Cond.static M.1 ∈ lw_tbl) (hl : am_lnk o idx M.1 false = true) (hd : decode cc pc = .ok (.invokestatic idx, 3))
    (hn : As.length = M.2.2.2.2.2.1) (hdd : d' + 1 ≤ d ∧ 19 + M.2.2.1 + 30 * d' ≤ 30 * d ∧ (rest.map fun v => v.category).sum ≤ 8) (hst : st = As.reverse ++ rest) (hroom : cells + mc ≤ MC ∧ slots + ms ≤ MS) (hkL : am_kqL keep L) (hkS : am_kqS keep rest) (hC : am_CtA M d' mc ms keep sh As I G P postA)
    (kk : ∀ r sh' ad' I' G' P', postA r sh' I' G' P' → (∀ j, j < keep ∨ 1000 ≤ j → ad' j = ad j) → am_okz X ad' → am_V X (cells + mc) (slots + ms) Q sh' ad' (pc + 3, L, r.toList ++ rest, I', G', P')) : am_V X cells slots Q sh ad (pc, L, st, I, G, P) := by
  subst hst
  have hX0 := hX
  obtain ⟨p, l, e, R, s, m, args, below, meth, c, A, D, cys, o', cc', nL', ini'⟩ := X
  obtain ⟨rfl, rfl, rfl, rfl, -, hR1, hR2⟩ := hi
  obtain ⟨rfl, rfl⟩ := hm
  obtain ⟨⟨hx, hb, hml, hown, hts, hlk, hK, hN, hA, hini, hR3, hR4⟩, hZ⟩ := hX
  intro h1 h2 H locs ls hP hD hS hlo
  have hM0 := hM
  obtain ⟨q1, q2, q3, q4, q5⟩ := hM
  have hlw : Cond.methodLink (am_own o') idx M.1 ∈ lw_tbl := by
    have := am_lnk_ok hl
    simpa using this
  have cw : CallB R s args (am_own o') idx M.1 M.2.1 M.2.2.1 M.2.2.2.1 (am_wl M.1 M.2.1 M.2.2.1 M.2.2.2.1) (am_rm d' mc ms) mc ms M.2.2.2.2.2.1 ∧ (Cond.static M.1).before args s = true :=
    ⟨callB_of _ hts (am_goodIn ⟨q1, q2, q3, q4, q5⟩) rfl rfl rfl (hts _ (am_good q2 rfl)) (hts _ (am_good hlw rfl)) ⟨q3, q4, q5⟩ ⟨by show d' + 1 ≤ R.frames; omega, by show 8 + (M.2.2.1 + 11) + 30 * d' ≤ R.locals; omega⟩, hts _ (am_good hin rfl)⟩
  have hA1 := am_A1 hD hS hA
  refine am_goesA (A1 := va_A (am_ws cys ad sh I G P) H.size) (va_runS (As := As.map (am_tv ad)) (rest := rest.map (am_tv ad)) ⟨hx, hb, hml, hown, hts⟩ (hC l D cys ad H.size) cw ⟨am_blind, ?_⟩ rfl (by rw [List.length_map]; exact hn) hlo.1 ?_ ?_ hd hroom) hS hA1 ?_
  · intro U hU hW
    exact ⟨rfl, by rw [hU], by rw [hU]; exact hP, va_K.moved hW.alike hK, hD.weaken (fun _ _ _ _ => trivial), am_nst.warm hW hN, by rw [hU]; exact (am_Zs.warm hW (hZ.kept hS.2.1)).narrow hA1⟩
  · simp
  · exact lv_room (by rw [am_cats]; exact hdd.2.2)
  · intro r sh' ad' I' G' P' hp had H1 locs1 hP1 hD1 hS1
    obtain ⟨e1, e2⟩ := am_kq_map hkL hkS had
    rw [← e2, am_out]
    exact kk r sh' ad' I' G' P' hp had (hX0.adr (fun j hj => had j (Or.inr hj))) hroom.1 hroom.2 H1 locs1 ls hP1 hD1 hS1 (by rw [e1]; exact hlo)
theorem am_callVA (hX : am_okz X ad) (hi : am_info X o cc nL ini ret d) (hm : am_mem X MC MS) {M : am_M} {d' idx b ci : Nat} {As rest : List Value} (hM : am_Mok M) (hin : Cond.instanceMethod M.1 ∈ lw_tbl) (hsl : Cond.selects M.1.cls M.1 M.1 ∈ lw_tbl) (hl : am_lnk o idx M.1 false = true) (hd : decode cc pc = .ok (.invokevirtual idx, 3))
    (hs : sh[b]? = some (.inl ci)) (hcn : (vwCl[ci]?).map (fun r => r.1) = some M.1.cls) (hn : As.length = M.2.2.2.2.2.1) (hdd : d' + 1 ≤ d ∧ 19 + M.2.2.1 + 30 * d' ≤ 30 * d ∧ (rest.map fun v => v.category).sum ≤ 8) (hst : st = As.reverse ++ .ref b :: rest) (hroom : cells + mc ≤ MC ∧ slots + ms ≤ MS) (hkL : am_kqL keep L) (hkS : am_kqS keep rest) (hC : am_CtA M d' mc ms keep sh (.ref b :: As) I G P postA)
    (kk : ∀ r sh' ad' I' G' P', postA r sh' I' G' P' → (∀ j, j < keep ∨ 1000 ≤ j → ad' j = ad j) → am_okz X ad' → am_V X (cells + mc) (slots + ms) Q sh' ad' (pc + 3, L, r.toList ++ rest, I', G', P')) : am_V X cells slots Q sh ad (pc, L, st, I, G, P) := by
  subst hst
  have hX0 := hX
  obtain ⟨p, l, e, R, s, m, args, below, meth, c, A, D, cys, o', cc', nL', ini'⟩ := X
  obtain ⟨rfl, rfl, rfl, rfl, -, hR1, hR2⟩ := hi
  obtain ⟨rfl, rfl⟩ := hm
  obtain ⟨⟨hx, hb, hml, hown, hts, hlk, hK, hN, hA, hini, hR3, hR4⟩, hZ⟩ := hX
  intro h1 h2 H locs ls hP hD hS hlo
  have hM0 := hM
  obtain ⟨q1, q2, q3, q4, q5⟩ := hM
  have hlw : Cond.methodLink (am_own o') idx M.1 ∈ lw_tbl := by
    have := am_lnk_ok hl
    simpa using this
  obtain ⟨r0, hr0, hr1⟩ := Option.map_eq_some_iff.mp hcn
  have hws := am_ws_at (cys := cys) (ad := ad) (I := I) (G := G) (P := P) hs
  have cw : CallW R s args (am_own o') M.1.cls idx M.1 M.2.1 M.2.2.1 M.2.2.2.1 (am_wl M.1 M.2.1 M.2.2.1 M.2.2.2.1) (am_rm d' mc ms) mc ms M.2.2.2.2.2.1 :=
    ⟨callB_of _ hts (am_goodIn ⟨q1, q2, q3, q4, q5⟩) rfl rfl rfl (hts _ (am_good q2 rfl)) (hts _ (am_good hlw rfl)) ⟨q3, q4, q5⟩ ⟨by show d' + 1 ≤ R.frames; omega, by show 8 + (M.2.2.1 + 11) + 30 * d' ≤ R.locals; omega⟩, hts _ (am_good hin rfl), hts _ (am_good hsl rfl)⟩
  have hA1 := am_A1 hD hS hA
  refine am_goesA (A1 := va_A (am_ws cys ad sh I G P) H.size) (va_runV (As := As.map (am_tv ad)) (b := ad b) (rest := rest.map (am_tv ad)) ⟨hx, hb, hml, hown, hts⟩ (hC l D cys ad H.size) cw ⟨am_blind, ?_, ?_⟩ rfl (by rw [List.length_map]; exact hn) hlo.1 ?_ ?_ hd hroom) hS hA1 ?_
  · rw [← hr1]
    exact va_recv hK hP hr0 hws
  · intro U hU hW
    exact ⟨rfl, by rw [hU], by rw [hU]; exact hP, va_K.moved hW.alike hK, hD.weaken (fun _ _ _ _ => trivial), am_nst.warm hW hN, by rw [hU]; exact (am_Zs.warm hW (hZ.kept hS.2.1)).narrow hA1⟩
  · simp [am_tv]
  · exact lv_room (by rw [am_cats]; exact hdd.2.2)
  · intro r sh' ad' I' G' P' hp had H1 locs1 hP1 hD1 hS1
    obtain ⟨e1, e2⟩ := am_kq_map hkL hkS had
    rw [← e2, am_out]
    exact kk r sh' ad' I' G' P' hp had (hX0.adr (fun j hj => had j (Or.inr hj))) hroom.1 hroom.2 H1 locs1 ls hP1 hD1 hS1 (by rw [e1]; exact hlo)
theorem am_callIA (hX : am_okz X ad) (hi : am_info X o cc nL ini ret d) (hm : am_mem X MC MS) {M : am_M} {d' idx b : Nat} {As rest : List Value} (hM : am_Mok M) (hin : Cond.instanceMethod M.1 ∈ lw_tbl) (hnm : M.1.name = "<init>") (hret : M.2.2.2.1 = none) (hl : am_lnk o idx M.1 false = true) (hd : decode cc pc = .ok (.invokespecial idx, 3))
    (hn : As.length = M.2.2.2.2.2.1) (hdd : d' + 1 ≤ d ∧ 19 + M.2.2.1 + 30 * d' ≤ 30 * d ∧ (rest.map fun v => v.category).sum ≤ 8) (hst : st = As.reverse ++ .ref b :: rest) (hroom : cells + mc ≤ MC ∧ slots + ms ≤ MS) (hkL : am_kqL keep L) (hkS : am_kqS keep rest) (hC : am_CtA M d' mc ms keep sh (.ref b :: As) I G P postA)
    (kk : ∀ r sh' ad' I' G' P', postA r sh' I' G' P' → (∀ j, j < keep ∨ 1000 ≤ j → ad' j = ad j) → am_okz X ad' → am_V X (cells + mc) (slots + ms) Q sh' ad' (pc + 3, L, r.toList ++ rest, I', G', P')) : am_V X cells slots Q sh ad (pc, L, st, I, G, P) := by
  subst hst
  have hX0 := hX
  obtain ⟨y, cb, mL, rt, oM, nA, iniM⟩ := M
  simp only at hret hnm hn hdd hin hl
  subst hret
  obtain ⟨p, l, e, R, s, m, args, below, meth, c, A, D, cys, o', cc', nL', ini'⟩ := X
  obtain ⟨rfl, rfl, rfl, rfl, -, hR1, hR2⟩ := hi
  obtain ⟨rfl, rfl⟩ := hm
  obtain ⟨⟨hx, hb, hml, hown, hts, hlk, hK, hN, hA, hini, hR3, hR4⟩, hZ⟩ := hX
  intro h1 h2 H locs ls hP hD hS hlo
  obtain ⟨q1, q2, q3, q4, q5⟩ := hM
  have hlw : Cond.methodLink (am_own o') idx y ∈ lw_tbl := by
    have := am_lnk_ok hl
    simpa using this
  have cw : CallB R s args (am_own o') idx y cb mL none (am_wl y cb mL none) (am_rm d' mc ms) mc ms nA ∧ y.name = "<init>" ∧ (Cond.instanceMethod y).before args s = true :=
    ⟨callB_of _ hts (am_goodIn (M := (y, cb, mL, none, oM, nA, iniM)) ⟨q1, q2, q3, q4, q5⟩) rfl rfl rfl (hts _ (am_good q2 rfl)) (hts _ (am_good hlw rfl)) ⟨q3, q4, q5⟩ ⟨by show d' + 1 ≤ R.frames; omega, by show 8 + (mL + 11) + 30 * d' ≤ R.locals; omega⟩, hnm, hts _ (am_good hin rfl)⟩
  have hA1 := am_A1 hD hS hA
  refine am_goesA (A1 := va_A (am_ws cys ad sh I G P) H.size) (va_runI (As := As.map (am_tv ad)) (b := ad b) (rest := rest.map (am_tv ad)) ⟨hx, hb, hml, hown, hts⟩ (hC l D cys ad H.size) cw ⟨am_blind, ?_⟩ rfl (by rw [List.length_map]; exact hn) hlo.1 ?_ ?_ hd hroom) hS hA1 ?_
  · intro U hU hW
    exact ⟨rfl, by rw [hU], by rw [hU]; exact hP, va_K.moved hW.alike hK, hD.weaken (fun _ _ _ _ => trivial), am_nst.warm hW hN, by rw [hU]; exact (am_Zs.warm hW (hZ.kept hS.2.1)).narrow hA1⟩
  · simp [am_tv]
  · exact lv_room (by rw [am_cats]; exact hdd.2.2)
  · intro r sh' ad' I' G' P' hp had H1 locs1 hP1 hD1 hS1
    obtain ⟨e1, e2⟩ := am_kq_map hkL hkS had
    rw [← e2, am_out]
    exact kk r sh' ad' I' G' P' hp had (hX0.adr (fun j hj => had j (Or.inr hj))) hroom.1 hroom.2 H1 locs1 ls hP1 hD1 hS1 (by rw [e1]; exact hlo)
/-- a reference is returned by a method that makes cells -/
theorem am_aretA {ad' : Nat → Nat} {z : Nat} {C : String} (hX : am_okz X ad') (hi : am_info X o cc nL ini ret d) (hr : ret = some (.object C)) (hd : decode cc pc = .ok (.areturn, 1)) (had : ∀ j, j < keep ∨ 1000 ≤ j → ad' j = ad j) (hp : postA (some (.ref z)) sh I G P) (hc : cells ≤ mc ∧ slots ≤ ms) : am_V X cells slots (am_RtA X keep ad postA mc ms) sh ad' (pc, L, [.ref z], I, G, P) := by
  obtain ⟨p, l, e, R, s, m, args, below, meth, c, A, D, cys, o', cc', nL', ini'⟩ := X
  obtain ⟨rfl, rfl, rfl, rfl, hret, -, -⟩ := hi
  obtain ⟨⟨hx, hb, -, -, -, hlocks, -⟩, -⟩ := hX
  intro h1 h2 H locs ls hP hD hS hl
  refine W.widen (k := mc) (n := ms) hc.1 hc.2 ?_
  exact W.aret hx hb (hret.trans hr) (Or.inl ⟨C, rfl⟩) (Or.inr ⟨_, rfl⟩) (fun t ht _ => ⟨⟨some (.ref z), sh, ad', I, G, P, hp, had, rfl, by rw [ht]; exact hP, hD⟩, hS.F ht⟩) hS.2.2 hd hlocks
theorem am_aretR {ad' : Nat → Nat} {z : Nat} {C : FieldType} (hX : am_okz X ad') (hi : am_info X o cc nL ini ret d) (hr : ret = some (.array C)) (hd : decode cc pc = .ok (.areturn, 1)) (had : ∀ j, j < keep ∨ 1000 ≤ j → ad' j = ad j) (hp : postA (some (.ref z)) sh I G P) (hc : cells ≤ mc ∧ slots ≤ ms) : am_V X cells slots (am_RtA X keep ad postA mc ms) sh ad' (pc, L, [.ref z], I, G, P) := by
  obtain ⟨p, l, e, R, s, m, args, below, meth, c, A, D, cys, o', cc', nL', ini'⟩ := X
  obtain ⟨rfl, rfl, rfl, rfl, hret, -, -⟩ := hi
  obtain ⟨⟨hx, hb, -, -, -, hlocks, -⟩, -⟩ := hX
  intro h1 h2 H locs ls hP hD hS hl
  refine W.widen (k := mc) (n := ms) hc.1 hc.2 ?_
  exact W.aret hx hb (hret.trans hr) (Or.inr ⟨C, rfl⟩) (Or.inr ⟨_, rfl⟩) (fun t ht _ => ⟨⟨some (.ref z), sh, ad', I, G, P, hp, had, rfl, by rw [ht]; exact hP, hD⟩, hS.F ht⟩) hS.2.2 hd hlocks
theorem am_aretC {a : Nat} {C : FieldType} (hX : am_okz X ad) (hi : am_info X o cc nL ini ret d) (hr : ret = some (.array C)) (hd : decode cc pc = .ok (.areturn, 1)) (hp : post (some (.ref a)) I G P) : am_V X 0 0 (am_Rt X sh ad post) sh ad (pc, L, [.ref a], I, G, P) := by
  obtain ⟨p, l, e, R, s, m, args, below, meth, c, A, D, cys, o', cc', nL', ini'⟩ := X
  obtain ⟨rfl, rfl, rfl, rfl, hret, -, -⟩ := hi
  obtain ⟨⟨hx, hb, -, -, -, hlocks, -⟩, -⟩ := hX
  intro h1 h2 H locs ls hP hD hS hl
  exact W.aret hx hb (hret.trans hr) (Or.inr ⟨C, rfl⟩) (Or.inr ⟨_, rfl⟩) (fun t ht _ => ⟨⟨some (.ref a), I, G, P, hp, rfl, by rw [ht]; exact hP⟩, hS.F ht⟩) hS.2.2 hd hlocks
/-- a row of bytes is made -/
theorem am_newB (hX : am_okz X ad) (hi : am_info X o cc nL ini ret d) (hm : am_mem X mc ms) {N : Nat} {n : Int32} (hc1 : Cond.arrayClass (newarray.typeOf .byte) ∈ lw_tbl) (hd : decode cc pc = .ok (.newarray .byte, 2)) (hn : ¬ n < 0) (hN : n.toNatClampNeg = N) (hsz : N ≤ 1000000) (hroom : cells + 1 ≤ mc ∧ slots + N ≤ ms)
    (hl : sh.length < 1000) (hR : lR sh.length sh P) (hL : am_kqL sh.length L) (hS : am_kqS sh.length st)
    (k : ∀ ad' : Nat → Nat, (∀ j, j < sh.length ∨ 1000 ≤ j → ad' j = ad j) → am_okz X ad' → am_V X (cells + 1) (slots + N) Q (sh ++ [.inr (4, N)]) ad' (pc + 2, L, .ref sh.length :: st, am_row I sh.length (fun _ => 0), G, P)) : am_V X cells slots Q sh ad (pc, L, .int n :: st, I, G, P) :=
  am_newaR hX hi hm (t := 4) (at' := .byte) (Or.inr (Or.inr (Or.inr ⟨rfl, rfl⟩))) hc1 hd hn hN hsz hroom (hR.noR hl) (am_kq_noL hl hL hS) (fun ad' h => am_V_ws (fun cys => am_ws_arrT (by decide)) (k ad' (fun j hj => h j (by omega)) (hX.adr (fun j hj => h j (by omega)))))
/-- System.arraycopy of a row's first places into a row of bytes -/
theorem am_acpB (hX : am_okz X ad) (hi : am_info X o cc nL ini ret d) {a b na nb idx : Nat} {n dp : Int32} (ha : sh[a]? = some (.inr (4, na))) (hb' : sh[b]? = some (.inr (4, nb))) (hd0 : 0 ≤ dp.toInt) (hn : 0 ≤ n.toInt ∧ n.toInt ≤ na ∧ dp.toInt + n.toInt ≤ nb) (hfit : ∀ i : Nat, i < n.toNatClampNeg → fits .byte (.int (I a i)) = true) (hl : Cond.methodLink (am_own o) idx arraycopyName ∈ lw_tbl) (hd : decode cc pc = .ok (.invokestatic idx, 3)) (hr : 2 ≤ d ∧ (st.map fun v => v.category).sum ≤ 8) (k : am_V X cells slots Q sh ad (pc + 3, L, st, am_row I b (va_cpy (I a) (I b) 0 dp.toNatClampNeg n.toNatClampNeg), G, P)) : am_V X cells slots Q sh ad (pc, L, .int n :: .int dp :: .ref b :: .int 0 :: .ref a :: st, I, G, P) := by
  obtain ⟨p, l, e, R, s, m, args, below, meth, c, A, D, cys, o', cc', nL', ini'⟩ := X
  obtain ⟨rfl, rfl, rfl, rfl, -, hR1, hR2⟩ := hi
  obtain ⟨⟨hx, hb, hml, hown, hts, hlk, hK, hN, -⟩, hZ⟩ := hX
  intro q1 q2 H locs ls hP hD hS hlo
  have h1 := am_ws_at (cys := cys) (ad := ad) (I := I) (G := G) (P := P) ha
  have h2 := am_ws_at (cys := cys) (ad := ad) (I := I) (G := G) (P := P) hb'
  have h0 : ¬ ((0 : Int32) < 0) := by decide
  have hn0 : ¬ n < 0 := by rw [i_lt, i_0]; omega
  have hdp : ¬ dp < 0 := by rw [i_lt, i_0]; omega
  have e0 : (0 : Int32).toNatClampNeg = 0 := rfl
  refine va_copyi hx hb (hml.trans hlo.1.symm) hown (hts _ (am_good hl rfl)) (hts _ am_w_ac1) (hts _ am_w_ac2) (hts _ am_w_ac3) hK hP hD hS a b 4 4 h1 h2 rfl rfl rfl h0 hdp hn0 (by rw [e0, i_cl]; omega) (by rw [i_cl, i_cl]; omega) (fun i hi => by rw [e0, Nat.zero_add]; exact hfit i hi) (by omega) (by rw [am_cats, show nativeFrameWords "java/lang/System" "arraycopy" 5 = 7 by decide +kernel]; omega) hd (fun H1 locs1 hP1 hD1 hS1 => ?_)
  have hset : (am_ws cys ad sh I G P).set b (ad b, .inl (cys.2.2.2.2, nb, .inl (va_cpy (I a) (I b) (0 : Int32).toNatClampNeg dp.toNatClampNeg n.toNatClampNeg))) = am_ws cys ad sh (am_row I b (va_cpy (I a) (I b) 0 dp.toNatClampNeg n.toNatClampNeg)) G P := by
    refine am_ws_set hb' (fun z hz => ⟨am_row_ne _ _ hz, rfl, rfl⟩) ?_
    rw [am_row_self]; rfl
  rw [hset] at hP1 hD1
  exact k q1 q2 H1 locs1 ls hP1 hD1 hS1 hlo
/-- the same out of a text's bytes -/
theorem am_acpT (hX : am_okz X ad) (hi : am_info X o cc nL ini ret d) {k b nb idx : Nat} {q : Nat × List Int32} {n dp : Int32} (hq : am_tB[k]? = some q) (hb' : sh[b]? = some (.inr (4, nb))) (hd0 : 0 ≤ dp.toInt) (hn : 0 ≤ n.toInt ∧ n.toInt ≤ q.2.length ∧ dp.toInt + n.toInt ≤ nb) (hl : Cond.methodLink (am_own o) idx arraycopyName ∈ lw_tbl) (hd : decode cc pc = .ok (.invokestatic idx, 3)) (hr : 2 ≤ d ∧ (st.map fun v => v.category).sum ≤ 8) (kk : am_V X cells slots Q sh ad (pc + 3, L, st, am_row I b (va_cpy (fun j => q.2.getD j 0) (I b) 0 dp.toNatClampNeg n.toNatClampNeg), G, P)) : am_V X cells slots Q sh ad (pc, L, .int n :: .int dp :: .ref b :: .int 0 :: .ref (3000 + q.1) :: st, I, G, P) := by
  obtain ⟨p, l, e, R, s, m, args, below, meth, c, A, D, cys, o', cc', nL', ini'⟩ := X
  obtain ⟨rfl, rfl, rfl, rfl, -, hR1, hR2⟩ := hi
  obtain ⟨⟨hx, hb, hml, hown, hts, hlk, hK, hN, -⟩, hZ⟩ := hX
  intro q1 q2 H locs ls hP hD hS hlo
  have h2 := am_ws_at (cys := cys) (ad := ad) (I := I) (G := G) (P := P) hb'
  have h0 : ¬ ((0 : Int32) < 0) := by decide
  have hn0 : ¬ n < 0 := by rw [i_lt, i_0]; omega
  have hdp : ¬ dp < 0 := by rw [i_lt, i_0]; omega
  have e0 : (0 : Int32).toNatClampNeg = 0 := rfl
  refine vk_copyt hx hb (hml.trans hlo.1.symm) hown (hts _ (am_good hl rfl)) (hts _ am_w_ac1) (hts _ am_w_ac2) (hts _ am_w_ac3) hK hP hD hS (hZ.2.2.1 k q hq).2.2.2 b 4 h2 rfl h0 hdp hn0 (by rw [e0, i_cl]; omega) (by rw [i_cl, i_cl]; omega) (fun i hi => by
      rw [e0, Nat.zero_add]
      have hj : i < q.2.length := by rw [i_cl] at hi; omega
      have := (am_tB_at hq hj).1
      have h8 := pk_fb (q.2.getD i 0)
      rw [this] at h8
      exact h8) (by omega) (by rw [am_cats, show nativeFrameWords "java/lang/System" "arraycopy" 5 = 7 by decide +kernel]; omega) hd (fun H1 locs1 hP1 hD1 hS1 => ?_)
  have hset : (am_ws cys ad sh I G P).set b (ad b, .inl (cys.2.2.2.2, nb, .inl (va_cpy (fun j => q.2.getD j 0) (I b) (0 : Int32).toNatClampNeg dp.toNatClampNeg n.toNatClampNeg))) = am_ws cys ad sh (am_row I b (va_cpy (fun j => q.2.getD j 0) (I b) 0 dp.toNatClampNeg n.toNatClampNeg)) G P := by
    refine am_ws_set hb' (fun z hz => ⟨am_row_ne _ _ hz, rfl, rfl⟩) ?_
    rw [am_row_self]; rfl
  rw [hset] at hP1 hD1
  exact kk q1 q2 H1 locs1 ls hP1 hD1 hS1 hlo
end AMB1
