/-! contracts of methods that look at the script and make cells -/
def am_CtAS (N : Nat) (xs : Nat → Int32) (M : am_M) (d mc ms keep : Nat) (sh : List am_Sh) (args : List Value) (I : am_I) (G : am_G) (P : am_P) (post : am_PoA) : Prop :=
  ∀ (l : Launch) (D : va_G) (cys : am_C3) (ad : Nat → Nat) (sz : Nat), Met l M.1 (am_wl M.1 M.2.1 M.2.2.1 M.2.2.2.1) (am_rm d mc ms) (va_Pc (args.map (am_tv ad)) (fun U => am_Pr D cys ad sh I G P sz U ∧ va_T .int (ad 5000) N (fun j => .int (xs j)) (va_A (am_ws cys ad sh I G P) sz) U U.heap)) (am_QcA D cys ad keep (va_A (am_ws cys ad sh I G P) sz) post) mc ms (va_A (am_ws cys ad sh I G P) sz)
theorem am_ofAS {N : Nat} {xs : Nat → Int32} {M : am_M} {d mc ms keep : Nat} {sh : List am_Sh} {args : List Value} {I : am_I} {G : am_G} {P : am_P} {post : am_PoA} (hy : plainFor M.1 = true) (hcls : M.1.cls = am_own M.2.2.2.2.1) (hini : M.2.2.2.2.2.2 = true → M.1.name = "<init>") (hd : 1 ≤ d) (hargs : (lg_sl args).length ≤ M.2.2.1)
    (body : ∀ (X : am_X) (ad : Nat → Nat), am_okz X ad → am_info X M.2.2.2.2.1 M.2.1 M.2.2.1 M.2.2.2.2.2.2 M.2.2.2.1 d → am_mem X mc ms → am_scT X ad N xs → am_V X 0 0 (am_RtA X keep ad post mc ms) sh ad (0, lv_args 0 args, [], I, G, P)) : am_CtAS N xs M d mc ms keep sh args I G P post := by
  obtain ⟨y, cc, nL, ret, o, n, ini⟩ := M
  intro l D cys ad sz
  refine va_MetF (cc := cc) (maxL := nL) (ret := ret) hy rfl ?_
  intro p e s m a below meth c s₁ B hml hv
  obtain ⟨rfl, ⟨hsz, hP, hK, hD0, hN, hZ⟩, hT⟩ := hv
  have hts : ∀ w ∈ am_wl y cc nL ret, w.before _ s = true := atoms_spec (ws := am_wl y cc nL ret) B.pre
  have hown : s.vm.findClass y.cls = some m.cls := findClass_of_methodNamed B.named
  have hin : meth.name = y.name := (name_of_methodNamed B.named B.method).1
  subst hsz
  have hD := hD0.self (sz := s.heap.size)
  have hb := body (p, l, e, (headSpec (am_wl y cc nL ret) (am_rm d mc ms)).room, s, m, (args.map (am_tv ad)).toArray, below, meth, c, va_A (am_ws cys ad sh I G P) s.heap.size, D, cys, o, cc, nL, ini) ad
    ⟨⟨B.exec, B.bytes, hml, by rw [← hcls]; exact hown, fun w hw => hts w (List.mem_cons_of_mem _ hw), B.notSynchronized, hK, hN, fun q h => Or.inr h, fun h => by rw [hin]; exact hini h, hd, by show 30 ≤ 30 * d; omega⟩, hZ⟩
    ⟨rfl, rfl, rfl, rfl, B.returns, Nat.le_refl _, Nat.le_refl _⟩ ⟨rfl, rfl⟩ hT
  have hl := lv_entry (args.map (am_tv ad)) (n := nL) (by rw [am_sl_len]; exact hargs)
  rw [lg_entry_eq]
  rw [am_args] at hl
  exact hb (Nat.zero_le _) (Nat.zero_le _) s.heap [] _ hP hD va_S.rf hl
section AMSC1
variable {X : am_X} {o : Nat} {cc : ByteArray} {nL : Nat} {ini : Bool} {ret : Option FieldType} {d : Nat}
variable {cells slots mc ms MC MS keep : Nat} {Q : State → Prop} {sh : List am_Sh} {ad : Nat → Nat} {pc : Nat} {L : am_L} {st : List Value} {I : am_I} {G : am_G} {P : am_P} {postA : am_PoA}
theorem am_callSAS {N : Nat} {xs : Nat → Int32} (hX : am_okz X ad) (hi : am_info X o cc nL ini ret d) (hm : am_mem X MC MS) (hsc : am_scT X ad N xs) {M : am_M} {d' idx : Nat} {As rest : List Value} (hM : am_Mok M) (hin : Cond.static M.1 ∈ lw_tbl) (hl : am_lnk o idx M.1 false = true) (hd : decode cc pc = .ok (.invokestatic idx, 3))
    (hn : As.length = M.2.2.2.2.2.1) (hdd : d' + 1 ≤ d ∧ 19 + M.2.2.1 + 30 * d' ≤ 30 * d ∧ (rest.map fun v => v.category).sum ≤ 8) (hst : st = As.reverse ++ rest) (hroom : cells + mc ≤ MC ∧ slots + ms ≤ MS) (hkL : am_kqL keep L) (hkS : am_kqS keep rest) (hC : am_CtAS N xs M d' mc ms keep sh As I G P postA)
    (kk : ∀ r sh' ad' I' G' P', postA r sh' I' G' P' → (∀ j, j < keep ∨ 1000 ≤ j → ad' j = ad j) → am_okz X ad' → am_V X (cells + mc) (slots + ms) Q sh' ad' (pc + 3, L, r.toList ++ rest, I', G', P')) : am_V X cells slots Q sh ad (pc, L, st, I, G, P) := by
  subst hst
  have hX0 := hX
  obtain ⟨p, l, e, R, s, m, args, below, meth, c, A, D, cys, o', cc', nL', ini'⟩ := X
  obtain ⟨rfl, rfl, rfl, rfl, -, hR1, hR2⟩ := hi
  obtain ⟨rfl, rfl⟩ := hm
  obtain ⟨⟨hx, hb, hml, hown, hts, hlk, hK, hN, hA, hini, hR3, hR4⟩, hZ⟩ := hX
  intro h1 h2 H locs ls hP hD hS hlo
  obtain ⟨q1, q2, q3, q4, q5⟩ := hM
  have hlw : Cond.methodLink (am_own o') idx M.1 ∈ lw_tbl := by
    have := am_lnk_ok hl
    simpa using this
  have cw : CallB R s args (am_own o') idx M.1 M.2.1 M.2.2.1 M.2.2.2.1 (am_wl M.1 M.2.1 M.2.2.1 M.2.2.2.1) (am_rm d' mc ms) mc ms M.2.2.2.2.2.1 ∧ (Cond.static M.1).before args s = true :=
    ⟨callB_of _ hts (am_goodIn ⟨q1, q2, q3, q4, q5⟩) rfl rfl rfl (hts _ (am_good q2 rfl)) (hts _ (am_good hlw rfl)) ⟨q3, q4, q5⟩ ⟨by show d' + 1 ≤ R.frames; omega, by show 8 + (M.2.2.1 + 11) + 30 * d' ≤ R.locals; omega⟩, hts _ (am_good hin rfl)⟩
  have hA1 := am_A1 hD hS hA
  refine am_goesA (A1 := va_A (am_ws cys ad sh I G P) H.size) (va_runS (As := As.map (am_tv ad)) (rest := rest.map (am_tv ad)) ⟨hx, hb, hml, hown, hts⟩ (hC l D cys ad H.size) cw ⟨am_blindS, ?_⟩ rfl (by rw [List.length_map]; exact hn) hlo.1 ?_ ?_ hd hroom) hS hA1 ?_
  · intro U hU hW
    exact ⟨rfl, ⟨by rw [hU], by rw [hU]; exact hP, va_K.moved hW.alike hK, hD.weaken (fun _ _ _ _ => trivial), am_nst.warm hW hN, by rw [hU]; exact (am_Zs.warm hW (hZ.kept hS.2.1)).narrow hA1⟩, by rw [hU]; exact ((hsc.kept hS.2.1).moved hW.alike).narrow hA1⟩
  · simp
  · exact lv_room (by rw [am_cats]; exact hdd.2.2)
  · intro r sh' ad' I' G' P' hp had H1 locs1 hP1 hD1 hS1
    obtain ⟨e1, e2⟩ := am_kq_map hkL hkS had
    rw [← e2, am_out]
    exact kk r sh' ad' I' G' P' hp had (hX0.adr (fun j hj => had j (Or.inr hj))) hroom.1 hroom.2 H1 locs1 ls hP1 hD1 hS1 (by rw [e1]; exact hlo)
end AMSC1
