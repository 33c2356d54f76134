/-! the law's own helpers: a call that may throw, and its catching -/
theorem va_MetFH {l : Launch} {y : MethodName} {ws ws' : List Cond} {rm : Room} {Pc : Array Value → State → Prop} {Qc : Array Value → State → Outcome → State → Prop} {mc ms : Nat} {free : Addr → Prop} {cc : ByteArray} {maxL : Nat} {ret : Option FieldType} {hh : List (Nat × Nat × Nat × Nat)}
    (hy : plainFor y = true) (hw : ws = Cond.codeWith y cc maxL ret hh :: ws')
    (body : ∀ p e s m args below meth c s₁, BodyLoose p l y (headSpec ws rm) cc maxL ret e s m args below meth c s₁ → c.maxLocals = maxL → Pc args s →
      W p l e (headSpec ws rm).room s m args below meth c s.heap [] 0 0 (MQ below Qc args s mc ms free) (entryFrame m args maxL)) : Met l y ws rm Pc Qc mc ms free := by
  refine MetFree.of_bodySF (code := cc) (maxLocals := maxL) (ret := ret) hy ?_ ?_
  · intro args s m h hn
    obtain ⟨m9, meth, c, hn9, h1, h2, h3, h4, -, h5, h6, -⟩ := Cond.codeWith_spec (atoms_spec (ws := ws) h _ (by rw [hw]; exact List.mem_cons_self))
    cases hn.symm.trans hn9
    exact ⟨meth, c, h1, h2, h3, h4, h5, h6⟩
  · intro p e s m args below meth c s₁ B hml hP _
    have hh0 : s₁.heap = s.heap := by rw [B.state]; rfl
    obtain ⟨t, a1, o, b1, b2, b3⟩ := body p e s m args below meth c s₁ B hml hP s₁ hh0 (Stand.of_body B)
    exact ⟨t, o, a1, b1, b2, ⟨b3.1, b3.2⟩⟩
abbrev am_HH : Type := List (Nat × Nat × Nat × Nat)
def am_wh (M : am_M) (hh : am_HH) : List Cond := .codeWith M.1 M.2.1 M.2.2.1 M.2.2.2.1 hh :: am_all
def am_CtH (M : am_M) (hh : am_HH) (d : Nat) (args : List Value) (I : am_I) (G : am_G) (post : am_Po) : Prop :=
  ∀ (l : Launch), l.stackTraces = false → ∀ (D : va_G) (cys : am_C3) (ad : Nat → Nat) (sz : Nat), Met l M.1 (am_wh M hh) (am_rm d 1 6) (va_Pc (args.map (am_tv ad)) (am_PrX D cys ad gS I G (gP 999) sz)) (am_Qc D cys ad gS (va_A (am_ws cys ad gS I G (gP 999)) sz) post) 1 6 (va_A (am_ws cys ad gS I G (gP 999)) sz)
def am_xh (X : am_X) (hh : am_HH) : Prop := match X with
  | (_, l, _, _, s, _, _, _, _, c, _, _, _, _, _, _, _) => l.stackTraces = false ∧ am_cast s ∧ c.exceptionTable.toList = tableOf hh
theorem am_ofH {M : am_M} {hh : am_HH} {d : Nat} {args : List Value} {I : am_I} {G : am_G} {post : am_Po} (hy : plainFor M.1 = true) (hcls : M.1.cls = am_own M.2.2.2.2.1) (hini : M.2.2.2.2.2.2 = true → M.1.name = "<init>") (hd : 1 ≤ d) (hargs : (lg_sl args).length ≤ M.2.2.1)
    (body : ∀ (X : am_X) (ad : Nat → Nat), am_okz X ad → am_info X M.2.2.2.2.1 M.2.1 M.2.2.1 M.2.2.2.2.2.2 M.2.2.2.1 d → am_mem X 1 6 → am_xh X hh → am_V X 0 0 (am_RtM X gS ad post 1 6) gS ad (0, lv_args 0 args, [], I, G, gP 999)) : am_CtH M hh d args I G post := by
  obtain ⟨y, cc, nL, ret, o, n, ini⟩ := M
  intro l hl9 D cys ad sz
  refine va_MetFH (cc := cc) (maxL := nL) (ret := ret) (hh := hh) hy rfl ?_
  intro p e s m a below meth c s₁ B hml hv
  obtain ⟨rfl, ⟨hsz, hP, hK, hD0, hN, hZ⟩, hcast⟩ := hv
  have hts : ∀ w ∈ am_wh (y, cc, nL, ret, o, n, ini) hh, w.before _ s = true := atoms_spec (ws := am_wh (y, cc, nL, ret, o, n, ini) hh) B.pre
  have hown : s.vm.findClass y.cls = some m.cls := findClass_of_methodNamed B.named
  have hin : meth.name = y.name := (name_of_methodNamed B.named B.method).1
  subst hsz
  have hD := hD0.self (sz := s.heap.size)
  have hb := body (p, l, e, (headSpec (am_wh (y, cc, nL, ret, o, n, ini) hh) (am_rm d 1 6)).room, s, m, (args.map (am_tv ad)).toArray, below, meth, c, va_A (am_ws cys ad gS I G (gP 999)) s.heap.size, D, cys, o, cc, nL, ini) ad
    ⟨⟨B.exec, B.bytes, hml, by rw [← hcls]; exact hown, fun w hw => hts w (List.mem_cons_of_mem _ hw), B.notSynchronized, hK, hN, fun q h => Or.inr h, fun h => by rw [hin]; exact hini h, hd, by show 30 ≤ 30 * d; omega⟩, hZ⟩
    ⟨rfl, rfl, rfl, rfl, B.returns, Nat.le_refl _, Nat.le_refl _⟩ ⟨rfl, rfl⟩ ⟨hl9, hcast, vx_table (x := y) B (hts _ List.mem_cons_self)⟩
  have hl := lv_entry (args.map (am_tv ad)) (n := nL) (by rw [am_sl_len]; exact hargs)
  rw [lg_entry_eq]
  rw [am_args] at hl
  exact hb (Nat.zero_le _) (Nat.zero_le _) s.heap [] _ hP hD va_S.rf hl
/-- E was thrown, at pc -/
def am_VX (X : am_X) (cells slots : Nat) (Q : State → Prop) (sh : List am_Sh) (ad : Nat → Nat) (S : am_S) (E : String) : Prop := match X with
  | (p, l, e, R, s, m, args, below, meth, c, A, D, cys, _, _, nL, _) => match S with
    | (pc, L, st, I, G, P) => cells ≤ R.cells → slots ≤ R.slots → ∀ (H : Heap) (locs : List Loc) (ls : Array Slot) (q : Addr) (ce : Cell), va_P D vwCl (am_ws cys ad sh I G P) H → va_D A (am_ws cys ad sh I G P) → va_S A s.heap H locs → lv_has ls nL (L.map (am_tl ad)) →
      H[q]? = some ce → ce.vm = .none → s.vm.findClass E = some ce.cls → vx_W p l e R s m args below meth c H locs cells slots Q (F0 m pc ls (st.map (am_tv ad))) q
theorem am_blindX {D : va_G} {cys : am_C3} {ad : Nat → Nat} {sh : List am_Sh} {I : am_I} {G : am_G} {P : am_P} {sz : Nat} {av : List Value} : FrameBlind (va_Pc av (am_PrX D cys ad sh I G P sz)) := by
  intro a U g mk h
  obtain ⟨h1, h2, h3⟩ := h
  have h4 := am_blind a U g mk ⟨h1, h2⟩
  exact ⟨h4.1, h4.2, am_cast.moved (u := U) (U := U.calling g mk a) (Vm.Alike.refl U.vm) h3⟩
section AMH
variable {p : Program} {l : Launch} {e : Env} {R : Room} {s : State} {m : MethodId} {args : Array Value} {below : List Frame} {meth : Method} {c : Code} {A : Nat → Prop} {D : va_G} {cys : am_C3} {nL : Nat} {cc : ByteArray}
variable {cells slots mc ms : Nat} {Q : State → Prop} {sh : List am_Sh} {ad : Nat → Nat} {pc : Nat} {I : am_I} {G : am_G} {P : am_P} {H : Heap} {locs : List Loc} {ls : Array Slot}
theorem am_goesX {st0 rest : List Value} {A1 : Nat → Prop} {pe : String → Prop} {post : am_Po} {a : Array Value} (hr : vx_Run p l e R s m args below meth c H locs cells slots mc ms (F0 m pc ls st0) rest (am_Qc D cys ad sh A1 post a) (am_XC D cys ad sh I G P A1 pe) A1) (hS : va_S A s.heap H locs) (hA : ∀ q, A1 q → A q) (hD : va_D A (am_ws cys ad sh I G P))
    (kk : ∀ r I' G' P', post r I' G' P' → ∀ (H1 : Heap) (locs1 : List Loc), va_P D vwCl (am_ws cys ad sh I' G' P') H1 → va_D A (am_ws cys ad sh I' G' P') → va_S A s.heap H1 locs1 → W p l e R s m args below meth c H1 locs1 (cells + mc) (slots + ms) Q (F0 m (pc + 3) ls ((r.map (am_tv ad)).toList ++ rest)))
    (kx : ∀ E, pe E → ∀ (H1 : Heap) (locs1 : List Loc) (q : Addr) (ce : Cell), va_P D vwCl (am_ws cys ad sh I G P) H1 → va_D A (am_ws cys ad sh I G P) → va_S A s.heap H1 locs1 → H1[q]? = some ce → ce.vm = .none → s.vm.findClass E = some ce.cls → vx_W p l e R s m args below meth c H1 locs1 (cells + mc) (slots + ms) Q (F0 m pc ls rest) q) : W p l e R s m args below meth c H locs cells slots Q (F0 m pc ls st0) := by
  intro T hT X
  rcases hr T hT X with ⟨v, st₀, t, T', L, h0, X', hL, e1, e2, ⟨⟨r, I', G', P', hp, hv, hP⟩, hz, hk⟩, st⟩ | ⟨q, st₀, t, T', L, E, ce, h0, X', hL, e1, e2, ⟨hpe, hP, hz, hk⟩, hce, hcv, hcl, st⟩
  · cases hv
    rw [h0] at hz hk
    have hS1 : va_S A s.heap T'.heap (locs ++ L) := ⟨Nat.le_trans hS.1 (by rw [e1]; exact hz), fun q h1 h2 => by rw [e1, hk q (Nat.lt_of_lt_of_le h1 hS.1) (fun z => h2 (hA q z))]; exact hS.2.1 q h1 h2, fun q hq => by
      rcases List.mem_append.mp hq with h | h
      · exact hS.2.2 q h
      · exact hA _ (hL q h)⟩
    obtain ⟨t2, a1, b1⟩ := kk r I' G' P' hp T'.heap (locs ++ L) (by rw [e1]; exact hP) (am_D_adr hD) hS1 T' rfl X'
    exact ⟨t2, st t2 a1, b1⟩
  · rw [h0] at hz hk
    have hS1 : va_S A s.heap T'.heap (locs ++ L) := ⟨Nat.le_trans hS.1 (by rw [e1]; exact hz), fun q h1 h2 => by rw [e1, hk q (Nat.lt_of_lt_of_le h1 hS.1) (fun z => h2 (hA q z))]; exact hS.2.1 q h1 h2, fun q hq => by
      rcases List.mem_append.mp hq with h | h
      · exact hS.2.2 q h
      · exact hA _ (hL q h)⟩
    obtain ⟨t2, a1, b1⟩ := kx E hpe T'.heap (locs ++ L) q ce (by rw [e1]; exact hP) hD hS1 (by rw [e1]; exact hce) hcv hcl T' rfl X'
    exact ⟨t2, st.trans a1, b1⟩
end AMH
section AMH2
variable {X : am_X} {o : Nat} {cc : ByteArray} {nL : Nat} {ini : Bool} {ret : Option FieldType} {d : Nat}
variable {cells slots mc ms MC MS : Nat} {Q : State → Prop} {sh : List am_Sh} {ad : Nat → Nat} {pc : Nat} {L : am_L} {st : List Value} {I : am_I} {G : am_G} {P : am_P} {post : am_Po} {hh : am_HH}
/-- invokevirtual of a method that may throw -/
theorem am_callX (hX : am_okz X ad) (hi : am_info X o cc nL ini ret d) (hm : am_mem X MC MS) (hh9 : am_xh X hh) {M : am_M} {d' idx b ci : Nat} {As rest : List Value} {pe : String → Prop} (hM : am_Mok M) (hin : Cond.instanceMethod M.1 ∈ lw_tbl) (hsl : Cond.selects M.1.cls M.1 M.1 ∈ lw_tbl) (hl : am_lnk o idx M.1 false = true) (hd : decode cc pc = .ok (.invokevirtual idx, 3))
    (hs : sh[b]? = some (.inl ci)) (hcn : (vwCl[ci]?).map (fun r => r.1) = some M.1.cls) (hn : As.length = M.2.2.2.2.2.1) (hdd : d' + 1 ≤ d ∧ M.2.2.1 ≤ 11 ∧ (rest.map fun v => v.category).sum ≤ 8) (hst : st = As.reverse ++ .ref b :: rest) (hroom : cells + 1 ≤ MC ∧ slots + 6 ≤ MS) (hC : am_CtX M d' sh (.ref b :: As) I G P pe post)
    (kk : ∀ r I' G' P', post r I' G' P' → am_V X (cells + 1) (slots + 6) Q sh ad (pc + 3, L, r.toList ++ rest, I', G', P')) (kx : ∀ E, pe E → am_VX X (cells + 1) (slots + 6) Q sh ad (pc, L, rest, I, G, P) E) : am_V X cells slots Q sh ad (pc, L, st, I, G, P) := by
  subst hst
  obtain ⟨p, l, e, R, s, m, args, below, meth, c, A, D, cys, o', cc', nL', ini'⟩ := X
  obtain ⟨rfl, rfl, rfl, rfl, -, hR1, hR2⟩ := hi
  obtain ⟨rfl, rfl⟩ := hm
  obtain ⟨hlt, hcast, -⟩ := hh9
  obtain ⟨⟨hx, hb, hml, hown, hts, hlk, hK, hN, hA, hini, hR3, hR4⟩, hZ⟩ := hX
  intro h1 h2 H locs ls hP hD hS hlo
  obtain ⟨q1, q2, q3, q4, q5⟩ := hM
  have hlw : Cond.methodLink (am_own o') idx M.1 ∈ lw_tbl := by
    have := am_lnk_ok hl
    simpa using this
  obtain ⟨r0, hr0, hr1⟩ := Option.map_eq_some_iff.mp hcn
  have hws := am_ws_at (cys := cys) (ad := ad) (I := I) (G := G) (P := P) hs
  have cw : CallW R s args (am_own o') M.1.cls idx M.1 M.2.1 M.2.2.1 M.2.2.2.1 (am_wl M.1 M.2.1 M.2.2.1 M.2.2.2.1) (am_rm d' 1 6) 1 6 M.2.2.2.2.2.1 :=
    ⟨callB_of _ hts (am_goodIn ⟨q1, q2, q3, q4, q5⟩) rfl rfl rfl (hts _ (am_good q2 rfl)) (hts _ (am_good hlw rfl)) ⟨q3, q4, q5⟩ ⟨by show d' + 1 ≤ R.frames; omega, by show 8 + (M.2.2.1 + 11) + 30 * d' ≤ R.locals; omega⟩, hts _ (am_good hin rfl), hts _ (am_good hsl rfl)⟩
  have hA1 := am_A1 hD hS hA
  refine am_goesX (A1 := va_A (am_ws cys ad sh I G P) H.size) (vx_runV (As := As.map (am_tv ad)) (b := ad b) (rest := rest.map (am_tv ad)) ⟨hx, hb, hml, hown, hts⟩ (hC l hlt D cys ad H.size) cw ⟨am_blindX, ?_, ?_⟩ rfl (by rw [List.length_map]; exact hn) hlo.1 ?_ ?_ hd hroom) hS hA1 hD ?_ ?_
  · rw [← hr1]
    exact va_recv hK hP hr0 hws
  · intro U hU hW
    exact ⟨rfl, ⟨by rw [hU], by rw [hU]; exact hP, va_K.moved hW.alike hK, hD.weaken (fun _ _ _ _ => trivial), am_nst.warm hW hN, by rw [hU]; exact (am_Zs.warm hW (hZ.kept hS.2.1)).narrow hA1⟩, hcast.moved hW.alike⟩
  · simp [am_tv]
  · exact lv_room (by rw [am_cats]; exact hdd.2.2)
  · intro r I' G' P' hp H1 locs1 hP1 hD1 hS1
    rw [am_out]
    exact kk r I' G' P' hp hroom.1 hroom.2 H1 locs1 ls hP1 hD1 hS1 hlo
  · intro E hpe H1 locs1 q ce hP1 hD1 hS1 hce hcv hcl
    exact kx E hpe hroom.1 hroom.2 H1 locs1 ls q ce hP1 hD1 hS1 hlo hce hcv hcl
/-- caught -/
theorem am_catch (hX : am_okz X ad) (hi : am_info X o cc nL ini ret d) (hh9 : am_xh X hh) {k : Nat} (ho : am_own o = "MarbledPaperLaw") (hk : k = 60 ∨ k = 71 ∨ k = 93) {pre suf : am_HH} {row : Nat × Nat × Nat × Nat} (hsplit : hh = pre ++ row :: suf)
    (hpass : ∀ z ∈ pre, z.2.2.2 ≠ 0 ∧ ∃ k', Cond.classLink "MarbledPaperLaw" z.2.2.2 (am_xn k') ∈ lw_tbl ∧ ((k = 71 ∧ k' = 93) ∨ (k = 93 ∧ k' = 71))) (hcov : row.1 ≤ pc ∧ pc < row.2.1) (h0 : row.2.2.2 ≠ 0) (hlink : Cond.classLink "MarbledPaperLaw" row.2.2.2 (am_xn k) ∈ lw_tbl) (hnL : am_noL 998 L [] = true)
    (kk : ∀ ad' : Nat → Nat, (∀ j, j ≠ 998 → ad' j = ad j) → am_V X cells slots Q gS ad' (row.2.2.1, L, [.ref 998], I, G, gP 999)) : am_VX X cells slots Q gS ad (pc, L, st, I, G, gP 999) (am_xn k) := by
  obtain ⟨p, l, e, R, s, m, args, below, meth, c, A, D, cys, o', cc', nL', ini'⟩ := X
  obtain ⟨rfl, rfl, rfl, rfl, -, -, -⟩ := hi
  obtain ⟨hlt, hcast, htab⟩ := hh9
  obtain ⟨⟨hx, hb, hml, hown, hts, hlk, hK, hN, hA, hini, hR3, hR4⟩, hZ⟩ := hX
  rw [ho] at hown
  intro h1 h2 H locs ls q ce hP hD hS hlo hce hcv hcl
  have hcw : (Cond.castable (am_xn k) (am_xn k)).before args s = true := by
    refine hcast.word _ ?_
    rcases hk with rfl | rfl | rfl <;> simp [am_cw]
  have hnc : ∀ k', ((k = 71 ∧ k' = 93) ∨ (k = 93 ∧ k' = 71)) → va_Nc (am_xn k) (am_xn k') s := by
    intro k' h
    rcases h with ⟨rfl, rfl⟩ | ⟨rfl, rfl⟩
    · exact hcast.2.1
    · exact hcast.2.2
  refine vx_catch (own := "MarbledPaperLaw") (name := am_xn k) (E := am_xn k) hown (pre.map fun q => ⟨q.1, q.2.1, q.2.2.1, q.2.2.2⟩) ⟨row.1, row.2.1, row.2.2.1, row.2.2.2⟩ (suf.map fun q => ⟨q.1, q.2.1, q.2.2.1, q.2.2.2⟩) (by rw [htab, hsplit]; simp [tableOf]) ?_ (by simp [covers, hcov.1, hcov.2]) h0 (hts _ (am_good hlink rfl)) hcw hce hcv hcl ?_
  · intro z hz
    obtain ⟨z0, hz0, rfl⟩ := List.mem_map.mp hz
    obtain ⟨a1, k', a2, a3⟩ := hpass z0 hz0
    exact Or.inr ⟨a1, am_xn k', hts _ (am_good a2 rfl), hnc k' a3⟩
  · have ha : ∀ j, j ≠ 998 → (fun j => if j = 998 then q else ad j) j = ad j := fun j hj => if_neg hj
    have hno : am_noP 998 gS (gP 999) = true := by decide +kernel
    have hw : am_ws cys (fun j => if j = 998 then q else ad j) gS I G (gP 999) = am_ws cys ad gS I G (gP 999) := am_ws_same (fun b hb => ha b (by have : b < 123 := hb; omega)) (fun b c k t hs hk => by
      have h1 := List.all_eq_true.mp hno b (List.mem_range.mpr (List.getElem?_eq_some_iff.mp hs).1)
      rw [hs] at h1
      exact am_noV_tv (List.all_eq_true.mp h1 k (List.mem_range.mpr (List.getElem?_eq_some_iff.mp hk).1)) ha)
    have e1 := (am_map_tl hnL ha).1
    have k1 := kk (fun j => if j = 998 then q else ad j) ha h1 h2 H locs ls (by rw [hw]; exact hP) (by rw [hw]; exact hD) hS (by rw [e1]; exact hlo)
    exact k1
/-- a return after a catch -/
theorem am_iretH {ad' : Nat → Nat} (hX : am_okz X ad') (hi : am_info X o cc nL ini ret d) (ha : ∀ j, j ≠ 998 → ad' j = ad j) {v : Int32} {ty : FieldType} (hr : ret = some ty) (hn : narrow ty (.int v) = .int v) (hd : decode cc pc = .ok (.ireturn, 1)) (hp : post (some (.int v)) I G (gP 999)) (hc : cells ≤ mc ∧ slots ≤ ms) : am_V X cells slots (am_RtM X gS ad post mc ms) gS ad' (pc, L, [.int v], I, G, gP 999) := by
  obtain ⟨p, l, e, R, s, m, args, below, meth, c, A, D, cys, o', cc', nL', ini'⟩ := X
  obtain ⟨rfl, rfl, rfl, rfl, hret, -, -⟩ := hi
  obtain ⟨⟨hx, hb, -, -, -, hlocks, -⟩, -⟩ := hX
  have hno : am_noP 998 gS (gP 999) = true := by decide +kernel
  have hw : am_ws cys ad' gS I G (gP 999) = am_ws cys ad gS I G (gP 999) := am_ws_same (fun b hb => ha b (by have : b < 123 := hb; omega)) (fun b c k t hs hk => by
    have h1 := List.all_eq_true.mp hno b (List.mem_range.mpr (List.getElem?_eq_some_iff.mp hs).1)
    rw [hs] at h1
    exact am_noV_tv (List.all_eq_true.mp h1 k (List.mem_range.mpr (List.getElem?_eq_some_iff.mp hk).1)) ha)
  intro h1 h2 H locs ls hP hD hS hl
  rw [hw] at hP
  exact W.widen hc.1 hc.2 (W.zret hx hb (hret.trans hr) hn (fun t ht _ => ⟨⟨_, I, G, _, hp, rfl, by rw [ht]; exact hP⟩, hS.F ht⟩) hS.2.2 hd hlocks)
end AMH2
/-- what a helper answers: 0 and the answer in the law's row, or the number of the handler -/
def hO (hn : Nat → Int32) (I : am_I) (G : am_G) (out : (Int32 ⊕ Nat) × am_I × am_G) : Int32 × am_I × am_G := match out.1 with
  | .inl v => ((0 : Int32), out.2.1, am_up out.2.2 122 0 v.toInt64)
  | .inr k => (hn k, I, G)
theorem hO_l {hn : Nat → Int32} {I : am_I} {G : am_G} {out : (Int32 ⊕ Nat) × am_I × am_G} {v : Int32} (h : out.1 = .inl v) : hO hn I G out = ((0 : Int32), out.2.1, am_up out.2.2 122 0 v.toInt64) := by unfold hO; rw [h]
theorem hO_r {hn : Nat → Int32} {I : am_I} {G : am_G} {out : (Int32 ⊕ Nat) × am_I × am_G} {k : Nat} (h : out.1 = .inr k) : hO hn I G out = (hn k, I, G) := by unfold hO; rw [h]
section AMH3
variable {X : am_X} {o : Nat} {cc : ByteArray} {nL : Nat} {ini : Bool} {ret : Option FieldType} {d : Nat}
variable {cells slots MC MS : Nat} {Q : State → Prop} {ad : Nat → Nat} {pc : Nat} {L : am_L} {st : List Value} {I : am_I} {G : am_G} {post : am_Po} {hh hh' : am_HH}
/-- invokestatic of a helper -/
theorem am_callHS (hX : am_okz X ad) (hi : am_info X o cc nL ini ret d) (hm : am_mem X MC MS) (hh9 : am_xh X hh) {M : am_M} {d' idx : Nat} {As rest : List Value} (hcw : Cond.codeWith M.1 M.2.1 M.2.2.1 M.2.2.2.1 hh' ∈ lw_tbl) (hin9 : Cond.initialized M.1.cls ∈ lw_tbl) (hst9 : Cond.static M.1 ∈ lw_tbl) (hlk9 : Cond.methodLink (am_own o) idx M.1 ∈ lw_tbl) (hy9 : M.1.cls ≠ "java/lang/invoke/MethodHandle" ∧ M.1.cls ≠ "java/lang/invoke/VarHandle") (hpd : (parseMethodDescriptor M.1.desc).map (fun d => d.parameters.length) = some M.2.2.2.2.2.1) (hd : decode cc pc = .ok (.invokestatic idx, 3))
    (hn : As.length = M.2.2.2.2.2.1) (hdd : d' + 1 ≤ d ∧ M.2.2.1 ≤ 11 ∧ (rest.map fun v => v.category).sum ≤ 8) (hst : st = As.reverse ++ rest) (hroom : cells + 1 ≤ MC ∧ slots + 6 ≤ MS) (hC : am_CtH M hh' d' As I G post)
    (kk : ∀ r I' G' P', post r I' G' P' → am_V X (cells + 1) (slots + 6) Q gS ad (pc + 3, L, r.toList ++ rest, I', G', P')) : am_V X cells slots Q gS ad (pc, L, st, I, G, gP 999) := by
  subst hst
  obtain ⟨p, l, e, R, s, m, args, below, meth, c, A, D, cys, o', cc', nL', ini'⟩ := X
  obtain ⟨rfl, rfl, rfl, rfl, -, hR1, hR2⟩ := hi
  obtain ⟨rfl, rfl⟩ := hm
  obtain ⟨hlt, hcast, -⟩ := hh9
  obtain ⟨⟨hx, hb, hml, hown, hts, hlk, hK, hN, hA, hini, hR3, hR4⟩, hZ⟩ := hX
  intro h1 h2 H locs ls hP hD hS hlo
  have hgood : ∀ w ∈ am_wh M hh', w ∈ am_all := by
    intro w hw
    rcases List.mem_cons.mp hw with h | h
    · rw [h]; exact am_good hcw rfl
    · exact h
  have cw : vx_CSW R s args (am_own o') idx M.1 M.2.1 M.2.2.1 M.2.2.2.1 hh' (am_wh M hh') (am_rm d' 1 6) 1 6 M.2.2.2.2.2.1 := by
    refine ⟨⟨rfl, rfl, by show d' + 1 ≤ R.frames; omega, by show 8 + (M.2.2.1 + 11) + 30 * d' ≤ R.locals; omega, fun w hw a' U hW => ?_, List.mem_cons_self⟩, hts _ (am_good hcw rfl), hts _ (am_good hin9 rfl), hy9, fun sig h => ?_, hts _ (am_good hlk9 rfl), hts _ (am_good hst9 rfl)⟩
    · exact word_at hW (good_of_word (List.mem_filter.mp (hgood w hw)).2) (hts w (hgood w hw))
    · rw [h] at hpd; exact (Option.some.inj hpd).symm
  have hA1 := am_A1 hD hS hA
  refine am_goesM (A1 := va_A (am_ws cys ad gS I G (gP 999)) H.size) (vx_runSW (As := As.map (am_tv ad)) (rest := rest.map (am_tv ad)) ⟨hx, hb, hml, hown, hts⟩ (hC l hlt D cys ad H.size) cw ⟨am_blindX, ?_⟩ rfl (by rw [List.length_map]; exact hn) hlo.1 ?_ ?_ hd hroom) hS hA1 hD ?_
  · intro U hU hW
    exact ⟨rfl, ⟨by rw [hU], by rw [hU]; exact hP, va_K.moved hW.alike hK, hD.weaken (fun _ _ _ _ => trivial), am_nst.warm hW hN, by rw [hU]; exact (am_Zs.warm hW (hZ.kept hS.2.1)).narrow hA1⟩, hcast.moved hW.alike⟩
  · simp
  · exact lv_room (by rw [am_cats]; exact hdd.2.2)
  · intro r I' G' P' hp H1 locs1 hP1 hD1 hS1
    rw [am_out]
    exact kk r I' G' P' hp hroom.1 hroom.2 H1 locs1 ls hP1 hD1 hS1 hlo
end AMH3
def mL_feed : am_M := (⟨"MarbledPaperLaw", "feed", "(LMarbledPaper;IIIII[J)I"⟩, method_3_code, 8, some .int, 15, 7, false)
def hh_feed : am_HH := [(0, 16, 19, 13)]
def hn_feed (k : Nat) : Int32 := if k = 60 then 1 else 0
set_option maxRecDepth 20000 in
set_option maxHeartbeats 1000000 in
theorem c_L_feed (I : am_I) (G : am_G) (x1 : Int32) (x2 : Int32) (x3 : Int32) (x4 : Int32) (x5 : Int32) {out : (Int32 ⊕ Nat) × am_I × am_G} (h : R_X11_feed_0 I G x1 x2 x3 x4 x5 = some out) (hk : ∀ k, out.1 = .inr k → k = 60) : am_CtH mL_feed hh_feed 7 [.ref 0, .int x1, .int x2, .int x3, .int x4, .int x5, .ref 122] I G (pI (hO hn_feed I G out).1 (hO hn_feed I G out).2.1 (hO hn_feed I G out).2.2 (gP 999)) := by
  refine am_ofH (by decide +kernel) rfl (by decide) (by decide) (Nat.le_of_ble_eq_true rfl) (fun X ad hX hi hm hh9 => ?_)
  have hi : am_info X 15 method_3_code 8 false (some .int) 7 := hi
  show am_V X 0 0 _ gS ad (0, [(0, .ref 0), (1, .int x1), (2, .int x2), (3, .int x3), (4, .int x4), (5, .int x5), (6, .ref 122)], [], I, G, gP 999)
  refine am_blk 0 [(.aload 6, 2, 6, 0, .null), (.iconst (0), 1, 0, 0, .int (0 : Int32)), (.aload_n 0, 1, 0, 0, .null), (.iload_n 1, 1, 1, 0, .null), (.iload_n 2, 1, 2, 0, .null), (.iload_n 3, 1, 3, 0, .null), (.iload 4, 2, 4, 0, .null), (.iload 5, 2, 5, 0, .null)] (11, [(0, .ref 0), (1, .int x1), (2, .int x2), (3, .int x3), (4, .int x4), (5, .int x5), (6, .ref 122)], [.int x5, .int x4, .int x3, .int x2, .int x1, .ref 0, .int (0 : Int32), .ref 122], I, G, gP 999) (True) hX hi (by decide +kernel) rfl trivial ?_
  refine am_callX hX hi hm hh9 (M := mX11_feed) (idx := 7) (d' := 6) (b := 0) (ci := 9) (As := [.int x1, .int x2, .int x3, .int x4, .int x5]) (rest := [.int (0 : Int32), .ref 122]) mkX11_feed miX11_feed mvX11_feed (by decide +kernel) (by decide +kernel) rfl (by decide +kernel) rfl ⟨by decide, by decide, Nat.le_of_ble_eq_true rfl⟩ rfl ⟨by decide, by decide⟩ (c_X11_feed_0 999 I G x1 x2 x3 x4 x5 h) ?_ ?_
  · rintro r9 I9 G9 P9 ⟨v, e0, e1, e2, e3, e4⟩
    rw [e1, e2, e3, e4, hO_l e0]
    show am_V X 1 6 _ gS ad (14, [(0, .ref 0), (1, .int x1), (2, .int x2), (3, .int x3), (4, .int x4), (5, .int x5), (6, .ref 122)], [.int v, .int (0 : Int32), .ref 122], out.2.1, out.2.2, gP 999)
    refine am_blk 14 [(.i2l, 1, 0, 0, .null), (.lastore, 1, 0, 0, .null), (.goto (7), 3, 0, 23, .null), (.iconst (0), 1, 0, 0, .int (0 : Int32))] (24, [(0, .ref 0), (1, .int x1), (2, .int x2), (3, .int x3), (4, .int x4), (5, .int x5), (6, .ref 122)], [.int (0 : Int32)], out.2.1, (am_up out.2.2 122 (0 : Int32).toNatClampNeg v.toInt64), gP 999) (vp_in (0 : Int32) 1 ∧ True) hX hi (by decide +kernel) rfl ⟨(i_in _ _).mpr (by decide), trivial⟩ ?_
    exact am_iretM hX hi rfl rfl (by decide +kernel) ⟨rfl, rfl, rfl, rfl⟩ ⟨by decide, by decide⟩
  · rintro E ⟨k, e0, rfl⟩
    rw [hO_r e0]
    obtain rfl := hk k e0
    refine am_catch hX hi hh9 (k := 60) (pre := []) (suf := []) (row := (0, 16, 19, 13)) rfl (by decide) rfl (fun z hz => absurd hz List.not_mem_nil) ⟨by decide, by decide⟩ (by decide) (by decide +kernel) rfl (fun ad1 e1 => ?_)
    have hX := hX.adr (fun j hj => e1 j (by omega))
    refine am_blk 19 [(.astore 7, 2, 7, 0, .null), (.iconst (1), 1, 0, 0, .int (1 : Int32))] (22, [(0, .ref 0), (1, .int x1), (2, .int x2), (3, .int x3), (4, .int x4), (5, .int x5), (6, .ref 122), (7, .ref 998)], [.int (1 : Int32)], I, G, gP 999) (True) hX hi (by decide +kernel) rfl trivial ?_
    exact am_iretH hX hi e1 rfl rfl (by decide +kernel) ⟨rfl, rfl, rfl, rfl⟩ ⟨by decide, by decide⟩
def mL_trim : am_M := (⟨"MarbledPaperLaw", "trim", "(LMarbledPaper;I[J)I"⟩, method_4_code, 4, some .int, 15, 3, false)
def hh_trim : am_HH := [(0, 9, 12, 19)]
def hn_trim (k : Nat) : Int32 := if k = 71 then 1 else 0
set_option maxRecDepth 20000 in
set_option maxHeartbeats 1000000 in
theorem c_L_trim (I : am_I) (G : am_G) (x1 : Int32) {out : (Int32 ⊕ Nat) × am_I × am_G} (h : R_X11_trim_0 I G x1 = some out) (hk : ∀ k, out.1 = .inr k → k = 71) : am_CtH mL_trim hh_trim 7 [.ref 0, .int x1, .ref 122] I G (pI (hO hn_trim I G out).1 (hO hn_trim I G out).2.1 (hO hn_trim I G out).2.2 (gP 999)) := by
  refine am_ofH (by decide +kernel) rfl (by decide) (by decide) (Nat.le_of_ble_eq_true rfl) (fun X ad hX hi hm hh9 => ?_)
  have hi : am_info X 15 method_4_code 4 false (some .int) 7 := hi
  show am_V X 0 0 _ gS ad (0, [(0, .ref 0), (1, .int x1), (2, .ref 122)], [], I, G, gP 999)
  refine am_blk 0 [(.aload_n 2, 1, 2, 0, .null), (.iconst (0), 1, 0, 0, .int (0 : Int32)), (.aload_n 0, 1, 0, 0, .null), (.iload_n 1, 1, 1, 0, .null)] (4, [(0, .ref 0), (1, .int x1), (2, .ref 122)], [.int x1, .ref 0, .int (0 : Int32), .ref 122], I, G, gP 999) (True) hX hi (by decide +kernel) rfl trivial ?_
  refine am_callX hX hi hm hh9 (M := mX11_trim) (idx := 15) (d' := 6) (b := 0) (ci := 9) (As := [.int x1]) (rest := [.int (0 : Int32), .ref 122]) mkX11_trim miX11_trim mvX11_trim (by decide +kernel) (by decide +kernel) rfl (by decide +kernel) rfl ⟨by decide, by decide, Nat.le_of_ble_eq_true rfl⟩ rfl ⟨by decide, by decide⟩ (c_X11_trim_0 999 I G x1 h) ?_ ?_
  · rintro r9 I9 G9 P9 ⟨v, e0, e1, e2, e3, e4⟩
    rw [e1, e2, e3, e4, hO_l e0]
    show am_V X 1 6 _ gS ad (7, [(0, .ref 0), (1, .int x1), (2, .ref 122)], [.int v, .int (0 : Int32), .ref 122], out.2.1, out.2.2, gP 999)
    refine am_blk 7 [(.i2l, 1, 0, 0, .null), (.lastore, 1, 0, 0, .null), (.goto (6), 3, 0, 15, .null), (.iconst (0), 1, 0, 0, .int (0 : Int32))] (16, [(0, .ref 0), (1, .int x1), (2, .ref 122)], [.int (0 : Int32)], out.2.1, (am_up out.2.2 122 (0 : Int32).toNatClampNeg v.toInt64), gP 999) (vp_in (0 : Int32) 1 ∧ True) hX hi (by decide +kernel) rfl ⟨(i_in _ _).mpr (by decide), trivial⟩ ?_
    exact am_iretM hX hi rfl rfl (by decide +kernel) ⟨rfl, rfl, rfl, rfl⟩ ⟨by decide, by decide⟩
  · rintro E ⟨k, e0, rfl⟩
    rw [hO_r e0]
    obtain rfl := hk k e0
    refine am_catch hX hi hh9 (k := 71) (pre := []) (suf := []) (row := (0, 9, 12, 19)) rfl (by decide) rfl (fun z hz => absurd hz List.not_mem_nil) ⟨by decide, by decide⟩ (by decide) (by decide +kernel) rfl (fun ad1 e1 => ?_)
    have hX := hX.adr (fun j hj => e1 j (by omega))
    refine am_blk 12 [(.astore_n 3, 1, 3, 0, .null), (.iconst (1), 1, 0, 0, .int (1 : Int32))] (14, [(0, .ref 0), (1, .int x1), (2, .ref 122), (3, .ref 998)], [.int (1 : Int32)], I, G, gP 999) (True) hX hi (by decide +kernel) rfl trivial ?_
    exact am_iretH hX hi e1 rfl rfl (by decide +kernel) ⟨rfl, rfl, rfl, rfl⟩ ⟨by decide, by decide⟩
def mL_count : am_M := (⟨"MarbledPaperLaw", "count", "(LMarbledPaper;I[J)I"⟩, method_5_code, 4, some .int, 15, 3, false)
def hh_count : am_HH := [(0, 9, 12, 24)]
def hn_count (k : Nat) : Int32 := if k = 93 then 1 else 0
set_option maxRecDepth 20000 in
set_option maxHeartbeats 1000000 in
theorem c_L_count (I : am_I) (G : am_G) (x1 : Int32) {out : (Int32 ⊕ Nat) × am_I × am_G} (h : R_X11_count_0 I G x1 = some out) (hk : ∀ k, out.1 = .inr k → k = 93) : am_CtH mL_count hh_count 10 [.ref 0, .int x1, .ref 122] I G (pI (hO hn_count I G out).1 (hO hn_count I G out).2.1 (hO hn_count I G out).2.2 (gP 999)) := by
  refine am_ofH (by decide +kernel) rfl (by decide) (by decide) (Nat.le_of_ble_eq_true rfl) (fun X ad hX hi hm hh9 => ?_)
  have hi : am_info X 15 method_5_code 4 false (some .int) 10 := hi
  show am_V X 0 0 _ gS ad (0, [(0, .ref 0), (1, .int x1), (2, .ref 122)], [], I, G, gP 999)
  refine am_blk 0 [(.aload_n 2, 1, 2, 0, .null), (.iconst (0), 1, 0, 0, .int (0 : Int32)), (.aload_n 0, 1, 0, 0, .null), (.iload_n 1, 1, 1, 0, .null)] (4, [(0, .ref 0), (1, .int x1), (2, .ref 122)], [.int x1, .ref 0, .int (0 : Int32), .ref 122], I, G, gP 999) (True) hX hi (by decide +kernel) rfl trivial ?_
  refine am_callX hX hi hm hh9 (M := mX11_count) (idx := 21) (d' := 9) (b := 0) (ci := 9) (As := [.int x1]) (rest := [.int (0 : Int32), .ref 122]) mkX11_count miX11_count mvX11_count (by decide +kernel) (by decide +kernel) rfl (by decide +kernel) rfl ⟨by decide, by decide, Nat.le_of_ble_eq_true rfl⟩ rfl ⟨by decide, by decide⟩ (c_X11_count_0 999 I G x1 h) ?_ ?_
  · rintro r9 I9 G9 P9 ⟨v, e0, e1, e2, e3, e4⟩
    rw [e1, e2, e3, e4, hO_l e0]
    show am_V X 1 6 _ gS ad (7, [(0, .ref 0), (1, .int x1), (2, .ref 122)], [.int v, .int (0 : Int32), .ref 122], out.2.1, out.2.2, gP 999)
    refine am_blk 7 [(.i2l, 1, 0, 0, .null), (.lastore, 1, 0, 0, .null), (.goto (6), 3, 0, 15, .null), (.iconst (0), 1, 0, 0, .int (0 : Int32))] (16, [(0, .ref 0), (1, .int x1), (2, .ref 122)], [.int (0 : Int32)], out.2.1, (am_up out.2.2 122 (0 : Int32).toNatClampNeg v.toInt64), gP 999) (vp_in (0 : Int32) 1 ∧ True) hX hi (by decide +kernel) rfl ⟨(i_in _ _).mpr (by decide), trivial⟩ ?_
    exact am_iretM hX hi rfl rfl (by decide +kernel) ⟨rfl, rfl, rfl, rfl⟩ ⟨by decide, by decide⟩
  · rintro E ⟨k, e0, rfl⟩
    rw [hO_r e0]
    obtain rfl := hk k e0
    refine am_catch hX hi hh9 (k := 93) (pre := []) (suf := []) (row := (0, 9, 12, 24)) rfl (by decide) rfl (fun z hz => absurd hz List.not_mem_nil) ⟨by decide, by decide⟩ (by decide) (by decide +kernel) rfl (fun ad1 e1 => ?_)
    have hX := hX.adr (fun j hj => e1 j (by omega))
    refine am_blk 12 [(.astore_n 3, 1, 3, 0, .null), (.iconst (1), 1, 0, 0, .int (1 : Int32))] (14, [(0, .ref 0), (1, .int x1), (2, .ref 122), (3, .ref 998)], [.int (1 : Int32)], I, G, gP 999) (True) hX hi (by decide +kernel) rfl trivial ?_
    exact am_iretH hX hi e1 rfl rfl (by decide +kernel) ⟨rfl, rfl, rfl, rfl⟩ ⟨by decide, by decide⟩
def mL_share : am_M := (⟨"MarbledPaperLaw", "share", "(LMarbledPaper;I[J)I"⟩, method_6_code, 4, some .int, 15, 3, false)
def hh_share : am_HH := [(0, 9, 12, 24)]
def hn_share (k : Nat) : Int32 := if k = 93 then 1 else 0
set_option maxRecDepth 20000 in
set_option maxHeartbeats 1000000 in
theorem c_L_share (I : am_I) (G : am_G) (x1 : Int32) {out : (Int32 ⊕ Nat) × am_I × am_G} (h : R_X11_share_0 I G x1 = some out) (hk : ∀ k, out.1 = .inr k → k = 93) : am_CtH mL_share hh_share 9 [.ref 0, .int x1, .ref 122] I G (pI (hO hn_share I G out).1 (hO hn_share I G out).2.1 (hO hn_share I G out).2.2 (gP 999)) := by
  refine am_ofH (by decide +kernel) rfl (by decide) (by decide) (Nat.le_of_ble_eq_true rfl) (fun X ad hX hi hm hh9 => ?_)
  have hi : am_info X 15 method_6_code 4 false (some .int) 9 := hi
  show am_V X 0 0 _ gS ad (0, [(0, .ref 0), (1, .int x1), (2, .ref 122)], [], I, G, gP 999)
  refine am_blk 0 [(.aload_n 2, 1, 2, 0, .null), (.iconst (0), 1, 0, 0, .int (0 : Int32)), (.aload_n 0, 1, 0, 0, .null), (.iload_n 1, 1, 1, 0, .null)] (4, [(0, .ref 0), (1, .int x1), (2, .ref 122)], [.int x1, .ref 0, .int (0 : Int32), .ref 122], I, G, gP 999) (True) hX hi (by decide +kernel) rfl trivial ?_
  refine am_callX hX hi hm hh9 (M := mX11_share) (idx := 26) (d' := 8) (b := 0) (ci := 9) (As := [.int x1]) (rest := [.int (0 : Int32), .ref 122]) mkX11_share miX11_share mvX11_share (by decide +kernel) (by decide +kernel) rfl (by decide +kernel) rfl ⟨by decide, by decide, Nat.le_of_ble_eq_true rfl⟩ rfl ⟨by decide, by decide⟩ (c_X11_share_0 999 I G x1 h) ?_ ?_
  · rintro r9 I9 G9 P9 ⟨v, e0, e1, e2, e3, e4⟩
    rw [e1, e2, e3, e4, hO_l e0]
    show am_V X 1 6 _ gS ad (7, [(0, .ref 0), (1, .int x1), (2, .ref 122)], [.int v, .int (0 : Int32), .ref 122], out.2.1, out.2.2, gP 999)
    refine am_blk 7 [(.i2l, 1, 0, 0, .null), (.lastore, 1, 0, 0, .null), (.goto (6), 3, 0, 15, .null), (.iconst (0), 1, 0, 0, .int (0 : Int32))] (16, [(0, .ref 0), (1, .int x1), (2, .ref 122)], [.int (0 : Int32)], out.2.1, (am_up out.2.2 122 (0 : Int32).toNatClampNeg v.toInt64), gP 999) (vp_in (0 : Int32) 1 ∧ True) hX hi (by decide +kernel) rfl ⟨(i_in _ _).mpr (by decide), trivial⟩ ?_
    exact am_iretM hX hi rfl rfl (by decide +kernel) ⟨rfl, rfl, rfl, rfl⟩ ⟨by decide, by decide⟩
  · rintro E ⟨k, e0, rfl⟩
    rw [hO_r e0]
    obtain rfl := hk k e0
    refine am_catch hX hi hh9 (k := 93) (pre := []) (suf := []) (row := (0, 9, 12, 24)) rfl (by decide) rfl (fun z hz => absurd hz List.not_mem_nil) ⟨by decide, by decide⟩ (by decide) (by decide +kernel) rfl (fun ad1 e1 => ?_)
    have hX := hX.adr (fun j hj => e1 j (by omega))
    refine am_blk 12 [(.astore_n 3, 1, 3, 0, .null), (.iconst (1), 1, 0, 0, .int (1 : Int32))] (14, [(0, .ref 0), (1, .int x1), (2, .ref 122), (3, .ref 998)], [.int (1 : Int32)], I, G, gP 999) (True) hX hi (by decide +kernel) rfl trivial ?_
    exact am_iretH hX hi e1 rfl rfl (by decide +kernel) ⟨rfl, rfl, rfl, rfl⟩ ⟨by decide, by decide⟩
def mL_octave : am_M := (⟨"MarbledPaperLaw", "octave", "(LMarbledPaper;II[J)I"⟩, method_7_code, 5, some .int, 15, 4, false)
def hh_octave : am_HH := [(0, 10, 13, 24)]
def hn_octave (k : Nat) : Int32 := if k = 93 then 1 else 0
set_option maxRecDepth 20000 in
set_option maxHeartbeats 1000000 in
theorem c_L_octave (I : am_I) (G : am_G) (x1 : Int32) (x2 : Int32) {out : (Int32 ⊕ Nat) × am_I × am_G} (h : R_X11_octave_0 I G x1 x2 = some out) (hk : ∀ k, out.1 = .inr k → k = 93) : am_CtH mL_octave hh_octave 7 [.ref 0, .int x1, .int x2, .ref 122] I G (pI (hO hn_octave I G out).1 (hO hn_octave I G out).2.1 (hO hn_octave I G out).2.2 (gP 999)) := by
  refine am_ofH (by decide +kernel) rfl (by decide) (by decide) (Nat.le_of_ble_eq_true rfl) (fun X ad hX hi hm hh9 => ?_)
  have hi : am_info X 15 method_7_code 5 false (some .int) 7 := hi
  show am_V X 0 0 _ gS ad (0, [(0, .ref 0), (1, .int x1), (2, .int x2), (3, .ref 122)], [], I, G, gP 999)
  refine am_blk 0 [(.aload_n 3, 1, 3, 0, .null), (.iconst (0), 1, 0, 0, .int (0 : Int32)), (.aload_n 0, 1, 0, 0, .null), (.iload_n 1, 1, 1, 0, .null), (.iload_n 2, 1, 2, 0, .null)] (5, [(0, .ref 0), (1, .int x1), (2, .int x2), (3, .ref 122)], [.int x2, .int x1, .ref 0, .int (0 : Int32), .ref 122], I, G, gP 999) (True) hX hi (by decide +kernel) rfl trivial ?_
  refine am_callX hX hi hm hh9 (M := mX11_octave) (idx := 29) (d' := 6) (b := 0) (ci := 9) (As := [.int x1, .int x2]) (rest := [.int (0 : Int32), .ref 122]) mkX11_octave miX11_octave mvX11_octave (by decide +kernel) (by decide +kernel) rfl (by decide +kernel) rfl ⟨by decide, by decide, Nat.le_of_ble_eq_true rfl⟩ rfl ⟨by decide, by decide⟩ (c_X11_octave_0 999 I G x1 x2 h) ?_ ?_
  · rintro r9 I9 G9 P9 ⟨v, e0, e1, e2, e3, e4⟩
    rw [e1, e2, e3, e4, hO_l e0]
    show am_V X 1 6 _ gS ad (8, [(0, .ref 0), (1, .int x1), (2, .int x2), (3, .ref 122)], [.int v, .int (0 : Int32), .ref 122], out.2.1, out.2.2, gP 999)
    refine am_blk 8 [(.i2l, 1, 0, 0, .null), (.lastore, 1, 0, 0, .null), (.goto (7), 3, 0, 17, .null), (.iconst (0), 1, 0, 0, .int (0 : Int32))] (18, [(0, .ref 0), (1, .int x1), (2, .int x2), (3, .ref 122)], [.int (0 : Int32)], out.2.1, (am_up out.2.2 122 (0 : Int32).toNatClampNeg v.toInt64), gP 999) (vp_in (0 : Int32) 1 ∧ True) hX hi (by decide +kernel) rfl ⟨(i_in _ _).mpr (by decide), trivial⟩ ?_
    exact am_iretM hX hi rfl rfl (by decide +kernel) ⟨rfl, rfl, rfl, rfl⟩ ⟨by decide, by decide⟩
  · rintro E ⟨k, e0, rfl⟩
    rw [hO_r e0]
    obtain rfl := hk k e0
    refine am_catch hX hi hh9 (k := 93) (pre := []) (suf := []) (row := (0, 10, 13, 24)) rfl (by decide) rfl (fun z hz => absurd hz List.not_mem_nil) ⟨by decide, by decide⟩ (by decide) (by decide +kernel) rfl (fun ad1 e1 => ?_)
    have hX := hX.adr (fun j hj => e1 j (by omega))
    refine am_blk 13 [(.astore 4, 2, 4, 0, .null), (.iconst (1), 1, 0, 0, .int (1 : Int32))] (16, [(0, .ref 0), (1, .int x1), (2, .int x2), (3, .ref 122), (4, .ref 998)], [.int (1 : Int32)], I, G, gP 999) (True) hX hi (by decide +kernel) rfl trivial ?_
    exact am_iretH hX hi e1 rfl rfl (by decide +kernel) ⟨rfl, rfl, rfl, rfl⟩ ⟨by decide, by decide⟩
def mL_gradient : am_M := (⟨"MarbledPaperLaw", "gradient", "(LMarbledPaper;III[J)I"⟩, method_8_code, 6, some .int, 15, 5, false)
def hh_gradient : am_HH := [(0, 12, 15, 24)]
def hn_gradient (k : Nat) : Int32 := if k = 93 then 1 else 0
set_option maxRecDepth 20000 in
set_option maxHeartbeats 1000000 in
theorem c_L_gradient (I : am_I) (G : am_G) (x1 : Int32) (x2 : Int32) (x3 : Int32) {out : (Int32 ⊕ Nat) × am_I × am_G} (h : R_X11_gradient_0 I G x1 x2 x3 = some out) (hk : ∀ k, out.1 = .inr k → k = 93) : am_CtH mL_gradient hh_gradient 7 [.ref 0, .int x1, .int x2, .int x3, .ref 122] I G (pI (hO hn_gradient I G out).1 (hO hn_gradient I G out).2.1 (hO hn_gradient I G out).2.2 (gP 999)) := by
  refine am_ofH (by decide +kernel) rfl (by decide) (by decide) (Nat.le_of_ble_eq_true rfl) (fun X ad hX hi hm hh9 => ?_)
  have hi : am_info X 15 method_8_code 6 false (some .int) 7 := hi
  show am_V X 0 0 _ gS ad (0, [(0, .ref 0), (1, .int x1), (2, .int x2), (3, .int x3), (4, .ref 122)], [], I, G, gP 999)
  refine am_blk 0 [(.aload 4, 2, 4, 0, .null), (.iconst (0), 1, 0, 0, .int (0 : Int32)), (.aload_n 0, 1, 0, 0, .null), (.iload_n 1, 1, 1, 0, .null), (.iload_n 2, 1, 2, 0, .null), (.iload_n 3, 1, 3, 0, .null)] (7, [(0, .ref 0), (1, .int x1), (2, .int x2), (3, .int x3), (4, .ref 122)], [.int x3, .int x2, .int x1, .ref 0, .int (0 : Int32), .ref 122], I, G, gP 999) (True) hX hi (by decide +kernel) rfl trivial ?_
  refine am_callX hX hi hm hh9 (M := mX11_gradient) (idx := 33) (d' := 6) (b := 0) (ci := 9) (As := [.int x1, .int x2, .int x3]) (rest := [.int (0 : Int32), .ref 122]) mkX11_gradient miX11_gradient mvX11_gradient (by decide +kernel) (by decide +kernel) rfl (by decide +kernel) rfl ⟨by decide, by decide, Nat.le_of_ble_eq_true rfl⟩ rfl ⟨by decide, by decide⟩ (c_X11_gradient_0 999 I G x1 x2 x3 h) ?_ ?_
  · rintro r9 I9 G9 P9 ⟨v, e0, e1, e2, e3, e4⟩
    rw [e1, e2, e3, e4, hO_l e0]
    show am_V X 1 6 _ gS ad (10, [(0, .ref 0), (1, .int x1), (2, .int x2), (3, .int x3), (4, .ref 122)], [.int v, .int (0 : Int32), .ref 122], out.2.1, out.2.2, gP 999)
    refine am_blk 10 [(.i2l, 1, 0, 0, .null), (.lastore, 1, 0, 0, .null), (.goto (7), 3, 0, 19, .null), (.iconst (0), 1, 0, 0, .int (0 : Int32))] (20, [(0, .ref 0), (1, .int x1), (2, .int x2), (3, .int x3), (4, .ref 122)], [.int (0 : Int32)], out.2.1, (am_up out.2.2 122 (0 : Int32).toNatClampNeg v.toInt64), gP 999) (vp_in (0 : Int32) 1 ∧ True) hX hi (by decide +kernel) rfl ⟨(i_in _ _).mpr (by decide), trivial⟩ ?_
    exact am_iretM hX hi rfl rfl (by decide +kernel) ⟨rfl, rfl, rfl, rfl⟩ ⟨by decide, by decide⟩
  · rintro E ⟨k, e0, rfl⟩
    rw [hO_r e0]
    obtain rfl := hk k e0
    refine am_catch hX hi hh9 (k := 93) (pre := []) (suf := []) (row := (0, 12, 15, 24)) rfl (by decide) rfl (fun z hz => absurd hz List.not_mem_nil) ⟨by decide, by decide⟩ (by decide) (by decide +kernel) rfl (fun ad1 e1 => ?_)
    have hX := hX.adr (fun j hj => e1 j (by omega))
    refine am_blk 15 [(.astore 5, 2, 5, 0, .null), (.iconst (1), 1, 0, 0, .int (1 : Int32))] (18, [(0, .ref 0), (1, .int x1), (2, .int x2), (3, .int x3), (4, .ref 122), (5, .ref 998)], [.int (1 : Int32)], I, G, gP 999) (True) hX hi (by decide +kernel) rfl trivial ?_
    exact am_iretH hX hi e1 rfl rfl (by decide +kernel) ⟨rfl, rfl, rfl, rfl⟩ ⟨by decide, by decide⟩
def mL_value : am_M := (⟨"MarbledPaperLaw", "value", "(LMarbledPaper;III[J)I"⟩, method_9_code, 6, some .int, 15, 5, false)
def hh_value : am_HH := [(0, 12, 15, 24)]
def hn_value (k : Nat) : Int32 := if k = 93 then 1 else 0
set_option maxRecDepth 20000 in
set_option maxHeartbeats 1000000 in
theorem c_L_value (I : am_I) (G : am_G) (x1 : Int32) (x2 : Int32) (x3 : Int32) {out : (Int32 ⊕ Nat) × am_I × am_G} (h : R_X11_value_0 I G x1 x2 x3 = some out) (hk : ∀ k, out.1 = .inr k → k = 93) : am_CtH mL_value hh_value 7 [.ref 0, .int x1, .int x2, .int x3, .ref 122] I G (pI (hO hn_value I G out).1 (hO hn_value I G out).2.1 (hO hn_value I G out).2.2 (gP 999)) := by
  refine am_ofH (by decide +kernel) rfl (by decide) (by decide) (Nat.le_of_ble_eq_true rfl) (fun X ad hX hi hm hh9 => ?_)
  have hi : am_info X 15 method_9_code 6 false (some .int) 7 := hi
  show am_V X 0 0 _ gS ad (0, [(0, .ref 0), (1, .int x1), (2, .int x2), (3, .int x3), (4, .ref 122)], [], I, G, gP 999)
  refine am_blk 0 [(.aload 4, 2, 4, 0, .null), (.iconst (0), 1, 0, 0, .int (0 : Int32)), (.aload_n 0, 1, 0, 0, .null), (.iload_n 1, 1, 1, 0, .null), (.iload_n 2, 1, 2, 0, .null), (.iload_n 3, 1, 3, 0, .null)] (7, [(0, .ref 0), (1, .int x1), (2, .int x2), (3, .int x3), (4, .ref 122)], [.int x3, .int x2, .int x1, .ref 0, .int (0 : Int32), .ref 122], I, G, gP 999) (True) hX hi (by decide +kernel) rfl trivial ?_
  refine am_callX hX hi hm hh9 (M := mX11_value) (idx := 37) (d' := 6) (b := 0) (ci := 9) (As := [.int x1, .int x2, .int x3]) (rest := [.int (0 : Int32), .ref 122]) mkX11_value miX11_value mvX11_value (by decide +kernel) (by decide +kernel) rfl (by decide +kernel) rfl ⟨by decide, by decide, Nat.le_of_ble_eq_true rfl⟩ rfl ⟨by decide, by decide⟩ (c_X11_value_0 999 I G x1 x2 x3 h) ?_ ?_
  · rintro r9 I9 G9 P9 ⟨v, e0, e1, e2, e3, e4⟩
    rw [e1, e2, e3, e4, hO_l e0]
    show am_V X 1 6 _ gS ad (10, [(0, .ref 0), (1, .int x1), (2, .int x2), (3, .int x3), (4, .ref 122)], [.int v, .int (0 : Int32), .ref 122], out.2.1, out.2.2, gP 999)
    refine am_blk 10 [(.i2l, 1, 0, 0, .null), (.lastore, 1, 0, 0, .null), (.goto (7), 3, 0, 19, .null), (.iconst (0), 1, 0, 0, .int (0 : Int32))] (20, [(0, .ref 0), (1, .int x1), (2, .int x2), (3, .int x3), (4, .ref 122)], [.int (0 : Int32)], out.2.1, (am_up out.2.2 122 (0 : Int32).toNatClampNeg v.toInt64), gP 999) (vp_in (0 : Int32) 1 ∧ True) hX hi (by decide +kernel) rfl ⟨(i_in _ _).mpr (by decide), trivial⟩ ?_
    exact am_iretM hX hi rfl rfl (by decide +kernel) ⟨rfl, rfl, rfl, rfl⟩ ⟨by decide, by decide⟩
  · rintro E ⟨k, e0, rfl⟩
    rw [hO_r e0]
    obtain rfl := hk k e0
    refine am_catch hX hi hh9 (k := 93) (pre := []) (suf := []) (row := (0, 12, 15, 24)) rfl (by decide) rfl (fun z hz => absurd hz List.not_mem_nil) ⟨by decide, by decide⟩ (by decide) (by decide +kernel) rfl (fun ad1 e1 => ?_)
    have hX := hX.adr (fun j hj => e1 j (by omega))
    refine am_blk 15 [(.astore 5, 2, 5, 0, .null), (.iconst (1), 1, 0, 0, .int (1 : Int32))] (18, [(0, .ref 0), (1, .int x1), (2, .int x2), (3, .int x3), (4, .ref 122), (5, .ref 998)], [.int (1 : Int32)], I, G, gP 999) (True) hX hi (by decide +kernel) rfl trivial ?_
    exact am_iretH hX hi e1 rfl rfl (by decide +kernel) ⟨rfl, rfl, rfl, rfl⟩ ⟨by decide, by decide⟩
def mL_comb : am_M := (⟨"MarbledPaperLaw", "comb", "(LMarbledPaper;II[J)I"⟩, method_10_code, 5, some .int, 15, 4, false)
def hh_comb : am_HH := [(0, 10, 13, 24)]
def hn_comb (k : Nat) : Int32 := if k = 93 then 1 else 0
set_option maxRecDepth 20000 in
set_option maxHeartbeats 1000000 in
theorem c_L_comb (I : am_I) (G : am_G) (x1 : Int32) (x2 : Int32) {out : (Int32 ⊕ Nat) × am_I × am_G} (h : R_X11_comb_0 I G x1 x2 = some out) (hk : ∀ k, out.1 = .inr k → k = 93) : am_CtH mL_comb hh_comb 7 [.ref 0, .int x1, .int x2, .ref 122] I G (pI (hO hn_comb I G out).1 (hO hn_comb I G out).2.1 (hO hn_comb I G out).2.2 (gP 999)) := by
  refine am_ofH (by decide +kernel) rfl (by decide) (by decide) (Nat.le_of_ble_eq_true rfl) (fun X ad hX hi hm hh9 => ?_)
  have hi : am_info X 15 method_10_code 5 false (some .int) 7 := hi
  show am_V X 0 0 _ gS ad (0, [(0, .ref 0), (1, .int x1), (2, .int x2), (3, .ref 122)], [], I, G, gP 999)
  refine am_blk 0 [(.aload_n 3, 1, 3, 0, .null), (.iconst (0), 1, 0, 0, .int (0 : Int32)), (.aload_n 0, 1, 0, 0, .null), (.iload_n 1, 1, 1, 0, .null), (.iload_n 2, 1, 2, 0, .null)] (5, [(0, .ref 0), (1, .int x1), (2, .int x2), (3, .ref 122)], [.int x2, .int x1, .ref 0, .int (0 : Int32), .ref 122], I, G, gP 999) (True) hX hi (by decide +kernel) rfl trivial ?_
  refine am_callX hX hi hm hh9 (M := mX11_comb) (idx := 40) (d' := 6) (b := 0) (ci := 9) (As := [.int x1, .int x2]) (rest := [.int (0 : Int32), .ref 122]) mkX11_comb miX11_comb mvX11_comb (by decide +kernel) (by decide +kernel) rfl (by decide +kernel) rfl ⟨by decide, by decide, Nat.le_of_ble_eq_true rfl⟩ rfl ⟨by decide, by decide⟩ (c_X11_comb_0 999 I G x1 x2 h) ?_ ?_
  · rintro r9 I9 G9 P9 ⟨v, e0, e1, e2, e3, e4⟩
    rw [e1, e2, e3, e4, hO_l e0]
    show am_V X 1 6 _ gS ad (8, [(0, .ref 0), (1, .int x1), (2, .int x2), (3, .ref 122)], [.int v, .int (0 : Int32), .ref 122], out.2.1, out.2.2, gP 999)
    refine am_blk 8 [(.i2l, 1, 0, 0, .null), (.lastore, 1, 0, 0, .null), (.goto (7), 3, 0, 17, .null), (.iconst (0), 1, 0, 0, .int (0 : Int32))] (18, [(0, .ref 0), (1, .int x1), (2, .int x2), (3, .ref 122)], [.int (0 : Int32)], out.2.1, (am_up out.2.2 122 (0 : Int32).toNatClampNeg v.toInt64), gP 999) (vp_in (0 : Int32) 1 ∧ True) hX hi (by decide +kernel) rfl ⟨(i_in _ _).mpr (by decide), trivial⟩ ?_
    exact am_iretM hX hi rfl rfl (by decide +kernel) ⟨rfl, rfl, rfl, rfl⟩ ⟨by decide, by decide⟩
  · rintro E ⟨k, e0, rfl⟩
    rw [hO_r e0]
    obtain rfl := hk k e0
    refine am_catch hX hi hh9 (k := 93) (pre := []) (suf := []) (row := (0, 10, 13, 24)) rfl (by decide) rfl (fun z hz => absurd hz List.not_mem_nil) ⟨by decide, by decide⟩ (by decide) (by decide +kernel) rfl (fun ad1 e1 => ?_)
    have hX := hX.adr (fun j hj => e1 j (by omega))
    refine am_blk 13 [(.astore 4, 2, 4, 0, .null), (.iconst (1), 1, 0, 0, .int (1 : Int32))] (16, [(0, .ref 0), (1, .int x1), (2, .int x2), (3, .ref 122), (4, .ref 998)], [.int (1 : Int32)], I, G, gP 999) (True) hX hi (by decide +kernel) rfl trivial ?_
    exact am_iretH hX hi e1 rfl rfl (by decide +kernel) ⟨rfl, rfl, rfl, rfl⟩ ⟨by decide, by decide⟩
def mL_moves : am_M := (⟨"MarbledPaperLaw", "moves", "(LMarbledPaper;II[J)I"⟩, method_11_code, 5, some .int, 15, 4, false)
def hh_moves : am_HH := [(0, 10, 13, 24)]
def hn_moves (k : Nat) : Int32 := if k = 93 then 1 else 0
set_option maxRecDepth 20000 in
set_option maxHeartbeats 1000000 in
theorem c_L_moves (I : am_I) (G : am_G) (x1 : Int32) (x2 : Int32) {out : (Int32 ⊕ Nat) × am_I × am_G} (h : R_X11_moves_0 I G x1 x2 = some out) (hk : ∀ k, out.1 = .inr k → k = 93) : am_CtH mL_moves hh_moves 7 [.ref 0, .int x1, .int x2, .ref 122] I G (pI (hO hn_moves I G out).1 (hO hn_moves I G out).2.1 (hO hn_moves I G out).2.2 (gP 999)) := by
  refine am_ofH (by decide +kernel) rfl (by decide) (by decide) (Nat.le_of_ble_eq_true rfl) (fun X ad hX hi hm hh9 => ?_)
  have hi : am_info X 15 method_11_code 5 false (some .int) 7 := hi
  show am_V X 0 0 _ gS ad (0, [(0, .ref 0), (1, .int x1), (2, .int x2), (3, .ref 122)], [], I, G, gP 999)
  refine am_blk 0 [(.aload_n 3, 1, 3, 0, .null), (.iconst (0), 1, 0, 0, .int (0 : Int32)), (.aload_n 0, 1, 0, 0, .null), (.iload_n 1, 1, 1, 0, .null), (.iload_n 2, 1, 2, 0, .null)] (5, [(0, .ref 0), (1, .int x1), (2, .int x2), (3, .ref 122)], [.int x2, .int x1, .ref 0, .int (0 : Int32), .ref 122], I, G, gP 999) (True) hX hi (by decide +kernel) rfl trivial ?_
  refine am_callX hX hi hm hh9 (M := mX11_moves) (idx := 43) (d' := 6) (b := 0) (ci := 9) (As := [.int x1, .int x2]) (rest := [.int (0 : Int32), .ref 122]) mkX11_moves miX11_moves mvX11_moves (by decide +kernel) (by decide +kernel) rfl (by decide +kernel) rfl ⟨by decide, by decide, Nat.le_of_ble_eq_true rfl⟩ rfl ⟨by decide, by decide⟩ (c_X11_moves_0 999 I G x1 x2 h) ?_ ?_
  · rintro r9 I9 G9 P9 ⟨v, e0, e1, e2, e3, e4⟩
    rw [e1, e2, e3, e4, hO_l e0]
    show am_V X 1 6 _ gS ad (8, [(0, .ref 0), (1, .int x1), (2, .int x2), (3, .ref 122)], [.int v, .int (0 : Int32), .ref 122], out.2.1, out.2.2, gP 999)
    refine am_blk 8 [(.i2l, 1, 0, 0, .null), (.lastore, 1, 0, 0, .null), (.goto (7), 3, 0, 17, .null), (.iconst (0), 1, 0, 0, .int (0 : Int32))] (18, [(0, .ref 0), (1, .int x1), (2, .int x2), (3, .ref 122)], [.int (0 : Int32)], out.2.1, (am_up out.2.2 122 (0 : Int32).toNatClampNeg v.toInt64), gP 999) (vp_in (0 : Int32) 1 ∧ True) hX hi (by decide +kernel) rfl ⟨(i_in _ _).mpr (by decide), trivial⟩ ?_
    exact am_iretM hX hi rfl rfl (by decide +kernel) ⟨rfl, rfl, rfl, rfl⟩ ⟨by decide, by decide⟩
  · rintro E ⟨k, e0, rfl⟩
    rw [hO_r e0]
    obtain rfl := hk k e0
    refine am_catch hX hi hh9 (k := 93) (pre := []) (suf := []) (row := (0, 10, 13, 24)) rfl (by decide) rfl (fun z hz => absurd hz List.not_mem_nil) ⟨by decide, by decide⟩ (by decide) (by decide +kernel) rfl (fun ad1 e1 => ?_)
    have hX := hX.adr (fun j hj => e1 j (by omega))
    refine am_blk 13 [(.astore 4, 2, 4, 0, .null), (.iconst (1), 1, 0, 0, .int (1 : Int32))] (16, [(0, .ref 0), (1, .int x1), (2, .int x2), (3, .ref 122), (4, .ref 998)], [.int (1 : Int32)], I, G, gP 999) (True) hX hi (by decide +kernel) rfl trivial ?_
    exact am_iretH hX hi e1 rfl rfl (by decide +kernel) ⟨rfl, rfl, rfl, rfl⟩ ⟨by decide, by decide⟩
def mL_setPull : am_M := (⟨"MarbledPaperLaw", "setPull", "(LMarbledPaper;II[J)I"⟩, method_12_code, 5, some .int, 15, 4, false)
def hh_setPull : am_HH := [(0, 10, 13, 24), (0, 10, 17, 19)]
def hn_setPull (k : Nat) : Int32 := if k = 93 then 1 else if k = 71 then 2 else 0
set_option maxRecDepth 20000 in
set_option maxHeartbeats 1000000 in
theorem c_L_setPull (I : am_I) (G : am_G) (x1 : Int32) (x2 : Int32) {out : (Int32 ⊕ Nat) × am_I × am_G} (h : R_X11_setPull_0 I G x1 x2 = some out) (hk : ∀ k, out.1 = .inr k → k = 93 ∨ k = 71) : am_CtH mL_setPull hh_setPull 7 [.ref 0, .int x1, .int x2, .ref 122] I G (pI (hO hn_setPull I G out).1 (hO hn_setPull I G out).2.1 (hO hn_setPull I G out).2.2 (gP 999)) := by
  refine am_ofH (by decide +kernel) rfl (by decide) (by decide) (Nat.le_of_ble_eq_true rfl) (fun X ad hX hi hm hh9 => ?_)
  have hi : am_info X 15 method_12_code 5 false (some .int) 7 := hi
  show am_V X 0 0 _ gS ad (0, [(0, .ref 0), (1, .int x1), (2, .int x2), (3, .ref 122)], [], I, G, gP 999)
  refine am_blk 0 [(.aload_n 3, 1, 3, 0, .null), (.iconst (0), 1, 0, 0, .int (0 : Int32)), (.aload_n 0, 1, 0, 0, .null), (.iload_n 1, 1, 1, 0, .null), (.iload_n 2, 1, 2, 0, .null)] (5, [(0, .ref 0), (1, .int x1), (2, .int x2), (3, .ref 122)], [.int x2, .int x1, .ref 0, .int (0 : Int32), .ref 122], I, G, gP 999) (True) hX hi (by decide +kernel) rfl trivial ?_
  refine am_callX hX hi hm hh9 (M := mX11_setPull) (idx := 46) (d' := 6) (b := 0) (ci := 9) (As := [.int x1, .int x2]) (rest := [.int (0 : Int32), .ref 122]) mkX11_setPull miX11_setPull mvX11_setPull (by decide +kernel) (by decide +kernel) rfl (by decide +kernel) rfl ⟨by decide, by decide, Nat.le_of_ble_eq_true rfl⟩ rfl ⟨by decide, by decide⟩ (c_X11_setPull_0 999 I G x1 x2 h) ?_ ?_
  · rintro r9 I9 G9 P9 ⟨v, e0, e1, e2, e3, e4⟩
    rw [e1, e2, e3, e4, hO_l e0]
    show am_V X 1 6 _ gS ad (8, [(0, .ref 0), (1, .int x1), (2, .int x2), (3, .ref 122)], [.int v, .int (0 : Int32), .ref 122], out.2.1, out.2.2, gP 999)
    refine am_blk 8 [(.i2l, 1, 0, 0, .null), (.lastore, 1, 0, 0, .null), (.goto (11), 3, 0, 21, .null), (.iconst (0), 1, 0, 0, .int (0 : Int32))] (22, [(0, .ref 0), (1, .int x1), (2, .int x2), (3, .ref 122)], [.int (0 : Int32)], out.2.1, (am_up out.2.2 122 (0 : Int32).toNatClampNeg v.toInt64), gP 999) (vp_in (0 : Int32) 1 ∧ True) hX hi (by decide +kernel) rfl ⟨(i_in _ _).mpr (by decide), trivial⟩ ?_
    exact am_iretM hX hi rfl rfl (by decide +kernel) ⟨rfl, rfl, rfl, rfl⟩ ⟨by decide, by decide⟩
  · rintro E ⟨k, e0, rfl⟩
    rw [hO_r e0]
    rcases hk k e0 with rfl | rfl
    · refine am_catch hX hi hh9 (k := 93) (pre := []) (suf := [(0, 10, 17, 19)]) (row := (0, 10, 13, 24)) rfl (by decide) rfl (fun z hz => absurd hz List.not_mem_nil) ⟨by decide, by decide⟩ (by decide) (by decide +kernel) rfl (fun ad1 e1 => ?_)
      have hX := hX.adr (fun j hj => e1 j (by omega))
      refine am_blk 13 [(.astore 4, 2, 4, 0, .null), (.iconst (1), 1, 0, 0, .int (1 : Int32))] (16, [(0, .ref 0), (1, .int x1), (2, .int x2), (3, .ref 122), (4, .ref 998)], [.int (1 : Int32)], I, G, gP 999) (True) hX hi (by decide +kernel) rfl trivial ?_
      exact am_iretH hX hi e1 rfl rfl (by decide +kernel) ⟨rfl, rfl, rfl, rfl⟩ ⟨by decide, by decide⟩
    · refine am_catch hX hi hh9 (k := 71) (pre := [(0, 10, 13, 24)]) (suf := []) (row := (0, 10, 17, 19)) rfl (by decide) rfl (fun z hz => by rw [List.mem_singleton.mp hz]; exact ⟨by decide, 93, by decide +kernel, by decide⟩) ⟨by decide, by decide⟩ (by decide) (by decide +kernel) rfl (fun ad1 e1 => ?_)
      have hX := hX.adr (fun j hj => e1 j (by omega))
      refine am_blk 17 [(.astore 4, 2, 4, 0, .null), (.iconst (2), 1, 0, 0, .int (2 : Int32))] (20, [(0, .ref 0), (1, .int x1), (2, .int x2), (3, .ref 122), (4, .ref 998)], [.int (2 : Int32)], I, G, gP 999) (True) hX hi (by decide +kernel) rfl trivial ?_
      exact am_iretH hX hi e1 rfl rfl (by decide +kernel) ⟨rfl, rfl, rfl, rfl⟩ ⟨by decide, by decide⟩
def mL_setSeed : am_M := (⟨"MarbledPaperLaw", "setSeed", "(LMarbledPaper;II[J)I"⟩, method_13_code, 5, some .int, 15, 4, false)
def hh_setSeed : am_HH := [(0, 10, 13, 24), (0, 10, 17, 19)]
def hn_setSeed (k : Nat) : Int32 := if k = 93 then 1 else if k = 71 then 2 else 0
set_option maxRecDepth 20000 in
set_option maxHeartbeats 1000000 in
theorem c_L_setSeed (I : am_I) (G : am_G) (x1 : Int32) (x2 : Int32) {out : (Int32 ⊕ Nat) × am_I × am_G} (h : R_X11_setSeed_0 I G x1 x2 = some out) (hk : ∀ k, out.1 = .inr k → k = 93 ∨ k = 71) : am_CtH mL_setSeed hh_setSeed 7 [.ref 0, .int x1, .int x2, .ref 122] I G (pI (hO hn_setSeed I G out).1 (hO hn_setSeed I G out).2.1 (hO hn_setSeed I G out).2.2 (gP 999)) := by
  refine am_ofH (by decide +kernel) rfl (by decide) (by decide) (Nat.le_of_ble_eq_true rfl) (fun X ad hX hi hm hh9 => ?_)
  have hi : am_info X 15 method_13_code 5 false (some .int) 7 := hi
  show am_V X 0 0 _ gS ad (0, [(0, .ref 0), (1, .int x1), (2, .int x2), (3, .ref 122)], [], I, G, gP 999)
  refine am_blk 0 [(.aload_n 3, 1, 3, 0, .null), (.iconst (0), 1, 0, 0, .int (0 : Int32)), (.aload_n 0, 1, 0, 0, .null), (.iload_n 1, 1, 1, 0, .null), (.iload_n 2, 1, 2, 0, .null)] (5, [(0, .ref 0), (1, .int x1), (2, .int x2), (3, .ref 122)], [.int x2, .int x1, .ref 0, .int (0 : Int32), .ref 122], I, G, gP 999) (True) hX hi (by decide +kernel) rfl trivial ?_
  refine am_callX hX hi hm hh9 (M := mX11_setSeed) (idx := 49) (d' := 6) (b := 0) (ci := 9) (As := [.int x1, .int x2]) (rest := [.int (0 : Int32), .ref 122]) mkX11_setSeed miX11_setSeed mvX11_setSeed (by decide +kernel) (by decide +kernel) rfl (by decide +kernel) rfl ⟨by decide, by decide, Nat.le_of_ble_eq_true rfl⟩ rfl ⟨by decide, by decide⟩ (c_X11_setSeed_0 999 I G x1 x2 h) ?_ ?_
  · rintro r9 I9 G9 P9 ⟨v, e0, e1, e2, e3, e4⟩
    rw [e1, e2, e3, e4, hO_l e0]
    show am_V X 1 6 _ gS ad (8, [(0, .ref 0), (1, .int x1), (2, .int x2), (3, .ref 122)], [.int v, .int (0 : Int32), .ref 122], out.2.1, out.2.2, gP 999)
    refine am_blk 8 [(.i2l, 1, 0, 0, .null), (.lastore, 1, 0, 0, .null), (.goto (11), 3, 0, 21, .null), (.iconst (0), 1, 0, 0, .int (0 : Int32))] (22, [(0, .ref 0), (1, .int x1), (2, .int x2), (3, .ref 122)], [.int (0 : Int32)], out.2.1, (am_up out.2.2 122 (0 : Int32).toNatClampNeg v.toInt64), gP 999) (vp_in (0 : Int32) 1 ∧ True) hX hi (by decide +kernel) rfl ⟨(i_in _ _).mpr (by decide), trivial⟩ ?_
    exact am_iretM hX hi rfl rfl (by decide +kernel) ⟨rfl, rfl, rfl, rfl⟩ ⟨by decide, by decide⟩
  · rintro E ⟨k, e0, rfl⟩
    rw [hO_r e0]
    rcases hk k e0 with rfl | rfl
    · refine am_catch hX hi hh9 (k := 93) (pre := []) (suf := [(0, 10, 17, 19)]) (row := (0, 10, 13, 24)) rfl (by decide) rfl (fun z hz => absurd hz List.not_mem_nil) ⟨by decide, by decide⟩ (by decide) (by decide +kernel) rfl (fun ad1 e1 => ?_)
      have hX := hX.adr (fun j hj => e1 j (by omega))
      refine am_blk 13 [(.astore 4, 2, 4, 0, .null), (.iconst (1), 1, 0, 0, .int (1 : Int32))] (16, [(0, .ref 0), (1, .int x1), (2, .int x2), (3, .ref 122), (4, .ref 998)], [.int (1 : Int32)], I, G, gP 999) (True) hX hi (by decide +kernel) rfl trivial ?_
      exact am_iretH hX hi e1 rfl rfl (by decide +kernel) ⟨rfl, rfl, rfl, rfl⟩ ⟨by decide, by decide⟩
    · refine am_catch hX hi hh9 (k := 71) (pre := [(0, 10, 13, 24)]) (suf := []) (row := (0, 10, 17, 19)) rfl (by decide) rfl (fun z hz => by rw [List.mem_singleton.mp hz]; exact ⟨by decide, 93, by decide +kernel, by decide⟩) ⟨by decide, by decide⟩ (by decide) (by decide +kernel) rfl (fun ad1 e1 => ?_)
      have hX := hX.adr (fun j hj => e1 j (by omega))
      refine am_blk 17 [(.astore 4, 2, 4, 0, .null), (.iconst (2), 1, 0, 0, .int (2 : Int32))] (20, [(0, .ref 0), (1, .int x1), (2, .int x2), (3, .ref 122), (4, .ref 998)], [.int (2 : Int32)], I, G, gP 999) (True) hX hi (by decide +kernel) rfl trivial ?_
      exact am_iretH hX hi e1 rfl rfl (by decide +kernel) ⟨rfl, rfl, rfl, rfl⟩ ⟨by decide, by decide⟩
def mL_drift : am_M := (⟨"MarbledPaperLaw", "drift", "(LMarbledPaper;II[J)I"⟩, method_14_code, 5, some .int, 15, 4, false)
def hh_drift : am_HH := [(0, 10, 13, 19)]
def hn_drift (k : Nat) : Int32 := if k = 71 then 1 else 0
set_option maxRecDepth 20000 in
set_option maxHeartbeats 1000000 in
theorem c_L_drift (I : am_I) (G : am_G) (x1 : Int32) (x2 : Int32) {out : (Int32 ⊕ Nat) × am_I × am_G} (h : R_X11_drift_0 I G x1 x2 = some out) (hk : ∀ k, out.1 = .inr k → k = 71) : am_CtH mL_drift hh_drift 7 [.ref 0, .int x1, .int x2, .ref 122] I G (pI (hO hn_drift I G out).1 (hO hn_drift I G out).2.1 (hO hn_drift I G out).2.2 (gP 999)) := by
  refine am_ofH (by decide +kernel) rfl (by decide) (by decide) (Nat.le_of_ble_eq_true rfl) (fun X ad hX hi hm hh9 => ?_)
  have hi : am_info X 15 method_14_code 5 false (some .int) 7 := hi
  show am_V X 0 0 _ gS ad (0, [(0, .ref 0), (1, .int x1), (2, .int x2), (3, .ref 122)], [], I, G, gP 999)
  refine am_blk 0 [(.aload_n 3, 1, 3, 0, .null), (.iconst (0), 1, 0, 0, .int (0 : Int32)), (.aload_n 0, 1, 0, 0, .null), (.iload_n 1, 1, 1, 0, .null), (.iload_n 2, 1, 2, 0, .null)] (5, [(0, .ref 0), (1, .int x1), (2, .int x2), (3, .ref 122)], [.int x2, .int x1, .ref 0, .int (0 : Int32), .ref 122], I, G, gP 999) (True) hX hi (by decide +kernel) rfl trivial ?_
  refine am_callX hX hi hm hh9 (M := mX11_drift) (idx := 52) (d' := 6) (b := 0) (ci := 9) (As := [.int x1, .int x2]) (rest := [.int (0 : Int32), .ref 122]) mkX11_drift miX11_drift mvX11_drift (by decide +kernel) (by decide +kernel) rfl (by decide +kernel) rfl ⟨by decide, by decide, Nat.le_of_ble_eq_true rfl⟩ rfl ⟨by decide, by decide⟩ (c_X11_drift_0 999 I G x1 x2 h) ?_ ?_
  · rintro r9 I9 G9 P9 ⟨v, e0, e1, e2, e3, e4⟩
    rw [e1, e2, e3, e4, hO_l e0]
    show am_V X 1 6 _ gS ad (8, [(0, .ref 0), (1, .int x1), (2, .int x2), (3, .ref 122)], [.int v, .int (0 : Int32), .ref 122], out.2.1, out.2.2, gP 999)
    refine am_blk 8 [(.i2l, 1, 0, 0, .null), (.lastore, 1, 0, 0, .null), (.goto (7), 3, 0, 17, .null), (.iconst (0), 1, 0, 0, .int (0 : Int32))] (18, [(0, .ref 0), (1, .int x1), (2, .int x2), (3, .ref 122)], [.int (0 : Int32)], out.2.1, (am_up out.2.2 122 (0 : Int32).toNatClampNeg v.toInt64), gP 999) (vp_in (0 : Int32) 1 ∧ True) hX hi (by decide +kernel) rfl ⟨(i_in _ _).mpr (by decide), trivial⟩ ?_
    exact am_iretM hX hi rfl rfl (by decide +kernel) ⟨rfl, rfl, rfl, rfl⟩ ⟨by decide, by decide⟩
  · rintro E ⟨k, e0, rfl⟩
    rw [hO_r e0]
    obtain rfl := hk k e0
    refine am_catch hX hi hh9 (k := 71) (pre := []) (suf := []) (row := (0, 10, 13, 19)) rfl (by decide) rfl (fun z hz => absurd hz List.not_mem_nil) ⟨by decide, by decide⟩ (by decide) (by decide +kernel) rfl (fun ad1 e1 => ?_)
    have hX := hX.adr (fun j hj => e1 j (by omega))
    refine am_blk 13 [(.astore 4, 2, 4, 0, .null), (.iconst (1), 1, 0, 0, .int (1 : Int32))] (16, [(0, .ref 0), (1, .int x1), (2, .int x2), (3, .ref 122), (4, .ref 998)], [.int (1 : Int32)], I, G, gP 999) (True) hX hi (by decide +kernel) rfl trivial ?_
    exact am_iretH hX hi e1 rfl rfl (by decide +kernel) ⟨rfl, rfl, rfl, rfl⟩ ⟨by decide, by decide⟩
def mL_dip : am_M := (⟨"MarbledPaperLaw", "dip", "(LMarbledPaper;I[J)I"⟩, method_15_code, 4, some .int, 15, 3, false)
def hh_dip : am_HH := [(0, 9, 12, 19)]
def hn_dip (k : Nat) : Int32 := if k = 71 then 1 else 0
set_option maxRecDepth 20000 in
set_option maxHeartbeats 1000000 in
theorem c_L_dip (I : am_I) (G : am_G) (x1 : Int32) {out : (Int32 ⊕ Nat) × am_I × am_G} (h : R_X11_dip_0 I G x1 = some out) (hk : ∀ k, out.1 = .inr k → k = 71) : am_CtH mL_dip hh_dip 10 [.ref 0, .int x1, .ref 122] I G (pI (hO hn_dip I G out).1 (hO hn_dip I G out).2.1 (hO hn_dip I G out).2.2 (gP 999)) := by
  refine am_ofH (by decide +kernel) rfl (by decide) (by decide) (Nat.le_of_ble_eq_true rfl) (fun X ad hX hi hm hh9 => ?_)
  have hi : am_info X 15 method_15_code 4 false (some .int) 10 := hi
  show am_V X 0 0 _ gS ad (0, [(0, .ref 0), (1, .int x1), (2, .ref 122)], [], I, G, gP 999)
  refine am_blk 0 [(.aload_n 2, 1, 2, 0, .null), (.iconst (0), 1, 0, 0, .int (0 : Int32)), (.aload_n 0, 1, 0, 0, .null), (.iload_n 1, 1, 1, 0, .null)] (4, [(0, .ref 0), (1, .int x1), (2, .ref 122)], [.int x1, .ref 0, .int (0 : Int32), .ref 122], I, G, gP 999) (True) hX hi (by decide +kernel) rfl trivial ?_
  refine am_callX hX hi hm hh9 (M := mX11_dip) (idx := 55) (d' := 9) (b := 0) (ci := 9) (As := [.int x1]) (rest := [.int (0 : Int32), .ref 122]) mkX11_dip miX11_dip mvX11_dip (by decide +kernel) (by decide +kernel) rfl (by decide +kernel) rfl ⟨by decide, by decide, Nat.le_of_ble_eq_true rfl⟩ rfl ⟨by decide, by decide⟩ (c_X11_dip_0 999 I G x1 h) ?_ ?_
  · rintro r9 I9 G9 P9 ⟨v, e0, e1, e2, e3, e4⟩
    rw [e1, e2, e3, e4, hO_l e0]
    show am_V X 1 6 _ gS ad (7, [(0, .ref 0), (1, .int x1), (2, .ref 122)], [.int v, .int (0 : Int32), .ref 122], out.2.1, out.2.2, gP 999)
    refine am_blk 7 [(.i2l, 1, 0, 0, .null), (.lastore, 1, 0, 0, .null), (.goto (6), 3, 0, 15, .null), (.iconst (0), 1, 0, 0, .int (0 : Int32))] (16, [(0, .ref 0), (1, .int x1), (2, .ref 122)], [.int (0 : Int32)], out.2.1, (am_up out.2.2 122 (0 : Int32).toNatClampNeg v.toInt64), gP 999) (vp_in (0 : Int32) 1 ∧ True) hX hi (by decide +kernel) rfl ⟨(i_in _ _).mpr (by decide), trivial⟩ ?_
    exact am_iretM hX hi rfl rfl (by decide +kernel) ⟨rfl, rfl, rfl, rfl⟩ ⟨by decide, by decide⟩
  · rintro E ⟨k, e0, rfl⟩
    rw [hO_r e0]
    obtain rfl := hk k e0
    refine am_catch hX hi hh9 (k := 71) (pre := []) (suf := []) (row := (0, 9, 12, 19)) rfl (by decide) rfl (fun z hz => absurd hz List.not_mem_nil) ⟨by decide, by decide⟩ (by decide) (by decide +kernel) rfl (fun ad1 e1 => ?_)
    have hX := hX.adr (fun j hj => e1 j (by omega))
    refine am_blk 12 [(.astore_n 3, 1, 3, 0, .null), (.iconst (1), 1, 0, 0, .int (1 : Int32))] (14, [(0, .ref 0), (1, .int x1), (2, .ref 122), (3, .ref 998)], [.int (1 : Int32)], I, G, gP 999) (True) hX hi (by decide +kernel) rfl trivial ?_
    exact am_iretH hX hi e1 rfl rfl (by decide +kernel) ⟨rfl, rfl, rfl, rfl⟩ ⟨by decide, by decide⟩
def mL_foresee : am_M := (⟨"MarbledPaperLaw", "foresee", "(LMarbledPaper;II[J)I"⟩, method_16_code, 5, some .int, 15, 4, false)
def hh_foresee : am_HH := [(0, 10, 13, 19), (0, 10, 17, 24)]
def hn_foresee (k : Nat) : Int32 := if k = 71 then 1 else if k = 93 then 2 else 0
set_option maxRecDepth 20000 in
set_option maxHeartbeats 1000000 in
theorem c_L_foresee (I : am_I) (G : am_G) (x1 : Int32) (x2 : Int32) {out : (Int32 ⊕ Nat) × am_I × am_G} (h : R_X11_foresee_0 I G x1 x2 = some out) (hk : ∀ k, out.1 = .inr k → k = 71 ∨ k = 93) : am_CtH mL_foresee hh_foresee 10 [.ref 0, .int x1, .int x2, .ref 122] I G (pI (hO hn_foresee I G out).1 (hO hn_foresee I G out).2.1 (hO hn_foresee I G out).2.2 (gP 999)) := by
  refine am_ofH (by decide +kernel) rfl (by decide) (by decide) (Nat.le_of_ble_eq_true rfl) (fun X ad hX hi hm hh9 => ?_)
  have hi : am_info X 15 method_16_code 5 false (some .int) 10 := hi
  show am_V X 0 0 _ gS ad (0, [(0, .ref 0), (1, .int x1), (2, .int x2), (3, .ref 122)], [], I, G, gP 999)
  refine am_blk 0 [(.aload_n 3, 1, 3, 0, .null), (.iconst (0), 1, 0, 0, .int (0 : Int32)), (.aload_n 0, 1, 0, 0, .null), (.iload_n 1, 1, 1, 0, .null), (.iload_n 2, 1, 2, 0, .null)] (5, [(0, .ref 0), (1, .int x1), (2, .int x2), (3, .ref 122)], [.int x2, .int x1, .ref 0, .int (0 : Int32), .ref 122], I, G, gP 999) (True) hX hi (by decide +kernel) rfl trivial ?_
  refine am_callX hX hi hm hh9 (M := mX11_foresee) (idx := 58) (d' := 9) (b := 0) (ci := 9) (As := [.int x1, .int x2]) (rest := [.int (0 : Int32), .ref 122]) mkX11_foresee miX11_foresee mvX11_foresee (by decide +kernel) (by decide +kernel) rfl (by decide +kernel) rfl ⟨by decide, by decide, Nat.le_of_ble_eq_true rfl⟩ rfl ⟨by decide, by decide⟩ (c_X11_foresee_0 999 I G x1 x2 h) ?_ ?_
  · rintro r9 I9 G9 P9 ⟨v, e0, e1, e2, e3, e4⟩
    rw [e1, e2, e3, e4, hO_l e0]
    show am_V X 1 6 _ gS ad (8, [(0, .ref 0), (1, .int x1), (2, .int x2), (3, .ref 122)], [.int v, .int (0 : Int32), .ref 122], out.2.1, out.2.2, gP 999)
    refine am_blk 8 [(.i2l, 1, 0, 0, .null), (.lastore, 1, 0, 0, .null), (.goto (11), 3, 0, 21, .null), (.iconst (0), 1, 0, 0, .int (0 : Int32))] (22, [(0, .ref 0), (1, .int x1), (2, .int x2), (3, .ref 122)], [.int (0 : Int32)], out.2.1, (am_up out.2.2 122 (0 : Int32).toNatClampNeg v.toInt64), gP 999) (vp_in (0 : Int32) 1 ∧ True) hX hi (by decide +kernel) rfl ⟨(i_in _ _).mpr (by decide), trivial⟩ ?_
    exact am_iretM hX hi rfl rfl (by decide +kernel) ⟨rfl, rfl, rfl, rfl⟩ ⟨by decide, by decide⟩
  · rintro E ⟨k, e0, rfl⟩
    rw [hO_r e0]
    rcases hk k e0 with rfl | rfl
    · refine am_catch hX hi hh9 (k := 71) (pre := []) (suf := [(0, 10, 17, 24)]) (row := (0, 10, 13, 19)) rfl (by decide) rfl (fun z hz => absurd hz List.not_mem_nil) ⟨by decide, by decide⟩ (by decide) (by decide +kernel) rfl (fun ad1 e1 => ?_)
      have hX := hX.adr (fun j hj => e1 j (by omega))
      refine am_blk 13 [(.astore 4, 2, 4, 0, .null), (.iconst (1), 1, 0, 0, .int (1 : Int32))] (16, [(0, .ref 0), (1, .int x1), (2, .int x2), (3, .ref 122), (4, .ref 998)], [.int (1 : Int32)], I, G, gP 999) (True) hX hi (by decide +kernel) rfl trivial ?_
      exact am_iretH hX hi e1 rfl rfl (by decide +kernel) ⟨rfl, rfl, rfl, rfl⟩ ⟨by decide, by decide⟩
    · refine am_catch hX hi hh9 (k := 93) (pre := [(0, 10, 13, 19)]) (suf := []) (row := (0, 10, 17, 24)) rfl (by decide) rfl (fun z hz => by rw [List.mem_singleton.mp hz]; exact ⟨by decide, 71, by decide +kernel, by decide⟩) ⟨by decide, by decide⟩ (by decide) (by decide +kernel) rfl (fun ad1 e1 => ?_)
      have hX := hX.adr (fun j hj => e1 j (by omega))
      refine am_blk 17 [(.astore 4, 2, 4, 0, .null), (.iconst (2), 1, 0, 0, .int (2 : Int32))] (20, [(0, .ref 0), (1, .int x1), (2, .int x2), (3, .ref 122), (4, .ref 998)], [.int (2 : Int32)], I, G, gP 999) (True) hX hi (by decide +kernel) rfl trivial ?_
      exact am_iretH hX hi e1 rfl rfl (by decide +kernel) ⟨rfl, rfl, rfl, rfl⟩ ⟨by decide, by decide⟩
def mL_until : am_M := (⟨"MarbledPaperLaw", "until", "(LMarbledPaper;III[J)I"⟩, method_17_code, 6, some .int, 15, 5, false)
def hh_until : am_HH := [(0, 12, 15, 24)]
def hn_until (k : Nat) : Int32 := if k = 93 then 1 else 0
set_option maxRecDepth 20000 in
set_option maxHeartbeats 1000000 in
theorem c_L_until (I : am_I) (G : am_G) (x1 : Int32) (x2 : Int32) (x3 : Int32) {out : (Int32 ⊕ Nat) × am_I × am_G} (h : R_X11_until_0 I G x1 x2 x3 = some out) (hk : ∀ k, out.1 = .inr k → k = 93) : am_CtH mL_until hh_until 10 [.ref 0, .int x1, .int x2, .int x3, .ref 122] I G (pI (hO hn_until I G out).1 (hO hn_until I G out).2.1 (hO hn_until I G out).2.2 (gP 999)) := by
  refine am_ofH (by decide +kernel) rfl (by decide) (by decide) (Nat.le_of_ble_eq_true rfl) (fun X ad hX hi hm hh9 => ?_)
  have hi : am_info X 15 method_17_code 6 false (some .int) 10 := hi
  show am_V X 0 0 _ gS ad (0, [(0, .ref 0), (1, .int x1), (2, .int x2), (3, .int x3), (4, .ref 122)], [], I, G, gP 999)
  refine am_blk 0 [(.aload 4, 2, 4, 0, .null), (.iconst (0), 1, 0, 0, .int (0 : Int32)), (.aload_n 0, 1, 0, 0, .null), (.iload_n 1, 1, 1, 0, .null), (.iload_n 2, 1, 2, 0, .null), (.iload_n 3, 1, 3, 0, .null)] (7, [(0, .ref 0), (1, .int x1), (2, .int x2), (3, .int x3), (4, .ref 122)], [.int x3, .int x2, .int x1, .ref 0, .int (0 : Int32), .ref 122], I, G, gP 999) (True) hX hi (by decide +kernel) rfl trivial ?_
  refine am_callX hX hi hm hh9 (M := mX11_until) (idx := 61) (d' := 9) (b := 0) (ci := 9) (As := [.int x1, .int x2, .int x3]) (rest := [.int (0 : Int32), .ref 122]) mkX11_until miX11_until mvX11_until (by decide +kernel) (by decide +kernel) rfl (by decide +kernel) rfl ⟨by decide, by decide, Nat.le_of_ble_eq_true rfl⟩ rfl ⟨by decide, by decide⟩ (c_X11_until_0 999 I G x1 x2 x3 h) ?_ ?_
  · rintro r9 I9 G9 P9 ⟨v, e0, e1, e2, e3, e4⟩
    rw [e1, e2, e3, e4, hO_l e0]
    show am_V X 1 6 _ gS ad (10, [(0, .ref 0), (1, .int x1), (2, .int x2), (3, .int x3), (4, .ref 122)], [.int v, .int (0 : Int32), .ref 122], out.2.1, out.2.2, gP 999)
    refine am_blk 10 [(.i2l, 1, 0, 0, .null), (.lastore, 1, 0, 0, .null), (.goto (7), 3, 0, 19, .null), (.iconst (0), 1, 0, 0, .int (0 : Int32))] (20, [(0, .ref 0), (1, .int x1), (2, .int x2), (3, .int x3), (4, .ref 122)], [.int (0 : Int32)], out.2.1, (am_up out.2.2 122 (0 : Int32).toNatClampNeg v.toInt64), gP 999) (vp_in (0 : Int32) 1 ∧ True) hX hi (by decide +kernel) rfl ⟨(i_in _ _).mpr (by decide), trivial⟩ ?_
    exact am_iretM hX hi rfl rfl (by decide +kernel) ⟨rfl, rfl, rfl, rfl⟩ ⟨by decide, by decide⟩
  · rintro E ⟨k, e0, rfl⟩
    rw [hO_r e0]
    obtain rfl := hk k e0
    refine am_catch hX hi hh9 (k := 93) (pre := []) (suf := []) (row := (0, 12, 15, 24)) rfl (by decide) rfl (fun z hz => absurd hz List.not_mem_nil) ⟨by decide, by decide⟩ (by decide) (by decide +kernel) rfl (fun ad1 e1 => ?_)
    have hX := hX.adr (fun j hj => e1 j (by omega))
    refine am_blk 15 [(.astore 5, 2, 5, 0, .null), (.iconst (1), 1, 0, 0, .int (1 : Int32))] (18, [(0, .ref 0), (1, .int x1), (2, .int x2), (3, .int x3), (4, .ref 122), (5, .ref 998)], [.int (1 : Int32)], I, G, gP 999) (True) hX hi (by decide +kernel) rfl trivial ?_
    exact am_iretH hX hi e1 rfl rfl (by decide +kernel) ⟨rfl, rfl, rfl, rfl⟩ ⟨by decide, by decide⟩
def mL_advise : am_M := (⟨"MarbledPaperLaw", "advise", "(LMarbledPaper;I[J)I"⟩, method_18_code, 4, some .int, 15, 3, false)
def hh_advise : am_HH := [(0, 9, 12, 24)]
def hn_advise (k : Nat) : Int32 := if k = 93 then 1 else 0
set_option maxRecDepth 20000 in
set_option maxHeartbeats 1000000 in
theorem c_L_advise (I : am_I) (G : am_G) (x1 : Int32) {out : (Int32 ⊕ Nat) × am_I × am_G} (h : R_X11_advise_0 I G x1 = some out) (hk : ∀ k, out.1 = .inr k → k = 93) : am_CtH mL_advise hh_advise 10 [.ref 0, .int x1, .ref 122] I G (pI (hO hn_advise I G out).1 (hO hn_advise I G out).2.1 (hO hn_advise I G out).2.2 (gP 999)) := by
  refine am_ofH (by decide +kernel) rfl (by decide) (by decide) (Nat.le_of_ble_eq_true rfl) (fun X ad hX hi hm hh9 => ?_)
  have hi : am_info X 15 method_18_code 4 false (some .int) 10 := hi
  show am_V X 0 0 _ gS ad (0, [(0, .ref 0), (1, .int x1), (2, .ref 122)], [], I, G, gP 999)
  refine am_blk 0 [(.aload_n 2, 1, 2, 0, .null), (.iconst (0), 1, 0, 0, .int (0 : Int32)), (.aload_n 0, 1, 0, 0, .null), (.iload_n 1, 1, 1, 0, .null)] (4, [(0, .ref 0), (1, .int x1), (2, .ref 122)], [.int x1, .ref 0, .int (0 : Int32), .ref 122], I, G, gP 999) (True) hX hi (by decide +kernel) rfl trivial ?_
  refine am_callX hX hi hm hh9 (M := mX11_advise) (idx := 64) (d' := 9) (b := 0) (ci := 9) (As := [.int x1]) (rest := [.int (0 : Int32), .ref 122]) mkX11_advise miX11_advise mvX11_advise (by decide +kernel) (by decide +kernel) rfl (by decide +kernel) rfl ⟨by decide, by decide, Nat.le_of_ble_eq_true rfl⟩ rfl ⟨by decide, by decide⟩ (c_X11_advise_0 999 I G x1 h) ?_ ?_
  · rintro r9 I9 G9 P9 ⟨v, e0, e1, e2, e3, e4⟩
    rw [e1, e2, e3, e4, hO_l e0]
    show am_V X 1 6 _ gS ad (7, [(0, .ref 0), (1, .int x1), (2, .ref 122)], [.int v, .int (0 : Int32), .ref 122], out.2.1, out.2.2, gP 999)
    refine am_blk 7 [(.i2l, 1, 0, 0, .null), (.lastore, 1, 0, 0, .null), (.goto (6), 3, 0, 15, .null), (.iconst (0), 1, 0, 0, .int (0 : Int32))] (16, [(0, .ref 0), (1, .int x1), (2, .ref 122)], [.int (0 : Int32)], out.2.1, (am_up out.2.2 122 (0 : Int32).toNatClampNeg v.toInt64), gP 999) (vp_in (0 : Int32) 1 ∧ True) hX hi (by decide +kernel) rfl ⟨(i_in _ _).mpr (by decide), trivial⟩ ?_
    exact am_iretM hX hi rfl rfl (by decide +kernel) ⟨rfl, rfl, rfl, rfl⟩ ⟨by decide, by decide⟩
  · rintro E ⟨k, e0, rfl⟩
    rw [hO_r e0]
    obtain rfl := hk k e0
    refine am_catch hX hi hh9 (k := 93) (pre := []) (suf := []) (row := (0, 9, 12, 24)) rfl (by decide) rfl (fun z hz => absurd hz List.not_mem_nil) ⟨by decide, by decide⟩ (by decide) (by decide +kernel) rfl (fun ad1 e1 => ?_)
    have hX := hX.adr (fun j hj => e1 j (by omega))
    refine am_blk 12 [(.astore_n 3, 1, 3, 0, .null), (.iconst (1), 1, 0, 0, .int (1 : Int32))] (14, [(0, .ref 0), (1, .int x1), (2, .ref 122), (3, .ref 998)], [.int (1 : Int32)], I, G, gP 999) (True) hX hi (by decide +kernel) rfl trivial ?_
    exact am_iretH hX hi e1 rfl rfl (by decide +kernel) ⟨rfl, rfl, rfl, rfl⟩ ⟨by decide, by decide⟩
