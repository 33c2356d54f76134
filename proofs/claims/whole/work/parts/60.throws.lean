/-! exceptions: what may be thrown, and what catches it -/
def am_xn (k : Nat) : String := if k = 60 then "java/lang/IllegalStateException" else if k = 71 then "java/lang/IllegalArgumentException" else "java/lang/IndexOutOfBoundsException"
abbrev am_xs : List String := ["java/lang/RuntimeException", "java/lang/Exception"]
def am_iS (C : String) : MethodName := ⟨C, "<init>", "(Ljava/lang/String;)V"⟩
/-- the words of a throw that no good word is -/
def am_cw : List Cond := [.castable (am_xn 60) (am_xn 60), .castable (am_xn 71) (am_xn 71), .castable (am_xn 93) (am_xn 93), .declares (am_iS "java/lang/RuntimeException"), .declares (am_iS "java/lang/Exception"), .declares (am_iS "java/lang/Throwable")]
def am_cast (U : State) : Prop := (∀ w ∈ am_cw, w.before #[] U = true) ∧ va_Nc (am_xn 71) (am_xn 93) U ∧ va_Nc (am_xn 93) (am_xn 71) U
theorem am_cast.moved {u U : State} (hvm : u.vm.Alike U.vm) (h : am_cast u) : am_cast U := by
  refine ⟨fun w hw => ?_, h.2.1.moved hvm, h.2.2.moved hvm⟩
  have h1 := h.1 w hw
  have h2 : w.onTables = true ∧ w.before #[] (u.setVm U.vm) = w.before #[] u := by
    simp only [am_cw, List.mem_cons, List.not_mem_nil, or_false] at hw
    rcases hw with rfl | rfl | rfl | rfl | rfl | rfl <;> refine ⟨rfl, ?_⟩
    · exact Cond.castable_setVm hvm _ _
    · exact Cond.castable_setVm hvm _ _
    · exact Cond.castable_setVm hvm _ _
    · exact Cond.declares_setVm hvm _
    · exact Cond.declares_setVm hvm _
    · exact Cond.declares_setVm hvm _
  exact va_tabs h2.1 (show (u.setVm U.vm).vm = U.vm from rfl) (h2.2.trans h1)
theorem am_cast.word {U : State} {args : Array Value} (h : am_cast U) : ∀ w ∈ am_cw, w.before args U = true := fun w hw => va_tabs (by
    simp only [am_cw, List.mem_cons, List.not_mem_nil, or_false] at hw
    rcases hw with rfl | rfl | rfl | rfl | rfl | rfl <;> rfl) rfl (h.1 w hw)
/-- the class's entries of the three: class, constructor -/
def am_xic (k : Nat) : Nat := if k = 60 then 64 else if k = 71 then 75 else 97
def am_xok3 (k : Nat) : Prop := Bundle.fit (am_xn k) = true ∧ (∀ w ∈ vx_atS "MarbledPaper" (am_xic k) (am_xn k) am_xs, w ∈ lw_tbl) ∧ (∀ w ∈ (vx_atS "MarbledPaper" (am_xic k) (am_xn k) am_xs).filter (fun w => !goodWord w), w ∈ am_cw) ∧ (∀ w ∈ Cond.classLink "MarbledPaper" k (am_xn k) :: Cond.initialized (am_xn k) :: vx_atS "MarbledPaper" (am_xic k) (am_xn k) am_xs, vx_ot w = true) ∧ Cond.classLink "MarbledPaper" k (am_xn k) ∈ lw_tbl ∧ Cond.initialized (am_xn k) ∈ lw_tbl
theorem am_x60 : am_xok3 60 := ⟨by decide +kernel, by decide +kernel, by decide +kernel, by decide +kernel, by decide +kernel, by decide +kernel⟩
theorem am_x71 : am_xok3 71 := ⟨by decide +kernel, by decide +kernel, by decide +kernel, by decide +kernel, by decide +kernel, by decide +kernel⟩
theorem am_x93 : am_xok3 93 := ⟨by decide +kernel, by decide +kernel, by decide +kernel, by decide +kernel, by decide +kernel, by decide +kernel⟩
/-! contracts of methods that may throw -/
def am_XC (D : va_G) (cys : am_C3) (ad : Nat → Nat) (sh : List am_Sh) (I : am_I) (G : am_G) (P : am_P) (A : Nat → Prop) (pe : String → Prop) : String → State → State → Prop :=
  fun E st t => pe E ∧ va_P D vwCl (am_ws cys ad sh I G P) t.heap ∧ va_F A st t
def am_PrX (D : va_G) (cys : am_C3) (ad : Nat → Nat) (sh : List am_Sh) (I : am_I) (G : am_G) (P : am_P) (sz : Nat) (U : State) : Prop := am_Pr D cys ad sh I G P sz U ∧ am_cast U
/-- the method returns, and leaves what post says, or throws what pe says, with its cells as they were -/
def am_CtX (M : am_M) (d : Nat) (sh : List am_Sh) (args : List Value) (I : am_I) (G : am_G) (P : am_P) (pe : String → Prop) (post : am_Po) : Prop :=
  ∀ (l : Launch), l.stackTraces = false → ∀ (D : va_G) (cys : am_C3) (ad : Nat → Nat) (sz : Nat), vx_Met l M.1 (am_wl M.1 M.2.1 M.2.2.1 M.2.2.2.1) (am_rm d 1 6) (va_Pc (args.map (am_tv ad)) (am_PrX D cys ad sh I G P sz)) (am_Qc D cys ad sh (va_A (am_ws cys ad sh I G P) sz) post) (am_XC D cys ad sh I G P (va_A (am_ws cys ad sh I G P) sz) pe) 1 6 (va_A (am_ws cys ad sh I G P) sz)
def am_RtX (X : am_X) (sh : List am_Sh) (ad : Nat → Nat) (I : am_I) (G : am_G) (P : am_P) (pe : String → Prop) (post : am_Po) : State → Prop := match X with
  | (_, _, _, _, s, _, args, below, _, _, A, D, cys, _, _, _, _) => vx_MQ below (am_Qc D cys ad sh A post) (am_XC D cys ad sh I G P A pe) args s 1 6 A
def am_xok (X : am_X) : Prop := match X with
  | (_, l, _, R, s, _, _, _, _, c, _, _, _, _, _, _, _) => l.stackTraces = false ∧ am_cast s ∧ (∀ x ∈ c.exceptionTable.toList, False) ∧ R.cells = 1 ∧ R.slots = 6
theorem am_ofX {M : am_M} {d : Nat} {sh : List am_Sh} {args : List Value} {I : am_I} {G : am_G} {P : am_P} {pe : String → Prop} {post : am_Po} (hy : plainName M.1.cls = true) (hcls : M.1.cls = am_own M.2.2.2.2.1) (hini : M.2.2.2.2.2.2 = true → M.1.name = "<init>") (hd : 1 ≤ d) (hargs : (lg_sl args).length ≤ M.2.2.1)
    (body : ∀ (X : am_X) (ad : Nat → Nat), am_okz X ad → am_info X M.2.2.2.2.1 M.2.1 M.2.2.1 M.2.2.2.2.2.2 M.2.2.2.1 d → am_xok X → am_V X 0 0 (am_RtX X sh ad I G P pe post) sh ad (0, lv_args 0 args, [], I, G, P)) : am_CtX M d sh args I G P pe post := by
  obtain ⟨y, cc, nL, ret, o, n, ini⟩ := M
  intro l hl9 D cys ad sz
  refine vx_ofW (cc := cc) (maxL := nL) (ret := ret) hy rfl ?_
  intro p e s m a below meth c s₁ B hml hno hv
  obtain ⟨rfl, ⟨hsz, hP, hK, hD0, hN, hZ⟩, hcast⟩ := hv
  have hts : ∀ w ∈ am_wl y cc nL ret, w.before _ s = true := atoms_spec (ws := am_wl y cc nL ret) B.pre
  have hown : s.vm.findClass y.cls = some m.cls := findClass_of_methodNamed B.named
  have hin : meth.name = y.name := (name_of_methodNamed B.named B.method).1
  subst hsz
  have hD := hD0.self (sz := s.heap.size)
  have hb := body (p, l, e, (headSpec (am_wl y cc nL ret) (am_rm d 1 6)).room, s, m, (args.map (am_tv ad)).toArray, below, meth, c, va_A (am_ws cys ad sh I G P) s.heap.size, D, cys, o, cc, nL, ini) ad
    ⟨⟨B.exec, B.bytes, hml, by rw [← hcls]; exact hown, fun w hw => hts w (List.mem_cons_of_mem _ hw), B.notSynchronized, hK, hN, fun q h => Or.inr h, fun h => by rw [hin]; exact hini h, hd, by show 30 ≤ 30 * d; omega⟩, hZ⟩
    ⟨rfl, rfl, rfl, rfl, B.returns, Nat.le_refl _, Nat.le_refl _⟩ ⟨hl9, hcast, hno, rfl, rfl⟩
  have hl := lv_entry (args.map (am_tv ad)) (n := nL) (by rw [am_sl_len]; exact hargs)
  rw [lg_entry_eq]
  rw [am_args] at hl
  exact hb (Nat.zero_le _) (Nat.zero_le _) s.heap [] _ hP hD va_S.rf hl
/-- a return, where a throw was also allowed -/
theorem am_toX {X : am_X} {sh : List am_Sh} {ad : Nat → Nat} {I0 : am_I} {G0 : am_G} {P0 : am_P} {pe : String → Prop} {post : am_Po} {S : am_S} (h : am_V X 0 0 (am_Rt X sh ad post) sh ad S) : am_V X 0 0 (am_RtX X sh ad I0 G0 P0 pe post) sh ad S := by
  obtain ⟨p, l, e, R, s, m, args, below, meth, c, A, D, cys, o', cc', nL', ini'⟩ := X
  obtain ⟨pc, L, st, I, G, P⟩ := S
  intro h1 h2 H locs ls hP hD hS hlo T hT X9
  obtain ⟨t, a1, o, b1, b2, b3, L9, b4, b5⟩ := h h1 h2 H locs ls hP hD hS hlo T hT X9
  obtain ⟨q1, q2, q3⟩ := b4
  exact ⟨t, a1, o, b1, b2, Or.inl ⟨b3, L9, ⟨q1, q2, q3.mono (Nat.zero_le _) (Nat.zero_le _)⟩, b5⟩⟩
/-- throw new E("text") -/
theorem am_throwX {X : am_X} {o : Nat} {cc : ByteArray} {nL : Nat} {ini : Bool} {ret : Option FieldType} {d pc : Nat} {sh : List am_Sh} {ad : Nat → Nat} {L : am_L} {st : List Value} {I : am_I} {G : am_G} {P : am_P} {pe : String → Prop} {post : am_Po} (hX : am_okz X ad) (hi : am_info X o cc nL ini ret d) (hx : am_xok X) {k is i : Nat} {text : String} (ho : am_own o = "MarbledPaper") (h3 : am_xok3 k) (htx : am_tT[i]? = some ("MarbledPaper", is, text)) (hd6 : 6 ≤ d)
    (d0 : decode cc pc = .ok (.new k, 3)) (d3 : decode cc (pc + 3) = .ok (.dup, 1)) (d4 : decode cc (pc + 4) = .ok (.ldc is, 2)) (d6 : decode cc (pc + 6) = .ok (.invokespecial (am_xic k), 3)) (d9 : decode cc (pc + 9) = .ok (.athrow, 1)) (hst : (st.map fun v => v.category).sum ≤ 8) (hpe : pe (am_xn k)) : am_V X 0 0 (am_RtX X sh ad I G P pe post) sh ad (pc, L, st, I, G, P) := by
  obtain ⟨p, l, e, R, s, m, args, below, meth, c, A, D, cys, o', cc', nL', ini'⟩ := X
  obtain ⟨rfl, rfl, rfl, rfl, -, hR1, hR2⟩ := hi
  obtain ⟨⟨hx0, hb, hml, hown, hts, hlk, hK, hN, hA, -⟩, hZ⟩ := hX
  obtain ⟨hl, hcast, hno, hRc, hRs⟩ := hx
  obtain ⟨f1, f2, f3, f4, f5, f6⟩ := h3
  rw [ho] at hown
  obtain ⟨-, hZt, -, -, -, -, -, hU, hN9⟩ := hZ
  intro h1 h2 H locs ls hP hD hS hlo
  refine vx_throwS hx0 hb hl (own := "MarbledPaper") (cls := am_xn k) (text := text) (names := am_xs) (ik := k) (is := is) (ic := am_xic k) (sa := ad (2000 + i)) (A := A) hown f1 (by decide +kernel) (hts _ (am_good f5 rfl)) (hts _ (am_good f6 rfl)) (hZt i _ htx)
    (vx_hat (B := am_cw) (fun w hw => hts w (am_good (f2 w (List.mem_filter.mp hw).1) (List.mem_filter.mp hw).2)) f3 hcast.word) f4 hU hN9 hS (hlo.1.trans hml.symm) d0 d3 d4 d6 d9 (fun x hx => (hno x hx).elim) (by show 5 < R.frames; omega) ?_ (by rw [hRc]; omega) (by rw [hRs]; omega) hlk ?_ hS.2.2 (by omega) (by omega)
  · show ((st.map (am_tv ad)).map fun v => v.category).sum + (13 * (2 + 1) + 43) ≤ R.locals
    rw [am_cats]; omega
  · intro t ht1 ht2 ht3
    exact ⟨hpe, hP.kept (fun j q hj => ht3 q.1 (vx_lt hP hj)), Nat.le_trans hS.1 ht2, fun q hq1 hq2 => by rw [ht3 q (Nat.lt_of_lt_of_le hq1 hS.1)]; exact hS.2.1 q hq1 hq2⟩
def pe9 (r : Int32 ⊕ Nat) : String → Prop := fun E => ∃ k, r = .inr k ∧ E = am_xn k
def pn9 (r : Int32 ⊕ Nat) (I : am_I) (G : am_G) (P : am_P) : am_Po := fun v I' G' P' => ∃ x, r = .inl x ∧ v = some (.int x) ∧ I' = I ∧ G' = G ∧ P' = P
noncomputable def R_X11_feed_0 (I : am_I) (G : am_G) (x1 : Int32) (x2 : Int32) (x3 : Int32) (x4 : Int32) (x5 : Int32) : Option ((Int32 ⊕ Nat) × am_I × am_G) := (if ((I 1 5) + (20 : Int32)) ≤ (2000 : Int32) then rb (R_X9_append_1 I G x1) (fun r1 I1 G1 => rb (R_X9_append_1 I1 G1 x2) (fun r2 I2 G2 => rb (R_X9_append_1 I2 G2 x3) (fun r3 I3 G3 => rb (R_X9_append_1 I3 G3 x4) (fun r4 I4 G4 => rb (R_X9_append_1 I4 G4 x5) (fun r5 I5 G5 => some (.inl (I5 1 5), I5, G5)))))) else some (.inr 60, I, G))
set_option maxRecDepth 20000 in
set_option maxHeartbeats 4000000 in
theorem c_X11_feed_0 (rd : Nat) (I : am_I) (G : am_G) (x1 : Int32) (x2 : Int32) (x3 : Int32) (x4 : Int32) (x5 : Int32) {out : (Int32 ⊕ Nat) × am_I × am_G} (h : R_X11_feed_0 I G x1 x2 x3 x4 x5 = some out) : am_CtX mX11_feed 6 gS [.ref 0, .int x1, .int x2, .int x3, .int x4, .int x5] I G (gP rd) (pe9 out.1) (pn9 out.1 out.2.1 out.2.2 (gP rd)) := by
  refine am_ofX (by decide +kernel) rfl (by decide) (by omega) (Nat.le_of_ble_eq_true rfl) (fun X ad hX hi hx9 => ?_)
  have hi : am_info X 9 cX11_feed 6 false (Option.some Jvm.ClassFile.FieldType.int) 6 := hi
  show am_V X 0 0 _ _ ad (0, [(0, .ref 0), (1, .int x1), (2, .int x2), (3, .int x3), (4, .int x4), (5, .int x5)], [], I, G, (gP rd))
  unfold R_X11_feed_0 at h
  refine am_blk 0 [(.aload_n 0, 1, 0, 0, .null), (.getfield 20, 3, 9, 0, .null), (.getfield 57, 3, 7, 5, .null), (.bipush (20), 2, 0, 0, .int (20 : Int32)), (.iadd, 1, 0, 0, .null), (.sipush (2000), 3, 0, 0, .int (2000 : Int32))] (13, [(0, .ref 0), (1, .int x1), (2, .int x2), (3, .int x3), (4, .int x4), (5, .int x5)], [.int (2000 : Int32), .int ((I 1 5) + (20 : Int32))], I, G, (gP rd)) (True) hX hi (by decide +kernel) rfl trivial ?_
  refine am_icmp_le (tgt := 26) hX hi (off := (13)) (by decide +kernel) (by decide) (fun c13 => ?_) (fun c13 => ?_)
  · rw [if_pos c13] at h
    refine am_blk 26 [(.aload_n 0, 1, 0, 0, .null), (.getfield 20, 3, 9, 0, .null), (.iload_n 1, 1, 1, 0, .null)] (31, [(0, .ref 0), (1, .int x1), (2, .int x2), (3, .int x3), (4, .int x4), (5, .int x5)], [.int x1, .ref 1], I, G, (gP rd)) (True) hX hi (by decide +kernel) rfl trivial ?_
    obtain ⟨r1, I1, G1, hc, h⟩ := rb_some h
    refine am_callV hX hi (M := mX9_append) (idx := 67) (d' := 1) (b := 1) (ci := 7) (As := [.int x1]) (rest := []) mkX9_append miX9_append mvX9_append (by decide +kernel) (by decide +kernel) rfl (by decide +kernel) rfl ⟨by omega, by decide, Nat.le_of_ble_eq_true rfl⟩ rfl (c_X9_append_1 _ I G x1 hc) ?_
    rintro r9 I9 G9 P9 ⟨e0, e1, e2, e3⟩
    rw [e0, e1, e2, e3]
    show am_V X 0 0 _ _ ad (34, [(0, .ref 0), (1, .int x1), (2, .int x2), (3, .int x3), (4, .int x4), (5, .int x5)], [], I1, G1, (gP rd))
    refine am_blk 34 [(.aload_n 0, 1, 0, 0, .null), (.getfield 20, 3, 9, 0, .null), (.iload_n 2, 1, 2, 0, .null)] (39, [(0, .ref 0), (1, .int x1), (2, .int x2), (3, .int x3), (4, .int x4), (5, .int x5)], [.int x2, .ref 1], I1, G1, (gP rd)) (True) hX hi (by decide +kernel) rfl trivial ?_
    obtain ⟨r2, I2, G2, hc, h⟩ := rb_some h
    refine am_callV hX hi (M := mX9_append) (idx := 67) (d' := 1) (b := 1) (ci := 7) (As := [.int x2]) (rest := []) mkX9_append miX9_append mvX9_append (by decide +kernel) (by decide +kernel) rfl (by decide +kernel) rfl ⟨by omega, by decide, Nat.le_of_ble_eq_true rfl⟩ rfl (c_X9_append_1 _ I1 G1 x2 hc) ?_
    rintro r9 I9 G9 P9 ⟨e0, e1, e2, e3⟩
    rw [e0, e1, e2, e3]
    show am_V X 0 0 _ _ ad (42, [(0, .ref 0), (1, .int x1), (2, .int x2), (3, .int x3), (4, .int x4), (5, .int x5)], [], I2, G2, (gP rd))
    refine am_blk 42 [(.aload_n 0, 1, 0, 0, .null), (.getfield 20, 3, 9, 0, .null), (.iload_n 3, 1, 3, 0, .null)] (47, [(0, .ref 0), (1, .int x1), (2, .int x2), (3, .int x3), (4, .int x4), (5, .int x5)], [.int x3, .ref 1], I2, G2, (gP rd)) (True) hX hi (by decide +kernel) rfl trivial ?_
    obtain ⟨r3, I3, G3, hc, h⟩ := rb_some h
    refine am_callV hX hi (M := mX9_append) (idx := 67) (d' := 1) (b := 1) (ci := 7) (As := [.int x3]) (rest := []) mkX9_append miX9_append mvX9_append (by decide +kernel) (by decide +kernel) rfl (by decide +kernel) rfl ⟨by omega, by decide, Nat.le_of_ble_eq_true rfl⟩ rfl (c_X9_append_1 _ I2 G2 x3 hc) ?_
    rintro r9 I9 G9 P9 ⟨e0, e1, e2, e3⟩
    rw [e0, e1, e2, e3]
    show am_V X 0 0 _ _ ad (50, [(0, .ref 0), (1, .int x1), (2, .int x2), (3, .int x3), (4, .int x4), (5, .int x5)], [], I3, G3, (gP rd))
    refine am_blk 50 [(.aload_n 0, 1, 0, 0, .null), (.getfield 20, 3, 9, 0, .null), (.iload 4, 2, 4, 0, .null)] (56, [(0, .ref 0), (1, .int x1), (2, .int x2), (3, .int x3), (4, .int x4), (5, .int x5)], [.int x4, .ref 1], I3, G3, (gP rd)) (True) hX hi (by decide +kernel) rfl trivial ?_
    obtain ⟨r4, I4, G4, hc, h⟩ := rb_some h
    refine am_callV hX hi (M := mX9_append) (idx := 67) (d' := 1) (b := 1) (ci := 7) (As := [.int x4]) (rest := []) mkX9_append miX9_append mvX9_append (by decide +kernel) (by decide +kernel) rfl (by decide +kernel) rfl ⟨by omega, by decide, Nat.le_of_ble_eq_true rfl⟩ rfl (c_X9_append_1 _ I3 G3 x4 hc) ?_
    rintro r9 I9 G9 P9 ⟨e0, e1, e2, e3⟩
    rw [e0, e1, e2, e3]
    show am_V X 0 0 _ _ ad (59, [(0, .ref 0), (1, .int x1), (2, .int x2), (3, .int x3), (4, .int x4), (5, .int x5)], [], I4, G4, (gP rd))
    refine am_blk 59 [(.aload_n 0, 1, 0, 0, .null), (.getfield 20, 3, 9, 0, .null), (.iload 5, 2, 5, 0, .null)] (65, [(0, .ref 0), (1, .int x1), (2, .int x2), (3, .int x3), (4, .int x4), (5, .int x5)], [.int x5, .ref 1], I4, G4, (gP rd)) (True) hX hi (by decide +kernel) rfl trivial ?_
    obtain ⟨r5, I5, G5, hc, h⟩ := rb_some h
    refine am_callV hX hi (M := mX9_append) (idx := 67) (d' := 1) (b := 1) (ci := 7) (As := [.int x5]) (rest := []) mkX9_append miX9_append mvX9_append (by decide +kernel) (by decide +kernel) rfl (by decide +kernel) rfl ⟨by omega, by decide, Nat.le_of_ble_eq_true rfl⟩ rfl (c_X9_append_1 _ I4 G4 x5 hc) ?_
    rintro r9 I9 G9 P9 ⟨e0, e1, e2, e3⟩
    rw [e0, e1, e2, e3]
    show am_V X 0 0 _ _ ad (68, [(0, .ref 0), (1, .int x1), (2, .int x2), (3, .int x3), (4, .int x4), (5, .int x5)], [], I5, G5, (gP rd))
    refine am_blk 68 [(.aload_n 0, 1, 0, 0, .null), (.getfield 20, 3, 9, 0, .null), (.getfield 57, 3, 7, 5, .null)] (75, [(0, .ref 0), (1, .int x1), (2, .int x2), (3, .int x3), (4, .int x4), (5, .int x5)], [.int (I5 1 5)], I5, G5, (gP rd)) (True) hX hi (by decide +kernel) rfl trivial ?_
    cases h
    refine am_toX (am_iret hX hi rfl rfl (by decide +kernel) ?_)
    exact ⟨_, rfl, rfl, rfl, rfl, rfl⟩
  · rw [if_neg c13] at h
    cases h
    exact am_throwX hX hi hx9 (k := 60) (is := 62) (i := 2) rfl am_x60 rfl (by omega) (by decide +kernel) (by decide +kernel) (by decide +kernel) (by decide +kernel) (by decide +kernel) (Nat.le_of_ble_eq_true rfl) ⟨_, rfl, rfl⟩
noncomputable def R_X11_trim_0 (I : am_I) (G : am_G) (x1 : Int32) : Option ((Int32 ⊕ Nat) × am_I × am_G) := (if x1 < 0 then some (.inr 71, I, G) else (if x1 ≤ (I 1 5) then some (.inl x1, (am_up I 1 5 x1), G) else some (.inr 71, I, G)))
set_option maxRecDepth 20000 in
set_option maxHeartbeats 4000000 in
theorem c_X11_trim_0 (rd : Nat) (I : am_I) (G : am_G) (x1 : Int32) {out : (Int32 ⊕ Nat) × am_I × am_G} (h : R_X11_trim_0 I G x1 = some out) : am_CtX mX11_trim 6 gS [.ref 0, .int x1] I G (gP rd) (pe9 out.1) (pn9 out.1 out.2.1 out.2.2 (gP rd)) := by
  refine am_ofX (by decide +kernel) rfl (by decide) (by omega) (Nat.le_of_ble_eq_true rfl) (fun X ad hX hi hx9 => ?_)
  have hi : am_info X 9 cX11_trim 2 false (Option.some Jvm.ClassFile.FieldType.int) 6 := hi
  show am_V X 0 0 _ _ ad (0, [(0, .ref 0), (1, .int x1)], [], I, G, (gP rd))
  unfold R_X11_trim_0 at h
  refine am_blk 0 [(.iload_n 1, 1, 1, 0, .null)] (1, [(0, .ref 0), (1, .int x1)], [.int x1], I, G, (gP rd)) (True) hX hi (by decide +kernel) rfl trivial ?_
  refine am_if_lt (tgt := 15) hX hi (off := (14)) (by decide +kernel) (by decide) (fun c1 => ?_) (fun c1 => ?_)
  · rw [if_pos c1] at h
    cases h
    exact am_throwX hX hi hx9 (k := 71) (is := 73) (i := 3) rfl am_x71 rfl (by omega) (by decide +kernel) (by decide +kernel) (by decide +kernel) (by decide +kernel) (by decide +kernel) (Nat.le_of_ble_eq_true rfl) ⟨_, rfl, rfl⟩
  · rw [if_neg c1] at h
    refine am_blk 4 [(.iload_n 1, 1, 1, 0, .null), (.aload_n 0, 1, 0, 0, .null), (.getfield 20, 3, 9, 0, .null), (.getfield 57, 3, 7, 5, .null)] (12, [(0, .ref 0), (1, .int x1)], [.int (I 1 5), .int x1], I, G, (gP rd)) (True) hX hi (by decide +kernel) rfl trivial ?_
    refine am_icmp_le (tgt := 25) hX hi (off := (13)) (by decide +kernel) (by decide) (fun c12 => ?_) (fun c12 => ?_)
    · rw [if_pos c12] at h
      refine am_blk 25 [(.aload_n 0, 1, 0, 0, .null), (.getfield 20, 3, 9, 0, .null), (.iload_n 1, 1, 1, 0, .null), (.putfield 57, 3, 7, 5, .null), (.iload_n 1, 1, 1, 0, .null)] (34, [(0, .ref 0), (1, .int x1)], [.int x1], (am_up I 1 5 x1), G, (gP rd)) (True) hX hi (by decide +kernel) rfl trivial ?_
      cases h
      refine am_toX (am_iret hX hi rfl rfl (by decide +kernel) ?_)
      exact ⟨_, rfl, rfl, rfl, rfl, rfl⟩
    · rw [if_neg c12] at h
      cases h
      exact am_throwX hX hi hx9 (k := 71) (is := 73) (i := 3) rfl am_x71 rfl (by omega) (by decide +kernel) (by decide +kernel) (by decide +kernel) (by decide +kernel) (by decide +kernel) (Nat.le_of_ble_eq_true rfl) ⟨_, rfl, rfl⟩
noncomputable def R_X11_count_0 (I : am_I) (G : am_G) (x1 : Int32) : Option ((Int32 ⊕ Nat) × am_I × am_G) := (if x1 < 0 then some (.inr 93, I, G) else (if x1 ≤ (14 : Int32) then (if x1 < (7 : Int32) then (if x1 = (14 : Int32) then some (.inl (I 1 5), I, G) else rb (R_X7_tell_53 I G x1) (fun r1 I1 G1 => some (.inl r1, I1, G1))) else (if (10 : Int32) < x1 then (if x1 = (14 : Int32) then some (.inl (I 1 5), I, G) else rb (R_X7_tell_53 I G x1) (fun r2 I2 G2 => some (.inl r2, I2, G2))) else rb (R_X7_group_53 I G ) (fun r3 I3 G3 => (if x1 = (14 : Int32) then some (.inl (I3 1 5), I3, G3) else rb (R_X7_tell_53 I3 G3 x1) (fun r4 I4 G4 => some (.inl r4, I4, G4)))))) else some (.inr 93, I, G)))
set_option maxRecDepth 20000 in
set_option maxHeartbeats 4000000 in
theorem c_X11_count_0 (rd : Nat) (I : am_I) (G : am_G) (x1 : Int32) {out : (Int32 ⊕ Nat) × am_I × am_G} (h : R_X11_count_0 I G x1 = some out) : am_CtX mX11_count 9 gS [.ref 0, .int x1] I G (gP rd) (pe9 out.1) (pn9 out.1 out.2.1 out.2.2 (gP rd)) := by
  refine am_ofX (by decide +kernel) rfl (by decide) (by omega) (Nat.le_of_ble_eq_true rfl) (fun X ad hX hi hx9 => ?_)
  have hi : am_info X 9 cX11_count 2 false (Option.some Jvm.ClassFile.FieldType.int) 9 := hi
  show am_V X 0 0 _ _ ad (0, [(0, .ref 0), (1, .int x1)], [], I, G, (gP rd))
  unfold R_X11_count_0 at h
  refine am_blk 0 [(.iload_n 1, 1, 1, 0, .null)] (1, [(0, .ref 0), (1, .int x1)], [.int x1], I, G, (gP rd)) (True) hX hi (by decide +kernel) rfl trivial ?_
  refine am_if_lt (tgt := 10) hX hi (off := (9)) (by decide +kernel) (by decide) (fun c1 => ?_) (fun c1 => ?_)
  · rw [if_pos c1] at h
    cases h
    exact am_throwX hX hi hx9 (k := 93) (is := 95) (i := 4) rfl am_x93 rfl (by omega) (by decide +kernel) (by decide +kernel) (by decide +kernel) (by decide +kernel) (by decide +kernel) (Nat.le_of_ble_eq_true rfl) ⟨_, rfl, rfl⟩
  · rw [if_neg c1] at h
    refine am_blk 4 [(.iload_n 1, 1, 1, 0, .null), (.bipush (14), 2, 0, 0, .int (14 : Int32))] (7, [(0, .ref 0), (1, .int x1)], [.int (14 : Int32), .int x1], I, G, (gP rd)) (True) hX hi (by decide +kernel) rfl trivial ?_
    refine am_icmp_le (tgt := 20) hX hi (off := (13)) (by decide +kernel) (by decide) (fun c7 => ?_) (fun c7 => ?_)
    · rw [if_pos c7] at h
      refine am_blk 20 [(.iload_n 1, 1, 1, 0, .null), (.bipush (7), 2, 0, 0, .int (7 : Int32))] (23, [(0, .ref 0), (1, .int x1)], [.int (7 : Int32), .int x1], I, G, (gP rd)) (True) hX hi (by decide +kernel) rfl trivial ?_
      refine am_icmp_lt (tgt := 39) hX hi (off := (16)) (by decide +kernel) (by decide) (fun c23 => ?_) (fun c23 => ?_)
      · rw [if_pos c23] at h
        refine am_blk 39 [(.iload_n 1, 1, 1, 0, .null), (.bipush (14), 2, 0, 0, .int (14 : Int32))] (42, [(0, .ref 0), (1, .int x1)], [.int (14 : Int32), .int x1], I, G, (gP rd)) (True) hX hi (by decide +kernel) rfl trivial ?_
        refine am_icmp_ne (tgt := 55) hX hi (off := (13)) (by decide +kernel) (by decide) (fun c42 => ?_) (fun c42 => ?_)
        · rw [if_neg c42] at h
          refine am_blk 55 [(.aload_n 0, 1, 0, 0, .null), (.getfield 46, 3, 9, 4, .null), (.iload_n 1, 1, 1, 0, .null)] (60, [(0, .ref 0), (1, .int x1)], [.int x1, .ref 53], I, G, (gP rd)) (True) hX hi (by decide +kernel) rfl trivial ?_
          obtain ⟨r1, I1, G1, hc, h⟩ := rb_some h
          refine am_callV hX hi (M := mX7_tell) (idx := 101) (d' := 3) (b := 53) (ci := 5) (As := [.int x1]) (rest := []) mkX7_tell miX7_tell mvX7_tell (by decide +kernel) (by decide +kernel) rfl (by decide +kernel) rfl ⟨by omega, by decide, Nat.le_of_ble_eq_true rfl⟩ rfl (c_X7_tell_53 _ I G x1 hc) ?_
          rintro r9 I9 G9 P9 ⟨e0, e1, e2, e3⟩
          rw [e0, e1, e2, e3]
          show am_V X 0 0 _ _ ad (63, [(0, .ref 0), (1, .int x1)], [.int r1], I1, G1, (gP rd))
          cases h
          refine am_toX (am_iret hX hi rfl rfl (by decide +kernel) ?_)
          exact ⟨_, rfl, rfl, rfl, rfl, rfl⟩
        · rw [if_pos c42] at h
          refine am_blk 45 [(.aload_n 0, 1, 0, 0, .null), (.getfield 20, 3, 9, 0, .null), (.getfield 57, 3, 7, 5, .null), (.goto (11), 3, 0, 63, .null)] (63, [(0, .ref 0), (1, .int x1)], [.int (I 1 5)], I, G, (gP rd)) (True) hX hi (by decide +kernel) rfl trivial ?_
          cases h
          refine am_toX (am_iret hX hi rfl rfl (by decide +kernel) ?_)
          exact ⟨_, rfl, rfl, rfl, rfl, rfl⟩
      · rw [if_neg c23] at h
        refine am_blk 26 [(.iload_n 1, 1, 1, 0, .null), (.bipush (10), 2, 0, 0, .int (10 : Int32))] (29, [(0, .ref 0), (1, .int x1)], [.int (10 : Int32), .int x1], I, G, (gP rd)) (True) hX hi (by decide +kernel) rfl trivial ?_
        refine am_icmp_gt (tgt := 39) hX hi (off := (10)) (by decide +kernel) (by decide) (fun c29 => ?_) (fun c29 => ?_)
        · rw [if_pos c29] at h
          refine am_blk 39 [(.iload_n 1, 1, 1, 0, .null), (.bipush (14), 2, 0, 0, .int (14 : Int32))] (42, [(0, .ref 0), (1, .int x1)], [.int (14 : Int32), .int x1], I, G, (gP rd)) (True) hX hi (by decide +kernel) rfl trivial ?_
          refine am_icmp_ne (tgt := 55) hX hi (off := (13)) (by decide +kernel) (by decide) (fun c42 => ?_) (fun c42 => ?_)
          · rw [if_neg c42] at h
            refine am_blk 55 [(.aload_n 0, 1, 0, 0, .null), (.getfield 46, 3, 9, 4, .null), (.iload_n 1, 1, 1, 0, .null)] (60, [(0, .ref 0), (1, .int x1)], [.int x1, .ref 53], I, G, (gP rd)) (True) hX hi (by decide +kernel) rfl trivial ?_
            obtain ⟨r2, I2, G2, hc, h⟩ := rb_some h
            refine am_callV hX hi (M := mX7_tell) (idx := 101) (d' := 3) (b := 53) (ci := 5) (As := [.int x1]) (rest := []) mkX7_tell miX7_tell mvX7_tell (by decide +kernel) (by decide +kernel) rfl (by decide +kernel) rfl ⟨by omega, by decide, Nat.le_of_ble_eq_true rfl⟩ rfl (c_X7_tell_53 _ I G x1 hc) ?_
            rintro r9 I9 G9 P9 ⟨e0, e1, e2, e3⟩
            rw [e0, e1, e2, e3]
            show am_V X 0 0 _ _ ad (63, [(0, .ref 0), (1, .int x1)], [.int r2], I2, G2, (gP rd))
            cases h
            refine am_toX (am_iret hX hi rfl rfl (by decide +kernel) ?_)
            exact ⟨_, rfl, rfl, rfl, rfl, rfl⟩
          · rw [if_pos c42] at h
            refine am_blk 45 [(.aload_n 0, 1, 0, 0, .null), (.getfield 20, 3, 9, 0, .null), (.getfield 57, 3, 7, 5, .null), (.goto (11), 3, 0, 63, .null)] (63, [(0, .ref 0), (1, .int x1)], [.int (I 1 5)], I, G, (gP rd)) (True) hX hi (by decide +kernel) rfl trivial ?_
            cases h
            refine am_toX (am_iret hX hi rfl rfl (by decide +kernel) ?_)
            exact ⟨_, rfl, rfl, rfl, rfl, rfl⟩
        · rw [if_neg c29] at h
          refine am_blk 32 [(.aload_n 0, 1, 0, 0, .null), (.getfield 46, 3, 9, 4, .null)] (36, [(0, .ref 0), (1, .int x1)], [.ref 53], I, G, (gP rd)) (True) hX hi (by decide +kernel) rfl trivial ?_
          obtain ⟨r3, I3, G3, hc, h⟩ := rb_some h
          refine am_callV hX hi (M := mX7_group) (idx := 98) (d' := 8) (b := 53) (ci := 5) (As := []) (rest := []) mkX7_group miX7_group mvX7_group (by decide +kernel) (by decide +kernel) rfl (by decide +kernel) rfl ⟨by omega, by decide, Nat.le_of_ble_eq_true rfl⟩ rfl (c_X7_group_53 _ I G  hc) ?_
          rintro r9 I9 G9 P9 ⟨e0, e1, e2, e3⟩
          rw [e0, e1, e2, e3]
          show am_V X 0 0 _ _ ad (39, [(0, .ref 0), (1, .int x1)], [], I3, G3, (gP rd))
          refine am_blk 39 [(.iload_n 1, 1, 1, 0, .null), (.bipush (14), 2, 0, 0, .int (14 : Int32))] (42, [(0, .ref 0), (1, .int x1)], [.int (14 : Int32), .int x1], I3, G3, (gP rd)) (True) hX hi (by decide +kernel) rfl trivial ?_
          refine am_icmp_ne (tgt := 55) hX hi (off := (13)) (by decide +kernel) (by decide) (fun c42 => ?_) (fun c42 => ?_)
          · rw [if_neg c42] at h
            refine am_blk 55 [(.aload_n 0, 1, 0, 0, .null), (.getfield 46, 3, 9, 4, .null), (.iload_n 1, 1, 1, 0, .null)] (60, [(0, .ref 0), (1, .int x1)], [.int x1, .ref 53], I3, G3, (gP rd)) (True) hX hi (by decide +kernel) rfl trivial ?_
            obtain ⟨r4, I4, G4, hc, h⟩ := rb_some h
            refine am_callV hX hi (M := mX7_tell) (idx := 101) (d' := 3) (b := 53) (ci := 5) (As := [.int x1]) (rest := []) mkX7_tell miX7_tell mvX7_tell (by decide +kernel) (by decide +kernel) rfl (by decide +kernel) rfl ⟨by omega, by decide, Nat.le_of_ble_eq_true rfl⟩ rfl (c_X7_tell_53 _ I3 G3 x1 hc) ?_
            rintro r9 I9 G9 P9 ⟨e0, e1, e2, e3⟩
            rw [e0, e1, e2, e3]
            show am_V X 0 0 _ _ ad (63, [(0, .ref 0), (1, .int x1)], [.int r4], I4, G4, (gP rd))
            cases h
            refine am_toX (am_iret hX hi rfl rfl (by decide +kernel) ?_)
            exact ⟨_, rfl, rfl, rfl, rfl, rfl⟩
          · rw [if_pos c42] at h
            refine am_blk 45 [(.aload_n 0, 1, 0, 0, .null), (.getfield 20, 3, 9, 0, .null), (.getfield 57, 3, 7, 5, .null), (.goto (11), 3, 0, 63, .null)] (63, [(0, .ref 0), (1, .int x1)], [.int (I3 1 5)], I3, G3, (gP rd)) (True) hX hi (by decide +kernel) rfl trivial ?_
            cases h
            refine am_toX (am_iret hX hi rfl rfl (by decide +kernel) ?_)
            exact ⟨_, rfl, rfl, rfl, rfl, rfl⟩
    · rw [if_neg c7] at h
      cases h
      exact am_throwX hX hi hx9 (k := 93) (is := 95) (i := 4) rfl am_x93 rfl (by omega) (by decide +kernel) (by decide +kernel) (by decide +kernel) (by decide +kernel) (by decide +kernel) (Nat.le_of_ble_eq_true rfl) ⟨_, rfl, rfl⟩
noncomputable def R_X11_share_0 (I : am_I) (G : am_G) (x1 : Int32) : Option ((Int32 ⊕ Nat) × am_I × am_G) := (if x1 < 0 then some (.inr 93, I, G) else (if x1 ≤ (I 7 13) then rb (R_X7_refresh_53 I G ) (fun r1 I1 G1 => some (.inl (gAt (I1 59) 6 x1), I1, G1)) else some (.inr 93, I, G)))
set_option maxRecDepth 20000 in
set_option maxHeartbeats 4000000 in
theorem c_X11_share_0 (rd : Nat) (I : am_I) (G : am_G) (x1 : Int32) {out : (Int32 ⊕ Nat) × am_I × am_G} (h : R_X11_share_0 I G x1 = some out) : am_CtX mX11_share 8 gS [.ref 0, .int x1] I G (gP rd) (pe9 out.1) (pn9 out.1 out.2.1 out.2.2 (gP rd)) := by
  refine am_ofX (by decide +kernel) rfl (by decide) (by omega) (Nat.le_of_ble_eq_true rfl) (fun X ad hX hi hx9 => ?_)
  have hi : am_info X 9 cX11_share 2 false (Option.some Jvm.ClassFile.FieldType.int) 8 := hi
  show am_V X 0 0 _ _ ad (0, [(0, .ref 0), (1, .int x1)], [], I, G, (gP rd))
  unfold R_X11_share_0 at h
  refine am_blk 0 [(.iload_n 1, 1, 1, 0, .null)] (1, [(0, .ref 0), (1, .int x1)], [.int x1], I, G, (gP rd)) (True) hX hi (by decide +kernel) rfl trivial ?_
  refine am_if_lt (tgt := 15) hX hi (off := (14)) (by decide +kernel) (by decide) (fun c1 => ?_) (fun c1 => ?_)
  · rw [if_pos c1] at h
    cases h
    exact am_throwX hX hi hx9 (k := 93) (is := 139) (i := 5) rfl am_x93 rfl (by omega) (by decide +kernel) (by decide +kernel) (by decide +kernel) (by decide +kernel) (by decide +kernel) (Nat.le_of_ble_eq_true rfl) ⟨_, rfl, rfl⟩
  · rw [if_neg c1] at h
    refine am_blk 4 [(.iload_n 1, 1, 1, 0, .null), (.aload_n 0, 1, 0, 0, .null), (.getfield 33, 3, 9, 2, .null), (.getfield 137, 3, 3, 13, .null)] (12, [(0, .ref 0), (1, .int x1)], [.int (I 7 13), .int x1], I, G, (gP rd)) (True) hX hi (by decide +kernel) rfl trivial ?_
    refine am_icmp_le (tgt := 25) hX hi (off := (13)) (by decide +kernel) (by decide) (fun c12 => ?_) (fun c12 => ?_)
    · rw [if_pos c12] at h
      refine am_blk 25 [(.aload_n 0, 1, 0, 0, .null), (.getfield 46, 3, 9, 4, .null)] (29, [(0, .ref 0), (1, .int x1)], [.ref 53], I, G, (gP rd)) (True) hX hi (by decide +kernel) rfl trivial ?_
      obtain ⟨r1, I1, G1, hc, h⟩ := rb_some h
      refine am_callV hX hi (M := mX7_refresh) (idx := 105) (d' := 7) (b := 53) (ci := 5) (As := []) (rest := []) mkX7_refresh miX7_refresh mvX7_refresh (by decide +kernel) (by decide +kernel) rfl (by decide +kernel) rfl ⟨by omega, by decide, Nat.le_of_ble_eq_true rfl⟩ rfl (c_X7_refresh_53 _ I G  hc) ?_
      rintro r9 I9 G9 P9 ⟨e0, e1, e2, e3⟩
      rw [e0, e1, e2, e3]
      show am_V X 0 0 _ _ ad (32, [(0, .ref 0), (1, .int x1)], [], I1, G1, (gP rd))
      refine am_blk 32 [(.aload_n 0, 1, 0, 0, .null), (.getfield 46, 3, 9, 4, .null), (.getfield 141, 3, 5, 7, .null), (.iload_n 1, 1, 1, 0, .null)] (40, [(0, .ref 0), (1, .int x1)], [.int x1, .ref 59], I1, G1, (gP rd)) (True) hX hi (by decide +kernel) rfl trivial ?_
      refine am_callS hX hi (M := mX0_at) (idx := 116) (d' := 1) (As := [.ref 59, .int x1]) (rest := []) mkX0_at msX0_at (by decide +kernel) (by decide +kernel) rfl ⟨by omega, by decide, Nat.le_of_ble_eq_true rfl⟩ rfl (c_at rfl (by decide) x1) ?_
      rintro r9 I9 G9 P9 ⟨e0, e1, e2, e3⟩
      rw [e0, e1, e2, e3]
      show am_V X 0 0 _ _ ad (43, [(0, .ref 0), (1, .int x1)], [.int (gAt (I1 59) 6 x1)], I1, G1, (gP rd))
      cases h
      refine am_toX (am_iret hX hi rfl rfl (by decide +kernel) ?_)
      exact ⟨_, rfl, rfl, rfl, rfl, rfl⟩
    · rw [if_neg c12] at h
      cases h
      exact am_throwX hX hi hx9 (k := 93) (is := 139) (i := 5) rfl am_x93 rfl (by omega) (by decide +kernel) (by decide +kernel) (by decide +kernel) (by decide +kernel) (by decide +kernel) (Nat.le_of_ble_eq_true rfl) ⟨_, rfl, rfl⟩
noncomputable def R_X11_octave_0 (I : am_I) (G : am_G) (x1 : Int32) (x2 : Int32) : Option ((Int32 ⊕ Nat) × am_I × am_G) := (if x1 < 0 then some (.inr 93, I, G) else (if (I 7 11) ≤ x1 then some (.inr 93, I, G) else (if x2 < 0 then some (.inr 93, I, G) else (if x2 ≤ (3 : Int32) then some (.inl (f_X7_tellOctave_53 I G x1 x2), I, G) else some (.inr 93, I, G)))))
set_option maxRecDepth 20000 in
set_option maxHeartbeats 4000000 in
theorem c_X11_octave_0 (rd : Nat) (I : am_I) (G : am_G) (x1 : Int32) (x2 : Int32) {out : (Int32 ⊕ Nat) × am_I × am_G} (h : R_X11_octave_0 I G x1 x2 = some out) : am_CtX mX11_octave 6 gS [.ref 0, .int x1, .int x2] I G (gP rd) (pe9 out.1) (pn9 out.1 out.2.1 out.2.2 (gP rd)) := by
  refine am_ofX (by decide +kernel) rfl (by decide) (by omega) (Nat.le_of_ble_eq_true rfl) (fun X ad hX hi hx9 => ?_)
  have hi : am_info X 9 cX11_octave 3 false (Option.some Jvm.ClassFile.FieldType.int) 6 := hi
  show am_V X 0 0 _ _ ad (0, [(0, .ref 0), (1, .int x1), (2, .int x2)], [], I, G, (gP rd))
  unfold R_X11_octave_0 at h
  refine am_blk 0 [(.iload_n 1, 1, 1, 0, .null)] (1, [(0, .ref 0), (1, .int x1), (2, .int x2)], [.int x1], I, G, (gP rd)) (True) hX hi (by decide +kernel) rfl trivial ?_
  refine am_if_lt (tgt := 24) hX hi (off := (23)) (by decide +kernel) (by decide) (fun c1 => ?_) (fun c1 => ?_)
  · rw [if_pos c1] at h
    cases h
    exact am_throwX hX hi hx9 (k := 93) (is := 147) (i := 6) rfl am_x93 rfl (by omega) (by decide +kernel) (by decide +kernel) (by decide +kernel) (by decide +kernel) (by decide +kernel) (Nat.le_of_ble_eq_true rfl) ⟨_, rfl, rfl⟩
  · rw [if_neg c1] at h
    refine am_blk 4 [(.iload_n 1, 1, 1, 0, .null), (.aload_n 0, 1, 0, 0, .null), (.getfield 33, 3, 9, 2, .null), (.getfield 144, 3, 3, 11, .null)] (12, [(0, .ref 0), (1, .int x1), (2, .int x2)], [.int (I 7 11), .int x1], I, G, (gP rd)) (True) hX hi (by decide +kernel) rfl trivial ?_
    refine am_icmp_ge (tgt := 24) hX hi (off := (12)) (by decide +kernel) (by decide) (fun c12 => ?_) (fun c12 => ?_)
    · rw [if_pos c12] at h
      cases h
      exact am_throwX hX hi hx9 (k := 93) (is := 147) (i := 6) rfl am_x93 rfl (by omega) (by decide +kernel) (by decide +kernel) (by decide +kernel) (by decide +kernel) (by decide +kernel) (Nat.le_of_ble_eq_true rfl) ⟨_, rfl, rfl⟩
    · rw [if_neg c12] at h
      refine am_blk 15 [(.iload_n 2, 1, 2, 0, .null)] (16, [(0, .ref 0), (1, .int x1), (2, .int x2)], [.int x2], I, G, (gP rd)) (True) hX hi (by decide +kernel) rfl trivial ?_
      refine am_if_lt (tgt := 24) hX hi (off := (8)) (by decide +kernel) (by decide) (fun c16 => ?_) (fun c16 => ?_)
      · rw [if_pos c16] at h
        cases h
        exact am_throwX hX hi hx9 (k := 93) (is := 147) (i := 6) rfl am_x93 rfl (by omega) (by decide +kernel) (by decide +kernel) (by decide +kernel) (by decide +kernel) (by decide +kernel) (Nat.le_of_ble_eq_true rfl) ⟨_, rfl, rfl⟩
      · rw [if_neg c16] at h
        refine am_blk 19 [(.iload_n 2, 1, 2, 0, .null), (.iconst (3), 1, 0, 0, .int (3 : Int32))] (21, [(0, .ref 0), (1, .int x1), (2, .int x2)], [.int (3 : Int32), .int x2], I, G, (gP rd)) (True) hX hi (by decide +kernel) rfl trivial ?_
        refine am_icmp_le (tgt := 34) hX hi (off := (13)) (by decide +kernel) (by decide) (fun c21 => ?_) (fun c21 => ?_)
        · rw [if_pos c21] at h
          refine am_blk 34 [(.aload_n 0, 1, 0, 0, .null), (.getfield 46, 3, 9, 4, .null), (.iload_n 1, 1, 1, 0, .null), (.iload_n 2, 1, 2, 0, .null)] (40, [(0, .ref 0), (1, .int x1), (2, .int x2)], [.int x2, .int x1, .ref 53], I, G, (gP rd)) (True) hX hi (by decide +kernel) rfl trivial ?_
          refine am_callV hX hi (M := mX7_tellOctave) (idx := 149) (d' := 2) (b := 53) (ci := 5) (As := [.int x1, .int x2]) (rest := []) mkX7_tellOctave miX7_tellOctave mvX7_tellOctave (by decide +kernel) (by decide +kernel) rfl (by decide +kernel) rfl ⟨by omega, by decide, Nat.le_of_ble_eq_true rfl⟩ rfl (c_X7_tellOctave_53 _ I G x1 x2) ?_
          rintro r9 I9 G9 P9 ⟨e0, e1, e2, e3⟩
          rw [e0, e1, e2, e3]
          show am_V X 0 0 _ _ ad (43, [(0, .ref 0), (1, .int x1), (2, .int x2)], [.int (f_X7_tellOctave_53 I G x1 x2)], I, G, (gP rd))
          cases h
          refine am_toX (am_iret hX hi rfl rfl (by decide +kernel) ?_)
          exact ⟨_, rfl, rfl, rfl, rfl, rfl⟩
        · rw [if_neg c21] at h
          cases h
          exact am_throwX hX hi hx9 (k := 93) (is := 147) (i := 6) rfl am_x93 rfl (by omega) (by decide +kernel) (by decide +kernel) (by decide +kernel) (by decide +kernel) (by decide +kernel) (Nat.le_of_ble_eq_true rfl) ⟨_, rfl, rfl⟩
noncomputable def R_X11_gradient_0 (I : am_I) (G : am_G) (x1 : Int32) (x2 : Int32) (x3 : Int32) : Option ((Int32 ⊕ Nat) × am_I × am_G) := (if x1 < 0 then some (.inr 93, I, G) else (if x1 < (I 7 11) then (if x2 < 0 then some (.inr 93, I, G) else (if (8 : Int32) < x2 then some (.inr 93, I, G) else (if x3 < 0 then some (.inr 93, I, G) else (if x3 ≤ (8 : Int32) then some (.inl (f_X10_gradientAt_25 I G x1 (gAt (I 56) 4 x1) x2 x3), I, G) else some (.inr 93, I, G))))) else some (.inr 93, I, G)))
set_option maxRecDepth 20000 in
set_option maxHeartbeats 4000000 in
theorem c_X11_gradient_0 (rd : Nat) (I : am_I) (G : am_G) (x1 : Int32) (x2 : Int32) (x3 : Int32) {out : (Int32 ⊕ Nat) × am_I × am_G} (h : R_X11_gradient_0 I G x1 x2 x3 = some out) : am_CtX mX11_gradient 6 gS [.ref 0, .int x1, .int x2, .int x3] I G (gP rd) (pe9 out.1) (pn9 out.1 out.2.1 out.2.2 (gP rd)) := by
  refine am_ofX (by decide +kernel) rfl (by decide) (by omega) (Nat.le_of_ble_eq_true rfl) (fun X ad hX hi hx9 => ?_)
  have hi : am_info X 9 cX11_gradient 4 false (Option.some Jvm.ClassFile.FieldType.int) 6 := hi
  show am_V X 0 0 _ _ ad (0, [(0, .ref 0), (1, .int x1), (2, .int x2), (3, .int x3)], [], I, G, (gP rd))
  unfold R_X11_gradient_0 at h
  refine am_blk 0 [(.iload_n 1, 1, 1, 0, .null)] (1, [(0, .ref 0), (1, .int x1), (2, .int x2), (3, .int x3)], [.int x1], I, G, (gP rd)) (True) hX hi (by decide +kernel) rfl trivial ?_
  refine am_if_lt (tgt := 15) hX hi (off := (14)) (by decide +kernel) (by decide) (fun c1 => ?_) (fun c1 => ?_)
  · rw [if_pos c1] at h
    cases h
    exact am_throwX hX hi hx9 (k := 93) (is := 152) (i := 7) rfl am_x93 rfl (by omega) (by decide +kernel) (by decide +kernel) (by decide +kernel) (by decide +kernel) (by decide +kernel) (Nat.le_of_ble_eq_true rfl) ⟨_, rfl, rfl⟩
  · rw [if_neg c1] at h
    refine am_blk 4 [(.iload_n 1, 1, 1, 0, .null), (.aload_n 0, 1, 0, 0, .null), (.getfield 33, 3, 9, 2, .null), (.getfield 144, 3, 3, 11, .null)] (12, [(0, .ref 0), (1, .int x1), (2, .int x2), (3, .int x3)], [.int (I 7 11), .int x1], I, G, (gP rd)) (True) hX hi (by decide +kernel) rfl trivial ?_
    refine am_icmp_lt (tgt := 25) hX hi (off := (13)) (by decide +kernel) (by decide) (fun c12 => ?_) (fun c12 => ?_)
    · rw [if_pos c12] at h
      refine am_blk 25 [(.iload_n 2, 1, 2, 0, .null)] (26, [(0, .ref 0), (1, .int x1), (2, .int x2), (3, .int x3)], [.int x2], I, G, (gP rd)) (True) hX hi (by decide +kernel) rfl trivial ?_
      refine am_if_lt (tgt := 45) hX hi (off := (19)) (by decide +kernel) (by decide) (fun c26 => ?_) (fun c26 => ?_)
      · rw [if_pos c26] at h
        cases h
        exact am_throwX hX hi hx9 (k := 93) (is := 154) (i := 8) rfl am_x93 rfl (by omega) (by decide +kernel) (by decide +kernel) (by decide +kernel) (by decide +kernel) (by decide +kernel) (Nat.le_of_ble_eq_true rfl) ⟨_, rfl, rfl⟩
      · rw [if_neg c26] at h
        refine am_blk 29 [(.iload_n 2, 1, 2, 0, .null), (.bipush (8), 2, 0, 0, .int (8 : Int32))] (32, [(0, .ref 0), (1, .int x1), (2, .int x2), (3, .int x3)], [.int (8 : Int32), .int x2], I, G, (gP rd)) (True) hX hi (by decide +kernel) rfl trivial ?_
        refine am_icmp_gt (tgt := 45) hX hi (off := (13)) (by decide +kernel) (by decide) (fun c32 => ?_) (fun c32 => ?_)
        · rw [if_pos c32] at h
          cases h
          exact am_throwX hX hi hx9 (k := 93) (is := 154) (i := 8) rfl am_x93 rfl (by omega) (by decide +kernel) (by decide +kernel) (by decide +kernel) (by decide +kernel) (by decide +kernel) (Nat.le_of_ble_eq_true rfl) ⟨_, rfl, rfl⟩
        · rw [if_neg c32] at h
          refine am_blk 35 [(.iload_n 3, 1, 3, 0, .null)] (36, [(0, .ref 0), (1, .int x1), (2, .int x2), (3, .int x3)], [.int x3], I, G, (gP rd)) (True) hX hi (by decide +kernel) rfl trivial ?_
          refine am_if_lt (tgt := 45) hX hi (off := (9)) (by decide +kernel) (by decide) (fun c36 => ?_) (fun c36 => ?_)
          · rw [if_pos c36] at h
            cases h
            exact am_throwX hX hi hx9 (k := 93) (is := 154) (i := 8) rfl am_x93 rfl (by omega) (by decide +kernel) (by decide +kernel) (by decide +kernel) (by decide +kernel) (by decide +kernel) (Nat.le_of_ble_eq_true rfl) ⟨_, rfl, rfl⟩
          · rw [if_neg c36] at h
            refine am_blk 39 [(.iload_n 3, 1, 3, 0, .null), (.bipush (8), 2, 0, 0, .int (8 : Int32))] (42, [(0, .ref 0), (1, .int x1), (2, .int x2), (3, .int x3)], [.int (8 : Int32), .int x3], I, G, (gP rd)) (True) hX hi (by decide +kernel) rfl trivial ?_
            refine am_icmp_le (tgt := 55) hX hi (off := (13)) (by decide +kernel) (by decide) (fun c42 => ?_) (fun c42 => ?_)
            · rw [if_pos c42] at h
              refine am_blk 55 [(.aload_n 0, 1, 0, 0, .null), (.getfield 37, 3, 9, 3, .null), (.iload_n 1, 1, 1, 0, .null), (.aload_n 0, 1, 0, 0, .null), (.getfield 46, 3, 9, 4, .null), (.getfield 156, 3, 5, 4, .null), (.iload_n 1, 1, 1, 0, .null)] (68, [(0, .ref 0), (1, .int x1), (2, .int x2), (3, .int x3)], [.int x1, .ref 56, .int x1, .ref 25], I, G, (gP rd)) (True) hX hi (by decide +kernel) rfl trivial ?_
              refine am_callS hX hi (M := mX0_at) (idx := 116) (d' := 1) (As := [.ref 56, .int x1]) (rest := [.int x1, .ref 25]) mkX0_at msX0_at (by decide +kernel) (by decide +kernel) rfl ⟨by omega, by decide, Nat.le_of_ble_eq_true rfl⟩ rfl (c_at rfl (by decide) x1) ?_
              rintro r9 I9 G9 P9 ⟨e0, e1, e2, e3⟩
              rw [e0, e1, e2, e3]
              show am_V X 0 0 _ _ ad (71, [(0, .ref 0), (1, .int x1), (2, .int x2), (3, .int x3)], [.int (gAt (I 56) 4 x1), .int x1, .ref 25], I, G, (gP rd))
              refine am_blk 71 [(.iload_n 2, 1, 2, 0, .null), (.iload_n 3, 1, 3, 0, .null)] (73, [(0, .ref 0), (1, .int x1), (2, .int x2), (3, .int x3)], [.int x3, .int x2, .int (gAt (I 56) 4 x1), .int x1, .ref 25], I, G, (gP rd)) (True) hX hi (by decide +kernel) rfl trivial ?_
              refine am_callV hX hi (M := mX10_gradientAt) (idx := 159) (d' := 3) (b := 25) (ci := 8) (As := [.int x1, .int (gAt (I 56) 4 x1), .int x2, .int x3]) (rest := []) mkX10_gradientAt miX10_gradientAt mvX10_gradientAt (by decide +kernel) (by decide +kernel) rfl (by decide +kernel) rfl ⟨by omega, by decide, Nat.le_of_ble_eq_true rfl⟩ rfl (c_X10_gradientAt_25 _ I G x1 (gAt (I 56) 4 x1) x2 x3) ?_
              rintro r9 I9 G9 P9 ⟨e0, e1, e2, e3⟩
              rw [e0, e1, e2, e3]
              show am_V X 0 0 _ _ ad (76, [(0, .ref 0), (1, .int x1), (2, .int x2), (3, .int x3)], [.int (f_X10_gradientAt_25 I G x1 (gAt (I 56) 4 x1) x2 x3)], I, G, (gP rd))
              cases h
              refine am_toX (am_iret hX hi rfl rfl (by decide +kernel) ?_)
              exact ⟨_, rfl, rfl, rfl, rfl, rfl⟩
            · rw [if_neg c42] at h
              cases h
              exact am_throwX hX hi hx9 (k := 93) (is := 154) (i := 8) rfl am_x93 rfl (by omega) (by decide +kernel) (by decide +kernel) (by decide +kernel) (by decide +kernel) (by decide +kernel) (Nat.le_of_ble_eq_true rfl) ⟨_, rfl, rfl⟩
    · rw [if_neg c12] at h
      cases h
      exact am_throwX hX hi hx9 (k := 93) (is := 152) (i := 7) rfl am_x93 rfl (by omega) (by decide +kernel) (by decide +kernel) (by decide +kernel) (by decide +kernel) (by decide +kernel) (Nat.le_of_ble_eq_true rfl) ⟨_, rfl, rfl⟩
noncomputable def R_X11_value_0 (I : am_I) (G : am_G) (x1 : Int32) (x2 : Int32) (x3 : Int32) : Option ((Int32 ⊕ Nat) × am_I × am_G) := (if x1 < 0 then some (.inr 93, I, G) else (if x1 < (I 7 11) then some (.inl (f_X10_valueAt_25 I G x1 (gAt (I 56) 4 x1) (gWr x2.toInt64.toInt (I 7 9)) (gWr x3.toInt64.toInt (I 7 10))), I, G) else some (.inr 93, I, G)))
set_option maxRecDepth 20000 in
set_option maxHeartbeats 4000000 in
theorem c_X11_value_0 (rd : Nat) (I : am_I) (G : am_G) (x1 : Int32) (x2 : Int32) (x3 : Int32) {out : (Int32 ⊕ Nat) × am_I × am_G} (h : R_X11_value_0 I G x1 x2 x3 = some out) : am_CtX mX11_value 6 gS [.ref 0, .int x1, .int x2, .int x3] I G (gP rd) (pe9 out.1) (pn9 out.1 out.2.1 out.2.2 (gP rd)) := by
  refine am_ofX (by decide +kernel) rfl (by decide) (by omega) (Nat.le_of_ble_eq_true rfl) (fun X ad hX hi hx9 => ?_)
  have hi : am_info X 9 cX11_value 6 false (Option.some Jvm.ClassFile.FieldType.int) 6 := hi
  show am_V X 0 0 _ _ ad (0, [(0, .ref 0), (1, .int x1), (2, .int x2), (3, .int x3)], [], I, G, (gP rd))
  unfold R_X11_value_0 at h
  refine am_blk 0 [(.iload_n 1, 1, 1, 0, .null)] (1, [(0, .ref 0), (1, .int x1), (2, .int x2), (3, .int x3)], [.int x1], I, G, (gP rd)) (True) hX hi (by decide +kernel) rfl trivial ?_
  refine am_if_lt (tgt := 15) hX hi (off := (14)) (by decide +kernel) (by decide) (fun c1 => ?_) (fun c1 => ?_)
  · rw [if_pos c1] at h
    cases h
    exact am_throwX hX hi hx9 (k := 93) (is := 152) (i := 7) rfl am_x93 rfl (by omega) (by decide +kernel) (by decide +kernel) (by decide +kernel) (by decide +kernel) (by decide +kernel) (Nat.le_of_ble_eq_true rfl) ⟨_, rfl, rfl⟩
  · rw [if_neg c1] at h
    refine am_blk 4 [(.iload_n 1, 1, 1, 0, .null), (.aload_n 0, 1, 0, 0, .null), (.getfield 33, 3, 9, 2, .null), (.getfield 144, 3, 3, 11, .null)] (12, [(0, .ref 0), (1, .int x1), (2, .int x2), (3, .int x3)], [.int (I 7 11), .int x1], I, G, (gP rd)) (True) hX hi (by decide +kernel) rfl trivial ?_
    refine am_icmp_lt (tgt := 25) hX hi (off := (13)) (by decide +kernel) (by decide) (fun c12 => ?_) (fun c12 => ?_)
    · rw [if_pos c12] at h
      refine am_blk 25 [(.iload_n 2, 1, 2, 0, .null), (.i2l, 1, 0, 0, .null), (.aload_n 0, 1, 0, 0, .null), (.getfield 33, 3, 9, 2, .null), (.getfield 163, 3, 3, 9, .null)] (34, [(0, .ref 0), (1, .int x1), (2, .int x2), (3, .int x3)], [.int (I 7 9), .long x2.toInt64], I, G, (gP rd)) (True) hX hi (by decide +kernel) rfl trivial ?_
      refine am_callS hX hi (M := mX0_wrap) (idx := 166) (d' := 2) (As := [.long x2.toInt64, .int (I 7 9)]) (rest := []) mkX0_wrap msX0_wrap (by decide +kernel) (by decide +kernel) rfl ⟨by omega, by decide, Nat.le_of_ble_eq_true rfl⟩ rfl (c_wrap x2.toInt64 (I 7 9)) ?_
      rintro r9 I9 G9 P9 ⟨e0, e1, e2, e3⟩
      rw [e0, e1, e2, e3]
      show am_V X 0 0 _ _ ad (37, [(0, .ref 0), (1, .int x1), (2, .int x2), (3, .int x3)], [.int (gWr x2.toInt64.toInt (I 7 9))], I, G, (gP rd))
      refine am_blk 37 [(.istore 4, 2, 4, 0, .null), (.iload_n 3, 1, 3, 0, .null), (.i2l, 1, 0, 0, .null), (.aload_n 0, 1, 0, 0, .null), (.getfield 33, 3, 9, 2, .null), (.getfield 170, 3, 3, 10, .null)] (48, [(0, .ref 0), (1, .int x1), (2, .int x2), (3, .int x3), (4, .int (gWr x2.toInt64.toInt (I 7 9)))], [.int (I 7 10), .long x3.toInt64], I, G, (gP rd)) (True) hX hi (by decide +kernel) rfl trivial ?_
      refine am_callS hX hi (M := mX0_wrap) (idx := 166) (d' := 2) (As := [.long x3.toInt64, .int (I 7 10)]) (rest := []) mkX0_wrap msX0_wrap (by decide +kernel) (by decide +kernel) rfl ⟨by omega, by decide, Nat.le_of_ble_eq_true rfl⟩ rfl (c_wrap x3.toInt64 (I 7 10)) ?_
      rintro r9 I9 G9 P9 ⟨e0, e1, e2, e3⟩
      rw [e0, e1, e2, e3]
      show am_V X 0 0 _ _ ad (51, [(0, .ref 0), (1, .int x1), (2, .int x2), (3, .int x3), (4, .int (gWr x2.toInt64.toInt (I 7 9)))], [.int (gWr x3.toInt64.toInt (I 7 10))], I, G, (gP rd))
      refine am_blk 51 [(.istore 5, 2, 5, 0, .null), (.aload_n 0, 1, 0, 0, .null), (.getfield 37, 3, 9, 3, .null), (.iload_n 1, 1, 1, 0, .null), (.aload_n 0, 1, 0, 0, .null), (.getfield 46, 3, 9, 4, .null), (.getfield 156, 3, 5, 4, .null), (.iload_n 1, 1, 1, 0, .null)] (66, [(0, .ref 0), (1, .int x1), (2, .int x2), (3, .int x3), (4, .int (gWr x2.toInt64.toInt (I 7 9))), (5, .int (gWr x3.toInt64.toInt (I 7 10)))], [.int x1, .ref 56, .int x1, .ref 25], I, G, (gP rd)) (True) hX hi (by decide +kernel) rfl trivial ?_
      refine am_callS hX hi (M := mX0_at) (idx := 116) (d' := 1) (As := [.ref 56, .int x1]) (rest := [.int x1, .ref 25]) mkX0_at msX0_at (by decide +kernel) (by decide +kernel) rfl ⟨by omega, by decide, Nat.le_of_ble_eq_true rfl⟩ rfl (c_at rfl (by decide) x1) ?_
      rintro r9 I9 G9 P9 ⟨e0, e1, e2, e3⟩
      rw [e0, e1, e2, e3]
      show am_V X 0 0 _ _ ad (69, [(0, .ref 0), (1, .int x1), (2, .int x2), (3, .int x3), (4, .int (gWr x2.toInt64.toInt (I 7 9))), (5, .int (gWr x3.toInt64.toInt (I 7 10)))], [.int (gAt (I 56) 4 x1), .int x1, .ref 25], I, G, (gP rd))
      refine am_blk 69 [(.iload 4, 2, 4, 0, .null), (.iload 5, 2, 5, 0, .null)] (73, [(0, .ref 0), (1, .int x1), (2, .int x2), (3, .int x3), (4, .int (gWr x2.toInt64.toInt (I 7 9))), (5, .int (gWr x3.toInt64.toInt (I 7 10)))], [.int (gWr x3.toInt64.toInt (I 7 10)), .int (gWr x2.toInt64.toInt (I 7 9)), .int (gAt (I 56) 4 x1), .int x1, .ref 25], I, G, (gP rd)) (True) hX hi (by decide +kernel) rfl trivial ?_
      refine am_callV2 hX hi (M := mX10_valueAt) (idx := 173) (d' := 4) (b := 25) (ci := 8) (As := [.int x1, .int (gAt (I 56) 4 x1), .int (gWr x2.toInt64.toInt (I 7 9)), .int (gWr x3.toInt64.toInt (I 7 10))]) (rest := []) mkX10_valueAt miX10_valueAt mvX10_valueAt (by decide +kernel) (by decide +kernel) rfl (by decide +kernel) rfl ⟨by omega, by (show 19 + 14 + 30 * _ ≤ 30 * _; omega), Nat.le_of_ble_eq_true rfl⟩ rfl (c_X10_valueAt_25 _ I G x1 (gAt (I 56) 4 x1) (gWr x2.toInt64.toInt (I 7 9)) (gWr x3.toInt64.toInt (I 7 10))) ?_
      rintro r9 I9 G9 P9 ⟨e0, e1, e2, e3⟩
      rw [e0, e1, e2, e3]
      show am_V X 0 0 _ _ ad (76, [(0, .ref 0), (1, .int x1), (2, .int x2), (3, .int x3), (4, .int (gWr x2.toInt64.toInt (I 7 9))), (5, .int (gWr x3.toInt64.toInt (I 7 10)))], [.int (f_X10_valueAt_25 I G x1 (gAt (I 56) 4 x1) (gWr x2.toInt64.toInt (I 7 9)) (gWr x3.toInt64.toInt (I 7 10)))], I, G, (gP rd))
      cases h
      refine am_toX (am_iret hX hi rfl rfl (by decide +kernel) ?_)
      exact ⟨_, rfl, rfl, rfl, rfl, rfl⟩
    · rw [if_neg c12] at h
      cases h
      exact am_throwX hX hi hx9 (k := 93) (is := 152) (i := 7) rfl am_x93 rfl (by omega) (by decide +kernel) (by decide +kernel) (by decide +kernel) (by decide +kernel) (by decide +kernel) (Nat.le_of_ble_eq_true rfl) ⟨_, rfl, rfl⟩
noncomputable def R_X11_comb_0 (I : am_I) (G : am_G) (x1 : Int32) (x2 : Int32) : Option ((Int32 ⊕ Nat) × am_I × am_G) := (if x1 < 0 then some (.inr 93, I, G) else (if (I 7 12) ≤ x1 then some (.inr 93, I, G) else (if x2 < 0 then some (.inr 93, I, G) else (if x2 ≤ (2 : Int32) then some (.inl (f_X7_tellComb_53 I G x1 x2), I, G) else some (.inr 93, I, G)))))
set_option maxRecDepth 20000 in
set_option maxHeartbeats 4000000 in
theorem c_X11_comb_0 (rd : Nat) (I : am_I) (G : am_G) (x1 : Int32) (x2 : Int32) {out : (Int32 ⊕ Nat) × am_I × am_G} (h : R_X11_comb_0 I G x1 x2 = some out) : am_CtX mX11_comb 6 gS [.ref 0, .int x1, .int x2] I G (gP rd) (pe9 out.1) (pn9 out.1 out.2.1 out.2.2 (gP rd)) := by
  refine am_ofX (by decide +kernel) rfl (by decide) (by omega) (Nat.le_of_ble_eq_true rfl) (fun X ad hX hi hx9 => ?_)
  have hi : am_info X 9 cX11_comb 3 false (Option.some Jvm.ClassFile.FieldType.int) 6 := hi
  show am_V X 0 0 _ _ ad (0, [(0, .ref 0), (1, .int x1), (2, .int x2)], [], I, G, (gP rd))
  unfold R_X11_comb_0 at h
  refine am_blk 0 [(.iload_n 1, 1, 1, 0, .null)] (1, [(0, .ref 0), (1, .int x1), (2, .int x2)], [.int x1], I, G, (gP rd)) (True) hX hi (by decide +kernel) rfl trivial ?_
  refine am_if_lt (tgt := 24) hX hi (off := (23)) (by decide +kernel) (by decide) (fun c1 => ?_) (fun c1 => ?_)
  · rw [if_pos c1] at h
    cases h
    exact am_throwX hX hi hx9 (k := 93) (is := 179) (i := 9) rfl am_x93 rfl (by omega) (by decide +kernel) (by decide +kernel) (by decide +kernel) (by decide +kernel) (by decide +kernel) (Nat.le_of_ble_eq_true rfl) ⟨_, rfl, rfl⟩
  · rw [if_neg c1] at h
    refine am_blk 4 [(.iload_n 1, 1, 1, 0, .null), (.aload_n 0, 1, 0, 0, .null), (.getfield 33, 3, 9, 2, .null), (.getfield 176, 3, 3, 12, .null)] (12, [(0, .ref 0), (1, .int x1), (2, .int x2)], [.int (I 7 12), .int x1], I, G, (gP rd)) (True) hX hi (by decide +kernel) rfl trivial ?_
    refine am_icmp_ge (tgt := 24) hX hi (off := (12)) (by decide +kernel) (by decide) (fun c12 => ?_) (fun c12 => ?_)
    · rw [if_pos c12] at h
      cases h
      exact am_throwX hX hi hx9 (k := 93) (is := 179) (i := 9) rfl am_x93 rfl (by omega) (by decide +kernel) (by decide +kernel) (by decide +kernel) (by decide +kernel) (by decide +kernel) (Nat.le_of_ble_eq_true rfl) ⟨_, rfl, rfl⟩
    · rw [if_neg c12] at h
      refine am_blk 15 [(.iload_n 2, 1, 2, 0, .null)] (16, [(0, .ref 0), (1, .int x1), (2, .int x2)], [.int x2], I, G, (gP rd)) (True) hX hi (by decide +kernel) rfl trivial ?_
      refine am_if_lt (tgt := 24) hX hi (off := (8)) (by decide +kernel) (by decide) (fun c16 => ?_) (fun c16 => ?_)
      · rw [if_pos c16] at h
        cases h
        exact am_throwX hX hi hx9 (k := 93) (is := 179) (i := 9) rfl am_x93 rfl (by omega) (by decide +kernel) (by decide +kernel) (by decide +kernel) (by decide +kernel) (by decide +kernel) (Nat.le_of_ble_eq_true rfl) ⟨_, rfl, rfl⟩
      · rw [if_neg c16] at h
        refine am_blk 19 [(.iload_n 2, 1, 2, 0, .null), (.iconst (2), 1, 0, 0, .int (2 : Int32))] (21, [(0, .ref 0), (1, .int x1), (2, .int x2)], [.int (2 : Int32), .int x2], I, G, (gP rd)) (True) hX hi (by decide +kernel) rfl trivial ?_
        refine am_icmp_le (tgt := 34) hX hi (off := (13)) (by decide +kernel) (by decide) (fun c21 => ?_) (fun c21 => ?_)
        · rw [if_pos c21] at h
          refine am_blk 34 [(.aload_n 0, 1, 0, 0, .null), (.getfield 46, 3, 9, 4, .null), (.iload_n 1, 1, 1, 0, .null), (.iload_n 2, 1, 2, 0, .null)] (40, [(0, .ref 0), (1, .int x1), (2, .int x2)], [.int x2, .int x1, .ref 53], I, G, (gP rd)) (True) hX hi (by decide +kernel) rfl trivial ?_
          refine am_callV hX hi (M := mX7_tellComb) (idx := 181) (d' := 2) (b := 53) (ci := 5) (As := [.int x1, .int x2]) (rest := []) mkX7_tellComb miX7_tellComb mvX7_tellComb (by decide +kernel) (by decide +kernel) rfl (by decide +kernel) rfl ⟨by omega, by decide, Nat.le_of_ble_eq_true rfl⟩ rfl (c_X7_tellComb_53 _ I G x1 x2) ?_
          rintro r9 I9 G9 P9 ⟨e0, e1, e2, e3⟩
          rw [e0, e1, e2, e3]
          show am_V X 0 0 _ _ ad (43, [(0, .ref 0), (1, .int x1), (2, .int x2)], [.int (f_X7_tellComb_53 I G x1 x2)], I, G, (gP rd))
          cases h
          refine am_toX (am_iret hX hi rfl rfl (by decide +kernel) ?_)
          exact ⟨_, rfl, rfl, rfl, rfl, rfl⟩
        · rw [if_neg c21] at h
          cases h
          exact am_throwX hX hi hx9 (k := 93) (is := 179) (i := 9) rfl am_x93 rfl (by omega) (by decide +kernel) (by decide +kernel) (by decide +kernel) (by decide +kernel) (by decide +kernel) (Nat.le_of_ble_eq_true rfl) ⟨_, rfl, rfl⟩
noncomputable def R_X11_moves_0 (I : am_I) (G : am_G) (x1 : Int32) (x2 : Int32) : Option ((Int32 ⊕ Nat) × am_I × am_G) := (if x1 < 0 then some (.inr 93, I, G) else (if x1 < (I 7 12) then some (.inl (f_X7_shiftOf_53 I G x1 (gWr x2.toInt64.toInt (f_X5_linesOf_7 I G x1))), I, G) else some (.inr 93, I, G)))
set_option maxRecDepth 20000 in
set_option maxHeartbeats 4000000 in
theorem c_X11_moves_0 (rd : Nat) (I : am_I) (G : am_G) (x1 : Int32) (x2 : Int32) {out : (Int32 ⊕ Nat) × am_I × am_G} (h : R_X11_moves_0 I G x1 x2 = some out) : am_CtX mX11_moves 6 gS [.ref 0, .int x1, .int x2] I G (gP rd) (pe9 out.1) (pn9 out.1 out.2.1 out.2.2 (gP rd)) := by
  refine am_ofX (by decide +kernel) rfl (by decide) (by omega) (Nat.le_of_ble_eq_true rfl) (fun X ad hX hi hx9 => ?_)
  have hi : am_info X 9 cX11_moves 3 false (Option.some Jvm.ClassFile.FieldType.int) 6 := hi
  show am_V X 0 0 _ _ ad (0, [(0, .ref 0), (1, .int x1), (2, .int x2)], [], I, G, (gP rd))
  unfold R_X11_moves_0 at h
  refine am_blk 0 [(.iload_n 1, 1, 1, 0, .null)] (1, [(0, .ref 0), (1, .int x1), (2, .int x2)], [.int x1], I, G, (gP rd)) (True) hX hi (by decide +kernel) rfl trivial ?_
  refine am_if_lt (tgt := 15) hX hi (off := (14)) (by decide +kernel) (by decide) (fun c1 => ?_) (fun c1 => ?_)
  · rw [if_pos c1] at h
    cases h
    exact am_throwX hX hi hx9 (k := 93) (is := 184) (i := 10) rfl am_x93 rfl (by omega) (by decide +kernel) (by decide +kernel) (by decide +kernel) (by decide +kernel) (by decide +kernel) (Nat.le_of_ble_eq_true rfl) ⟨_, rfl, rfl⟩
  · rw [if_neg c1] at h
    refine am_blk 4 [(.iload_n 1, 1, 1, 0, .null), (.aload_n 0, 1, 0, 0, .null), (.getfield 33, 3, 9, 2, .null), (.getfield 176, 3, 3, 12, .null)] (12, [(0, .ref 0), (1, .int x1), (2, .int x2)], [.int (I 7 12), .int x1], I, G, (gP rd)) (True) hX hi (by decide +kernel) rfl trivial ?_
    refine am_icmp_lt (tgt := 25) hX hi (off := (13)) (by decide +kernel) (by decide) (fun c12 => ?_) (fun c12 => ?_)
    · rw [if_pos c12] at h
      refine am_blk 25 [(.aload_n 0, 1, 0, 0, .null), (.getfield 46, 3, 9, 4, .null), (.iload_n 1, 1, 1, 0, .null), (.iload_n 2, 1, 2, 0, .null), (.i2l, 1, 0, 0, .null), (.aload_n 0, 1, 0, 0, .null), (.getfield 33, 3, 9, 2, .null), (.iload_n 1, 1, 1, 0, .null)] (37, [(0, .ref 0), (1, .int x1), (2, .int x2)], [.int x1, .ref 7, .long x2.toInt64, .int x1, .ref 53], I, G, (gP rd)) (True) hX hi (by decide +kernel) rfl trivial ?_
      refine am_callV hX hi (M := mX5_linesOf) (idx := 186) (d' := 2) (b := 7) (ci := 3) (As := [.int x1]) (rest := [.long x2.toInt64, .int x1, .ref 53]) mkX5_linesOf miX5_linesOf mvX5_linesOf (by decide +kernel) (by decide +kernel) rfl (by decide +kernel) rfl ⟨by omega, by decide, Nat.le_of_ble_eq_true rfl⟩ rfl (c_X5_linesOf_7 _ I G x1) ?_
      rintro r9 I9 G9 P9 ⟨e0, e1, e2, e3⟩
      rw [e0, e1, e2, e3]
      show am_V X 0 0 _ _ ad (40, [(0, .ref 0), (1, .int x1), (2, .int x2)], [.int (f_X5_linesOf_7 I G x1), .long x2.toInt64, .int x1, .ref 53], I, G, (gP rd))
      refine am_callS hX hi (M := mX0_wrap) (idx := 166) (d' := 2) (As := [.long x2.toInt64, .int (f_X5_linesOf_7 I G x1)]) (rest := [.int x1, .ref 53]) mkX0_wrap msX0_wrap (by decide +kernel) (by decide +kernel) rfl ⟨by omega, by decide, Nat.le_of_ble_eq_true rfl⟩ rfl (c_wrap x2.toInt64 (f_X5_linesOf_7 I G x1)) ?_
      rintro r9 I9 G9 P9 ⟨e0, e1, e2, e3⟩
      rw [e0, e1, e2, e3]
      show am_V X 0 0 _ _ ad (43, [(0, .ref 0), (1, .int x1), (2, .int x2)], [.int (gWr x2.toInt64.toInt (f_X5_linesOf_7 I G x1)), .int x1, .ref 53], I, G, (gP rd))
      refine am_callV hX hi (M := mX7_shiftOf) (idx := 189) (d' := 2) (b := 53) (ci := 5) (As := [.int x1, .int (gWr x2.toInt64.toInt (f_X5_linesOf_7 I G x1))]) (rest := []) mkX7_shiftOf miX7_shiftOf mvX7_shiftOf (by decide +kernel) (by decide +kernel) rfl (by decide +kernel) rfl ⟨by omega, by decide, Nat.le_of_ble_eq_true rfl⟩ rfl (c_X7_shiftOf_53 _ I G x1 (gWr x2.toInt64.toInt (f_X5_linesOf_7 I G x1))) ?_
      rintro r9 I9 G9 P9 ⟨e0, e1, e2, e3⟩
      rw [e0, e1, e2, e3]
      show am_V X 0 0 _ _ ad (46, [(0, .ref 0), (1, .int x1), (2, .int x2)], [.int (f_X7_shiftOf_53 I G x1 (gWr x2.toInt64.toInt (f_X5_linesOf_7 I G x1)))], I, G, (gP rd))
      cases h
      refine am_toX (am_iret hX hi rfl rfl (by decide +kernel) ?_)
      exact ⟨_, rfl, rfl, rfl, rfl, rfl⟩
    · rw [if_neg c12] at h
      cases h
      exact am_throwX hX hi hx9 (k := 93) (is := 184) (i := 10) rfl am_x93 rfl (by omega) (by decide +kernel) (by decide +kernel) (by decide +kernel) (by decide +kernel) (by decide +kernel) (Nat.le_of_ble_eq_true rfl) ⟨_, rfl, rfl⟩
noncomputable def R_X11_setPull_0 (I : am_I) (G : am_G) (x1 : Int32) (x2 : Int32) : Option ((Int32 ⊕ Nat) × am_I × am_G) := (if x1 < 0 then some (.inr 93, I, G) else (if x1 < (I 7 12) then (if x2 < 0 then some (.inr 71, I, G) else (if x2 ≤ (16 : Int32) then rb (R_X7_changePull_53 I G x1 x2) (fun r1 I1 G1 => some (.inl (gAt (I 54) 4 x1), I1, G1)) else some (.inr 71, I, G))) else some (.inr 93, I, G)))
set_option maxRecDepth 20000 in
set_option maxHeartbeats 4000000 in
theorem c_X11_setPull_0 (rd : Nat) (I : am_I) (G : am_G) (x1 : Int32) (x2 : Int32) {out : (Int32 ⊕ Nat) × am_I × am_G} (h : R_X11_setPull_0 I G x1 x2 = some out) : am_CtX mX11_setPull 6 gS [.ref 0, .int x1, .int x2] I G (gP rd) (pe9 out.1) (pn9 out.1 out.2.1 out.2.2 (gP rd)) := by
  refine am_ofX (by decide +kernel) rfl (by decide) (by omega) (Nat.le_of_ble_eq_true rfl) (fun X ad hX hi hx9 => ?_)
  have hi : am_info X 9 cX11_setPull 4 false (Option.some Jvm.ClassFile.FieldType.int) 6 := hi
  show am_V X 0 0 _ _ ad (0, [(0, .ref 0), (1, .int x1), (2, .int x2)], [], I, G, (gP rd))
  unfold R_X11_setPull_0 at h
  refine am_blk 0 [(.iload_n 1, 1, 1, 0, .null)] (1, [(0, .ref 0), (1, .int x1), (2, .int x2)], [.int x1], I, G, (gP rd)) (True) hX hi (by decide +kernel) rfl trivial ?_
  refine am_if_lt (tgt := 15) hX hi (off := (14)) (by decide +kernel) (by decide) (fun c1 => ?_) (fun c1 => ?_)
  · rw [if_pos c1] at h
    cases h
    exact am_throwX hX hi hx9 (k := 93) (is := 184) (i := 10) rfl am_x93 rfl (by omega) (by decide +kernel) (by decide +kernel) (by decide +kernel) (by decide +kernel) (by decide +kernel) (Nat.le_of_ble_eq_true rfl) ⟨_, rfl, rfl⟩
  · rw [if_neg c1] at h
    refine am_blk 4 [(.iload_n 1, 1, 1, 0, .null), (.aload_n 0, 1, 0, 0, .null), (.getfield 33, 3, 9, 2, .null), (.getfield 176, 3, 3, 12, .null)] (12, [(0, .ref 0), (1, .int x1), (2, .int x2)], [.int (I 7 12), .int x1], I, G, (gP rd)) (True) hX hi (by decide +kernel) rfl trivial ?_
    refine am_icmp_lt (tgt := 25) hX hi (off := (13)) (by decide +kernel) (by decide) (fun c12 => ?_) (fun c12 => ?_)
    · rw [if_pos c12] at h
      refine am_blk 25 [(.iload_n 2, 1, 2, 0, .null)] (26, [(0, .ref 0), (1, .int x1), (2, .int x2)], [.int x2], I, G, (gP rd)) (True) hX hi (by decide +kernel) rfl trivial ?_
      refine am_if_lt (tgt := 35) hX hi (off := (9)) (by decide +kernel) (by decide) (fun c26 => ?_) (fun c26 => ?_)
      · rw [if_pos c26] at h
        cases h
        exact am_throwX hX hi hx9 (k := 71) (is := 192) (i := 11) rfl am_x71 rfl (by omega) (by decide +kernel) (by decide +kernel) (by decide +kernel) (by decide +kernel) (by decide +kernel) (Nat.le_of_ble_eq_true rfl) ⟨_, rfl, rfl⟩
      · rw [if_neg c26] at h
        refine am_blk 29 [(.iload_n 2, 1, 2, 0, .null), (.bipush (16), 2, 0, 0, .int (16 : Int32))] (32, [(0, .ref 0), (1, .int x1), (2, .int x2)], [.int (16 : Int32), .int x2], I, G, (gP rd)) (True) hX hi (by decide +kernel) rfl trivial ?_
        refine am_icmp_le (tgt := 45) hX hi (off := (13)) (by decide +kernel) (by decide) (fun c32 => ?_) (fun c32 => ?_)
        · rw [if_pos c32] at h
          refine am_blk 45 [(.aload_n 0, 1, 0, 0, .null), (.getfield 46, 3, 9, 4, .null), (.getfield 194, 3, 5, 2, .null), (.iload_n 1, 1, 1, 0, .null)] (53, [(0, .ref 0), (1, .int x1), (2, .int x2)], [.int x1, .ref 54], I, G, (gP rd)) (True) hX hi (by decide +kernel) rfl trivial ?_
          refine am_callS hX hi (M := mX0_at) (idx := 116) (d' := 1) (As := [.ref 54, .int x1]) (rest := []) mkX0_at msX0_at (by decide +kernel) (by decide +kernel) rfl ⟨by omega, by decide, Nat.le_of_ble_eq_true rfl⟩ rfl (c_at rfl (by decide) x1) ?_
          rintro r9 I9 G9 P9 ⟨e0, e1, e2, e3⟩
          rw [e0, e1, e2, e3]
          show am_V X 0 0 _ _ ad (56, [(0, .ref 0), (1, .int x1), (2, .int x2)], [.int (gAt (I 54) 4 x1)], I, G, (gP rd))
          refine am_blk 56 [(.istore_n 3, 1, 3, 0, .null), (.aload_n 0, 1, 0, 0, .null), (.getfield 46, 3, 9, 4, .null), (.iload_n 1, 1, 1, 0, .null), (.iload_n 2, 1, 2, 0, .null)] (63, [(0, .ref 0), (1, .int x1), (2, .int x2), (3, .int (gAt (I 54) 4 x1))], [.int x2, .int x1, .ref 53], I, G, (gP rd)) (True) hX hi (by decide +kernel) rfl trivial ?_
          obtain ⟨r1, I1, G1, hc, h⟩ := rb_some h
          refine am_callV hX hi (M := mX7_changePull) (idx := 197) (d' := 4) (b := 53) (ci := 5) (As := [.int x1, .int x2]) (rest := []) mkX7_changePull miX7_changePull mvX7_changePull (by decide +kernel) (by decide +kernel) rfl (by decide +kernel) rfl ⟨by omega, by decide, Nat.le_of_ble_eq_true rfl⟩ rfl (c_X7_changePull_53 _ I G x1 x2 hc) ?_
          rintro r9 I9 G9 P9 ⟨e0, e1, e2, e3⟩
          rw [e0, e1, e2, e3]
          show am_V X 0 0 _ _ ad (66, [(0, .ref 0), (1, .int x1), (2, .int x2), (3, .int (gAt (I 54) 4 x1))], [.int r1], I1, G1, (gP rd))
          refine am_blk 66 [(.pop, 1, 0, 0, .null), (.iload_n 3, 1, 3, 0, .null)] (68, [(0, .ref 0), (1, .int x1), (2, .int x2), (3, .int (gAt (I 54) 4 x1))], [.int (gAt (I 54) 4 x1)], I1, G1, (gP rd)) (True) hX hi (by decide +kernel) rfl trivial ?_
          cases h
          refine am_toX (am_iret hX hi rfl rfl (by decide +kernel) ?_)
          exact ⟨_, rfl, rfl, rfl, rfl, rfl⟩
        · rw [if_neg c32] at h
          cases h
          exact am_throwX hX hi hx9 (k := 71) (is := 192) (i := 11) rfl am_x71 rfl (by omega) (by decide +kernel) (by decide +kernel) (by decide +kernel) (by decide +kernel) (by decide +kernel) (Nat.le_of_ble_eq_true rfl) ⟨_, rfl, rfl⟩
    · rw [if_neg c12] at h
      cases h
      exact am_throwX hX hi hx9 (k := 93) (is := 184) (i := 10) rfl am_x93 rfl (by omega) (by decide +kernel) (by decide +kernel) (by decide +kernel) (by decide +kernel) (by decide +kernel) (Nat.le_of_ble_eq_true rfl) ⟨_, rfl, rfl⟩
noncomputable def R_X11_setSeed_0 (I : am_I) (G : am_G) (x1 : Int32) (x2 : Int32) : Option ((Int32 ⊕ Nat) × am_I × am_G) := (if x1 < 0 then some (.inr 93, I, G) else (if x1 < (I 7 11) then (if x2 < 0 then some (.inr 71, I, G) else (if x2 ≤ (999 : Int32) then some (.inl (gAt (I 56) 4 x1), (g_X7_changeSeed_53 I G x1 x2), G) else some (.inr 71, I, G))) else some (.inr 93, I, G)))
set_option maxRecDepth 20000 in
set_option maxHeartbeats 4000000 in
theorem c_X11_setSeed_0 (rd : Nat) (I : am_I) (G : am_G) (x1 : Int32) (x2 : Int32) {out : (Int32 ⊕ Nat) × am_I × am_G} (h : R_X11_setSeed_0 I G x1 x2 = some out) : am_CtX mX11_setSeed 6 gS [.ref 0, .int x1, .int x2] I G (gP rd) (pe9 out.1) (pn9 out.1 out.2.1 out.2.2 (gP rd)) := by
  refine am_ofX (by decide +kernel) rfl (by decide) (by omega) (Nat.le_of_ble_eq_true rfl) (fun X ad hX hi hx9 => ?_)
  have hi : am_info X 9 cX11_setSeed 4 false (Option.some Jvm.ClassFile.FieldType.int) 6 := hi
  show am_V X 0 0 _ _ ad (0, [(0, .ref 0), (1, .int x1), (2, .int x2)], [], I, G, (gP rd))
  unfold R_X11_setSeed_0 at h
  refine am_blk 0 [(.iload_n 1, 1, 1, 0, .null)] (1, [(0, .ref 0), (1, .int x1), (2, .int x2)], [.int x1], I, G, (gP rd)) (True) hX hi (by decide +kernel) rfl trivial ?_
  refine am_if_lt (tgt := 15) hX hi (off := (14)) (by decide +kernel) (by decide) (fun c1 => ?_) (fun c1 => ?_)
  · rw [if_pos c1] at h
    cases h
    exact am_throwX hX hi hx9 (k := 93) (is := 152) (i := 7) rfl am_x93 rfl (by omega) (by decide +kernel) (by decide +kernel) (by decide +kernel) (by decide +kernel) (by decide +kernel) (Nat.le_of_ble_eq_true rfl) ⟨_, rfl, rfl⟩
  · rw [if_neg c1] at h
    refine am_blk 4 [(.iload_n 1, 1, 1, 0, .null), (.aload_n 0, 1, 0, 0, .null), (.getfield 33, 3, 9, 2, .null), (.getfield 144, 3, 3, 11, .null)] (12, [(0, .ref 0), (1, .int x1), (2, .int x2)], [.int (I 7 11), .int x1], I, G, (gP rd)) (True) hX hi (by decide +kernel) rfl trivial ?_
    refine am_icmp_lt (tgt := 25) hX hi (off := (13)) (by decide +kernel) (by decide) (fun c12 => ?_) (fun c12 => ?_)
    · rw [if_pos c12] at h
      refine am_blk 25 [(.iload_n 2, 1, 2, 0, .null)] (26, [(0, .ref 0), (1, .int x1), (2, .int x2)], [.int x2], I, G, (gP rd)) (True) hX hi (by decide +kernel) rfl trivial ?_
      refine am_if_lt (tgt := 36) hX hi (off := (10)) (by decide +kernel) (by decide) (fun c26 => ?_) (fun c26 => ?_)
      · rw [if_pos c26] at h
        cases h
        exact am_throwX hX hi hx9 (k := 71) (is := 201) (i := 12) rfl am_x71 rfl (by omega) (by decide +kernel) (by decide +kernel) (by decide +kernel) (by decide +kernel) (by decide +kernel) (Nat.le_of_ble_eq_true rfl) ⟨_, rfl, rfl⟩
      · rw [if_neg c26] at h
        refine am_blk 29 [(.iload_n 2, 1, 2, 0, .null), (.sipush (999), 3, 0, 0, .int (999 : Int32))] (33, [(0, .ref 0), (1, .int x1), (2, .int x2)], [.int (999 : Int32), .int x2], I, G, (gP rd)) (True) hX hi (by decide +kernel) rfl trivial ?_
        refine am_icmp_le (tgt := 46) hX hi (off := (13)) (by decide +kernel) (by decide) (fun c33 => ?_) (fun c33 => ?_)
        · rw [if_pos c33] at h
          refine am_blk 46 [(.aload_n 0, 1, 0, 0, .null), (.getfield 46, 3, 9, 4, .null), (.getfield 156, 3, 5, 4, .null), (.iload_n 1, 1, 1, 0, .null)] (54, [(0, .ref 0), (1, .int x1), (2, .int x2)], [.int x1, .ref 56], I, G, (gP rd)) (True) hX hi (by decide +kernel) rfl trivial ?_
          refine am_callS hX hi (M := mX0_at) (idx := 116) (d' := 1) (As := [.ref 56, .int x1]) (rest := []) mkX0_at msX0_at (by decide +kernel) (by decide +kernel) rfl ⟨by omega, by decide, Nat.le_of_ble_eq_true rfl⟩ rfl (c_at rfl (by decide) x1) ?_
          rintro r9 I9 G9 P9 ⟨e0, e1, e2, e3⟩
          rw [e0, e1, e2, e3]
          show am_V X 0 0 _ _ ad (57, [(0, .ref 0), (1, .int x1), (2, .int x2)], [.int (gAt (I 56) 4 x1)], I, G, (gP rd))
          refine am_blk 57 [(.istore_n 3, 1, 3, 0, .null), (.aload_n 0, 1, 0, 0, .null), (.getfield 46, 3, 9, 4, .null), (.iload_n 1, 1, 1, 0, .null), (.iload_n 2, 1, 2, 0, .null)] (64, [(0, .ref 0), (1, .int x1), (2, .int x2), (3, .int (gAt (I 56) 4 x1))], [.int x2, .int x1, .ref 53], I, G, (gP rd)) (True) hX hi (by decide +kernel) rfl trivial ?_
          refine am_callV hX hi (M := mX7_changeSeed) (idx := 203) (d' := 2) (b := 53) (ci := 5) (As := [.int x1, .int x2]) (rest := []) mkX7_changeSeed miX7_changeSeed mvX7_changeSeed (by decide +kernel) (by decide +kernel) rfl (by decide +kernel) rfl ⟨by omega, by decide, Nat.le_of_ble_eq_true rfl⟩ rfl (c_X7_changeSeed_53 _ I G x1 x2) ?_
          rintro r9 I9 G9 P9 ⟨e0, e1, e2, e3⟩
          rw [e0, e1, e2, e3]
          show am_V X 0 0 _ _ ad (67, [(0, .ref 0), (1, .int x1), (2, .int x2), (3, .int (gAt (I 56) 4 x1))], [.int (f_X7_changeSeed_53 I G x1 x2)], (g_X7_changeSeed_53 I G x1 x2), G, (gP rd))
          refine am_blk 67 [(.pop, 1, 0, 0, .null), (.iload_n 3, 1, 3, 0, .null)] (69, [(0, .ref 0), (1, .int x1), (2, .int x2), (3, .int (gAt (I 56) 4 x1))], [.int (gAt (I 56) 4 x1)], (g_X7_changeSeed_53 I G x1 x2), G, (gP rd)) (True) hX hi (by decide +kernel) rfl trivial ?_
          cases h
          refine am_toX (am_iret hX hi rfl rfl (by decide +kernel) ?_)
          exact ⟨_, rfl, rfl, rfl, rfl, rfl⟩
        · rw [if_neg c33] at h
          cases h
          exact am_throwX hX hi hx9 (k := 71) (is := 201) (i := 12) rfl am_x71 rfl (by omega) (by decide +kernel) (by decide +kernel) (by decide +kernel) (by decide +kernel) (by decide +kernel) (Nat.le_of_ble_eq_true rfl) ⟨_, rfl, rfl⟩
    · rw [if_neg c12] at h
      cases h
      exact am_throwX hX hi hx9 (k := 93) (is := 152) (i := 7) rfl am_x93 rfl (by omega) (by decide +kernel) (by decide +kernel) (by decide +kernel) (by decide +kernel) (by decide +kernel) (Nat.le_of_ble_eq_true rfl) ⟨_, rfl, rfl⟩
noncomputable def R_X11_drift_0 (I : am_I) (G : am_G) (x1 : Int32) (x2 : Int32) : Option ((Int32 ⊕ Nat) × am_I × am_G) := (if x1 < (-999 : Int32) then some (.inr 71, I, G) else (if (999 : Int32) < x1 then some (.inr 71, I, G) else (if x2 < (-999 : Int32) then some (.inr 71, I, G) else (if x2 ≤ (999 : Int32) then some (.inl ((((g_X7_changeDrift_53 I G x1 x2) 53 11) * ((g_X7_changeDrift_53 I G x1 x2) 7 9)) + ((g_X7_changeDrift_53 I G x1 x2) 53 10)), (g_X7_changeDrift_53 I G x1 x2), G) else some (.inr 71, I, G)))))
set_option maxRecDepth 20000 in
set_option maxHeartbeats 4000000 in
theorem c_X11_drift_0 (rd : Nat) (I : am_I) (G : am_G) (x1 : Int32) (x2 : Int32) {out : (Int32 ⊕ Nat) × am_I × am_G} (h : R_X11_drift_0 I G x1 x2 = some out) : am_CtX mX11_drift 6 gS [.ref 0, .int x1, .int x2] I G (gP rd) (pe9 out.1) (pn9 out.1 out.2.1 out.2.2 (gP rd)) := by
  refine am_ofX (by decide +kernel) rfl (by decide) (by omega) (Nat.le_of_ble_eq_true rfl) (fun X ad hX hi hx9 => ?_)
  have hi : am_info X 9 cX11_drift 3 false (Option.some Jvm.ClassFile.FieldType.int) 6 := hi
  show am_V X 0 0 _ _ ad (0, [(0, .ref 0), (1, .int x1), (2, .int x2)], [], I, G, (gP rd))
  unfold R_X11_drift_0 at h
  refine am_blk 0 [(.iload_n 1, 1, 1, 0, .null), (.sipush (-999), 3, 0, 0, .int (-999 : Int32))] (4, [(0, .ref 0), (1, .int x1), (2, .int x2)], [.int (-999 : Int32), .int x1], I, G, (gP rd)) (True) hX hi (by decide +kernel) rfl trivial ?_
  refine am_icmp_lt (tgt := 28) hX hi (off := (24)) (by decide +kernel) (by decide) (fun c4 => ?_) (fun c4 => ?_)
  · rw [if_pos c4] at h
    cases h
    exact am_throwX hX hi hx9 (k := 71) (is := 206) (i := 13) rfl am_x71 rfl (by omega) (by decide +kernel) (by decide +kernel) (by decide +kernel) (by decide +kernel) (by decide +kernel) (Nat.le_of_ble_eq_true rfl) ⟨_, rfl, rfl⟩
  · rw [if_neg c4] at h
    refine am_blk 7 [(.iload_n 1, 1, 1, 0, .null), (.sipush (999), 3, 0, 0, .int (999 : Int32))] (11, [(0, .ref 0), (1, .int x1), (2, .int x2)], [.int (999 : Int32), .int x1], I, G, (gP rd)) (True) hX hi (by decide +kernel) rfl trivial ?_
    refine am_icmp_gt (tgt := 28) hX hi (off := (17)) (by decide +kernel) (by decide) (fun c11 => ?_) (fun c11 => ?_)
    · rw [if_pos c11] at h
      cases h
      exact am_throwX hX hi hx9 (k := 71) (is := 206) (i := 13) rfl am_x71 rfl (by omega) (by decide +kernel) (by decide +kernel) (by decide +kernel) (by decide +kernel) (by decide +kernel) (Nat.le_of_ble_eq_true rfl) ⟨_, rfl, rfl⟩
    · rw [if_neg c11] at h
      refine am_blk 14 [(.iload_n 2, 1, 2, 0, .null), (.sipush (-999), 3, 0, 0, .int (-999 : Int32))] (18, [(0, .ref 0), (1, .int x1), (2, .int x2)], [.int (-999 : Int32), .int x2], I, G, (gP rd)) (True) hX hi (by decide +kernel) rfl trivial ?_
      refine am_icmp_lt (tgt := 28) hX hi (off := (10)) (by decide +kernel) (by decide) (fun c18 => ?_) (fun c18 => ?_)
      · rw [if_pos c18] at h
        cases h
        exact am_throwX hX hi hx9 (k := 71) (is := 206) (i := 13) rfl am_x71 rfl (by omega) (by decide +kernel) (by decide +kernel) (by decide +kernel) (by decide +kernel) (by decide +kernel) (Nat.le_of_ble_eq_true rfl) ⟨_, rfl, rfl⟩
      · rw [if_neg c18] at h
        refine am_blk 21 [(.iload_n 2, 1, 2, 0, .null), (.sipush (999), 3, 0, 0, .int (999 : Int32))] (25, [(0, .ref 0), (1, .int x1), (2, .int x2)], [.int (999 : Int32), .int x2], I, G, (gP rd)) (True) hX hi (by decide +kernel) rfl trivial ?_
        refine am_icmp_le (tgt := 38) hX hi (off := (13)) (by decide +kernel) (by decide) (fun c25 => ?_) (fun c25 => ?_)
        · rw [if_pos c25] at h
          refine am_blk 38 [(.aload_n 0, 1, 0, 0, .null), (.getfield 46, 3, 9, 4, .null), (.iload_n 1, 1, 1, 0, .null), (.iload_n 2, 1, 2, 0, .null)] (44, [(0, .ref 0), (1, .int x1), (2, .int x2)], [.int x2, .int x1, .ref 53], I, G, (gP rd)) (True) hX hi (by decide +kernel) rfl trivial ?_
          refine am_callV hX hi (M := mX7_changeDrift) (idx := 208) (d' := 3) (b := 53) (ci := 5) (As := [.int x1, .int x2]) (rest := []) mkX7_changeDrift miX7_changeDrift mvX7_changeDrift (by decide +kernel) (by decide +kernel) rfl (by decide +kernel) rfl ⟨by omega, by decide, Nat.le_of_ble_eq_true rfl⟩ rfl (c_X7_changeDrift_53 _ I G x1 x2) ?_
          rintro r9 I9 G9 P9 ⟨e0, e1, e2, e3⟩
          rw [e0, e1, e2, e3]
          show am_V X 0 0 _ _ ad (47, [(0, .ref 0), (1, .int x1), (2, .int x2)], [.int (f_X7_changeDrift_53 I G x1 x2)], (g_X7_changeDrift_53 I G x1 x2), G, (gP rd))
          refine am_blk 47 [(.pop, 1, 0, 0, .null), (.aload_n 0, 1, 0, 0, .null), (.getfield 46, 3, 9, 4, .null), (.getfield 211, 3, 5, 11, .null), (.aload_n 0, 1, 0, 0, .null), (.getfield 33, 3, 9, 2, .null), (.getfield 163, 3, 3, 9, .null), (.imul, 1, 0, 0, .null), (.aload_n 0, 1, 0, 0, .null), (.getfield 46, 3, 9, 4, .null), (.getfield 214, 3, 5, 10, .null), (.iadd, 1, 0, 0, .null)] (71, [(0, .ref 0), (1, .int x1), (2, .int x2)], [.int ((((g_X7_changeDrift_53 I G x1 x2) 53 11) * ((g_X7_changeDrift_53 I G x1 x2) 7 9)) + ((g_X7_changeDrift_53 I G x1 x2) 53 10))], (g_X7_changeDrift_53 I G x1 x2), G, (gP rd)) (True) hX hi (by decide +kernel) rfl trivial ?_
          cases h
          refine am_toX (am_iret hX hi rfl rfl (by decide +kernel) ?_)
          exact ⟨_, rfl, rfl, rfl, rfl, rfl⟩
        · rw [if_neg c25] at h
          cases h
          exact am_throwX hX hi hx9 (k := 71) (is := 206) (i := 13) rfl am_x71 rfl (by omega) (by decide +kernel) (by decide +kernel) (by decide +kernel) (by decide +kernel) (by decide +kernel) (Nat.le_of_ble_eq_true rfl) ⟨_, rfl, rfl⟩
noncomputable def L_X11_dip_0 (n0 : Nat) (hd : Nat) (I : am_I) (G : am_G) (v1 : Int32) (v2 : Int32) (v3 : Int32) : Option ((Int32 ⊕ Nat) × am_I × am_G) := match n0 with
  | 0 => none
  | n + 1 => match hd with
    | _ => (if v1 ≤ v3 then some (.inl ((I 53 13) - v2), I, G) else rb (R_X7_dipOnce_53 I G ) (fun r101 I101 G101 => L_X11_dip_0 n 0 I101 G101 v1 v2 (v3 + (1 : Int32))))
theorem L_X11_dip_0_0 (n : Nat) (I : am_I) (G : am_G) (v1 : Int32) (v2 : Int32) (v3 : Int32) : L_X11_dip_0 (n + 1) 0 I G v1 v2 v3 = (if v1 ≤ v3 then some (.inl ((I 53 13) - v2), I, G) else rb (R_X7_dipOnce_53 I G ) (fun r101 I101 G101 => L_X11_dip_0 n 0 I101 G101 v1 v2 (v3 + (1 : Int32)))) := rfl
theorem L_X11_dip_0_z (h : Nat) (I : am_I) (G : am_G) (v1 : Int32) (v2 : Int32) (v3 : Int32) : L_X11_dip_0 0 h I G v1 v2 v3 = none := rfl
noncomputable def R_X11_dip_0 (I : am_I) (G : am_G) (x1 : Int32) : Option ((Int32 ⊕ Nat) × am_I × am_G) := (if x1 < (1 : Int32) then some (.inr 71, I, G) else (if x1 ≤ (20 : Int32) then L_X11_dip_0 FU 0 I G x1 (I 53 13) (0 : Int32) else some (.inr 71, I, G)))
set_option maxRecDepth 20000 in
set_option maxHeartbeats 4000000 in
theorem l_X11_dip_0 (rd : Nat) {X : am_X} {ad : Nat → Nat} (hX : am_okz X ad) (hi : am_info X 9 cX11_dip 4 false (Option.some Jvm.ClassFile.FieldType.int) 9) (n : Nat) : (∀ (I : am_I) (G : am_G) (v1 : Int32) (v2 : Int32) (v3 : Int32) (out : (Int32 ⊕ Nat) × am_I × am_G), L_X11_dip_0 n 0 I G v1 v2 v3 = some out → am_V X 0 0 (am_Rt X gS ad (pn9 out.1 out.2.1 out.2.2 (gP rd))) gS ad (31, [(0, .ref 0), (1, .int v1), (2, .int v2), (3, .int v3)], [], I, G, (gP rd))) := by
  induction n with
  | zero => exact fun I G v1 v2 v3 out h => by rw [L_X11_dip_0_z] at h; cases h
  | succ n ih =>
    · intro I G v1 v2 v3 out h
      rw [L_X11_dip_0_0] at h
      refine am_blk 31 [(.iload_n 3, 1, 3, 0, .null), (.iload_n 1, 1, 1, 0, .null)] (33, [(0, .ref 0), (1, .int v1), (2, .int v2), (3, .int v3)], [.int v1, .int v3], I, G, (gP rd)) (True) hX hi (by decide +kernel) rfl trivial ?_
      refine am_icmp_ge (tgt := 49) hX hi (off := (16)) (by decide +kernel) (by decide) (fun c33 => ?_) (fun c33 => ?_)
      · rw [if_pos c33] at h
        refine am_blk 49 [(.aload_n 0, 1, 0, 0, .null), (.getfield 46, 3, 9, 4, .null), (.getfield 219, 3, 5, 13, .null), (.iload_n 2, 1, 2, 0, .null), (.isub, 1, 0, 0, .null)] (58, [(0, .ref 0), (1, .int v1), (2, .int v2), (3, .int v3)], [.int ((I 53 13) - v2)], I, G, (gP rd)) (True) hX hi (by decide +kernel) rfl trivial ?_
        cases h
        refine am_iret hX hi rfl rfl (by decide +kernel) ?_
        exact ⟨_, rfl, rfl, rfl, rfl, rfl⟩
      · rw [if_neg c33] at h
        refine am_blk 36 [(.aload_n 0, 1, 0, 0, .null), (.getfield 46, 3, 9, 4, .null)] (40, [(0, .ref 0), (1, .int v1), (2, .int v2), (3, .int v3)], [.ref 53], I, G, (gP rd)) (True) hX hi (by decide +kernel) rfl trivial ?_
        obtain ⟨r101, I101, G101, hc, h⟩ := rb_some h
        refine am_callV hX hi (M := mX7_dipOnce) (idx := 222) (d' := 8) (b := 53) (ci := 5) (As := []) (rest := []) mkX7_dipOnce miX7_dipOnce mvX7_dipOnce (by decide +kernel) (by decide +kernel) rfl (by decide +kernel) rfl ⟨by omega, by decide, Nat.le_of_ble_eq_true rfl⟩ rfl (c_X7_dipOnce_53 _ I G  hc) ?_
        rintro r9 I9 G9 P9 ⟨e0, e1, e2, e3⟩
        rw [e0, e1, e2, e3]
        show am_V X 0 0 _ _ ad (43, [(0, .ref 0), (1, .int v1), (2, .int v2), (3, .int v3)], [], I101, G101, (gP rd))
        refine am_blk 43 [(.iinc 3 (1), 3, 3, 0, .int (1 : Int32)), (.goto (-15), 3, 0, 31, .null)] (31, [(0, .ref 0), (1, .int v1), (2, .int v2), (3, .int (v3 + (1 : Int32)))], [], I101, G101, (gP rd)) (True) hX hi (by decide +kernel) rfl trivial ?_
        exact ih _ _ _ _ _ _ h
set_option maxRecDepth 20000 in
set_option maxHeartbeats 4000000 in
theorem c_X11_dip_0 (rd : Nat) (I : am_I) (G : am_G) (x1 : Int32) {out : (Int32 ⊕ Nat) × am_I × am_G} (h : R_X11_dip_0 I G x1 = some out) : am_CtX mX11_dip 9 gS [.ref 0, .int x1] I G (gP rd) (pe9 out.1) (pn9 out.1 out.2.1 out.2.2 (gP rd)) := by
  refine am_ofX (by decide +kernel) rfl (by decide) (by omega) (Nat.le_of_ble_eq_true rfl) (fun X ad hX hi hx9 => ?_)
  have hi : am_info X 9 cX11_dip 4 false (Option.some Jvm.ClassFile.FieldType.int) 9 := hi
  show am_V X 0 0 _ _ ad (0, [(0, .ref 0), (1, .int x1)], [], I, G, (gP rd))
  unfold R_X11_dip_0 at h
  refine am_blk 0 [(.iload_n 1, 1, 1, 0, .null), (.iconst (1), 1, 0, 0, .int (1 : Int32))] (2, [(0, .ref 0), (1, .int x1)], [.int (1 : Int32), .int x1], I, G, (gP rd)) (True) hX hi (by decide +kernel) rfl trivial ?_
  refine am_icmp_lt (tgt := 11) hX hi (off := (9)) (by decide +kernel) (by decide) (fun c2 => ?_) (fun c2 => ?_)
  · rw [if_pos c2] at h
    cases h
    exact am_throwX hX hi hx9 (k := 71) (is := 217) (i := 14) rfl am_x71 rfl (by omega) (by decide +kernel) (by decide +kernel) (by decide +kernel) (by decide +kernel) (by decide +kernel) (Nat.le_of_ble_eq_true rfl) ⟨_, rfl, rfl⟩
  · rw [if_neg c2] at h
    refine am_blk 5 [(.iload_n 1, 1, 1, 0, .null), (.bipush (20), 2, 0, 0, .int (20 : Int32))] (8, [(0, .ref 0), (1, .int x1)], [.int (20 : Int32), .int x1], I, G, (gP rd)) (True) hX hi (by decide +kernel) rfl trivial ?_
    refine am_icmp_le (tgt := 21) hX hi (off := (13)) (by decide +kernel) (by decide) (fun c8 => ?_) (fun c8 => ?_)
    · rw [if_pos c8] at h
      refine am_blk 21 [(.aload_n 0, 1, 0, 0, .null), (.getfield 46, 3, 9, 4, .null), (.getfield 219, 3, 5, 13, .null), (.istore_n 2, 1, 2, 0, .null), (.iconst (0), 1, 0, 0, .int (0 : Int32)), (.istore_n 3, 1, 3, 0, .null)] (31, [(0, .ref 0), (1, .int x1), (2, .int (I 53 13)), (3, .int (0 : Int32))], [], I, G, (gP rd)) (True) hX hi (by decide +kernel) rfl trivial ?_
      exact am_toX ((l_X11_dip_0 rd hX hi FU) _ _ _ _ _ _ h)
    · rw [if_neg c8] at h
      cases h
      exact am_throwX hX hi hx9 (k := 71) (is := 217) (i := 14) rfl am_x71 rfl (by omega) (by decide +kernel) (by decide +kernel) (by decide +kernel) (by decide +kernel) (by decide +kernel) (Nat.le_of_ble_eq_true rfl) ⟨_, rfl, rfl⟩
noncomputable def L_X11_foresee_0 (n0 : Nat) (hd : Nat) (I : am_I) (G : am_G) (v1 : Int32) (v2 : Int32) (v3 : Int32) : Option ((Int32 ⊕ Nat) × am_I × am_G) := match n0 with
  | 0 => none
  | n + 1 => match hd with
    | _ => (if v1 ≤ v3 then (if (10 : Int32) < v2 then rb (R_X7_tell_66 I G v2) (fun r101 I101 G101 => some (.inl r101, I101, G101)) else rb (R_X7_group_66 I G ) (fun r102 I102 G102 => rb (R_X7_tell_66 I102 G102 v2) (fun r103 I103 G103 => some (.inl r103, I103, G103)))) else rb (R_X7_dipOnce_66 I G ) (fun r104 I104 G104 => L_X11_foresee_0 n 0 I104 G104 v1 v2 (v3 + (1 : Int32))))
theorem L_X11_foresee_0_0 (n : Nat) (I : am_I) (G : am_G) (v1 : Int32) (v2 : Int32) (v3 : Int32) : L_X11_foresee_0 (n + 1) 0 I G v1 v2 v3 = (if v1 ≤ v3 then (if (10 : Int32) < v2 then rb (R_X7_tell_66 I G v2) (fun r101 I101 G101 => some (.inl r101, I101, G101)) else rb (R_X7_group_66 I G ) (fun r102 I102 G102 => rb (R_X7_tell_66 I102 G102 v2) (fun r103 I103 G103 => some (.inl r103, I103, G103)))) else rb (R_X7_dipOnce_66 I G ) (fun r104 I104 G104 => L_X11_foresee_0 n 0 I104 G104 v1 v2 (v3 + (1 : Int32)))) := rfl
theorem L_X11_foresee_0_z (h : Nat) (I : am_I) (G : am_G) (v1 : Int32) (v2 : Int32) (v3 : Int32) : L_X11_foresee_0 0 h I G v1 v2 v3 = none := rfl
noncomputable def R_X11_foresee_0 (I : am_I) (G : am_G) (x1 : Int32) (x2 : Int32) : Option ((Int32 ⊕ Nat) × am_I × am_G) := (if x1 < (1 : Int32) then some (.inr 71, I, G) else (if x1 ≤ (20 : Int32) then (if x2 < (7 : Int32) then some (.inr 93, I, G) else (if x2 ≤ (13 : Int32) then rb (R_X7_take_66_53 I G ) (fun r1 I1 G1 => L_X11_foresee_0 FU 0 I1 G1 x1 x2 (0 : Int32)) else some (.inr 93, I, G))) else some (.inr 71, I, G)))
set_option maxRecDepth 20000 in
set_option maxHeartbeats 4000000 in
theorem l_X11_foresee_0 (rd : Nat) {X : am_X} {ad : Nat → Nat} (hX : am_okz X ad) (hi : am_info X 9 cX11_foresee 4 false (Option.some Jvm.ClassFile.FieldType.int) 9) (n : Nat) : (∀ (I : am_I) (G : am_G) (v1 : Int32) (v2 : Int32) (v3 : Int32) (out : (Int32 ⊕ Nat) × am_I × am_G), L_X11_foresee_0 n 0 I G v1 v2 v3 = some out → am_V X 0 0 (am_Rt X gS ad (pn9 out.1 out.2.1 out.2.2 (gP rd))) gS ad (56, [(0, .ref 0), (1, .int v1), (2, .int v2), (3, .int v3)], [], I, G, (gP rd))) := by
  induction n with
  | zero => exact fun I G v1 v2 v3 out h => by rw [L_X11_foresee_0_z] at h; cases h
  | succ n ih =>
    · intro I G v1 v2 v3 out h
      rw [L_X11_foresee_0_0] at h
      refine am_blk 56 [(.iload_n 3, 1, 3, 0, .null), (.iload_n 1, 1, 1, 0, .null)] (58, [(0, .ref 0), (1, .int v1), (2, .int v2), (3, .int v3)], [.int v1, .int v3], I, G, (gP rd)) (True) hX hi (by decide +kernel) rfl trivial ?_
      refine am_icmp_ge (tgt := 74) hX hi (off := (16)) (by decide +kernel) (by decide) (fun c58 => ?_) (fun c58 => ?_)
      · rw [if_pos c58] at h
        refine am_blk 74 [(.iload_n 2, 1, 2, 0, .null), (.bipush (10), 2, 0, 0, .int (10 : Int32))] (77, [(0, .ref 0), (1, .int v1), (2, .int v2), (3, .int v3)], [.int (10 : Int32), .int v2], I, G, (gP rd)) (True) hX hi (by decide +kernel) rfl trivial ?_
        refine am_icmp_gt (tgt := 87) hX hi (off := (10)) (by decide +kernel) (by decide) (fun c77 => ?_) (fun c77 => ?_)
        · rw [if_pos c77] at h
          refine am_blk 87 [(.aload_n 0, 1, 0, 0, .null), (.getfield 50, 3, 9, 5, .null), (.iload_n 2, 1, 2, 0, .null)] (92, [(0, .ref 0), (1, .int v1), (2, .int v2), (3, .int v3)], [.int v2, .ref 66], I, G, (gP rd)) (True) hX hi (by decide +kernel) rfl trivial ?_
          obtain ⟨r101, I101, G101, hc, h⟩ := rb_some h
          refine am_callV hX hi (M := mX7_tell) (idx := 101) (d' := 3) (b := 66) (ci := 5) (As := [.int v2]) (rest := []) mkX7_tell miX7_tell mvX7_tell (by decide +kernel) (by decide +kernel) rfl (by decide +kernel) rfl ⟨by omega, by decide, Nat.le_of_ble_eq_true rfl⟩ rfl (c_X7_tell_66 _ I G v2 hc) ?_
          rintro r9 I9 G9 P9 ⟨e0, e1, e2, e3⟩
          rw [e0, e1, e2, e3]
          show am_V X 0 0 _ _ ad (95, [(0, .ref 0), (1, .int v1), (2, .int v2), (3, .int v3)], [.int r101], I101, G101, (gP rd))
          cases h
          refine am_iret hX hi rfl rfl (by decide +kernel) ?_
          exact ⟨_, rfl, rfl, rfl, rfl, rfl⟩
        · rw [if_neg c77] at h
          refine am_blk 80 [(.aload_n 0, 1, 0, 0, .null), (.getfield 50, 3, 9, 5, .null)] (84, [(0, .ref 0), (1, .int v1), (2, .int v2), (3, .int v3)], [.ref 66], I, G, (gP rd)) (True) hX hi (by decide +kernel) rfl trivial ?_
          obtain ⟨r102, I102, G102, hc, h⟩ := rb_some h
          refine am_callV hX hi (M := mX7_group) (idx := 98) (d' := 8) (b := 66) (ci := 5) (As := []) (rest := []) mkX7_group miX7_group mvX7_group (by decide +kernel) (by decide +kernel) rfl (by decide +kernel) rfl ⟨by omega, by decide, Nat.le_of_ble_eq_true rfl⟩ rfl (c_X7_group_66 _ I G  hc) ?_
          rintro r9 I9 G9 P9 ⟨e0, e1, e2, e3⟩
          rw [e0, e1, e2, e3]
          show am_V X 0 0 _ _ ad (87, [(0, .ref 0), (1, .int v1), (2, .int v2), (3, .int v3)], [], I102, G102, (gP rd))
          refine am_blk 87 [(.aload_n 0, 1, 0, 0, .null), (.getfield 50, 3, 9, 5, .null), (.iload_n 2, 1, 2, 0, .null)] (92, [(0, .ref 0), (1, .int v1), (2, .int v2), (3, .int v3)], [.int v2, .ref 66], I102, G102, (gP rd)) (True) hX hi (by decide +kernel) rfl trivial ?_
          obtain ⟨r103, I103, G103, hc, h⟩ := rb_some h
          refine am_callV hX hi (M := mX7_tell) (idx := 101) (d' := 3) (b := 66) (ci := 5) (As := [.int v2]) (rest := []) mkX7_tell miX7_tell mvX7_tell (by decide +kernel) (by decide +kernel) rfl (by decide +kernel) rfl ⟨by omega, by decide, Nat.le_of_ble_eq_true rfl⟩ rfl (c_X7_tell_66 _ I102 G102 v2 hc) ?_
          rintro r9 I9 G9 P9 ⟨e0, e1, e2, e3⟩
          rw [e0, e1, e2, e3]
          show am_V X 0 0 _ _ ad (95, [(0, .ref 0), (1, .int v1), (2, .int v2), (3, .int v3)], [.int r103], I103, G103, (gP rd))
          cases h
          refine am_iret hX hi rfl rfl (by decide +kernel) ?_
          exact ⟨_, rfl, rfl, rfl, rfl, rfl⟩
      · rw [if_neg c58] at h
        refine am_blk 61 [(.aload_n 0, 1, 0, 0, .null), (.getfield 50, 3, 9, 5, .null)] (65, [(0, .ref 0), (1, .int v1), (2, .int v2), (3, .int v3)], [.ref 66], I, G, (gP rd)) (True) hX hi (by decide +kernel) rfl trivial ?_
        obtain ⟨r104, I104, G104, hc, h⟩ := rb_some h
        refine am_callV hX hi (M := mX7_dipOnce) (idx := 222) (d' := 8) (b := 66) (ci := 5) (As := []) (rest := []) mkX7_dipOnce miX7_dipOnce mvX7_dipOnce (by decide +kernel) (by decide +kernel) rfl (by decide +kernel) rfl ⟨by omega, by decide, Nat.le_of_ble_eq_true rfl⟩ rfl (c_X7_dipOnce_66 _ I G  hc) ?_
        rintro r9 I9 G9 P9 ⟨e0, e1, e2, e3⟩
        rw [e0, e1, e2, e3]
        show am_V X 0 0 _ _ ad (68, [(0, .ref 0), (1, .int v1), (2, .int v2), (3, .int v3)], [], I104, G104, (gP rd))
        refine am_blk 68 [(.iinc 3 (1), 3, 3, 0, .int (1 : Int32)), (.goto (-15), 3, 0, 56, .null)] (56, [(0, .ref 0), (1, .int v1), (2, .int v2), (3, .int (v3 + (1 : Int32)))], [], I104, G104, (gP rd)) (True) hX hi (by decide +kernel) rfl trivial ?_
        exact ih _ _ _ _ _ _ h
set_option maxRecDepth 20000 in
set_option maxHeartbeats 4000000 in
theorem c_X11_foresee_0 (rd : Nat) (I : am_I) (G : am_G) (x1 : Int32) (x2 : Int32) {out : (Int32 ⊕ Nat) × am_I × am_G} (h : R_X11_foresee_0 I G x1 x2 = some out) : am_CtX mX11_foresee 9 gS [.ref 0, .int x1, .int x2] I G (gP rd) (pe9 out.1) (pn9 out.1 out.2.1 out.2.2 (gP rd)) := by
  refine am_ofX (by decide +kernel) rfl (by decide) (by omega) (Nat.le_of_ble_eq_true rfl) (fun X ad hX hi hx9 => ?_)
  have hi : am_info X 9 cX11_foresee 4 false (Option.some Jvm.ClassFile.FieldType.int) 9 := hi
  show am_V X 0 0 _ _ ad (0, [(0, .ref 0), (1, .int x1), (2, .int x2)], [], I, G, (gP rd))
  unfold R_X11_foresee_0 at h
  refine am_blk 0 [(.iload_n 1, 1, 1, 0, .null), (.iconst (1), 1, 0, 0, .int (1 : Int32))] (2, [(0, .ref 0), (1, .int x1), (2, .int x2)], [.int (1 : Int32), .int x1], I, G, (gP rd)) (True) hX hi (by decide +kernel) rfl trivial ?_
  refine am_icmp_lt (tgt := 11) hX hi (off := (9)) (by decide +kernel) (by decide) (fun c2 => ?_) (fun c2 => ?_)
  · rw [if_pos c2] at h
    cases h
    exact am_throwX hX hi hx9 (k := 71) (is := 217) (i := 14) rfl am_x71 rfl (by omega) (by decide +kernel) (by decide +kernel) (by decide +kernel) (by decide +kernel) (by decide +kernel) (Nat.le_of_ble_eq_true rfl) ⟨_, rfl, rfl⟩
  · rw [if_neg c2] at h
    refine am_blk 5 [(.iload_n 1, 1, 1, 0, .null), (.bipush (20), 2, 0, 0, .int (20 : Int32))] (8, [(0, .ref 0), (1, .int x1), (2, .int x2)], [.int (20 : Int32), .int x1], I, G, (gP rd)) (True) hX hi (by decide +kernel) rfl trivial ?_
    refine am_icmp_le (tgt := 21) hX hi (off := (13)) (by decide +kernel) (by decide) (fun c8 => ?_) (fun c8 => ?_)
    · rw [if_pos c8] at h
      refine am_blk 21 [(.iload_n 2, 1, 2, 0, .null), (.bipush (7), 2, 0, 0, .int (7 : Int32))] (24, [(0, .ref 0), (1, .int x1), (2, .int x2)], [.int (7 : Int32), .int x2], I, G, (gP rd)) (True) hX hi (by decide +kernel) rfl trivial ?_
      refine am_icmp_lt (tgt := 33) hX hi (off := (9)) (by decide +kernel) (by decide) (fun c24 => ?_) (fun c24 => ?_)
      · rw [if_pos c24] at h
        cases h
        exact am_throwX hX hi hx9 (k := 93) (is := 225) (i := 15) rfl am_x93 rfl (by omega) (by decide +kernel) (by decide +kernel) (by decide +kernel) (by decide +kernel) (by decide +kernel) (Nat.le_of_ble_eq_true rfl) ⟨_, rfl, rfl⟩
      · rw [if_neg c24] at h
        refine am_blk 27 [(.iload_n 2, 1, 2, 0, .null), (.bipush (13), 2, 0, 0, .int (13 : Int32))] (30, [(0, .ref 0), (1, .int x1), (2, .int x2)], [.int (13 : Int32), .int x2], I, G, (gP rd)) (True) hX hi (by decide +kernel) rfl trivial ?_
        refine am_icmp_le (tgt := 43) hX hi (off := (13)) (by decide +kernel) (by decide) (fun c30 => ?_) (fun c30 => ?_)
        · rw [if_pos c30] at h
          refine am_blk 43 [(.aload_n 0, 1, 0, 0, .null), (.getfield 50, 3, 9, 5, .null), (.aload_n 0, 1, 0, 0, .null), (.getfield 46, 3, 9, 4, .null)] (51, [(0, .ref 0), (1, .int x1), (2, .int x2)], [.ref 53, .ref 66], I, G, (gP rd)) (True) hX hi (by decide +kernel) rfl trivial ?_
          obtain ⟨r1, I1, G1, hc, h⟩ := rb_some h
          refine am_callV hX hi (M := mX7_take) (idx := 227) (d' := 5) (b := 66) (ci := 5) (As := [.ref 53]) (rest := []) mkX7_take miX7_take mvX7_take (by decide +kernel) (by decide +kernel) rfl (by decide +kernel) rfl ⟨by omega, by decide, Nat.le_of_ble_eq_true rfl⟩ rfl (c_X7_take_66_53 _ I G  hc) ?_
          rintro r9 I9 G9 P9 ⟨e0, e1, e2, e3⟩
          rw [e0, e1, e2, e3]
          show am_V X 0 0 _ _ ad (54, [(0, .ref 0), (1, .int x1), (2, .int x2)], [], I1, G1, (gP rd))
          refine am_blk 54 [(.iconst (0), 1, 0, 0, .int (0 : Int32)), (.istore_n 3, 1, 3, 0, .null)] (56, [(0, .ref 0), (1, .int x1), (2, .int x2), (3, .int (0 : Int32))], [], I1, G1, (gP rd)) (True) hX hi (by decide +kernel) rfl trivial ?_
          exact am_toX ((l_X11_foresee_0 rd hX hi FU) _ _ _ _ _ _ h)
        · rw [if_neg c30] at h
          cases h
          exact am_throwX hX hi hx9 (k := 93) (is := 225) (i := 15) rfl am_x93 rfl (by omega) (by decide +kernel) (by decide +kernel) (by decide +kernel) (by decide +kernel) (by decide +kernel) (Nat.le_of_ble_eq_true rfl) ⟨_, rfl, rfl⟩
    · rw [if_neg c8] at h
      cases h
      exact am_throwX hX hi hx9 (k := 71) (is := 217) (i := 14) rfl am_x71 rfl (by omega) (by decide +kernel) (by decide +kernel) (by decide +kernel) (by decide +kernel) (by decide +kernel) (Nat.le_of_ble_eq_true rfl) ⟨_, rfl, rfl⟩
noncomputable def L_X11_until_0 (n0 : Nat) (hd : Nat) (I : am_I) (G : am_G) (v1 : Int32) (v2 : Int32) (v3 : Int32) (v4 : Int32) (v5 : Int32) : Option ((Int32 ⊕ Nat) × am_I × am_G) := match n0 with
  | 0 => none
  | n + 1 => match hd with
    | _ => (if (20 : Int32) < v5 then some (.inl (-1 : Int32), I, G) else (if v5 ≤ 0 then rb (R_X7_refresh_66 I G ) (fun r101 I101 G101 => (if (gAt (I101 71) 576 v4) = v3 then some (.inl v5, I101, G101) else L_X11_until_0 n 0 I101 G101 v1 v2 v3 v4 (v5 + (1 : Int32)))) else rb (R_X7_dipOnce_66 I G ) (fun r102 I102 G102 => rb (R_X7_refresh_66 I102 G102 ) (fun r103 I103 G103 => (if (gAt (I103 71) 576 v4) = v3 then some (.inl v5, I103, G103) else L_X11_until_0 n 0 I103 G103 v1 v2 v3 v4 (v5 + (1 : Int32)))))))
theorem L_X11_until_0_0 (n : Nat) (I : am_I) (G : am_G) (v1 : Int32) (v2 : Int32) (v3 : Int32) (v4 : Int32) (v5 : Int32) : L_X11_until_0 (n + 1) 0 I G v1 v2 v3 v4 v5 = (if (20 : Int32) < v5 then some (.inl (-1 : Int32), I, G) else (if v5 ≤ 0 then rb (R_X7_refresh_66 I G ) (fun r101 I101 G101 => (if (gAt (I101 71) 576 v4) = v3 then some (.inl v5, I101, G101) else L_X11_until_0 n 0 I101 G101 v1 v2 v3 v4 (v5 + (1 : Int32)))) else rb (R_X7_dipOnce_66 I G ) (fun r102 I102 G102 => rb (R_X7_refresh_66 I102 G102 ) (fun r103 I103 G103 => (if (gAt (I103 71) 576 v4) = v3 then some (.inl v5, I103, G103) else L_X11_until_0 n 0 I103 G103 v1 v2 v3 v4 (v5 + (1 : Int32))))))) := rfl
theorem L_X11_until_0_z (h : Nat) (I : am_I) (G : am_G) (v1 : Int32) (v2 : Int32) (v3 : Int32) (v4 : Int32) (v5 : Int32) : L_X11_until_0 0 h I G v1 v2 v3 v4 v5 = none := rfl
noncomputable def R_X11_until_0 (I : am_I) (G : am_G) (x1 : Int32) (x2 : Int32) (x3 : Int32) : Option ((Int32 ⊕ Nat) × am_I × am_G) := (if x3 < 0 then some (.inr 93, I, G) else (if x3 ≤ (I 7 13) then rb (R_X7_take_66_53 I G ) (fun r1 I1 G1 => L_X11_until_0 FU 0 I1 G1 x1 x2 x3 (f_X5_spot_7 I G x1 x2) (0 : Int32)) else some (.inr 93, I, G)))
set_option maxRecDepth 20000 in
set_option maxHeartbeats 4000000 in
theorem l_X11_until_0 (rd : Nat) {X : am_X} {ad : Nat → Nat} (hX : am_okz X ad) (hi : am_info X 9 cX11_until 6 false (Option.some Jvm.ClassFile.FieldType.int) 9) (n : Nat) : (∀ (I : am_I) (G : am_G) (v1 : Int32) (v2 : Int32) (v3 : Int32) (v4 : Int32) (v5 : Int32) (out : (Int32 ⊕ Nat) × am_I × am_G), L_X11_until_0 n 0 I G v1 v2 v3 v4 v5 = some out → am_V X 0 0 (am_Rt X gS ad (pn9 out.1 out.2.1 out.2.2 (gP rd))) gS ad (50, [(0, .ref 0), (1, .int v1), (2, .int v2), (3, .int v3), (4, .int v4), (5, .int v5)], [], I, G, (gP rd))) := by
  induction n with
  | zero => exact fun I G v1 v2 v3 v4 v5 out h => by rw [L_X11_until_0_z] at h; cases h
  | succ n ih =>
    · intro I G v1 v2 v3 v4 v5 out h
      rw [L_X11_until_0_0] at h
      refine am_blk 50 [(.iload 5, 2, 5, 0, .null), (.bipush (20), 2, 0, 0, .int (20 : Int32))] (54, [(0, .ref 0), (1, .int v1), (2, .int v2), (3, .int v3), (4, .int v4), (5, .int v5)], [.int (20 : Int32), .int v5], I, G, (gP rd)) (True) hX hi (by decide +kernel) rfl trivial ?_
      refine am_icmp_gt (tgt := 101) hX hi (off := (47)) (by decide +kernel) (by decide) (fun c54 => ?_) (fun c54 => ?_)
      · rw [if_pos c54] at h
        refine am_blk 101 [(.iconst (-1), 1, 0, 0, .int (-1 : Int32))] (102, [(0, .ref 0), (1, .int v1), (2, .int v2), (3, .int v3), (4, .int v4), (5, .int v5)], [.int (-1 : Int32)], I, G, (gP rd)) (True) hX hi (by decide +kernel) rfl trivial ?_
        cases h
        refine am_iret hX hi rfl rfl (by decide +kernel) ?_
        exact ⟨_, rfl, rfl, rfl, rfl, rfl⟩
      · rw [if_neg c54] at h
        refine am_blk 57 [(.iload 5, 2, 5, 0, .null)] (59, [(0, .ref 0), (1, .int v1), (2, .int v2), (3, .int v3), (4, .int v4), (5, .int v5)], [.int v5], I, G, (gP rd)) (True) hX hi (by decide +kernel) rfl trivial ?_
        refine am_if_le (tgt := 69) hX hi (off := (10)) (by decide +kernel) (by decide) (fun c59 => ?_) (fun c59 => ?_)
        · rw [if_pos c59] at h
          refine am_blk 69 [(.aload_n 0, 1, 0, 0, .null), (.getfield 50, 3, 9, 5, .null)] (73, [(0, .ref 0), (1, .int v1), (2, .int v2), (3, .int v3), (4, .int v4), (5, .int v5)], [.ref 66], I, G, (gP rd)) (True) hX hi (by decide +kernel) rfl trivial ?_
          obtain ⟨r101, I101, G101, hc, h⟩ := rb_some h
          refine am_callV hX hi (M := mX7_refresh) (idx := 105) (d' := 7) (b := 66) (ci := 5) (As := []) (rest := []) mkX7_refresh miX7_refresh mvX7_refresh (by decide +kernel) (by decide +kernel) rfl (by decide +kernel) rfl ⟨by omega, by decide, Nat.le_of_ble_eq_true rfl⟩ rfl (c_X7_refresh_66 _ I G  hc) ?_
          rintro r9 I9 G9 P9 ⟨e0, e1, e2, e3⟩
          rw [e0, e1, e2, e3]
          show am_V X 0 0 _ _ ad (76, [(0, .ref 0), (1, .int v1), (2, .int v2), (3, .int v3), (4, .int v4), (5, .int v5)], [], I101, G101, (gP rd))
          refine am_blk 76 [(.aload_n 0, 1, 0, 0, .null), (.getfield 50, 3, 9, 5, .null), (.getfield 122, 3, 5, 6, .null), (.iload 4, 2, 4, 0, .null)] (85, [(0, .ref 0), (1, .int v1), (2, .int v2), (3, .int v3), (4, .int v4), (5, .int v5)], [.int v4, .ref 71], I101, G101, (gP rd)) (True) hX hi (by decide +kernel) rfl trivial ?_
          refine am_callS hX hi (M := mX0_at) (idx := 116) (d' := 1) (As := [.ref 71, .int v4]) (rest := []) mkX0_at msX0_at (by decide +kernel) (by decide +kernel) rfl ⟨by omega, by decide, Nat.le_of_ble_eq_true rfl⟩ rfl (c_at rfl (by decide) v4) ?_
          rintro r9 I9 G9 P9 ⟨e0, e1, e2, e3⟩
          rw [e0, e1, e2, e3]
          show am_V X 0 0 _ _ ad (88, [(0, .ref 0), (1, .int v1), (2, .int v2), (3, .int v3), (4, .int v4), (5, .int v5)], [.int (gAt (I101 71) 576 v4)], I101, G101, (gP rd))
          refine am_blk 88 [(.iload_n 3, 1, 3, 0, .null)] (89, [(0, .ref 0), (1, .int v1), (2, .int v2), (3, .int v3), (4, .int v4), (5, .int v5)], [.int v3, .int (gAt (I101 71) 576 v4)], I101, G101, (gP rd)) (True) hX hi (by decide +kernel) rfl trivial ?_
          refine am_icmp_ne (tgt := 95) hX hi (off := (6)) (by decide +kernel) (by decide) (fun c89 => ?_) (fun c89 => ?_)
          · rw [if_neg c89] at h
            refine am_blk 95 [(.iinc 5 (1), 3, 5, 0, .int (1 : Int32)), (.goto (-48), 3, 0, 50, .null)] (50, [(0, .ref 0), (1, .int v1), (2, .int v2), (3, .int v3), (4, .int v4), (5, .int (v5 + (1 : Int32)))], [], I101, G101, (gP rd)) (True) hX hi (by decide +kernel) rfl trivial ?_
            exact ih _ _ _ _ _ _ _ _ h
          · rw [if_pos c89] at h
            refine am_blk 92 [(.iload 5, 2, 5, 0, .null)] (94, [(0, .ref 0), (1, .int v1), (2, .int v2), (3, .int v3), (4, .int v4), (5, .int v5)], [.int v5], I101, G101, (gP rd)) (True) hX hi (by decide +kernel) rfl trivial ?_
            cases h
            refine am_iret hX hi rfl rfl (by decide +kernel) ?_
            exact ⟨_, rfl, rfl, rfl, rfl, rfl⟩
        · rw [if_neg c59] at h
          refine am_blk 62 [(.aload_n 0, 1, 0, 0, .null), (.getfield 50, 3, 9, 5, .null)] (66, [(0, .ref 0), (1, .int v1), (2, .int v2), (3, .int v3), (4, .int v4), (5, .int v5)], [.ref 66], I, G, (gP rd)) (True) hX hi (by decide +kernel) rfl trivial ?_
          obtain ⟨r102, I102, G102, hc, h⟩ := rb_some h
          refine am_callV hX hi (M := mX7_dipOnce) (idx := 222) (d' := 8) (b := 66) (ci := 5) (As := []) (rest := []) mkX7_dipOnce miX7_dipOnce mvX7_dipOnce (by decide +kernel) (by decide +kernel) rfl (by decide +kernel) rfl ⟨by omega, by decide, Nat.le_of_ble_eq_true rfl⟩ rfl (c_X7_dipOnce_66 _ I G  hc) ?_
          rintro r9 I9 G9 P9 ⟨e0, e1, e2, e3⟩
          rw [e0, e1, e2, e3]
          show am_V X 0 0 _ _ ad (69, [(0, .ref 0), (1, .int v1), (2, .int v2), (3, .int v3), (4, .int v4), (5, .int v5)], [], I102, G102, (gP rd))
          refine am_blk 69 [(.aload_n 0, 1, 0, 0, .null), (.getfield 50, 3, 9, 5, .null)] (73, [(0, .ref 0), (1, .int v1), (2, .int v2), (3, .int v3), (4, .int v4), (5, .int v5)], [.ref 66], I102, G102, (gP rd)) (True) hX hi (by decide +kernel) rfl trivial ?_
          obtain ⟨r103, I103, G103, hc, h⟩ := rb_some h
          refine am_callV hX hi (M := mX7_refresh) (idx := 105) (d' := 7) (b := 66) (ci := 5) (As := []) (rest := []) mkX7_refresh miX7_refresh mvX7_refresh (by decide +kernel) (by decide +kernel) rfl (by decide +kernel) rfl ⟨by omega, by decide, Nat.le_of_ble_eq_true rfl⟩ rfl (c_X7_refresh_66 _ I102 G102  hc) ?_
          rintro r9 I9 G9 P9 ⟨e0, e1, e2, e3⟩
          rw [e0, e1, e2, e3]
          show am_V X 0 0 _ _ ad (76, [(0, .ref 0), (1, .int v1), (2, .int v2), (3, .int v3), (4, .int v4), (5, .int v5)], [], I103, G103, (gP rd))
          refine am_blk 76 [(.aload_n 0, 1, 0, 0, .null), (.getfield 50, 3, 9, 5, .null), (.getfield 122, 3, 5, 6, .null), (.iload 4, 2, 4, 0, .null)] (85, [(0, .ref 0), (1, .int v1), (2, .int v2), (3, .int v3), (4, .int v4), (5, .int v5)], [.int v4, .ref 71], I103, G103, (gP rd)) (True) hX hi (by decide +kernel) rfl trivial ?_
          refine am_callS hX hi (M := mX0_at) (idx := 116) (d' := 1) (As := [.ref 71, .int v4]) (rest := []) mkX0_at msX0_at (by decide +kernel) (by decide +kernel) rfl ⟨by omega, by decide, Nat.le_of_ble_eq_true rfl⟩ rfl (c_at rfl (by decide) v4) ?_
          rintro r9 I9 G9 P9 ⟨e0, e1, e2, e3⟩
          rw [e0, e1, e2, e3]
          show am_V X 0 0 _ _ ad (88, [(0, .ref 0), (1, .int v1), (2, .int v2), (3, .int v3), (4, .int v4), (5, .int v5)], [.int (gAt (I103 71) 576 v4)], I103, G103, (gP rd))
          refine am_blk 88 [(.iload_n 3, 1, 3, 0, .null)] (89, [(0, .ref 0), (1, .int v1), (2, .int v2), (3, .int v3), (4, .int v4), (5, .int v5)], [.int v3, .int (gAt (I103 71) 576 v4)], I103, G103, (gP rd)) (True) hX hi (by decide +kernel) rfl trivial ?_
          refine am_icmp_ne (tgt := 95) hX hi (off := (6)) (by decide +kernel) (by decide) (fun c89 => ?_) (fun c89 => ?_)
          · rw [if_neg c89] at h
            refine am_blk 95 [(.iinc 5 (1), 3, 5, 0, .int (1 : Int32)), (.goto (-48), 3, 0, 50, .null)] (50, [(0, .ref 0), (1, .int v1), (2, .int v2), (3, .int v3), (4, .int v4), (5, .int (v5 + (1 : Int32)))], [], I103, G103, (gP rd)) (True) hX hi (by decide +kernel) rfl trivial ?_
            exact ih _ _ _ _ _ _ _ _ h
          · rw [if_pos c89] at h
            refine am_blk 92 [(.iload 5, 2, 5, 0, .null)] (94, [(0, .ref 0), (1, .int v1), (2, .int v2), (3, .int v3), (4, .int v4), (5, .int v5)], [.int v5], I103, G103, (gP rd)) (True) hX hi (by decide +kernel) rfl trivial ?_
            cases h
            refine am_iret hX hi rfl rfl (by decide +kernel) ?_
            exact ⟨_, rfl, rfl, rfl, rfl, rfl⟩
set_option maxRecDepth 20000 in
set_option maxHeartbeats 4000000 in
theorem c_X11_until_0 (rd : Nat) (I : am_I) (G : am_G) (x1 : Int32) (x2 : Int32) (x3 : Int32) {out : (Int32 ⊕ Nat) × am_I × am_G} (h : R_X11_until_0 I G x1 x2 x3 = some out) : am_CtX mX11_until 9 gS [.ref 0, .int x1, .int x2, .int x3] I G (gP rd) (pe9 out.1) (pn9 out.1 out.2.1 out.2.2 (gP rd)) := by
  refine am_ofX (by decide +kernel) rfl (by decide) (by omega) (Nat.le_of_ble_eq_true rfl) (fun X ad hX hi hx9 => ?_)
  have hi : am_info X 9 cX11_until 6 false (Option.some Jvm.ClassFile.FieldType.int) 9 := hi
  show am_V X 0 0 _ _ ad (0, [(0, .ref 0), (1, .int x1), (2, .int x2), (3, .int x3)], [], I, G, (gP rd))
  unfold R_X11_until_0 at h
  refine am_blk 0 [(.iload_n 3, 1, 3, 0, .null)] (1, [(0, .ref 0), (1, .int x1), (2, .int x2), (3, .int x3)], [.int x3], I, G, (gP rd)) (True) hX hi (by decide +kernel) rfl trivial ?_
  refine am_if_lt (tgt := 15) hX hi (off := (14)) (by decide +kernel) (by decide) (fun c1 => ?_) (fun c1 => ?_)
  · rw [if_pos c1] at h
    cases h
    exact am_throwX hX hi hx9 (k := 93) (is := 139) (i := 5) rfl am_x93 rfl (by omega) (by decide +kernel) (by decide +kernel) (by decide +kernel) (by decide +kernel) (by decide +kernel) (Nat.le_of_ble_eq_true rfl) ⟨_, rfl, rfl⟩
  · rw [if_neg c1] at h
    refine am_blk 4 [(.iload_n 3, 1, 3, 0, .null), (.aload_n 0, 1, 0, 0, .null), (.getfield 33, 3, 9, 2, .null), (.getfield 137, 3, 3, 13, .null)] (12, [(0, .ref 0), (1, .int x1), (2, .int x2), (3, .int x3)], [.int (I 7 13), .int x3], I, G, (gP rd)) (True) hX hi (by decide +kernel) rfl trivial ?_
    refine am_icmp_le (tgt := 25) hX hi (off := (13)) (by decide +kernel) (by decide) (fun c12 => ?_) (fun c12 => ?_)
    · rw [if_pos c12] at h
      refine am_blk 25 [(.aload_n 0, 1, 0, 0, .null), (.getfield 33, 3, 9, 2, .null), (.iload_n 1, 1, 1, 0, .null), (.iload_n 2, 1, 2, 0, .null)] (31, [(0, .ref 0), (1, .int x1), (2, .int x2), (3, .int x3)], [.int x2, .int x1, .ref 7], I, G, (gP rd)) (True) hX hi (by decide +kernel) rfl trivial ?_
      refine am_callV hX hi (M := mX5_spot) (idx := 112) (d' := 3) (b := 7) (ci := 3) (As := [.int x1, .int x2]) (rest := []) mkX5_spot miX5_spot mvX5_spot (by decide +kernel) (by decide +kernel) rfl (by decide +kernel) rfl ⟨by omega, by decide, Nat.le_of_ble_eq_true rfl⟩ rfl (c_X5_spot_7 _ I G x1 x2) ?_
      rintro r9 I9 G9 P9 ⟨e0, e1, e2, e3⟩
      rw [e0, e1, e2, e3]
      show am_V X 0 0 _ _ ad (34, [(0, .ref 0), (1, .int x1), (2, .int x2), (3, .int x3)], [.int (f_X5_spot_7 I G x1 x2)], I, G, (gP rd))
      refine am_blk 34 [(.istore 4, 2, 4, 0, .null), (.aload_n 0, 1, 0, 0, .null), (.getfield 50, 3, 9, 5, .null), (.aload_n 0, 1, 0, 0, .null), (.getfield 46, 3, 9, 4, .null)] (44, [(0, .ref 0), (1, .int x1), (2, .int x2), (3, .int x3), (4, .int (f_X5_spot_7 I G x1 x2))], [.ref 53, .ref 66], I, G, (gP rd)) (True) hX hi (by decide +kernel) rfl trivial ?_
      obtain ⟨r1, I1, G1, hc, h⟩ := rb_some h
      refine am_callV hX hi (M := mX7_take) (idx := 227) (d' := 5) (b := 66) (ci := 5) (As := [.ref 53]) (rest := []) mkX7_take miX7_take mvX7_take (by decide +kernel) (by decide +kernel) rfl (by decide +kernel) rfl ⟨by omega, by decide, Nat.le_of_ble_eq_true rfl⟩ rfl (c_X7_take_66_53 _ I G  hc) ?_
      rintro r9 I9 G9 P9 ⟨e0, e1, e2, e3⟩
      rw [e0, e1, e2, e3]
      show am_V X 0 0 _ _ ad (47, [(0, .ref 0), (1, .int x1), (2, .int x2), (3, .int x3), (4, .int (f_X5_spot_7 I G x1 x2))], [], I1, G1, (gP rd))
      refine am_blk 47 [(.iconst (0), 1, 0, 0, .int (0 : Int32)), (.istore 5, 2, 5, 0, .null)] (50, [(0, .ref 0), (1, .int x1), (2, .int x2), (3, .int x3), (4, .int (f_X5_spot_7 I G x1 x2)), (5, .int (0 : Int32))], [], I1, G1, (gP rd)) (True) hX hi (by decide +kernel) rfl trivial ?_
      exact am_toX ((l_X11_until_0 rd hX hi FU) _ _ _ _ _ _ _ _ h)
    · rw [if_neg c12] at h
      cases h
      exact am_throwX hX hi hx9 (k := 93) (is := 139) (i := 5) rfl am_x93 rfl (by omega) (by decide +kernel) (by decide +kernel) (by decide +kernel) (by decide +kernel) (by decide +kernel) (Nat.le_of_ble_eq_true rfl) ⟨_, rfl, rfl⟩
noncomputable def L_X11_advise_0 (n0 : Nat) (hd : Nat) (I : am_I) (G : am_G) (v1 : Int32) (v2 : Int32) (v3 : Int32) (v4 : Int32) : Option ((Int32 ⊕ Nat) × am_I × am_G) := match n0 with
  | 0 => none
  | n + 1 => match hd with
    | _ => (if (16 : Int32) < v4 then some (.inl v2, I, G) else rb (R_X7_changePull_66 I G v1 v4) (fun r101 I101 G101 => rb (R_X7_group_66 I101 G101 ) (fun r102 I102 G102 => (if v3 ≤ (I102 73 4) then L_X11_advise_0 n 0 I102 G102 v1 v2 v3 (v4 + (1 : Int32)) else L_X11_advise_0 n 0 I102 G102 v1 v4 (I102 73 4) (v4 + (1 : Int32))))))
theorem L_X11_advise_0_0 (n : Nat) (I : am_I) (G : am_G) (v1 : Int32) (v2 : Int32) (v3 : Int32) (v4 : Int32) : L_X11_advise_0 (n + 1) 0 I G v1 v2 v3 v4 = (if (16 : Int32) < v4 then some (.inl v2, I, G) else rb (R_X7_changePull_66 I G v1 v4) (fun r101 I101 G101 => rb (R_X7_group_66 I101 G101 ) (fun r102 I102 G102 => (if v3 ≤ (I102 73 4) then L_X11_advise_0 n 0 I102 G102 v1 v2 v3 (v4 + (1 : Int32)) else L_X11_advise_0 n 0 I102 G102 v1 v4 (I102 73 4) (v4 + (1 : Int32)))))) := rfl
theorem L_X11_advise_0_z (h : Nat) (I : am_I) (G : am_G) (v1 : Int32) (v2 : Int32) (v3 : Int32) (v4 : Int32) : L_X11_advise_0 0 h I G v1 v2 v3 v4 = none := rfl
noncomputable def R_X11_advise_0 (I : am_I) (G : am_G) (x1 : Int32) : Option ((Int32 ⊕ Nat) × am_I × am_G) := (if x1 < 0 then some (.inr 93, I, G) else (if x1 < (I 7 12) then rb (R_X7_take_66_53 I G ) (fun r1 I1 G1 => L_X11_advise_0 FU 0 I1 G1 x1 (0 : Int32) (577 : Int32) (0 : Int32)) else some (.inr 93, I, G)))
set_option maxRecDepth 20000 in
set_option maxHeartbeats 4000000 in
theorem l_X11_advise_0 (rd : Nat) {X : am_X} {ad : Nat → Nat} (hX : am_okz X ad) (hi : am_info X 9 cX11_advise 5 false (Option.some Jvm.ClassFile.FieldType.int) 9) (n : Nat) : (∀ (I : am_I) (G : am_G) (v1 : Int32) (v2 : Int32) (v3 : Int32) (v4 : Int32) (out : (Int32 ⊕ Nat) × am_I × am_G), L_X11_advise_0 n 0 I G v1 v2 v3 v4 = some out → am_V X 0 0 (am_Rt X gS ad (pn9 out.1 out.2.1 out.2.2 (gP rd))) gS ad (45, [(0, .ref 0), (1, .int v1), (2, .int v2), (3, .int v3), (4, .int v4)], [], I, G, (gP rd))) := by
  induction n with
  | zero => exact fun I G v1 v2 v3 v4 out h => by rw [L_X11_advise_0_z] at h; cases h
  | succ n ih =>
    · intro I G v1 v2 v3 v4 out h
      rw [L_X11_advise_0_0] at h
      refine am_blk 45 [(.iload 4, 2, 4, 0, .null), (.bipush (16), 2, 0, 0, .int (16 : Int32))] (49, [(0, .ref 0), (1, .int v1), (2, .int v2), (3, .int v3), (4, .int v4)], [.int (16 : Int32), .int v4], I, G, (gP rd)) (True) hX hi (by decide +kernel) rfl trivial ?_
      refine am_icmp_gt (tgt := 104) hX hi (off := (55)) (by decide +kernel) (by decide) (fun c49 => ?_) (fun c49 => ?_)
      · rw [if_pos c49] at h
        refine am_blk 104 [(.iload_n 2, 1, 2, 0, .null)] (105, [(0, .ref 0), (1, .int v1), (2, .int v2), (3, .int v3), (4, .int v4)], [.int v2], I, G, (gP rd)) (True) hX hi (by decide +kernel) rfl trivial ?_
        cases h
        refine am_iret hX hi rfl rfl (by decide +kernel) ?_
        exact ⟨_, rfl, rfl, rfl, rfl, rfl⟩
      · rw [if_neg c49] at h
        refine am_blk 52 [(.aload_n 0, 1, 0, 0, .null), (.getfield 50, 3, 9, 5, .null), (.iload_n 1, 1, 1, 0, .null), (.iload 4, 2, 4, 0, .null)] (59, [(0, .ref 0), (1, .int v1), (2, .int v2), (3, .int v3), (4, .int v4)], [.int v4, .int v1, .ref 66], I, G, (gP rd)) (True) hX hi (by decide +kernel) rfl trivial ?_
        obtain ⟨r101, I101, G101, hc, h⟩ := rb_some h
        refine am_callV hX hi (M := mX7_changePull) (idx := 197) (d' := 4) (b := 66) (ci := 5) (As := [.int v1, .int v4]) (rest := []) mkX7_changePull miX7_changePull mvX7_changePull (by decide +kernel) (by decide +kernel) rfl (by decide +kernel) rfl ⟨by omega, by decide, Nat.le_of_ble_eq_true rfl⟩ rfl (c_X7_changePull_66 _ I G v1 v4 hc) ?_
        rintro r9 I9 G9 P9 ⟨e0, e1, e2, e3⟩
        rw [e0, e1, e2, e3]
        show am_V X 0 0 _ _ ad (62, [(0, .ref 0), (1, .int v1), (2, .int v2), (3, .int v3), (4, .int v4)], [.int r101], I101, G101, (gP rd))
        refine am_blk 62 [(.pop, 1, 0, 0, .null), (.aload_n 0, 1, 0, 0, .null), (.getfield 50, 3, 9, 5, .null)] (67, [(0, .ref 0), (1, .int v1), (2, .int v2), (3, .int v3), (4, .int v4)], [.ref 66], I101, G101, (gP rd)) (True) hX hi (by decide +kernel) rfl trivial ?_
        obtain ⟨r102, I102, G102, hc, h⟩ := rb_some h
        refine am_callV hX hi (M := mX7_group) (idx := 98) (d' := 8) (b := 66) (ci := 5) (As := []) (rest := []) mkX7_group miX7_group mvX7_group (by decide +kernel) (by decide +kernel) rfl (by decide +kernel) rfl ⟨by omega, by decide, Nat.le_of_ble_eq_true rfl⟩ rfl (c_X7_group_66 _ I101 G101  hc) ?_
        rintro r9 I9 G9 P9 ⟨e0, e1, e2, e3⟩
        rw [e0, e1, e2, e3]
        show am_V X 0 0 _ _ ad (70, [(0, .ref 0), (1, .int v1), (2, .int v2), (3, .int v3), (4, .int v4)], [], I102, G102, (gP rd))
        refine am_blk 70 [(.aload_n 0, 1, 0, 0, .null), (.getfield 50, 3, 9, 5, .null), (.getfield 125, 3, 5, 8, .null), (.getfield 230, 3, 2, 4, .null), (.iload_n 3, 1, 3, 0, .null)] (81, [(0, .ref 0), (1, .int v1), (2, .int v2), (3, .int v3), (4, .int v4)], [.int v3, .int (I102 73 4)], I102, G102, (gP rd)) (True) hX hi (by decide +kernel) rfl trivial ?_
        refine am_icmp_ge (tgt := 98) hX hi (off := (17)) (by decide +kernel) (by decide) (fun c81 => ?_) (fun c81 => ?_)
        · rw [if_pos c81] at h
          refine am_blk 98 [(.iinc 4 (1), 3, 4, 0, .int (1 : Int32)), (.goto (-56), 3, 0, 45, .null)] (45, [(0, .ref 0), (1, .int v1), (2, .int v2), (3, .int v3), (4, .int (v4 + (1 : Int32)))], [], I102, G102, (gP rd)) (True) hX hi (by decide +kernel) rfl trivial ?_
          exact ih _ _ _ _ _ _ _ h
        · rw [if_neg c81] at h
          refine am_blk 84 [(.aload_n 0, 1, 0, 0, .null), (.getfield 50, 3, 9, 5, .null), (.getfield 125, 3, 5, 8, .null), (.getfield 230, 3, 2, 4, .null), (.istore_n 3, 1, 3, 0, .null), (.iload 4, 2, 4, 0, .null), (.istore_n 2, 1, 2, 0, .null), (.iinc 4 (1), 3, 4, 0, .int (1 : Int32)), (.goto (-56), 3, 0, 45, .null)] (45, [(0, .ref 0), (1, .int v1), (2, .int v4), (3, .int (I102 73 4)), (4, .int (v4 + (1 : Int32)))], [], I102, G102, (gP rd)) (True) hX hi (by decide +kernel) rfl trivial ?_
          exact ih _ _ _ _ _ _ _ h
set_option maxRecDepth 20000 in
set_option maxHeartbeats 4000000 in
theorem c_X11_advise_0 (rd : Nat) (I : am_I) (G : am_G) (x1 : Int32) {out : (Int32 ⊕ Nat) × am_I × am_G} (h : R_X11_advise_0 I G x1 = some out) : am_CtX mX11_advise 9 gS [.ref 0, .int x1] I G (gP rd) (pe9 out.1) (pn9 out.1 out.2.1 out.2.2 (gP rd)) := by
  refine am_ofX (by decide +kernel) rfl (by decide) (by omega) (Nat.le_of_ble_eq_true rfl) (fun X ad hX hi hx9 => ?_)
  have hi : am_info X 9 cX11_advise 5 false (Option.some Jvm.ClassFile.FieldType.int) 9 := hi
  show am_V X 0 0 _ _ ad (0, [(0, .ref 0), (1, .int x1)], [], I, G, (gP rd))
  unfold R_X11_advise_0 at h
  refine am_blk 0 [(.iload_n 1, 1, 1, 0, .null)] (1, [(0, .ref 0), (1, .int x1)], [.int x1], I, G, (gP rd)) (True) hX hi (by decide +kernel) rfl trivial ?_
  refine am_if_lt (tgt := 15) hX hi (off := (14)) (by decide +kernel) (by decide) (fun c1 => ?_) (fun c1 => ?_)
  · rw [if_pos c1] at h
    cases h
    exact am_throwX hX hi hx9 (k := 93) (is := 184) (i := 10) rfl am_x93 rfl (by omega) (by decide +kernel) (by decide +kernel) (by decide +kernel) (by decide +kernel) (by decide +kernel) (Nat.le_of_ble_eq_true rfl) ⟨_, rfl, rfl⟩
  · rw [if_neg c1] at h
    refine am_blk 4 [(.iload_n 1, 1, 1, 0, .null), (.aload_n 0, 1, 0, 0, .null), (.getfield 33, 3, 9, 2, .null), (.getfield 176, 3, 3, 12, .null)] (12, [(0, .ref 0), (1, .int x1)], [.int (I 7 12), .int x1], I, G, (gP rd)) (True) hX hi (by decide +kernel) rfl trivial ?_
    refine am_icmp_lt (tgt := 25) hX hi (off := (13)) (by decide +kernel) (by decide) (fun c12 => ?_) (fun c12 => ?_)
    · rw [if_pos c12] at h
      refine am_blk 25 [(.iconst (0), 1, 0, 0, .int (0 : Int32)), (.istore_n 2, 1, 2, 0, .null), (.sipush (577), 3, 0, 0, .int (577 : Int32)), (.istore_n 3, 1, 3, 0, .null), (.aload_n 0, 1, 0, 0, .null), (.getfield 50, 3, 9, 5, .null), (.aload_n 0, 1, 0, 0, .null), (.getfield 46, 3, 9, 4, .null)] (39, [(0, .ref 0), (1, .int x1), (2, .int (0 : Int32)), (3, .int (577 : Int32))], [.ref 53, .ref 66], I, G, (gP rd)) (True) hX hi (by decide +kernel) rfl trivial ?_
      obtain ⟨r1, I1, G1, hc, h⟩ := rb_some h
      refine am_callV hX hi (M := mX7_take) (idx := 227) (d' := 5) (b := 66) (ci := 5) (As := [.ref 53]) (rest := []) mkX7_take miX7_take mvX7_take (by decide +kernel) (by decide +kernel) rfl (by decide +kernel) rfl ⟨by omega, by decide, Nat.le_of_ble_eq_true rfl⟩ rfl (c_X7_take_66_53 _ I G  hc) ?_
      rintro r9 I9 G9 P9 ⟨e0, e1, e2, e3⟩
      rw [e0, e1, e2, e3]
      show am_V X 0 0 _ _ ad (42, [(0, .ref 0), (1, .int x1), (2, .int (0 : Int32)), (3, .int (577 : Int32))], [], I1, G1, (gP rd))
      refine am_blk 42 [(.iconst (0), 1, 0, 0, .int (0 : Int32)), (.istore 4, 2, 4, 0, .null)] (45, [(0, .ref 0), (1, .int x1), (2, .int (0 : Int32)), (3, .int (577 : Int32)), (4, .int (0 : Int32))], [], I1, G1, (gP rd)) (True) hX hi (by decide +kernel) rfl trivial ?_
      exact am_toX ((l_X11_advise_0 rd hX hi FU) _ _ _ _ _ _ _ h)
    · rw [if_neg c12] at h
      cases h
      exact am_throwX hX hi hx9 (k := 93) (is := 184) (i := 10) rfl am_x93 rfl (by omega) (by decide +kernel) (by decide +kernel) (by decide +kernel) (by decide +kernel) (by decide +kernel) (Nat.le_of_ble_eq_true rfl) ⟨_, rfl, rfl⟩
