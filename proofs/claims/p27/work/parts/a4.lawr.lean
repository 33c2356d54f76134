/-! rules of the law's own walk: calls of the class over the law's cells, the script, below, cell -/
theorem am_Ct.cg {M : am_M} {d : Nat} {sh : List am_Sh} {args : List Value} {I Ic : am_I} {G Gc : am_G} {P Pc : am_P} {post : am_Po} (hI : ∀ b, b < sh.length → I b = Ic b) (hG : ∀ b, b < sh.length → G b = Gc b) (hP : ∀ b, b < sh.length → P b = Pc b) (h : am_Ct M d sh args Ic Gc Pc post) : am_Ct M d sh args I G P post := by
  intro l D cys ad sz
  have h1 := h l D cys ad sz
  have e : am_ws cys ad sh I G P = am_ws cys ad sh Ic Gc Pc := am_ws_row0 hI hG hP
  unfold am_Pr at h1 ⊢
  rw [e]
  exact h1
def clR {α : Type} (x : Option (α × am_I × am_G)) (I : am_I) (G : am_G) : Option (α × am_I × am_G) := x.bind fun q => some (q.1, gl 79 q.2.1 I, gl 79 q.2.2 G)
theorem clR_some {α : Type} {x : Option (α × am_I × am_G)} {I : am_I} {G : am_G} {o : α × am_I × am_G} (h : clR x I G = some o) : ∃ (J : am_I) (K : am_G), x = some (o.1, J, K) ∧ gl 79 J I = o.2.1 ∧ gl 79 K G = o.2.2 := by
  obtain ⟨⟨a, J, K⟩, h1, h2⟩ := ob_some h
  cases h2
  exact ⟨J, K, h1, rfl, rfl⟩
def clX (x : Option ((Int32 ⊕ Nat) × am_I × am_G)) (I : am_I) (G : am_G) : Option (Int32 × am_I × am_G) := x.bind fun q => match q.1 with
  | .inl v => some (v, gl 79 q.2.1 I, gl 79 q.2.2 G)
  | .inr _ => none
theorem clX_some {x : Option ((Int32 ⊕ Nat) × am_I × am_G)} {I : am_I} {G : am_G} {o : Int32 × am_I × am_G} (h : clX x I G = some o) : ∃ (J : am_I) (K : am_G), x = some (.inl o.1, J, K) ∧ gl 79 J I = o.2.1 ∧ gl 79 K G = o.2.2 := by
  obtain ⟨⟨a, J, K⟩, h1, h2⟩ := ob_some h
  cases a with
  | inr k => cases h2
  | inl v => cases h2; exact ⟨J, K, h1, rfl, rfl⟩
theorem clR_go {α : Type} {v : α} {J I : am_I} {K G : am_G} : clR (some (v, J, K)) I G = some (v, gl 79 J I, gl 79 K G) := rfl
theorem clX_go {v : Int32} {J I : am_I} {K G : am_G} : clX (some (.inl v, J, K)) I G = some (v, gl 79 J I, gl 79 K G) := rfl
theorem gl_row {n N : Nat} {f I : am_I} {F : Nat → Int32} (h : n ≤ N) : gl n f (am_row I N F) = am_row (gl n f I) N F := by
  funext b
  by_cases hb : b < n
  · rw [gl_lt _ _ hb, am_row_ne _ _ (by omega), gl_lt _ _ hb]
  · by_cases hN : b = N
    · subst hN
      rw [gl_ge _ _ (by omega), am_row_self, am_row_self]
    · rw [gl_ge _ _ (by omega), am_row_ne _ _ hN, am_row_ne _ _ hN, gl_ge _ _ (by omega)]
def lG (sh : List am_Sh) (P : am_P) : Prop := (∃ s2, sh = gS ++ s2) ∧ ∀ b, b < 79 → P b = gP 0 b
theorem lG.app {sh ex : List am_Sh} {P : am_P} (h : lG sh P) : lG (sh ++ ex) P := by
  obtain ⟨⟨s2, h1⟩, h2⟩ := h
  exact ⟨⟨s2 ++ ex, by rw [h1, List.append_assoc]⟩, h2⟩
theorem pn9_po {v : Int32} {I1 : am_I} {G1 : am_G} {P1 : am_P} : ∀ r I' G' P', pn9 (.inl v) I1 G1 P1 r I' G' P' → r = some (.int v) ∧ I' = I1 ∧ G' = G1 ∧ P' = P1 := by
  rintro r I' G' P' ⟨x, h1, h2, h3, h4, h5⟩
  cases h1
  exact ⟨h2, h3, h4, h5⟩
def am_scT (X : am_X) (ad : Nat → Nat) (N : Nat) (xs : Nat → Int32) : Prop := match X with
  | (_, _, _, _, s, _, _, _, _, _, A, _, _, _, _, _, _) => va_T .int (ad 5000) N (fun j => .int (xs j)) A s s.heap
theorem am_scT.adr {X : am_X} {ad ad' : Nat → Nat} {N : Nat} {xs : Nat → Int32} (h : am_scT X ad N xs) (he : ad' 5000 = ad 5000) : am_scT X ad' N xs := by
  obtain ⟨p, l, e, R, s, m, args, below, meth, c, A, D, cys, o', cc', nL', ini'⟩ := X
  show va_T .int (ad' 5000) N (fun j => .int (xs j)) A s s.heap
  rw [he]; exact h
/-- a contract of a method that looks at the script -/
def am_CtS (N : Nat) (xs : Nat → Int32) (M : am_M) (d : Nat) (sh : List am_Sh) (args : List Value) (I : am_I) (G : am_G) (P : am_P) (post : am_Po) : Prop :=
  ∀ (l : Launch) (D : va_G) (cys : am_C3) (ad : Nat → Nat) (sz : Nat), Met l M.1 (am_wl M.1 M.2.1 M.2.2.1 M.2.2.2.1) (am_rm d 0 0) (va_Pc (args.map (am_tv ad)) (fun U => am_Pr D cys ad sh I G P sz U ∧ va_T .int (ad 5000) N (fun j => .int (xs j)) (va_A (am_ws cys ad sh I G P) sz) U U.heap)) (am_Qc D cys ad sh (va_A (am_ws cys ad sh I G P) sz) post) 0 0 (va_A (am_ws cys ad sh I G P) sz)
theorem am_blindS {D : va_G} {cys : am_C3} {ad : Nat → Nat} {sh : List am_Sh} {I : am_I} {G : am_G} {P : am_P} {sz N : Nat} {xs : Nat → Int32} {A : Nat → Prop} {av : List Value} : FrameBlind (va_Pc av (fun U => am_Pr D cys ad sh I G P sz U ∧ va_T .int (ad 5000) N (fun j => .int (xs j)) A U U.heap)) := by
  intro a U g mk h
  obtain ⟨h1, h2, h3⟩ := h
  obtain ⟨h4, h5⟩ := am_blind (av := av) a U g mk ⟨h1, h2⟩
  exact ⟨h4, h5, h3.moved (u := U) (U := U.calling g mk a) (Vm.Alike.refl U.vm)⟩
theorem am_ofS {N : Nat} {xs : Nat → Int32} {M : am_M} {d : Nat} {sh : List am_Sh} {args : List Value} {I : am_I} {G : am_G} {P : am_P} {post : am_Po} (hy : plainFor M.1 = true) (hcls : M.1.cls = am_own M.2.2.2.2.1) (hini : M.2.2.2.2.2.2 = true → M.1.name = "<init>") (hd : 1 ≤ d) (hargs : (lg_sl args).length ≤ M.2.2.1)
    (body : ∀ (X : am_X) (ad : Nat → Nat), am_okz X ad → am_info X M.2.2.2.2.1 M.2.1 M.2.2.1 M.2.2.2.2.2.2 M.2.2.2.1 d → am_scT X ad N xs → am_V X 0 0 (am_Rt X sh ad post) sh ad (0, lv_args 0 args, [], I, G, P)) : am_CtS N xs M d sh args I G P post := by
  obtain ⟨y, cc, nL, ret, o, n, ini⟩ := M
  intro l D cys ad sz
  refine va_MetF (cc := cc) (maxL := nL) (ret := ret) hy rfl ?_
  intro p e s m a below meth c s₁ B hml hv
  obtain ⟨rfl, ⟨hsz, hP, hK, hD0, hN, hZ⟩, hT⟩ := hv
  have hts : ∀ w ∈ am_wl y cc nL ret, w.before _ s = true := atoms_spec (ws := am_wl y cc nL ret) B.pre
  have hown : s.vm.findClass y.cls = some m.cls := findClass_of_methodNamed B.named
  have hin : meth.name = y.name := (name_of_methodNamed B.named B.method).1
  subst hsz
  have hD := hD0.self (sz := s.heap.size)
  have hb := body (p, l, e, (headSpec (am_wl y cc nL ret) (am_rm d 0 0)).room, s, m, (args.map (am_tv ad)).toArray, below, meth, c, va_A (am_ws cys ad sh I G P) s.heap.size, D, cys, o, cc, nL, ini) ad
    ⟨⟨B.exec, B.bytes, hml, by rw [← hcls]; exact hown, fun w hw => hts w (List.mem_cons_of_mem _ hw), B.notSynchronized, hK, hN, fun q h => Or.inr h, fun h => by rw [hin]; exact hini h, hd, by show 30 ≤ 30 * d; omega⟩, hZ⟩
    ⟨rfl, rfl, rfl, rfl, B.returns, Nat.le_refl _, Nat.le_refl _⟩ hT
  have hl := lv_entry (args.map (am_tv ad)) (n := nL) (by rw [am_sl_len]; exact hargs)
  rw [lg_entry_eq]
  rw [am_args] at hl
  exact hb (Nat.zero_le _) (Nat.zero_le _) s.heap [] _ hP hD va_S.rf hl
section AMQ
variable {X : am_X} {o : Nat} {cc : ByteArray} {nL : Nat} {ini : Bool} {ret : Option FieldType} {d : Nat}
variable {cells slots : Nat} {Q : State → Prop} {sh : List am_Sh} {ad : Nat → Nat} {pc : Nat} {L : am_L} {st : List Value} {I Ic I1 : am_I} {G Gc G1 : am_G} {P : am_P} {post : am_Po} {rv : Option Value}
/-- a method of the class, called over the law's cells -/
theorem am_callVQ (hX : am_okz X ad) (hi : am_info X o cc nL ini ret d) (hg : lG sh P) {M : am_M} {d' idx b ci : Nat} {As rest : List Value} (hM : am_Mok M) (hin : Cond.instanceMethod M.1 ∈ lw_tbl) (hsl : Cond.selects M.1.cls M.1 M.1 ∈ lw_tbl) (hl : am_lnk o idx M.1 false = true) (hd : decode cc pc = .ok (.invokevirtual idx, 3))
    (hs : gS[b]? = some (.inl ci)) (hcn : (vwCl[ci]?).map (fun r => r.1) = some M.1.cls) (hn : As.length = M.2.2.2.2.2.1) (hdd : d' + 1 ≤ d ∧ 19 + M.2.2.1 + 30 * d' ≤ 30 * d ∧ (rest.map fun v => v.category).sum ≤ 8) (hst : st = As.reverse ++ .ref b :: rest) (hI : ∀ b, b < 79 → I b = Ic b) (hG : ∀ b, b < 79 → G b = Gc b) (hC : am_Ct M d' gS (.ref b :: As) Ic Gc (gP 0) post)
    (hpo : ∀ r I' G' P', post r I' G' P' → r = rv ∧ I' = I1 ∧ G' = G1 ∧ P' = gP 0)
    (kk : am_V X cells slots Q sh ad (pc + 3, L, rv.toList ++ rest, gl 79 I1 I, gl 79 G1 G, P)) : am_V X cells slots Q sh ad (pc, L, st, I, G, P) := by
  obtain ⟨⟨s2, rfl⟩, hP⟩ := hg
  have h79 : gS.length = 79 := by decide
  exact am_callVP (sh1 := gS) (sh2 := s2) hX hi hM hin hsl hl hd hs hcn hn hdd hst (fun b hb => (hP b (by omega)).symm) (am_Ct.cg (fun b hb => hI b (by omega)) (fun b hb => hG b (by omega)) (fun _ _ => rfl) hC) hpo (by rw [h79]; exact kk)
/-- a static method that looks at the script -/
theorem am_callSS {N : Nat} {xs : Nat → Int32} (hX : am_okz X ad) (hi : am_info X o cc nL ini ret d) (hsc : am_scT X ad N xs) {M : am_M} {d' idx : Nat} {As rest : List Value} (hM : am_Mok M) (hin : Cond.static M.1 ∈ lw_tbl) (hl : am_lnk o idx M.1 false = true) (hd : decode cc pc = .ok (.invokestatic idx, 3))
    (hn : As.length = M.2.2.2.2.2.1) (hdd : d' + 1 ≤ d ∧ 19 + M.2.2.1 + 30 * d' ≤ 30 * d ∧ (rest.map fun v => v.category).sum ≤ 8) (hst : st = As.reverse ++ rest) (hC : am_CtS N xs M d' sh As I G P post)
    (kk : ∀ r I' G' P', post r I' G' P' → am_V X cells slots Q sh ad (pc + 3, L, r.toList ++ rest, I', G', P')) : am_V X cells slots Q sh ad (pc, L, st, I, G, P) := by
  subst hst
  obtain ⟨p, l, e, R, s, m, args, below, meth, c, A, D, cys, o', cc', nL', ini'⟩ := X
  obtain ⟨rfl, rfl, rfl, rfl, -, hR1, hR2⟩ := hi
  obtain ⟨⟨hx, hb, hml, hown, hts, hlk, hK, hN, hA, hini, hR3, hR4⟩, hZ⟩ := hX
  intro h1 h2 H locs ls hP hD hS hlo
  obtain ⟨q1, q2, q3, q4, q5⟩ := hM
  have hlw : Cond.methodLink (am_own o') idx M.1 ∈ lw_tbl := by
    have := am_lnk_ok hl
    simpa using this
  have cw : CallB R s args (am_own o') idx M.1 M.2.1 M.2.2.1 M.2.2.2.1 (am_wl M.1 M.2.1 M.2.2.1 M.2.2.2.1) (am_rm d' 0 0) 0 0 M.2.2.2.2.2.1 ∧ (Cond.static M.1).before args s = true :=
    ⟨callB_of _ hts (am_goodIn ⟨q1, q2, q3, q4, q5⟩) rfl rfl rfl (hts _ (am_good q2 rfl)) (hts _ (am_good hlw rfl)) ⟨q3, q4, q5⟩ ⟨by show d' + 1 ≤ R.frames; omega, by show 8 + (M.2.2.1 + 11) + 30 * d' ≤ R.locals; omega⟩, hts _ (am_good hin rfl)⟩
  have hA1 := am_A1 hD hS hA
  refine am_goes (A1 := va_A (am_ws cys ad sh I G P) H.size) (va_runS (As := As.map (am_tv ad)) (rest := rest.map (am_tv ad)) ⟨hx, hb, hml, hown, hts⟩ (hC l D cys ad H.size) cw ⟨am_blindS, ?_⟩ rfl (by rw [List.length_map]; exact hn) hlo.1 ?_ ?_ hd ⟨h1, h2⟩) hS hA1 hD ?_
  · intro U hU hW
    exact ⟨rfl, ⟨by rw [hU], by rw [hU]; exact hP, va_K.moved hW.alike hK, hD.weaken (fun _ _ _ _ => trivial), am_nst.warm hW hN, by rw [hU]; exact (am_Zs.warm hW (hZ.kept hS.2.1)).narrow hA1⟩, by rw [hU]; exact ((hsc.kept hS.2.1).moved hW.alike).narrow hA1⟩
  · simp
  · exact lv_room (by rw [am_cats]; exact hdd.2.2)
  · intro r I' G' P' hp H1 locs1 hP1 hD1 hS1
    rw [am_out]
    exact kk r I' G' P' hp h1 h2 H1 locs1 ls hP1 hD1 hS1 hlo
theorem am_scl {N : Nat} {xs : Nat → Int32} (hX : am_okz X ad) (hi : am_info X o cc nL ini ret d) (hs : am_scT X ad N xs) (hd : decode cc pc = .ok (.arraylength, 1)) (k : am_V X cells slots Q sh ad (pc + 1, L, .int (Int32.ofNat N) :: st, I, G, P)) : am_V X cells slots Q sh ad (pc, L, .ref 5000 :: st, I, G, P) := by
  obtain ⟨p, l, e, R, s, m, args, below, meth, c, A, D, cys, o', cc', nL', ini'⟩ := X
  obtain ⟨rfl, rfl, rfl, rfl, -, -, -⟩ := hi
  obtain ⟨⟨hx, hb, -⟩, -⟩ := hX
  intro q1 q2 H locs ls hP hD hS hl
  exact va_tlen hx hb hs hS rfl hd (k q1 q2 H locs ls hP hD hS hl)
theorem am_sca {N : Nat} {xs : Nat → Int32} (hX : am_okz X ad) (hi : am_info X o cc nL ini ret d) (hs : am_scT X ad N xs) {i : Int32} (hin : vp_in i N) (hd : decode cc pc = .ok (.iaload, 1)) (k : am_V X cells slots Q sh ad (pc + 1, L, .int (xs i.toNatClampNeg) :: st, I, G, P)) : am_V X cells slots Q sh ad (pc, L, .int i :: .ref 5000 :: st, I, G, P) := by
  obtain ⟨p, l, e, R, s, m, args, below, meth, c, A, D, cys, o', cc', nL', ini'⟩ := X
  obtain ⟨rfl, rfl, rfl, rfl, -, -, -⟩ := hi
  obtain ⟨⟨hx, hb, -⟩, -⟩ := hX
  intro q1 q2 H locs ls hP hD hS hl
  exact va_ti hx hb hs hS hin rfl hd (k q1 q2 H locs ls hP hD hS hl)
end AMQ
def lw_b (v n : Int32) : Int32 := (v &&& 2147483647) - (v &&& 2147483647) / n * n
set_option maxRecDepth 20000 in
theorem c_below {sh : List am_Sh} {I : am_I} {G : am_G} {P : am_P} (v n : Int32) (h : ¬ n = 0) : am_Ct mL_below 1 sh [.int v, .int n] I G P (pI (lw_b v n) I G P) := by
  refine am_ofF (by decide +kernel) rfl (by decide) (by decide) (Nat.le_of_ble_eq_true rfl) (fun X ad hX hi => ?_)
  have hi : am_info X 15 cL_below 2 false (some .int) 1 := hi
  show am_V X 0 0 _ _ ad (0, [(0, .int v), (1, .int n)], [], I, G, P)
  refine am_blk 0 [(.iload_n 0, 1, 0, 0, .null)] (1, [(0, .int v), (1, .int n)], [.int v], I, G, P) True hX hi (by decide +kernel) rfl trivial ?_
  refine am_ldci hX hi (idx := 7) (v := 2147483647) (List.mem_of_getElem? (i := 977) (by decide +kernel)) (by decide +kernel) ?_
  refine am_blk 3 [(.iand, 1, 0, 0, .null), (.iload_n 1, 1, 1, 0, .null), (.irem, 1, 0, 0, .null)] (6, [(0, .int v), (1, .int n)], [.int (lw_b v n)], I, G, P) (¬ n = 0 ∧ True) hX hi (by decide +kernel) rfl ⟨h, trivial⟩ ?_
  exact am_iret hX hi rfl rfl (by decide +kernel) ⟨rfl, rfl, rfl, rfl⟩
def lw_c (N : Nat) (xs : Nat → Int32) (k : Int32) : Int32 := if Int32.ofNat N ≤ k then (790386105 : Int32) * (k + 3) else xs k.toNatClampNeg
set_option maxRecDepth 20000 in
theorem c_cell {N : Nat} {xs : Nat → Int32} {sh : List am_Sh} {I : am_I} {G : am_G} {P : am_P} (k : Int32) (hk : 0 ≤ k.toInt) (hN : N ≤ 260) : am_CtS N xs mL_cell 1 sh [.ref 5000, .int k] I G P (pI (lw_c N xs k) I G P) := by
  refine am_ofS (by decide +kernel) rfl (by decide) (by decide) (Nat.le_of_ble_eq_true rfl) (fun X ad hX hi hsc => ?_)
  have hi : am_info X 15 cL_cell 2 false (some .int) 1 := hi
  show am_V X 0 0 _ _ ad (0, [(0, .ref 5000), (1, .int k)], [], I, G, P)
  refine am_blk 0 [(.iload_n 1, 1, 1, 0, .null), (.aload_n 0, 1, 0, 0, .null)] (2, [(0, .ref 5000), (1, .int k)], [.ref 5000, .int k], I, G, P) True hX hi (by decide +kernel) rfl trivial ?_
  refine am_scl hX hi hsc (by decide +kernel) ?_
  refine am_icmp_ge (tgt := 12) hX hi (off := 9) (by decide +kernel) (by decide) (fun c => ?_) (fun c => ?_)
  · refine am_ldci hX hi (idx := 8) (v := 790386105) (List.mem_of_getElem? (i := 981) (by decide +kernel)) (by decide +kernel) ?_
    refine am_blk 14 [(.iload_n 1, 1, 1, 0, .null), (.iconst 3, 1, 0, 0, .int 3), (.iadd, 1, 0, 0, .null), (.imul, 1, 0, 0, .null)] (18, [(0, .ref 5000), (1, .int k)], [.int ((790386105 : Int32) * (k + 3))], I, G, P) True hX hi (by decide +kernel) rfl trivial ?_
    refine am_iret hX hi rfl rfl (by decide +kernel) (pI_eq ?_)
    unfold lw_c; rw [if_pos c]
  · refine am_blk 6 [(.aload_n 0, 1, 0, 0, .null), (.iload_n 1, 1, 1, 0, .null)] (8, [(0, .ref 5000), (1, .int k)], [.int k, .ref 5000], I, G, P) True hX hi (by decide +kernel) rfl trivial ?_
    refine am_sca hX hi hsc ((i_in _ _).mpr ⟨hk, ?_⟩) (by decide +kernel) ?_
    · rw [i_le, i_of _ (by omega)] at c; omega
    refine am_blk 9 [(.goto 9, 3, 0, 18, .null)] (18, [(0, .ref 5000), (1, .int k)], [.int (xs k.toNatClampNeg)], I, G, P) True hX hi (by decide +kernel) rfl trivial ?_
    refine am_iret hX hi rfl rfl (by decide +kernel) (pI_eq ?_)
    unfold lw_c; rw [if_neg c]
section AMP3
variable {p : Program} {l : Launch} {e : Env} {R : Room} {s : State} {m : MethodId} {args : Array Value} {below : List Frame} {meth : Method} {c : Code} {A : Nat → Prop} {D : va_G} {cys : am_C3}
variable {cells slots : Nat} {Q : State → Prop} {sh1 sh2 : List am_Sh} {ad : Nat → Nat} {pc : Nat} {I I1 : am_I} {G G1 : am_G} {P P1 : am_P} {H : Heap} {locs : List Loc} {ls : Array Slot}
theorem am_goesPM {mc ms : Nat} {st0 rest : List Value} {post : am_Po} {a : Array Value} {rv : Option Value} (hP1 : ∀ b, b < sh1.length → P1 b = P b) (hP : va_P D vwCl (am_ws cys ad (sh1 ++ sh2) I G P) H) (hr : va_Run p l e R s m args below meth c H locs cells slots mc ms (F0 m pc ls st0) rest (am_Qc D cys ad sh1 (va_A (am_ws cys ad sh1 I G P1) H.size) post a) (va_A (am_ws cys ad sh1 I G P1) H.size)) (hS : va_S A s.heap H locs) (hA : ∀ q, va_A (am_ws cys ad sh1 I G P1) H.size q → A q) (hD : va_D A (am_ws cys ad (sh1 ++ sh2) I G P))
    (hpo : ∀ r I' G' P', post r I' G' P' → r = rv ∧ I' = I1 ∧ G' = G1 ∧ P' = P1)
    (kk : ∀ (H1 : Heap) (locs1 : List Loc), va_P D vwCl (am_ws cys ad (sh1 ++ sh2) (gl sh1.length I1 I) (gl sh1.length G1 G) P) H1 → va_D A (am_ws cys ad (sh1 ++ sh2) (gl sh1.length I1 I) (gl sh1.length G1 G) P) → va_S A s.heap H1 locs1 → W p l e R s m args below meth c H1 locs1 (cells + mc) (slots + ms) Q (F0 m (pc + 3) ls ((rv.map (am_tv ad)).toList ++ rest))) : W p l e R s m args below meth c H locs cells slots Q (F0 m pc ls st0) := by
  intro T hT X
  obtain ⟨v, st₀, t, T', L, h0, X', hL, e1, e2, ⟨⟨r, I', G', P', hp, hv, hPt⟩, hz, hk⟩, st⟩ := hr T hT X
  cases hv
  rw [h0] at hz hk
  have hS1 : va_S A s.heap T'.heap (locs ++ L) := ⟨Nat.le_trans hS.1 (by rw [e1]; exact hz), fun q h1 h2 => by rw [e1, hk q (Nat.lt_of_lt_of_le h1 hS.1) (fun z => h2 (hA q z))]; exact hS.2.1 q h1 h2, fun q hq => by
      rcases List.mem_append.mp hq with h | h
      · exact hS.2.2 q h
      · exact hA _ (hL q h)⟩
  have e0 : am_ws cys ad sh1 I G P1 = am_ws cys ad sh1 I G P := am_ws_row0 (fun _ _ => rfl) (fun _ _ => rfl) hP1
  rw [e0] at hk
  obtain ⟨rfl, rfl, rfl, rfl⟩ := hpo _ _ _ _ hp
  have hsp := am_ws_split (cys := cys) (ad := ad) (sh1 := sh1) (sh2 := sh2) (I := I) (G := G) (P := P)
  have hsp' := am_ws_split (cys := cys) (ad := ad) (sh1 := sh1) (sh2 := sh2) (I := gl sh1.length I' I) (G := gl sh1.length G' G) (P := P)
  have e3 : am_ws cys ad sh1 (gl sh1.length I' I) (gl sh1.length G' G) P = am_ws cys ad sh1 I' G' P' := am_ws_row0 (fun b hb => gl_lt _ _ hb) (fun b hb => gl_lt _ _ hb) (fun b hb => (hP1 b hb).symm)
  have e4 : sh2.mapIdx (fun a s => (ad (a + sh1.length), am_E cys ad s (gl sh1.length I' I (a + sh1.length)) (gl sh1.length G' G (a + sh1.length)) (P (a + sh1.length)))) = sh2.mapIdx (fun a s => (ad (a + sh1.length), am_E cys ad s (I (a + sh1.length)) (G (a + sh1.length)) (P (a + sh1.length)))) := by
    congr 1
    funext a z
    rw [gl_ge _ _ (by omega), gl_ge _ _ (by omega)]
  rw [e3, e4] at hsp'
  have hPn : va_P D vwCl (am_ws cys ad (sh1 ++ sh2) (gl sh1.length I' I) (gl sh1.length G' G) P) t.heap := by
    rw [hsp']
    refine hPt.app ?_
    rw [hsp] at hP hD
    have h2 : va_P D vwCl (sh2.mapIdx (fun a s => (ad (a + sh1.length), am_E cys ad s (I (a + sh1.length)) (G (a + sh1.length)) (P (a + sh1.length))))) H := fun k q hq => hP (k + (am_ws cys ad sh1 I G P).length) q (by
      rw [List.getElem?_append_right (by omega), Nat.add_sub_cancel]; exact hq)
    refine h2.kept (fun k q hq => hk q.1 (h2 k q hq).lt (fun hz9 => ?_))
    rcases hz9 with ⟨k2, e9, hz9⟩ | hz9
    · have hk2 := (List.getElem?_eq_some_iff.mp hz9).1
      have := hD.1 k2 (k + (am_ws cys ad sh1 I G P).length) (q.1, e9) q (by rw [List.getElem?_append_left hk2]; exact hz9) (by rw [List.getElem?_append_right (by omega), Nat.add_sub_cancel]; exact hq) rfl
      omega
    · have := (h2 k q hq).lt
      omega
  obtain ⟨t2, a1, b1⟩ := kk T'.heap (locs ++ L) (by rw [e1]; exact hPn) (am_D_adr hD) hS1 T' rfl X'
  exact ⟨t2, st t2 a1, b1⟩
end AMP3
theorem am_CtM.cg {M : am_M} {mc ms d : Nat} {sh : List am_Sh} {args : List Value} {I Ic : am_I} {G : am_G} {P : am_P} {post : am_Po} (hI : ∀ b, b < sh.length → I b = Ic b) (h : am_CtM M mc ms d sh args Ic G P post) : am_CtM M mc ms d sh args I G P post := by
  intro l D cys ad sz
  have h1 := h l D cys ad sz
  have e : am_ws cys ad sh I G P = am_ws cys ad sh Ic G P := am_ws_row0 hI (fun _ _ => rfl) (fun _ _ => rfl)
  unfold am_Pr at h1 ⊢
  rw [e]
  exact h1
section AMP4
variable {X : am_X} {o : Nat} {cc : ByteArray} {nL : Nat} {ini : Bool} {ret : Option FieldType} {d : Nat}
variable {cells slots : Nat} {Q : State → Prop} {sh1 sh2 : List am_Sh} {ad : Nat → Nat} {pc : Nat} {L : am_L} {st : List Value} {I I0 I1 : am_I} {G G1 : am_G} {P P1 : am_P} {post : am_Po} {rv : Option Value}
theorem am_callVMP {mc ms MC MS : Nat} {I2 : am_I} (hX : am_okz X ad) (hi : am_info X o cc nL ini ret d) (hm : am_mem X MC MS) {M : am_M} {d' idx b ci : Nat} {As rest : List Value} (hM : am_Mok M) (hin : Cond.instanceMethod M.1 ∈ lw_tbl) (hsl : Cond.selects M.1.cls M.1 M.1 ∈ lw_tbl) (hl : am_lnk o idx M.1 false = true) (hd : decode cc pc = .ok (.invokevirtual idx, 3))
    (hs : sh1[b]? = some (.inl ci)) (hcn : (vwCl[ci]?).map (fun r => r.1) = some M.1.cls) (hn : As.length = M.2.2.2.2.2.1) (hdd : d' + 1 ≤ d ∧ 19 + M.2.2.1 + 30 * d' ≤ 30 * d ∧ (rest.map fun v => v.category).sum ≤ 8) (hst : st = As.reverse ++ .ref b :: rest) (hroom : cells + mc ≤ MC ∧ slots + ms ≤ MS) (hP1 : ∀ b, b < sh1.length → P1 b = P b) (hC : am_CtM M mc ms d' sh1 (.ref b :: As) I0 G P1 post) (hI0 : ∀ b, b < sh1.length → I b = I0 b) (hI1 : ∀ b, b < sh1.length → I2 b = I1 b) (hI2 : ∀ b, sh1.length ≤ b → b < sh1.length + sh2.length → I2 b = I b) (hG1 : G = G1)
    (hpo : ∀ r I' G' P', post r I' G' P' → r = rv ∧ I' = I1 ∧ G' = G1 ∧ P' = P1)
    (kk : am_V X (cells + mc) (slots + ms) Q (sh1 ++ sh2) ad (pc + 3, L, rv.toList ++ rest, I2, G, P)) : am_V X cells slots Q (sh1 ++ sh2) ad (pc, L, st, I, G, P) := by
  subst hst
  subst hG1
  have hC : am_CtM M mc ms d' sh1 (.ref b :: As) I G P1 post := am_CtM.cg hI0 hC
  have kk : am_V X (cells + mc) (slots + ms) Q (sh1 ++ sh2) ad (pc + 3, L, rv.toList ++ rest, gl sh1.length I1 I, gl sh1.length G G, P) := am_V_ws (fun cys => am_ws_row0 (fun b hb => by
    by_cases h9 : b < sh1.length
    · rw [gl_lt _ _ h9, hI1 b h9]
    · rw [gl_ge _ _ (by omega), hI2 b (by omega) (by rw [List.length_append] at hb; exact hb)]) (fun b hb => by
    by_cases h9 : b < sh1.length
    · rw [gl_lt _ _ h9]
    · rw [gl_ge _ _ (by omega)]) (fun _ _ => rfl)) kk
  obtain ⟨p, l, e, R, s, m, args, below, meth, c, A, D, cys, o', cc', nL', ini'⟩ := X
  obtain ⟨rfl, rfl, rfl, rfl, -, hR1, hR2⟩ := hi
  obtain ⟨rfl, rfl⟩ := hm
  obtain ⟨⟨hx, hb, hml, hown, hts, hlk, hK, hN, hA, hini, hR3, hR4⟩, hZ⟩ := hX
  intro h1 h2 H locs ls hP hD hS hlo
  obtain ⟨q1, q2, q3, q4, q5⟩ := hM
  have hlw : Cond.methodLink (am_own o') idx M.1 ∈ lw_tbl := by
    have := am_lnk_ok hl
    simpa using this
  obtain ⟨r0, hr0, hr1⟩ := Option.map_eq_some_iff.mp hcn
  have hws := am_ws_at (cys := cys) (ad := ad) (I := I) (G := G) (P := P) (am_at_app (ex := sh2) hs)
  have cw : CallW R s args (am_own o') M.1.cls idx M.1 M.2.1 M.2.2.1 M.2.2.2.1 (am_wl M.1 M.2.1 M.2.2.1 M.2.2.2.1) (am_rm d' mc ms) mc ms M.2.2.2.2.2.1 :=
    ⟨callB_of _ hts (am_goodIn ⟨q1, q2, q3, q4, q5⟩) rfl rfl rfl (hts _ (am_good q2 rfl)) (hts _ (am_good hlw rfl)) ⟨q3, q4, q5⟩ ⟨by show d' + 1 ≤ R.frames; omega, by show 8 + (M.2.2.1 + 11) + 30 * d' ≤ R.locals; omega⟩, hts _ (am_good hin rfl), hts _ (am_good hsl rfl)⟩
  have e0 : am_ws cys ad sh1 I G P1 = am_ws cys ad sh1 I G P := am_ws_row0 (fun _ _ => rfl) (fun _ _ => rfl) hP1
  have hsub : ∀ (k : Nat) (q : Nat × va_E), (am_ws cys ad sh1 I G P1)[k]? = some q → (am_ws cys ad (sh1 ++ sh2) I G P)[k]? = some q := fun k q hq => by
    rw [e0] at hq
    rw [am_ws_pre (by have := (List.getElem?_eq_some_iff.mp hq).1; rw [am_ws_len] at this; exact this)]
    exact hq
  have hP9 : va_P D vwCl (am_ws cys ad sh1 I G P1) H := fun k q hq => hP k q (hsub k q hq)
  have hD9 : va_D A (am_ws cys ad sh1 I G P1) := ⟨fun i j u v hu hv => hD.1 i j u v (hsub i u hu) (hsub j v hv), fun k q hq => hD.2 k q (hsub k q hq)⟩
  have hA1 := am_A1 hD9 hS hA
  refine am_goesPM (post := post) hP1 hP (va_runV (As := As.map (am_tv ad)) (b := ad b) (rest := rest.map (am_tv ad)) ⟨hx, hb, hml, hown, hts⟩ (hC l D cys ad H.size) cw ⟨am_blind, ?_, ?_⟩ rfl (by rw [List.length_map]; exact hn) hlo.1 ?_ ?_ hd hroom) hS hA1 hD hpo ?_
  · rw [← hr1]
    exact va_recv hK hP hr0 hws
  · intro U hU hW
    exact ⟨rfl, by rw [hU], by rw [hU]; exact hP9, va_K.moved hW.alike hK, hD9.weaken (fun _ _ _ _ => trivial), am_nst.warm hW hN, by rw [hU]; exact (am_Zs.warm hW (hZ.kept hS.2.1)).narrow hA1⟩
  · simp [am_tv]
  · exact lv_room (by rw [am_cats]; exact hdd.2.2)
  · intro H1 locs1 hP1 hD1 hS1
    rw [am_out]
    exact kk hroom.1 hroom.2 H1 locs1 ls hP1 hD1 hS1 hlo
end AMP4
