/-! methods that make cells of their own and leave them: the same contract, with room -/
def am_CtM (M : am_M) (mc ms d : Nat) (sh : List am_Sh) (args : List Value) (I : am_I) (G : am_G) (P : am_P) (post : am_Po) : Prop :=
  ∀ (l : Launch) (D : va_G) (cys : am_C3) (ad : Nat → Nat) (sz : Nat), Met l M.1 (am_wl M.1 M.2.1 M.2.2.1 M.2.2.2.1) (am_rm d mc ms) (va_Pc (args.map (am_tv ad)) (am_Pr D cys ad sh I G P sz)) (am_Qc D cys ad sh (va_A (am_ws cys ad sh I G P) sz) post) mc ms (va_A (am_ws cys ad sh I G P) sz)
def am_RtM (X : am_X) (sh : List am_Sh) (ad : Nat → Nat) (post : am_Po) (mc ms : Nat) : State → Prop := match X with
  | (_, _, _, _, s, _, args, below, _, _, A, D, cys, _, _, _, _) => MQ below (am_Qc D cys ad sh A post) args s mc ms A
theorem am_ofM {M : am_M} {d mc ms : Nat} {sh : List am_Sh} {args : List Value} {I : am_I} {G : am_G} {P : am_P} {post : am_Po} (hy : plainFor M.1 = true) (hcls : M.1.cls = am_own M.2.2.2.2.1) (hini : M.2.2.2.2.2.2 = true → M.1.name = "<init>") (hd : 1 ≤ d) (hargs : (lg_sl args).length ≤ M.2.2.1)
    (body : ∀ (X : am_X) (ad : Nat → Nat), am_okz X ad → am_info X M.2.2.2.2.1 M.2.1 M.2.2.1 M.2.2.2.2.2.2 M.2.2.2.1 d → am_mem X mc ms → am_V X 0 0 (am_RtM X sh ad post mc ms) sh ad (0, lv_args 0 args, [], I, G, P)) : am_CtM M mc ms d sh args I G P post := by
  obtain ⟨y, cc, nL, ret, o, n, ini⟩ := M
  intro l D cys ad sz
  refine va_MetF (cc := cc) (maxL := nL) (ret := ret) hy rfl ?_
  intro p e s m a below meth c s₁ B hml hv
  obtain ⟨rfl, hsz, hP, hK, hD0, hN, hZ⟩ := hv
  have hts : ∀ w ∈ am_wl y cc nL ret, w.before _ s = true := atoms_spec (ws := am_wl y cc nL ret) B.pre
  have hown : s.vm.findClass y.cls = some m.cls := findClass_of_methodNamed B.named
  have hin : meth.name = y.name := (name_of_methodNamed B.named B.method).1
  subst hsz
  have hD := hD0.self (sz := s.heap.size)
  have hb := body (p, l, e, (headSpec (am_wl y cc nL ret) (am_rm d mc ms)).room, s, m, (args.map (am_tv ad)).toArray, below, meth, c, va_A (am_ws cys ad sh I G P) s.heap.size, D, cys, o, cc, nL, ini) ad
    ⟨⟨B.exec, B.bytes, hml, by rw [← hcls]; exact hown, fun w hw => hts w (List.mem_cons_of_mem _ hw), B.notSynchronized, hK, hN, fun q h => Or.inr h, fun h => by rw [hin]; exact hini h, hd, by show 30 ≤ 30 * d; omega⟩, hZ⟩
    ⟨rfl, rfl, rfl, rfl, B.returns, Nat.le_refl _, Nat.le_refl _⟩ ⟨rfl, rfl⟩
  have hl := lv_entry (args.map (am_tv ad)) (n := nL) (by rw [am_sl_len]; exact hargs)
  rw [lg_entry_eq]
  rw [am_args] at hl
  exact hb (Nat.zero_le _) (Nat.zero_le _) s.heap [] _ hP hD va_S.rf hl
section AMM
variable {X : am_X} {o : Nat} {cc : ByteArray} {nL : Nat} {ini : Bool} {ret : Option FieldType} {d : Nat}
variable {cells slots mc ms MC MS : Nat} {Q : State → Prop} {sh : List am_Sh} {ad ad0 : Nat → Nat} {pc : Nat} {L : am_L} {st : List Value} {I : am_I} {G : am_G} {P : am_P} {post : am_Po}
theorem am_iretM (hX : am_okz X ad) (hi : am_info X o cc nL ini ret d) {v : Int32} {ty : FieldType} (hr : ret = some ty) (hn : narrow ty (.int v) = .int v) (hd : decode cc pc = .ok (.ireturn, 1)) (hp : post (some (.int v)) I G P) (hc : cells ≤ mc ∧ slots ≤ ms) : am_V X cells slots (am_RtM X sh ad post mc ms) sh ad (pc, L, [.int v], I, G, P) := by
  obtain ⟨p, l, e, R, s, m, args, below, meth, c, A, D, cys, o', cc', nL', ini'⟩ := X
  obtain ⟨rfl, rfl, rfl, rfl, hret, -, -⟩ := hi
  obtain ⟨⟨hx, hb, -, -, -, hlocks, -⟩, -⟩ := hX
  intro h1 h2 H locs ls hP hD hS hl
  exact W.widen hc.1 hc.2 (W.zret hx hb (hret.trans hr) hn (fun t ht _ => ⟨⟨_, I, G, P, hp, rfl, by rw [ht]; exact hP⟩, hS.F ht⟩) hS.2.2 hd hlocks)
theorem am_lretM (hX : am_okz X ad) (hi : am_info X o cc nL ini ret d) {v : Int64} (hr : ret = some .long) (hd : decode cc pc = .ok (.lreturn, 1)) (hp : post (some (.long v)) I G P) (hc : cells ≤ mc ∧ slots ≤ ms) : am_V X cells slots (am_RtM X sh ad post mc ms) sh ad (pc, L, [.long v], I, G, P) := by
  obtain ⟨p, l, e, R, s, m, args, below, meth, c, A, D, cys, o', cc', nL', ini'⟩ := X
  obtain ⟨rfl, rfl, rfl, rfl, hret, -, -⟩ := hi
  obtain ⟨⟨hx, hb, -, -, -, hlocks, -⟩, -⟩ := hX
  intro h1 h2 H locs ls hP hD hS hl
  exact W.widen hc.1 hc.2 (W.lret hx hb (hret.trans hr) (fun t ht _ => ⟨⟨_, I, G, P, hp, rfl, by rw [ht]; exact hP⟩, hS.F ht⟩) hS.2.2 hd hlocks)
theorem am_ws_snoc {cys : am_C3} {x : am_Sh} : am_ws cys ad (sh ++ [x]) I G P = am_ws cys ad sh I G P ++ [(ad sh.length, am_E cys ad x (I sh.length) (G sh.length) (P sh.length))] := by
  simp [am_ws, List.mapIdx_append]
/-- the last cell is forgotten -/
theorem am_dropV {x : am_Sh} {S : am_S} (k : am_V X cells slots Q sh ad S) : am_V X cells slots Q (sh ++ [x]) ad S := by
  obtain ⟨p, l, e, R, s, m, args, below, meth, c, A, D, cys, o', cc', nL', ini'⟩ := X
  obtain ⟨pc, L, st, I, G, P⟩ := S
  intro h1 h2 H locs ls hP hD hS hl
  rw [am_ws_snoc] at hP hD
  have hq : ∀ (k : Nat) (q : Nat × va_E), (am_ws cys ad sh I G P)[k]? = some q → (am_ws cys ad sh I G P ++ [(ad sh.length, am_E cys ad x (I sh.length) (G sh.length) (P sh.length))])[k]? = some q := fun k q h => by
    rw [List.getElem?_append_left (List.getElem?_eq_some_iff.mp h).1]; exact h
  exact k h1 h2 H locs ls (fun k q h => hP k q (hq k q h)) ⟨fun i j p q hi hj => hD.1 i j p q (hq i p hi) (hq j q hj), fun k q h => hD.2 k q (hq k q h)⟩ hS hl
theorem am_noP_same {n : Nat} (hnP : am_noP n sh P = true) (h0 : sh.length = n) (had : ∀ j, j ≠ n → ad j = ad0 j) (cys : am_C3) : am_ws cys ad sh I G P = am_ws cys ad0 sh I G P := by
  have hR := am_noP_R hnP
  exact am_ws_same (fun b hb => had b (by omega)) (fun b c k t hs hk => am_noV_tv (hR.1 b c k hs (List.getElem?_eq_some_iff.mp hk).1) had) (fun b m j hs hj => am_noV_tv (hR.2 b m j hs hj) had)
/-- the end, the made cell forgotten -/
theorem am_iretMd {x : am_Sh} {n : Nat} (hX : am_okz X ad) (hi : am_info X o cc nL ini ret d) (hnP : am_noP n sh P = true) (h0 : sh.length = n) (had : ∀ j, j ≠ n → ad j = ad0 j) {v : Int32} {ty : FieldType} (hr : ret = some ty) (hn : narrow ty (.int v) = .int v) (hd : decode cc pc = .ok (.ireturn, 1)) (hp : post (some (.int v)) I G P) (hc : cells ≤ mc ∧ slots ≤ ms) : am_V X cells slots (am_RtM X sh ad0 post mc ms) (sh ++ [x]) ad (pc, L, [.int v], I, G, P) := by
  refine am_dropV ?_
  obtain ⟨p, l, e, R, s, m, args, below, meth, c, A, D, cys, o', cc', nL', ini'⟩ := X
  obtain ⟨rfl, rfl, rfl, rfl, hret, -, -⟩ := hi
  obtain ⟨⟨hx, hb, -, -, -, hlocks, -⟩, -⟩ := hX
  intro h1 h2 H locs ls hP hD hS hl
  rw [am_noP_same hnP h0 had] at hP
  exact W.widen hc.1 hc.2 (W.zret hx hb (hret.trans hr) hn (fun t ht _ => ⟨⟨_, I, G, P, hp, rfl, by rw [ht]; exact hP⟩, hS.F ht⟩) hS.2.2 hd hlocks)
theorem am_V_ws {I' : am_I} {G' : am_G} {P' : am_P} (h : ∀ cys, am_ws cys ad sh I G P = am_ws cys ad sh I' G' P') (k : am_V X cells slots Q sh ad (pc, L, st, I', G', P')) : am_V X cells slots Q sh ad (pc, L, st, I, G, P) := by
  obtain ⟨p, l, e, R, s, m, args, below, meth, c, A, D, cys, o', cc', nL', ini'⟩ := X
  intro h1 h2 H locs ls hP hD hS hl
  rw [h cys] at hP hD
  exact k h1 h2 H locs ls hP hD hS hl
theorem am_ws_arr {cys : am_C3} {N : Nat} : am_ws cys ad (sh ++ [.inr (0, N)]) (am_z I sh.length 0) (am_z G sh.length 0) (am_z P sh.length .null) = am_ws cys ad (sh ++ [.inr (0, N)]) (am_z I sh.length 0) G P := by
  rw [am_ws_snoc, am_ws_snoc]
  congr 1
  apply List.ext_getElem?
  intro j
  simp only [am_ws, List.getElem?_mapIdx]
  cases hs : sh[j]? with
  | none => rfl
  | some x =>
    have hj : j ≠ sh.length := Nat.ne_of_lt (List.getElem?_eq_some_iff.mp hs).1
    simp only [Option.map_some]
    rw [am_z_ne _ _ hj, am_z_ne _ _ hj, am_z_ne _ _ hj]
/-- newarray of ints -/
theorem am_newi (hX : am_okz X ad) (hi : am_info X o cc nL ini ret d) (hm : am_mem X mc ms) {N : Nat} {n : Int32} (hc1 : Cond.arrayClass (newarray.typeOf .int) ∈ lw_tbl) (hd : decode cc pc = .ok (.newarray .int, 2)) (hn : ¬ n < 0) (hN : n.toNatClampNeg = N) (hsz : N ≤ 1000000) (hroom : cells + 1 ≤ mc ∧ slots + N ≤ ms)
    (hnP : am_noP sh.length sh P = true) (hnL : am_noL sh.length L st = true)
    (k : ∀ ad' : Nat → Nat, (∀ j, j ≠ sh.length → ad' j = ad j) → am_V X (cells + 1) (slots + N) Q (sh ++ [.inr (0, N)]) ad' (pc + 2, L, .ref sh.length :: st, am_z I sh.length 0, G, P)) : am_V X cells slots Q sh ad (pc, L, .int n :: st, I, G, P) :=
  am_newa hX hi hm (t := 0) (at' := .int) (Or.inl ⟨rfl, rfl⟩) hc1 hd hn hN hsz hroom hnP hnL (fun ad' h => am_V_ws (fun cys => am_ws_arr) (k ad' h))
end AMM
section AMM2
variable {p : Program} {l : Launch} {e : Env} {R : Room} {s : State} {m : MethodId} {args : Array Value} {below : List Frame} {meth : Method} {c : Code} {A : Nat → Prop} {D : va_G} {cys : am_C3} {nL : Nat} {cc : ByteArray}
variable {cells slots mc ms : Nat} {Q : State → Prop} {sh : List am_Sh} {ad : Nat → Nat} {pc : Nat} {I : am_I} {G : am_G} {P : am_P} {H : Heap} {locs : List Loc} {ls : Array Slot}
theorem am_goesM {st0 rest : List Value} {A1 : Nat → Prop} {post : am_Po} {a : Array Value} (hr : va_Run p l e R s m args below meth c H locs cells slots mc ms (F0 m pc ls st0) rest (am_Qc D cys ad sh A1 post a) A1) (hS : va_S A s.heap H locs) (hA : ∀ q, A1 q → A q) (hD : va_D A (am_ws cys ad sh I G P))
    (kk : ∀ r I' G' P', post r I' G' P' → ∀ (H1 : Heap) (locs1 : List Loc), va_P D vwCl (am_ws cys ad sh I' G' P') H1 → va_D A (am_ws cys ad sh I' G' P') → va_S A s.heap H1 locs1 → W p l e R s m args below meth c H1 locs1 (cells + mc) (slots + ms) Q (F0 m (pc + 3) ls ((r.map (am_tv ad)).toList ++ rest))) : W p l e R s m args below meth c H locs cells slots Q (F0 m pc ls st0) := by
  intro T hT X
  obtain ⟨v, st₀, t, T', L, h0, X', hL, e1, e2, ⟨⟨r, I', G', P', hp, hv, hP⟩, hz, hk⟩, st⟩ := hr T hT X
  cases hv
  rw [h0] at hz hk
  have hS1 : va_S A s.heap T'.heap (locs ++ L) := ⟨Nat.le_trans hS.1 (by rw [e1]; exact hz), fun q h1 h2 => by rw [e1, hk q (Nat.lt_of_lt_of_le h1 hS.1) (fun z => h2 (hA q z))]; exact hS.2.1 q h1 h2, fun q hq => by
      rcases List.mem_append.mp hq with h | h
      · exact hS.2.2 q h
      · exact hA _ (hL q h)⟩
  obtain ⟨t2, a1, b1⟩ := kk r I' G' P' hp T'.heap (locs ++ L) (by rw [e1]; exact hP) (am_D_adr hD) hS1 T' rfl X'
  exact ⟨t2, st t2 a1, b1⟩
end AMM2
section AMM3
variable {X : am_X} {o : Nat} {cc : ByteArray} {nL : Nat} {ini : Bool} {ret : Option FieldType} {d : Nat}
variable {cells slots mc ms MC MS : Nat} {Q : State → Prop} {sh : List am_Sh} {ad : Nat → Nat} {pc : Nat} {L : am_L} {st : List Value} {I : am_I} {G : am_G} {P : am_P} {post : am_Po}
/-- invokevirtual of such a method -/
theorem am_callVM (hX : am_okz X ad) (hi : am_info X o cc nL ini ret d) (hm : am_mem X MC MS) {M : am_M} {d' idx b ci : Nat} {As rest : List Value} (hM : am_Mok M) (hin : Cond.instanceMethod M.1 ∈ lw_tbl) (hsl : Cond.selects M.1.cls M.1 M.1 ∈ lw_tbl) (hl : am_lnk o idx M.1 false = true) (hd : decode cc pc = .ok (.invokevirtual idx, 3))
    (hs : sh[b]? = some (.inl ci)) (hcn : (vwCl[ci]?).map (fun r => r.1) = some M.1.cls) (hn : As.length = M.2.2.2.2.2.1) (hdd : d' + 1 ≤ d ∧ M.2.2.1 ≤ 11 ∧ (rest.map fun v => v.category).sum ≤ 8) (hst : st = As.reverse ++ .ref b :: rest) (hroom : cells + mc ≤ MC ∧ slots + ms ≤ MS) (hC : am_CtM M mc ms d' sh (.ref b :: As) I G P post)
    (kk : ∀ r I' G' P', post r I' G' P' → am_V X (cells + mc) (slots + ms) Q sh ad (pc + 3, L, r.toList ++ rest, I', G', P')) : am_V X cells slots Q sh ad (pc, L, st, I, G, P) := by
  subst hst
  obtain ⟨p, l, e, R, s, m, args, below, meth, c, A, D, cys, o', cc', nL', ini'⟩ := X
  obtain ⟨rfl, rfl, rfl, rfl, -, hR1, hR2⟩ := hi
  obtain ⟨rfl, rfl⟩ := hm
  obtain ⟨⟨hx, hb, hml, hown, hts, hlk, hK, hN, hA, hini, hR3, hR4⟩, hZ⟩ := hX
  intro h1 h2 H locs ls hP hD hS hlo
  obtain ⟨q1, q2, q3, q4, q5⟩ := hM
  have hlw : Cond.methodLink (am_own o') idx M.1 ∈ lw_tbl := by
    have := am_lnk_ok hl
    simpa using this
  obtain ⟨r0, hr0, hr1⟩ := Option.map_eq_some_iff.mp hcn
  have hws := am_ws_at (cys := cys) (ad := ad) (I := I) (G := G) (P := P) hs
  have cw : CallW R s args (am_own o') M.1.cls idx M.1 M.2.1 M.2.2.1 M.2.2.2.1 (am_wl M.1 M.2.1 M.2.2.1 M.2.2.2.1) (am_rm d' mc ms) mc ms M.2.2.2.2.2.1 :=
    ⟨callB_of _ hts (am_goodIn ⟨q1, q2, q3, q4, q5⟩) rfl rfl rfl (hts _ (am_good q2 rfl)) (hts _ (am_good hlw rfl)) ⟨q3, q4, q5⟩ ⟨by show d' + 1 ≤ R.frames; omega, by show 8 + (M.2.2.1 + 11) + 30 * d' ≤ R.locals; omega⟩, hts _ (am_good hin rfl), hts _ (am_good hsl rfl)⟩
  have hA1 := am_A1 hD hS hA
  refine am_goesM (A1 := va_A (am_ws cys ad sh I G P) H.size) (va_runV (As := As.map (am_tv ad)) (b := ad b) (rest := rest.map (am_tv ad)) ⟨hx, hb, hml, hown, hts⟩ (hC l D cys ad H.size) cw ⟨am_blind, ?_, ?_⟩ rfl (by rw [List.length_map]; exact hn) hlo.1 ?_ ?_ hd hroom) hS hA1 hD ?_
  · rw [← hr1]
    exact va_recv hK hP hr0 hws
  · intro U hU hW
    exact ⟨rfl, by rw [hU], by rw [hU]; exact hP, va_K.moved hW.alike hK, hD.weaken (fun _ _ _ _ => trivial), am_nst.warm hW hN, by rw [hU]; exact (am_Zs.warm hW (hZ.kept hS.2.1)).narrow hA1⟩
  · simp [am_tv]
  · exact lv_room (by rw [am_cats]; exact hdd.2.2)
  · intro r I' G' P' hp H1 locs1 hP1 hD1 hS1
    rw [am_out]
    exact kk r I' G' P' hp hroom.1 hroom.2 H1 locs1 ls hP1 hD1 hS1 hlo
end AMM3
