/-! ends and calls over a list of cells that is a variable -/
def gl {α : Type} (n : Nat) (f g : Nat → α) : Nat → α := fun a => if a < n then f a else g a
theorem gl_lt {α : Type} {n a : Nat} (f g : Nat → α) (h : a < n) : gl n f g a = f a := if_pos h
theorem gl_ge {α : Type} {n a : Nat} (f g : Nat → α) (h : n ≤ a) : gl n f g a = g a := if_neg (by omega)
theorem gl_self {α : Type} {n : Nat} {f g : Nat → α} (h : ∀ a, n ≤ a → f a = g a) : gl n f g = f := by
  funext a
  by_cases ha : a < n
  · exact gl_lt f g ha
  · rw [gl_ge f g (by omega), h a (by omega)]
/-- the answer is a row of its own, the last cell -/
def pN (sh : List am_Sh) (n : Nat) (f : Nat → Int32) (I : am_I) (G : am_G) (P : am_P) : am_PoA := fun r sh' I' G' P' => r = some (.ref sh.length) ∧ sh' = sh ++ [.inr (0, n)] ∧ I' = am_row I sh.length f ∧ G' = G ∧ P' = P
section AMR1
variable {X : am_X} {o : Nat} {cc : ByteArray} {nL : Nat} {ini : Bool} {ret : Option FieldType} {d : Nat}
variable {cells slots mc ms MC MS : Nat} {Q : State → Prop} {sh ex : List am_Sh} {ad ad' : Nat → Nat} {pc : Nat} {L : am_L} {st : List Value} {I I0 : am_I} {G : am_G} {P : am_P} {post : am_Po}
theorem am_ws_pre {cys : am_C3} {k : Nat} (hk : k < sh.length) : (am_ws cys ad (sh ++ ex) I G P)[k]? = (am_ws cys ad sh I G P)[k]? := by
  simp only [am_ws, List.getElem?_mapIdx, List.getElem?_append_left hk]
theorem am_ws_len {cys : am_C3} : (am_ws cys ad sh I G P).length = sh.length := by simp [am_ws]
theorem am_aretN {t : FieldType} {N n : Nat} {f : Nat → Int32} (hX : am_okz X ad') (hi : am_info X o cc nL ini ret d) (hr : ret = some (.array t)) (hd : decode cc pc = .ok (.areturn, 1)) (hl : sh.length < 1000) (hR : lR sh.length sh P) (had : ∀ j, j < sh.length ∨ 1000 ≤ j → ad' j = ad j)
    (hN : (sh ++ ex)[N]? = some (.inr (0, n))) (hN2 : sh.length ≤ N) (hf : I N = f) (hI : ∀ b, b < sh.length → I b = I0 b) (hc : cells ≤ mc ∧ slots ≤ ms) : am_V X cells slots (am_RtA X sh.length ad (pN sh n f I0 G P) mc ms) (sh ++ ex) ad' (pc, L, [.ref N], I, G, P) := by
  obtain ⟨p, l, e, R, s, m, args, below, meth, c, A, D, cys, o', cc', nL', ini'⟩ := X
  obtain ⟨rfl, rfl, rfl, rfl, hret, -, -⟩ := hi
  obtain ⟨⟨hx, hb, -, -, -, hlocks, -⟩, -⟩ := hX
  intro h1 h2 H locs ls hP hD hS hlo
  have ha2 : ∀ j, j < sh.length ∨ 1000 ≤ j → (fun j => if j = sh.length then ad' N else ad' j) j = ad' j := fun j hj => if_neg (by omega)
  have hws : ∀ (k : Nat) (q : Nat × va_E), (am_ws cys (fun j => if j = sh.length then ad' N else ad' j) (sh ++ [.inr (0, n)]) (am_row I0 sh.length f) G P)[k]? = some q → (am_ws cys ad' (sh ++ ex) I G P)[if k = sh.length then N else k]? = some q := by
    intro k q hk
    have hlt : k < sh.length + 1 := by
      have := (List.getElem?_eq_some_iff.mp hk).1
      rw [am_ws_len, List.length_append] at this
      exact this
    by_cases hkl : k = sh.length
    · rw [if_pos hkl]
      rw [am_ws_at (hkl ▸ am_at_end)] at hk
      rw [am_ws_at hN]
      rw [← hk, hkl, am_row_self, hf]
      simp only [if_pos]
      rfl
    · rw [if_neg hkl, am_ws_pre (by omega)]
      rw [am_ws_pre (by omega), am_ws_kp (fun b hb => (am_row_ne _ _ (by omega)).trans (hI b hb).symm) (Nat.le_refl _) hR ha2] at hk
      exact hk
  refine W.widen hc.1 hc.2 (W.aret (v := .ref (ad' N)) hx hb (hret.trans hr) (Or.inr ⟨t, rfl⟩) (Or.inr ⟨_, rfl⟩) (fun t ht _ => ⟨⟨some (.ref sh.length), _, (fun j => if j = sh.length then ad' N else ad' j), _, _, _, ⟨rfl, rfl, rfl, rfl, rfl⟩, fun j hj => (ha2 j hj).trans (had j hj), by simp [am_tv], by rw [ht]; exact hP.by _ hws, hD.by _ hws ?_⟩, hS.F ht⟩) hS.2.2 hd hlocks)
  intro i j hi1 hj1 hij
  rw [am_ws_len, List.length_append] at hi1 hj1
  simp only [List.length_cons, List.length_nil] at hi1 hj1
  by_cases c1 : i = sh.length <;> by_cases c2 : j = sh.length
  · omega
  · rw [if_pos c1, if_neg c2] at hij
    omega
  · rw [if_neg c1, if_pos c2] at hij
    omega
  · rw [if_neg c1, if_neg c2] at hij
    exact hij
theorem am_iretG {v : Int32} {ty : FieldType} (hX : am_okz X ad') (hi : am_info X o cc nL ini ret d) (hr : ret = some ty) (hn : narrow ty (.int v) = .int v) (hd : decode cc pc = .ok (.ireturn, 1)) (hR : lR sh.length sh P) (had : ∀ j, j < sh.length ∨ 1000 ≤ j → ad' j = ad j) (hI : ∀ b, b < sh.length → I b = I0 b) (hp : post (some (.int v)) I0 G P) (hc : cells ≤ mc ∧ slots ≤ ms) : am_V X cells slots (am_RtM X sh ad post mc ms) (sh ++ ex) ad' (pc, L, [.int v], I, G, P) := by
  refine am_dropL ?_
  obtain ⟨p, l, e, R, s, m, args, below, meth, c, A, D, cys, o', cc', nL', ini'⟩ := X
  obtain ⟨rfl, rfl, rfl, rfl, hret, -, -⟩ := hi
  obtain ⟨⟨hx, hb, -, -, -, hlocks, -⟩, -⟩ := hX
  intro h1 h2 H locs ls hP hD hS hl
  rw [am_ws_kp hI (Nat.le_refl _) hR had] at hP
  exact W.widen hc.1 hc.2 (W.zret hx hb (hret.trans hr) hn (fun t ht _ => ⟨⟨_, I0, G, P, hp, rfl, by rw [ht]; exact hP⟩, hS.F ht⟩) hS.2.2 hd hlocks)
theorem am_vretG (hX : am_okz X ad') (hi : am_info X o cc nL ini ret d) (hr : ret = none) (hd : decode cc pc = .ok (.return_, 1)) (hR : lR sh.length sh P) (had : ∀ j, j < sh.length ∨ 1000 ≤ j → ad' j = ad j) (hI : ∀ b, b < sh.length → I b = I0 b) (hp : post none I0 G P) (hc : cells ≤ mc ∧ slots ≤ ms) : am_V X cells slots (am_RtM X sh ad post mc ms) (sh ++ ex) ad' (pc, L, [], I, G, P) := by
  refine am_dropL ?_
  obtain ⟨p, l, e, R, s, m, args, below, meth, c, A, D, cys, o', cc', nL', ini'⟩ := X
  obtain ⟨rfl, rfl, rfl, rfl, hret, -, -⟩ := hi
  obtain ⟨⟨hx, hb, -, -, -, hlocks, -⟩, -⟩ := hX
  intro h1 h2 H locs ls hP hD hS hl
  rw [am_ws_kp hI (Nat.le_refl _) hR had] at hP
  exact W.widen hc.1 hc.2 (W.vret hx hb (hret.trans hr) (fun t ht _ => ⟨⟨none, I0, G, P, hp, rfl, by rw [ht]; exact hP⟩, hS.F ht⟩) hS.2.2 hd hlocks)
/-- garbage is forgotten between instructions -/
theorem am_dropG (hl : sh.length < 1000) (hR : lR sh.length sh P) (hL : am_kqL sh.length L) (hS : am_kqS sh.length st) (had : ∀ j, j < sh.length ∨ 1000 ≤ j → ad' j = ad j) (hI : ∀ b, b < sh.length → I b = I0 b) (k : am_V X cells slots Q sh ad (pc, L, st, I0, G, P)) : am_V X cells slots Q (sh ++ ex) ad' (pc, L, st, I, G, P) :=
  am_dropL (am_V_kp hI (Nat.le_refl _) hR hL hS had k)
/-- invokevirtual of a method that answers with a row of its own -/
theorem am_callVN (hX : am_okz X ad) (hi : am_info X o cc nL ini ret d) (hm : am_mem X MC MS) {M : am_M} {d' idx b ci n : Nat} {f : Nat → Int32} {As rest : List Value} (hM : am_Mok M) (hin : Cond.instanceMethod M.1 ∈ lw_tbl) (hsl : Cond.selects M.1.cls M.1 M.1 ∈ lw_tbl) (hl : am_lnk o idx M.1 false = true) (hd : decode cc pc = .ok (.invokevirtual idx, 3))
    (hs : sh[b]? = some (.inl ci)) (hcn : (vwCl[ci]?).map (fun r => r.1) = some M.1.cls) (hn : As.length = M.2.2.2.2.2.1) (hdd : d' + 1 ≤ d ∧ 19 + M.2.2.1 + 30 * d' ≤ 30 * d ∧ (rest.map fun v => v.category).sum ≤ 8) (hst : st = As.reverse ++ .ref b :: rest) (hroom : cells + mc ≤ MC ∧ slots + ms ≤ MS) (hL : am_kqL sh.length L) (hS9 : am_kqS sh.length rest) (hl9 : sh.length < 1000) (hC : am_CtA M d' mc ms sh.length sh (.ref b :: As) I G P (pN sh n f I G P))
    (kk : ∀ ad' : Nat → Nat, (∀ j, j < sh.length ∨ 1000 ≤ j → ad' j = ad j) → am_okz X ad' → am_V X (cells + mc) (slots + ms) Q (sh ++ [.inr (0, n)]) ad' (pc + 3, L, .ref sh.length :: rest, am_row I sh.length f, G, P)) : am_V X cells slots Q sh ad (pc, L, st, I, G, P) := by
  subst hst
  have hX0 := hX
  obtain ⟨p, l, e, R, s, m, args, below, meth, c, A, D, cys, o', cc', nL', ini'⟩ := X
  obtain ⟨rfl, rfl, rfl, rfl, -, hR1, hR2⟩ := hi
  obtain ⟨rfl, rfl⟩ := hm
  obtain ⟨⟨hx, hb, hml, hown, hts, hlk, hK, hN, hA, hini, hR3, hR4⟩, hZ⟩ := hX
  intro h1 h2 H locs ls hP hD hS hlo
  obtain ⟨q1, q2, q3, q4, q5⟩ := hM
  have hlw : Cond.methodLink (am_own o') idx M.1 ∈ lw_tbl := by
    have := am_lnk_ok hl
    simpa using this
  obtain ⟨r0, hr0, hr1⟩ := Option.map_eq_some_iff.mp hcn
  have hws := am_ws_at (cys := cys) (ad := ad) (I := I) (G := G) (P := P) hs
  have cw : CallW R s args (am_own o') M.1.cls idx M.1 M.2.1 M.2.2.1 M.2.2.2.1 (am_wl M.1 M.2.1 M.2.2.1 M.2.2.2.1) (am_rm d' mc ms) mc ms M.2.2.2.2.2.1 :=
    ⟨callB_of _ hts (am_goodIn ⟨q1, q2, q3, q4, q5⟩) rfl rfl rfl (hts _ (am_good q2 rfl)) (hts _ (am_good hlw rfl)) ⟨q3, q4, q5⟩ ⟨by show d' + 1 ≤ R.frames; omega, by show 8 + (M.2.2.1 + 11) + 30 * d' ≤ R.locals; omega⟩, hts _ (am_good hin rfl), hts _ (am_good hsl rfl)⟩
  have hA1 := am_A1 hD hS hA
  refine am_goesA (A1 := va_A (am_ws cys ad sh I G P) H.size) (va_runV (As := As.map (am_tv ad)) (b := ad b) (rest := rest.map (am_tv ad)) ⟨hx, hb, hml, hown, hts⟩ (hC l D cys ad H.size) cw ⟨am_blind, ?_, ?_⟩ rfl (by rw [List.length_map]; exact hn) hlo.1 ?_ ?_ hd hroom) hS hA1 ?_
  · rw [← hr1]
    exact va_recv hK hP hr0 hws
  · intro U hU hW
    exact ⟨rfl, by rw [hU], by rw [hU]; exact hP, va_K.moved hW.alike hK, hD.weaken (fun _ _ _ _ => trivial), am_nst.warm hW hN, by rw [hU]; exact (am_Zs.warm hW (hZ.kept hS.2.1)).narrow hA1⟩
  · simp [am_tv]
  · exact lv_room (by rw [am_cats]; exact hdd.2.2)
  · rintro r sh' ad' I' G' P' ⟨rfl, rfl, rfl, rfl, rfl⟩ had H1 locs1 hP1 hD1 hS1
    obtain ⟨e1, e2⟩ := am_kq_map hL hS9 had
    rw [← e2, am_out]
    exact kk ad' had (hX0.adr (fun j hj => had j (Or.inr hj))) hroom.1 hroom.2 H1 locs1 ls hP1 hD1 hS1 (by rw [e1]; exact hlo)
end AMR1
/-! calls of the class's methods: its cells stand first, all others stay -/
section AMP1
variable {p : Program} {l : Launch} {e : Env} {R : Room} {s : State} {m : MethodId} {args : Array Value} {below : List Frame} {meth : Method} {c : Code} {A : Nat → Prop} {D : va_G} {cys : am_C3}
variable {cells slots : Nat} {Q : State → Prop} {sh1 sh2 : List am_Sh} {ad : Nat → Nat} {pc : Nat} {I I1 : am_I} {G G1 : am_G} {P P1 : am_P} {H : Heap} {locs : List Loc} {ls : Array Slot}
theorem am_ws_split : am_ws cys ad (sh1 ++ sh2) I G P = am_ws cys ad sh1 I G P ++ sh2.mapIdx (fun a s => (ad (a + sh1.length), am_E cys ad s (I (a + sh1.length)) (G (a + sh1.length)) (P (a + sh1.length)))) := by
  unfold am_ws
  rw [List.mapIdx_append]
theorem am_ws_row0 {I' : am_I} {G' : am_G} {P' : am_P} (hI : ∀ b, b < sh1.length → I' b = I b) (hG : ∀ b, b < sh1.length → G' b = G b) (hP : ∀ b, b < sh1.length → P' b = P b) : am_ws cys ad sh1 I' G' P' = am_ws cys ad sh1 I G P := by
  apply List.ext_getElem?
  intro j
  simp only [am_ws, List.getElem?_mapIdx]
  cases hs : sh1[j]? with
  | none => rfl
  | some x =>
    have hj := am_at_lt hs
    simp only [Option.map_some]
    rw [hI j hj, hG j hj, hP j hj]
theorem am_goesP {st0 rest : List Value} {post : am_Po} {a : Array Value} {rv : Option Value} (hP1 : ∀ b, b < sh1.length → P1 b = P b) (hP : va_P D vwCl (am_ws cys ad (sh1 ++ sh2) I G P) H) (hr : va_Run p l e R s m args below meth c H locs cells slots 0 0 (F0 m pc ls st0) rest (am_Qc D cys ad sh1 (va_A (am_ws cys ad sh1 I G P1) H.size) post a) (va_A (am_ws cys ad sh1 I G P1) H.size)) (hS : va_S A s.heap H locs) (hA : ∀ q, va_A (am_ws cys ad sh1 I G P1) H.size q → A q) (hD : va_D A (am_ws cys ad (sh1 ++ sh2) I G P))
    (hpo : ∀ r I' G' P', post r I' G' P' → r = rv ∧ I' = I1 ∧ G' = G1 ∧ P' = P1)
    (kk : ∀ (H1 : Heap) (locs1 : List Loc), va_P D vwCl (am_ws cys ad (sh1 ++ sh2) (gl sh1.length I1 I) (gl sh1.length G1 G) P) H1 → va_D A (am_ws cys ad (sh1 ++ sh2) (gl sh1.length I1 I) (gl sh1.length G1 G) P) → va_S A s.heap H1 locs1 → W p l e R s m args below meth c H1 locs1 cells slots Q (F0 m (pc + 3) ls ((rv.map (am_tv ad)).toList ++ rest))) : W p l e R s m args below meth c H locs cells slots Q (F0 m pc ls st0) := by
  intro T hT X
  obtain ⟨v, st₀, t, T', L, h0, X', hL, e1, e2, ⟨⟨r, I', G', P', hp, hv, hPt⟩, hz, hk⟩, st⟩ := hr T hT X
  cases hv
  rw [h0] at hz hk
  have hS1 : va_S A s.heap T'.heap (locs ++ L) := ⟨Nat.le_trans hS.1 (by rw [e1]; exact hz), fun q h1 h2 => by rw [e1, hk q (Nat.lt_of_lt_of_le h1 hS.1) (fun z => h2 (hA q z))]; exact hS.2.1 q h1 h2, fun q hq => by
      rcases List.mem_append.mp hq with h | h
      · exact hS.2.2 q h
      · exact hA _ (hL q h)⟩
  have e0 : am_ws cys ad sh1 I G P1 = am_ws cys ad sh1 I G P := am_ws_row0 (fun _ _ => rfl) (fun _ _ => rfl) hP1
  rw [e0] at hk
  obtain ⟨rfl, rfl, rfl, rfl⟩ := hpo _ _ _ _ hp
  have hsp := am_ws_split (cys := cys) (ad := ad) (sh1 := sh1) (sh2 := sh2) (I := I) (G := G) (P := P)
  have hsp' := am_ws_split (cys := cys) (ad := ad) (sh1 := sh1) (sh2 := sh2) (I := gl sh1.length I' I) (G := gl sh1.length G' G) (P := P)
  have e3 : am_ws cys ad sh1 (gl sh1.length I' I) (gl sh1.length G' G) P = am_ws cys ad sh1 I' G' P' := am_ws_row0 (fun b hb => gl_lt _ _ hb) (fun b hb => gl_lt _ _ hb) (fun b hb => (hP1 b hb).symm)
  have e4 : sh2.mapIdx (fun a s => (ad (a + sh1.length), am_E cys ad s (gl sh1.length I' I (a + sh1.length)) (gl sh1.length G' G (a + sh1.length)) (P (a + sh1.length)))) = sh2.mapIdx (fun a s => (ad (a + sh1.length), am_E cys ad s (I (a + sh1.length)) (G (a + sh1.length)) (P (a + sh1.length)))) := by
    congr 1
    funext a z
    rw [gl_ge _ _ (by omega), gl_ge _ _ (by omega)]
  rw [e3, e4] at hsp'
  have hPn : va_P D vwCl (am_ws cys ad (sh1 ++ sh2) (gl sh1.length I' I) (gl sh1.length G' G) P) t.heap := by
    rw [hsp']
    refine hPt.app ?_
    rw [hsp] at hP hD
    have h2 : va_P D vwCl (sh2.mapIdx (fun a s => (ad (a + sh1.length), am_E cys ad s (I (a + sh1.length)) (G (a + sh1.length)) (P (a + sh1.length))))) H := fun k q hq => hP (k + (am_ws cys ad sh1 I G P).length) q (by
      rw [List.getElem?_append_right (by omega), Nat.add_sub_cancel]; exact hq)
    refine h2.kept (fun k q hq => hk q.1 (h2 k q hq).lt (fun hz9 => ?_))
    rcases hz9 with ⟨k2, e9, hz9⟩ | hz9
    · have hk2 := (List.getElem?_eq_some_iff.mp hz9).1
      have := hD.1 k2 (k + (am_ws cys ad sh1 I G P).length) (q.1, e9) q (by rw [List.getElem?_append_left hk2]; exact hz9) (by rw [List.getElem?_append_right (by omega), Nat.add_sub_cancel]; exact hq) rfl
      omega
    · have := (h2 k q hq).lt
      omega
  obtain ⟨t2, a1, b1⟩ := kk T'.heap (locs ++ L) (by rw [e1]; exact hPn) (am_D_adr hD) hS1 T' rfl X'
  exact ⟨t2, st t2 a1, b1⟩
end AMP1
section AMP2
variable {X : am_X} {o : Nat} {cc : ByteArray} {nL : Nat} {ini : Bool} {ret : Option FieldType} {d : Nat}
variable {cells slots : Nat} {Q : State → Prop} {sh1 sh2 : List am_Sh} {ad : Nat → Nat} {pc : Nat} {L : am_L} {st : List Value} {I I1 : am_I} {G G1 : am_G} {P P1 : am_P} {post : am_Po} {rv : Option Value}
theorem am_callVP (hX : am_okz X ad) (hi : am_info X o cc nL ini ret d) {M : am_M} {d' idx b ci : Nat} {As rest : List Value} (hM : am_Mok M) (hin : Cond.instanceMethod M.1 ∈ lw_tbl) (hsl : Cond.selects M.1.cls M.1 M.1 ∈ lw_tbl) (hl : am_lnk o idx M.1 false = true) (hd : decode cc pc = .ok (.invokevirtual idx, 3))
    (hs : sh1[b]? = some (.inl ci)) (hcn : (vwCl[ci]?).map (fun r => r.1) = some M.1.cls) (hn : As.length = M.2.2.2.2.2.1) (hdd : d' + 1 ≤ d ∧ 19 + M.2.2.1 + 30 * d' ≤ 30 * d ∧ (rest.map fun v => v.category).sum ≤ 8) (hst : st = As.reverse ++ .ref b :: rest) (hP1 : ∀ b, b < sh1.length → P1 b = P b) (hC : am_Ct M d' sh1 (.ref b :: As) I G P1 post)
    (hpo : ∀ r I' G' P', post r I' G' P' → r = rv ∧ I' = I1 ∧ G' = G1 ∧ P' = P1)
    (kk : am_V X cells slots Q (sh1 ++ sh2) ad (pc + 3, L, rv.toList ++ rest, gl sh1.length I1 I, gl sh1.length G1 G, P)) : am_V X cells slots Q (sh1 ++ sh2) ad (pc, L, st, I, G, P) := by
  subst hst
  obtain ⟨p, l, e, R, s, m, args, below, meth, c, A, D, cys, o', cc', nL', ini'⟩ := X
  obtain ⟨rfl, rfl, rfl, rfl, -, hR1, hR2⟩ := hi
  obtain ⟨⟨hx, hb, hml, hown, hts, hlk, hK, hN, hA, hini, hR3, hR4⟩, hZ⟩ := hX
  intro h1 h2 H locs ls hP hD hS hlo
  obtain ⟨q1, q2, q3, q4, q5⟩ := hM
  have hlw : Cond.methodLink (am_own o') idx M.1 ∈ lw_tbl := by
    have := am_lnk_ok hl
    simpa using this
  obtain ⟨r0, hr0, hr1⟩ := Option.map_eq_some_iff.mp hcn
  have hws := am_ws_at (cys := cys) (ad := ad) (I := I) (G := G) (P := P) (am_at_app (ex := sh2) hs)
  have cw : CallW R s args (am_own o') M.1.cls idx M.1 M.2.1 M.2.2.1 M.2.2.2.1 (am_wl M.1 M.2.1 M.2.2.1 M.2.2.2.1) (am_rm d' 0 0) 0 0 M.2.2.2.2.2.1 :=
    ⟨callB_of _ hts (am_goodIn ⟨q1, q2, q3, q4, q5⟩) rfl rfl rfl (hts _ (am_good q2 rfl)) (hts _ (am_good hlw rfl)) ⟨q3, q4, q5⟩ ⟨by show d' + 1 ≤ R.frames; omega, by show 8 + (M.2.2.1 + 11) + 30 * d' ≤ R.locals; omega⟩, hts _ (am_good hin rfl), hts _ (am_good hsl rfl)⟩
  have e0 : am_ws cys ad sh1 I G P1 = am_ws cys ad sh1 I G P := am_ws_row0 (fun _ _ => rfl) (fun _ _ => rfl) hP1
  have hsub : ∀ (k : Nat) (q : Nat × va_E), (am_ws cys ad sh1 I G P1)[k]? = some q → (am_ws cys ad (sh1 ++ sh2) I G P)[k]? = some q := fun k q hq => by
    rw [e0] at hq
    rw [am_ws_pre (by have := (List.getElem?_eq_some_iff.mp hq).1; rw [am_ws_len] at this; exact this)]
    exact hq
  have hP9 : va_P D vwCl (am_ws cys ad sh1 I G P1) H := fun k q hq => hP k q (hsub k q hq)
  have hD9 : va_D A (am_ws cys ad sh1 I G P1) := ⟨fun i j u v hu hv => hD.1 i j u v (hsub i u hu) (hsub j v hv), fun k q hq => hD.2 k q (hsub k q hq)⟩
  have hA1 := am_A1 hD9 hS hA
  refine am_goesP (post := post) hP1 hP (va_runV (As := As.map (am_tv ad)) (b := ad b) (rest := rest.map (am_tv ad)) ⟨hx, hb, hml, hown, hts⟩ (hC l D cys ad H.size) cw ⟨am_blind, ?_, ?_⟩ rfl (by rw [List.length_map]; exact hn) hlo.1 ?_ ?_ hd ⟨h1, h2⟩) hS hA1 hD hpo ?_
  · rw [← hr1]
    exact va_recv hK hP hr0 hws
  · intro U hU hW
    exact ⟨rfl, by rw [hU], by rw [hU]; exact hP9, va_K.moved hW.alike hK, hD9.weaken (fun _ _ _ _ => trivial), am_nst.warm hW hN, by rw [hU]; exact (am_Zs.warm hW (hZ.kept hS.2.1)).narrow hA1⟩
  · simp [am_tv]
  · exact lv_room (by rw [am_cats]; exact hdd.2.2)
  · intro H1 locs1 hP1 hD1 hS1
    rw [am_out]
    exact kk h1 h2 H1 locs1 ls hP1 hD1 hS1 hlo
end AMP2
/-! the cells of the law's own paper, and rows behind them -/
def exI (ex : List am_Sh) : Bool := ex.all (fun s => match s with
  | .inl _ => false
  | .inr (t, _) => !(Nat.beq t 3))
theorem am_at_ex {sh ex : List am_Sh} {k : Nat} {s : am_Sh} (h : ex[k]? = some s) : (sh ++ ex)[sh.length + k]? = some s := by
  rw [List.getElem?_append_right (by omega), Nat.add_sub_cancel_left]; exact h
theorem lR.app {n : Nat} {sh ex : List am_Sh} {P : am_P} (h : lR n sh P) (hx : exI ex = true) : lR n (sh ++ ex) P := by
  have key : ∀ (b : Nat) (s : am_Sh), (sh ++ ex)[b]? = some s → sh[b]? = some s ∨ s ∈ ex := fun b s hb => by
    by_cases hl : b < sh.length
    · rw [List.getElem?_append_left hl] at hb; exact Or.inl hb
    · rw [List.getElem?_append_right (by omega)] at hb; exact Or.inr (List.mem_of_getElem? hb)
  refine ⟨fun b c j h1 h2 => ?_, fun b m j h1 h2 => ?_⟩
  · rcases key b _ h1 with h1 | h1
    · exact h.1 b c j h1 h2
    · have := List.all_eq_true.mp hx _ h1; cases this
  · rcases key b _ h1 with h1 | h1
    · exact h.2 b m j h1 h2
    · have := List.all_eq_true.mp hx _ h1; cases this
def lH (sh : List am_Sh) (P : am_P) (ni no nc nd : Nat) : Prop :=
  sh[79]? = some (.inl 12) ∧ sh[80]? = some (.inr (0, ni)) ∧ sh[81]? = some (.inr (3, no)) ∧ sh[82]? = some (.inr (3, nc)) ∧ sh[83]? = some (.inr (3, nd)) ∧
  (∀ k, k < no → sh[84 + k]? = some (.inr (0, 4))) ∧ (∀ k, k < nc → sh[84 + no + k]? = some (.inr (0, 3))) ∧ (∀ k, k < nd → sh[84 + no + nc + k]? = some (.inr (0, 6))) ∧
  P 79 2 = .ref 81 ∧ P 79 3 = .ref 82 ∧ P 79 4 = .ref 80 ∧ P 79 5 = .ref 83 ∧
  (∀ k, k < no → P 81 k = .ref (84 + k)) ∧ (∀ k, k < nc → P 82 k = .ref (84 + no + k)) ∧ (∀ k, k < nd → P 83 k = .ref (84 + no + nc + k)) ∧ lR sh.length sh P
theorem lH.app {sh ex : List am_Sh} {P : am_P} {ni no nc nd : Nat} (h : lH sh P ni no nc nd) (hx : exI ex = true) : lH (sh ++ ex) P ni no nc nd := by
  obtain ⟨a1, a2, a3, a4, a5, a6, a7, a8, b1, b2, b3, b4, b5, b6, b7, b8⟩ := h
  exact ⟨am_at_app a1, am_at_app a2, am_at_app a3, am_at_app a4, am_at_app a5, fun k hk => am_at_app (a6 k hk), fun k hk => am_at_app (a7 k hk), fun k hk => am_at_app (a8 k hk), b1, b2, b3, b4, b5, b6, b7, (b8.le (by rw [List.length_append]; omega)).app hx⟩
theorem am_kqL_n {n : Nat} : am_kqL n [] := rfl
theorem am_kqL_r {n i k : Nat} {r : am_L} (h : am_nk n k) (t : am_kqL n r) : am_kqL n ((i, .ref k) :: r) := ⟨h, t⟩
theorem am_kqL_i {n i : Nat} {x : Int32} {r : am_L} (t : am_kqL n r) : am_kqL n ((i, .int x) :: r) := t
theorem am_kqL_l {n i : Nat} {x : Int64} {r : am_L} (t : am_kqL n r) : am_kqL n ((i, .long x) :: r) := t
theorem am_kqS_n {n : Nat} : am_kqS n [] := rfl
theorem am_kqS_r {n k : Nat} {r : List Value} (h : am_nk n k) (t : am_kqS n r) : am_kqS n (.ref k :: r) := ⟨h, t⟩
theorem am_kqS_i {n : Nat} {x : Int32} {r : List Value} (t : am_kqS n r) : am_kqS n (.int x :: r) := t
theorem vp_lt {j : Int32} {n : Nat} (h : vp_in j n) : j.toNatClampNeg < n := Nat.not_le.mp fun q => h (Or.inr q)
theorem ob_some {α β : Type} {x : Option α} {f : α → Option β} {o : β} (h : x.bind f = some o) : ∃ r, x = some r ∧ f r = some o := Option.bind_eq_some_iff.mp h
section AMX1
variable {X : am_X} {o : Nat} {cc : ByteArray} {nL : Nat} {ini : Bool} {ret : Option FieldType} {d : Nat}
variable {cells slots cells' slots' mc ms MC MS : Nat} {Q : State → Prop} {sh ex : List am_Sh} {ad : Nat → Nat} {pc : Nat} {L : am_L} {st : List Value} {I : am_I} {G : am_G} {P : am_P}
theorem am_wid {S : am_S} (hm : am_mem X MC MS) (h1 : cells ≤ cells' ∧ slots ≤ slots') (h2 : cells' ≤ MC ∧ slots' ≤ MS) (k : am_V X cells' slots' Q sh ad S) : am_V X cells slots Q sh ad S := by
  obtain ⟨p, l, e, R, s, m, args, below, meth, c, A, D, cys, o', cc', nL', ini'⟩ := X
  obtain ⟨rfl, rfl⟩ := hm
  obtain ⟨pc, L, st, I, G, P⟩ := S
  intro _ _ H locs ls hP hD hS hlo
  exact W.widen h1.1 h1.2 (k h2.1 h2.2 H locs ls hP hD hS hlo)
theorem am_newSX (hX : am_okz X ad) (hi : am_info X o cc nL ini ret d) (hm : am_mem X mc ms) {N : Nat} {n : Int32} (hc1 : Cond.arrayClass (newarray.typeOf .int) ∈ lw_tbl) (hd : decode cc pc = .ok (.newarray .int, 2)) (hn : ¬ n < 0) (hN : n.toNatClampNeg = N) (hsz : N ≤ 1000000) (hroom : cells + 1 ≤ mc ∧ slots + N ≤ ms)
    (hl : sh.length + ex.length < 1000) (hR : lR sh.length sh P) (hx : exI ex = true) (hL : am_kqL (sh.length + ex.length) L) (hS : am_kqS (sh.length + ex.length) st)
    (k : ∀ ad' : Nat → Nat, (∀ j, j < sh.length + ex.length ∨ 1000 ≤ j → ad' j = ad j) → am_okz X ad' → am_V X (cells + 1) (slots + N) Q (sh ++ (ex ++ [.inr (0, N)])) ad' (pc + 2, L, .ref (sh.length + ex.length) :: st, am_row I (sh.length + ex.length) (fun _ => 0), G, P)) : am_V X cells slots Q (sh ++ ex) ad (pc, L, .int n :: st, I, G, P) := by
  have e := List.length_append (as := sh) (bs := ex)
  refine am_newS hX hi hm hc1 hd hn hN hsz hroom (by rw [e]; exact hl) ((hR.le (by omega)).app hx) (by rw [e]; exact hL) (by rw [e]; exact hS) (fun ad' ha hX' => ?_)
  rw [List.append_assoc, e]
  exact k ad' (by rw [e] at ha; exact ha) hX'
theorem am_callVNX (hX : am_okz X ad) (hi : am_info X o cc nL ini ret d) (hm : am_mem X MC MS) {M : am_M} {d' idx b ci n : Nat} {f : Nat → Int32} {As rest : List Value} (hM : am_Mok M) (hin : Cond.instanceMethod M.1 ∈ lw_tbl) (hsl : Cond.selects M.1.cls M.1 M.1 ∈ lw_tbl) (hl : am_lnk o idx M.1 false = true) (hd : decode cc pc = .ok (.invokevirtual idx, 3))
    (hs : (sh ++ ex)[b]? = some (.inl ci)) (hcn : (vwCl[ci]?).map (fun r => r.1) = some M.1.cls) (hn : As.length = M.2.2.2.2.2.1) (hdd : d' + 1 ≤ d ∧ 19 + M.2.2.1 + 30 * d' ≤ 30 * d ∧ (rest.map fun v => v.category).sum ≤ 8) (hst : st = As.reverse ++ .ref b :: rest) (hroom : cells + mc ≤ MC ∧ slots + ms ≤ MS) (hL : am_kqL (sh.length + ex.length) L) (hS9 : am_kqS (sh.length + ex.length) rest) (hl9 : sh.length + ex.length < 1000) (hC : am_CtA M d' mc ms (sh ++ ex).length (sh ++ ex) (.ref b :: As) I G P (pN (sh ++ ex) n f I G P))
    (kk : ∀ ad' : Nat → Nat, (∀ j, j < sh.length + ex.length ∨ 1000 ≤ j → ad' j = ad j) → am_okz X ad' → am_V X (cells + mc) (slots + ms) Q (sh ++ (ex ++ [.inr (0, n)])) ad' (pc + 3, L, .ref (sh.length + ex.length) :: rest, am_row I (sh.length + ex.length) f, G, P)) : am_V X cells slots Q (sh ++ ex) ad (pc, L, st, I, G, P) := by
  have e := List.length_append (as := sh) (bs := ex)
  refine am_callVN hX hi hm hM hin hsl hl hd hs hcn hn hdd hst hroom (by rw [e]; exact hL) (by rw [e]; exact hS9) (by rw [e]; exact hl9) hC (fun ad' ha hX' => ?_)
  rw [List.append_assoc, e]
  exact kk ad' (by rw [e] at ha; exact ha) hX'
theorem am_V_nil {S : am_S} (k : am_V X cells slots Q (sh ++ []) ad S) : am_V X cells slots Q sh ad S := by
  rw [List.append_nil] at k; exact k
/-- invokevirtual of a method that makes cells of its own and leaves them, any number of its own variables -/
theorem am_callVM2 (hX : am_okz X ad) (hi : am_info X o cc nL ini ret d) (hm : am_mem X MC MS) {post : am_Po} {M : am_M} {d' idx b ci : Nat} {As rest : List Value} (hM : am_Mok M) (hin : Cond.instanceMethod M.1 ∈ lw_tbl) (hsl : Cond.selects M.1.cls M.1 M.1 ∈ lw_tbl) (hl : am_lnk o idx M.1 false = true) (hd : decode cc pc = .ok (.invokevirtual idx, 3))
    (hs : sh[b]? = some (.inl ci)) (hcn : (vwCl[ci]?).map (fun r => r.1) = some M.1.cls) (hn : As.length = M.2.2.2.2.2.1) (hdd : d' + 1 ≤ d ∧ 19 + M.2.2.1 + 30 * d' ≤ 30 * d ∧ (rest.map fun v => v.category).sum ≤ 8) (hst : st = As.reverse ++ .ref b :: rest) (hroom : cells + mc ≤ MC ∧ slots + ms ≤ MS) (hC : am_CtM M mc ms d' sh (.ref b :: As) I G P post)
    (kk : ∀ r I' G' P', post r I' G' P' → am_V X (cells + mc) (slots + ms) Q sh ad (pc + 3, L, r.toList ++ rest, I', G', P')) : am_V X cells slots Q sh ad (pc, L, st, I, G, P) := by
  subst hst
  obtain ⟨p, l, e, R, s, m, args, below, meth, c, A, D, cys, o', cc', nL', ini'⟩ := X
  obtain ⟨rfl, rfl, rfl, rfl, -, hR1, hR2⟩ := hi
  obtain ⟨rfl, rfl⟩ := hm
  obtain ⟨⟨hx, hb, hml, hown, hts, hlk, hK, hN, hA, hini, hR3, hR4⟩, hZ⟩ := hX
  intro h1 h2 H locs ls hP hD hS hlo
  obtain ⟨q1, q2, q3, q4, q5⟩ := hM
  have hlw : Cond.methodLink (am_own o') idx M.1 ∈ lw_tbl := by
    have := am_lnk_ok hl
    simpa using this
  obtain ⟨r0, hr0, hr1⟩ := Option.map_eq_some_iff.mp hcn
  have hws := am_ws_at (cys := cys) (ad := ad) (I := I) (G := G) (P := P) hs
  have cw : CallW R s args (am_own o') M.1.cls idx M.1 M.2.1 M.2.2.1 M.2.2.2.1 (am_wl M.1 M.2.1 M.2.2.1 M.2.2.2.1) (am_rm d' mc ms) mc ms M.2.2.2.2.2.1 :=
    ⟨callB_of _ hts (am_goodIn ⟨q1, q2, q3, q4, q5⟩) rfl rfl rfl (hts _ (am_good q2 rfl)) (hts _ (am_good hlw rfl)) ⟨q3, q4, q5⟩ ⟨by show d' + 1 ≤ R.frames; omega, by show 8 + (M.2.2.1 + 11) + 30 * d' ≤ R.locals; omega⟩, hts _ (am_good hin rfl), hts _ (am_good hsl rfl)⟩
  have hA1 := am_A1 hD hS hA
  refine am_goesM (A1 := va_A (am_ws cys ad sh I G P) H.size) (va_runV (As := As.map (am_tv ad)) (b := ad b) (rest := rest.map (am_tv ad)) ⟨hx, hb, hml, hown, hts⟩ (hC l D cys ad H.size) cw ⟨am_blind, ?_, ?_⟩ rfl (by rw [List.length_map]; exact hn) hlo.1 ?_ ?_ hd hroom) hS hA1 hD ?_
  · rw [← hr1]
    exact va_recv hK hP hr0 hws
  · intro U hU hW
    exact ⟨rfl, by rw [hU], by rw [hU]; exact hP, va_K.moved hW.alike hK, hD.weaken (fun _ _ _ _ => trivial), am_nst.warm hW hN, by rw [hU]; exact (am_Zs.warm hW (hZ.kept hS.2.1)).narrow hA1⟩
  · simp [am_tv]
  · exact lv_room (by rw [am_cats]; exact hdd.2.2)
  · intro r I' G' P' hp H1 locs1 hP1 hD1 hS1
    rw [am_out]
    exact kk r I' G' P' hp hroom.1 hroom.2 H1 locs1 ls hP1 hD1 hS1 hlo
end AMX1
