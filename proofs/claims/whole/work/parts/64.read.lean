/-! cells under other numbers; the reading of a plan -/
section RN
variable {X : am_X} {o : Nat} {cc : ByteArray} {nL : Nat} {ini : Bool} {ret : Option FieldType} {d : Nat}
variable {cells slots mc ms MC MS keep : Nat} {Q : State → Prop} {sh sh' : List am_Sh} {ad : Nat → Nat} {pc : Nat} {L : am_L} {st : List Value} {I : am_I} {G : am_G} {P P' : am_P}
/-- the references P' under g are those of P -/
def am_gV (g : Nat → Nat) (v' v : Value) : Bool := match v' with
  | .ref x => match v with
    | .ref y => Nat.beq (g x) y
    | _ => false
  | _ => false
def am_gP (g : Nat → Nat) (sh' : List am_Sh) (P' P : am_P) : Bool := (List.range sh'.length).all (fun b => match sh'[b]? with
  | some (.inl c) => (List.range (am_ks c).length).all (fun j => match (am_ks c)[j]? with
    | some 2 => am_gV g (P' b j) (P (g b) j)
    | _ => true)
  | _ => true)
theorem am_gV_tv {g : Nat → Nat} {v' v : Value} (h : am_gV g v' v = true) (ad : Nat → Nat) : am_tv (fun j => ad (g j)) v' = am_tv ad v := by
  cases v' <;> simp only [am_gV] at h <;> try (cases h; done)
  cases v <;> simp only at h <;> try (cases h; done)
  simp only [am_tv]
  rw [Nat.eq_of_beq_eq_true h]
theorem am_ks_lt4 {c k t : Nat} (h : (am_ks c)[k]? = some t) : t < 4 := by
  have h0 : (List.range 13).all (fun c => (am_ks c).all (fun t => Nat.blt t 4)) = true := by decide +kernel
  have h1 : c < 13 := by
    rcases Nat.lt_or_ge c 13 with q | q
    · exact q
    · rw [show am_ks c = [] from by unfold am_ks; rw [List.getD_eq_getElem?_getD, List.getElem?_eq_none (by show am_ksT.length ≤ c; exact q)]; rfl] at h
      cases h
  exact Nat.blt_eq ▸ List.all_eq_true.mp (List.all_eq_true.mp h0 c (List.mem_range.mpr h1)) t (List.mem_of_getElem? h)
theorem am_ws_g {cys : am_C3} (g : Nat → Nat) (hs : ∀ k, k < sh'.length → sh'[k]? = sh[g k]?) (hp : am_gP g sh' P' P = true) (k : Nat) (q : Nat × va_E) (h : (am_ws cys (fun j => ad (g j)) sh' (fun a => I (g a)) (fun a => G (g a)) P')[k]? = some q) : (am_ws cys ad sh I G P)[g k]? = some q := by
  simp only [am_ws, List.getElem?_mapIdx] at h ⊢
  cases hk : sh'[k]? with
  | none => rw [hk] at h; cases h
  | some x =>
    have hlt := (List.getElem?_eq_some_iff.mp hk).1
    rw [hk] at h
    rw [← hs k hlt, hk]
    simp only [Option.map_some] at h ⊢
    rw [← h]
    cases x with
    | inr y => rcases y with ⟨t, n⟩; match t with
      | 0 => rfl
      | 1 => rfl
      | t + 2 => rfl
    | inl c =>
      have h1 := List.all_eq_true.mp hp k (List.mem_range.mpr hlt)
      rw [hk] at h1
      have : am_fs ad (am_ks c) (I (g k)) (G (g k)) (P (g k)) = am_fs (fun j => ad (g j)) (am_ks c) (I (g k)) (G (g k)) (P' k) := by
        apply List.ext_getElem?
        intro j
        simp only [am_fs, List.getElem?_mapIdx]
        cases hj : (am_ks c)[j]? with
        | none => rfl
        | some t =>
          have h2 := List.all_eq_true.mp h1 j (List.mem_range.mpr (List.getElem?_eq_some_iff.mp hj).1)
          rw [hj] at h2
          have ht := am_ks_lt4 hj
          match t, h2, ht with
          | 0, _, _ => rfl
          | 1, _, _ => rfl
          | 2, h2, _ => simp only [Option.map_some, am_fv]; rw [am_gV_tv h2 ad]
          | 3, _, _ => rfl
          | t + 4, _, ht => omega
      simp only [am_E, this]
def am_gL (g : Nat → Nat) (L : am_L) (st : List Value) : Bool := L.all (fun q => am_gW g q.2) && st.all (am_gW g)
where am_gW (g : Nat → Nat) (v : Value) : Bool := match v with
  | .ref x => Nat.beq (g x) x
  | _ => true
theorem am_gW_tv {g : Nat → Nat} {v : Value} (h : am_gL.am_gW g v = true) (ad : Nat → Nat) : am_tv (fun j => ad (g j)) v = am_tv ad v := by
  cases v with
  | ref x => simp only [am_gL.am_gW] at h; simp only [am_tv]; rw [Nat.eq_of_beq_eq_true h]
  | _ => rfl
/-- the same cells by other numbers -/
theorem am_renV (g : Nat → Nat) (hs : ∀ k, k < sh'.length → sh'[k]? = sh[g k]?) (hp : am_gP g sh' P' P = true) (hi : ∀ i j, i < sh'.length → j < sh'.length → g i = g j → i = j) (hL : am_gL g L st = true) (k : am_V X cells slots Q sh' (fun j => ad (g j)) (pc, L, st, fun a => I (g a), fun a => G (g a), P')) : am_V X cells slots Q sh ad (pc, L, st, I, G, P) := by
  obtain ⟨p, l, e, R, s, m, args, below, meth, c, A, D, cys, o', cc', nL', ini'⟩ := X
  intro h1 h2 H locs ls hP hD hS hlo
  simp only [am_gL, Bool.and_eq_true] at hL
  have e1 : L.map (am_tl (fun j => ad (g j))) = L.map (am_tl ad) := List.map_congr_left fun q hq => by
    show (q.1, am_tv (fun j => ad (g j)) q.2) = (q.1, am_tv ad q.2)
    rw [am_gW_tv (List.all_eq_true.mp hL.1 q hq)]
  have e2 : st.map (am_tv (fun j => ad (g j))) = st.map (am_tv ad) := List.map_congr_left fun v hv => am_gW_tv (List.all_eq_true.mp hL.2 v hv) ad
  have kk := k h1 h2 H locs ls (hP.by g (am_ws_g g hs hp)) (hD.by g (am_ws_g g hs hp) (fun i j hi1 hj1 he => hi i j (by simpa [am_ws] using hi1) (by simpa [am_ws] using hj1) he)) hS (by rw [e1]; exact hlo)
  rw [e2] at kk
  exact kk
theorem am_iretA {post : am_PoA} {ad' : Nat → Nat} (hX : am_okz X ad') (hi : am_info X o cc nL ini ret d) {v : Int32} {ty : FieldType} (hr : ret = some ty) (hn : narrow ty (.int v) = .int v) (hd : decode cc pc = .ok (.ireturn, 1)) (had : ∀ j, j < keep ∨ 1000 ≤ j → ad' j = ad j) (hp : post (some (.int v)) sh I G P) (hc : cells ≤ mc ∧ slots ≤ ms) : am_V X cells slots (am_RtA X keep ad post mc ms) sh ad' (pc, L, [.int v], I, G, P) := by
  obtain ⟨p, l, e, R, s, m, args, below, meth, c, A, D, cys, o', cc', nL', ini'⟩ := X
  obtain ⟨rfl, rfl, rfl, rfl, hret, -, -⟩ := hi
  obtain ⟨⟨hx, hb, -, -, -, hlocks, -⟩, -⟩ := hX
  intro h1 h2 H locs ls hP hD hS hl
  exact W.widen hc.1 hc.2 (W.zret hx hb (hret.trans hr) hn (fun t ht _ => ⟨⟨some (.int v), sh, ad', I, G, P, hp, had, rfl, by rw [ht]; exact hP, hD⟩, hS.F ht⟩) hS.2.2 hd hlocks)
/-- invokevirtual of a method that leaves new cells in the list -/
theorem am_callVA {post : am_PoA} (hX : am_okz X ad) (hi : am_info X o cc nL ini ret d) (hm : am_mem X MC MS) {M : am_M} {d' idx b ci : Nat} {As rest : List Value} (hM : am_Mok M) (hin : Cond.instanceMethod M.1 ∈ lw_tbl) (hsl : Cond.selects M.1.cls M.1 M.1 ∈ lw_tbl) (hl : am_lnk o idx M.1 false = true) (hd : decode cc pc = .ok (.invokevirtual idx, 3))
    (hs : sh[b]? = some (.inl ci)) (hcn : (vwCl[ci]?).map (fun r => r.1) = some M.1.cls) (hn : As.length = M.2.2.2.2.2.1) (hdd : d' + 1 ≤ d ∧ M.2.2.1 ≤ 11 ∧ (rest.map fun v => v.category).sum ≤ 8) (hst : st = As.reverse ++ .ref b :: rest) (hroom : cells + mc ≤ MC ∧ slots + ms ≤ MS) (hkp : am_kpL keep L rest = true) (hC : am_CtA M d' mc ms keep sh (.ref b :: As) I G P post)
    (kk : ∀ r sh' ad' I' G' P', post r sh' I' G' P' → (∀ j, j < keep ∨ 1000 ≤ j → ad' j = ad j) → am_V X (cells + mc) (slots + ms) Q sh' ad' (pc + 3, L, r.toList ++ rest, I', G', P')) : am_V X cells slots Q sh ad (pc, L, st, I, G, P) := by
  subst hst
  obtain ⟨p, l, e, R, s, m, args, below, meth, c, A, D, cys, o', cc', nL', ini'⟩ := X
  obtain ⟨rfl, rfl, rfl, rfl, -, hR1, hR2⟩ := hi
  obtain ⟨rfl, rfl⟩ := hm
  obtain ⟨⟨hx, hb, hml, hown, hts, hlk, hK, hN, hA, hini, hR3, hR4⟩, hZ⟩ := hX
  intro h1 h2 H locs ls hP hD hS hlo
  obtain ⟨q1, q2, q3, q4, q5⟩ := hM
  have hlw : Cond.methodLink (am_own o') idx M.1 ∈ lw_tbl := by
    have := am_lnk_ok hl
    simpa using this
  obtain ⟨r0, hr0, hr1⟩ := Option.map_eq_some_iff.mp hcn
  have hws := am_ws_at (cys := cys) (ad := ad) (I := I) (G := G) (P := P) hs
  have cw : CallW R s args (am_own o') M.1.cls idx M.1 M.2.1 M.2.2.1 M.2.2.2.1 (am_wl M.1 M.2.1 M.2.2.1 M.2.2.2.1) (am_rm d' mc ms) mc ms M.2.2.2.2.2.1 :=
    ⟨callB_of _ hts (am_goodIn ⟨q1, q2, q3, q4, q5⟩) rfl rfl rfl (hts _ (am_good q2 rfl)) (hts _ (am_good hlw rfl)) ⟨q3, q4, q5⟩ ⟨by show d' + 1 ≤ R.frames; omega, by show 8 + (M.2.2.1 + 11) + 30 * d' ≤ R.locals; omega⟩, hts _ (am_good hin rfl), hts _ (am_good hsl rfl)⟩
  have hA1 := am_A1 hD hS hA
  refine am_goesA (A1 := va_A (am_ws cys ad sh I G P) H.size) (va_runV (As := As.map (am_tv ad)) (b := ad b) (rest := rest.map (am_tv ad)) ⟨hx, hb, hml, hown, hts⟩ (hC l D cys ad H.size) cw ⟨am_blind, ?_, ?_⟩ rfl (by rw [List.length_map]; exact hn) hlo.1 ?_ ?_ hd hroom) hS hA1 ?_
  · rw [← hr1]
    exact va_recv hK hP hr0 hws
  · intro U hU hW
    exact ⟨rfl, by rw [hU], by rw [hU]; exact hP, va_K.moved hW.alike hK, hD.weaken (fun _ _ _ _ => trivial), am_nst.warm hW hN, by rw [hU]; exact (am_Zs.warm hW (hZ.kept hS.2.1)).narrow hA1⟩
  · simp [am_tv]
  · exact lv_room (by rw [am_cats]; exact hdd.2.2)
  · intro r sh' ad' I' G' P' hp had H1 locs1 hP1 hD1 hS1
    obtain ⟨e1, e2⟩ := am_kp_map hkp had
    rw [← e2, am_out]
    exact kk r sh' ad' I' G' P' hp had hroom.1 hroom.2 H1 locs1 ls hP1 hD1 hS1 (by rw [e1]; exact hlo)
end RN
/-- a plan that was read, and taken: its cells 123.. under 86.. -/
def gR1 (x : Nat) : Nat := if 86 ≤ x ∧ x < 102 then x + 37 else if x = 999 then 123 else x
/-- a plan that was read, and isn't taken -/
def gR0 (x : Nat) : Nat := if x = 999 then 123 else x
def gP1 : am_P := am_up (gP 123) 79 11 (.ref 123)
theorem gR1_p : am_gP gR1 gS (gP 999) gP1 = true := by decide +kernel
theorem gR0_p : am_gP gR0 gS (gP 999) (gP 123) = true := by decide +kernel
theorem gR1_s : ∀ k, k < gS.length → gS[k]? = gS2[gR1 k]? := by
  intro k hk
  have h := List.all_eq_true.mp (show (List.range 123).all (fun k => decide (gS[k]? = gS2[gR1 k]?)) = true by decide +kernel) k (List.mem_range.mpr hk)
  exact of_decide_eq_true h
theorem gR0_s : ∀ k, k < gS.length → gS[k]? = gS2[gR0 k]? := by
  intro k hk
  have h := List.all_eq_true.mp (show (List.range 123).all (fun k => decide (gS[k]? = gS2[gR0 k]?)) = true by decide +kernel) k (List.mem_range.mpr hk)
  exact of_decide_eq_true h
theorem gR1_i : ∀ i j, i < gS.length → j < gS.length → gR1 i = gR1 j → i = j := by
  intro i j hi hj h
  have hi : i < 123 := hi
  have hj : j < 123 := hj
  unfold gR1 at h
  split at h <;> split at h <;> (try split at h) <;> (try split at h) <;> omega
theorem gR0_i : ∀ i j, i < gS.length → j < gS.length → gR0 i = gR0 j → i = j := by
  intro i j hi hj h
  have hi : i < 123 := hi
  have hj : j < 123 := hj
  unfold gR0 at h
  split at h <;> split at h <;> omega

/-- contracts of a method after which the cells may have other numbers -/
def am_QcT (D : va_G) (cys : am_C3) (ad : Nat → Nat) (A : Nat → Prop) (post : Option Value → am_I → am_G → Prop) : Array Value → State → Outcome → State → Prop :=
  fun _ st oc t => (∃ (r : Option Value) (ad' : Nat → Nat) (I' : am_I) (G' : am_G), post r I' G' ∧ (∀ j, ((j < 86 ∨ j = 122) ∨ 1000 ≤ j) → ad' j = ad j) ∧ oc = .returned (r.map (am_tv ad')) ∧ va_P D vwCl (am_ws cys ad' gS I' G' (gP 999)) t.heap ∧ va_D A (am_ws cys ad' gS I' G' (gP 999))) ∧ va_F A st t
def am_CtT (M : am_M) (d mc ms : Nat) (args : List Value) (I : am_I) (G : am_G) (post : Option Value → am_I → am_G → Prop) : Prop :=
  ∀ (l : Launch) (D : va_G) (cys : am_C3) (ad : Nat → Nat) (sz : Nat), Met l M.1 (am_wl M.1 M.2.1 M.2.2.1 M.2.2.2.1) (am_rm d mc ms) (va_Pc (args.map (am_tv ad)) (am_Pr D cys ad gS I G (gP 999) sz)) (am_QcT D cys ad (va_A (am_ws cys ad gS I G (gP 999)) sz) post) mc ms (va_A (am_ws cys ad gS I G (gP 999)) sz)
def am_RtT (X : am_X) (ad : Nat → Nat) (post : Option Value → am_I → am_G → Prop) (mc ms : Nat) : State → Prop := match X with
  | (_, _, _, _, s, _, args, below, _, _, A, D, cys, _, _, _, _) => MQ below (am_QcT D cys ad A post) args s mc ms A
theorem am_ofT {M : am_M} {d mc ms : Nat} {args : List Value} {I : am_I} {G : am_G} {post : Option Value → am_I → am_G → Prop} (hy : plainFor M.1 = true) (hcls : M.1.cls = am_own M.2.2.2.2.1) (hini : M.2.2.2.2.2.2 = true → M.1.name = "<init>") (hd : 1 ≤ d) (hargs : (lg_sl args).length ≤ M.2.2.1)
    (body : ∀ (X : am_X) (ad : Nat → Nat), am_okz X ad → am_info X M.2.2.2.2.1 M.2.1 M.2.2.1 M.2.2.2.2.2.2 M.2.2.2.1 d → am_mem X mc ms → am_V X 0 0 (am_RtT X ad post mc ms) gS ad (0, lv_args 0 args, [], I, G, gP 999)) : am_CtT M d mc ms args I G post := by
  obtain ⟨y, cc, nL, ret, o, n, ini⟩ := M
  intro l D cys ad sz
  refine va_MetF (cc := cc) (maxL := nL) (ret := ret) hy rfl ?_
  intro p e s m a below meth c s₁ B hml hv
  obtain ⟨rfl, hsz, hP, hK, hD0, hN, hZ⟩ := hv
  have hts : ∀ w ∈ am_wl y cc nL ret, w.before _ s = true := atoms_spec (ws := am_wl y cc nL ret) B.pre
  have hown : s.vm.findClass y.cls = some m.cls := findClass_of_methodNamed B.named
  have hin : meth.name = y.name := (name_of_methodNamed B.named B.method).1
  subst hsz
  have hD := hD0.self (sz := s.heap.size)
  have hb := body (p, l, e, (headSpec (am_wl y cc nL ret) (am_rm d mc ms)).room, s, m, (args.map (am_tv ad)).toArray, below, meth, c, va_A (am_ws cys ad gS I G (gP 999)) s.heap.size, D, cys, o, cc, nL, ini) ad
    ⟨⟨B.exec, B.bytes, hml, by rw [← hcls]; exact hown, fun w hw => hts w (List.mem_cons_of_mem _ hw), B.notSynchronized, hK, hN, fun q h => Or.inr h, fun h => by rw [hin]; exact hini h, hd, by show 30 ≤ 30 * d; omega⟩, hZ⟩
    ⟨rfl, rfl, rfl, rfl, B.returns, Nat.le_refl _, Nat.le_refl _⟩ ⟨rfl, rfl⟩
  have hl := lv_entry (args.map (am_tv ad)) (n := nL) (by rw [am_sl_len]; exact hargs)
  rw [lg_entry_eq]
  rw [am_args] at hl
  exact hb (Nat.zero_le _) (Nat.zero_le _) s.heap [] _ hP hD va_S.rf hl
theorem am_iretT {X : am_X} {o : Nat} {cc : ByteArray} {nL : Nat} {ini : Bool} {ret : Option FieldType} {d cells slots mc ms pc : Nat} {ad ad' : Nat → Nat} {L : am_L} {I : am_I} {G : am_G} {post : Option Value → am_I → am_G → Prop} (hX : am_okz X ad') (hi : am_info X o cc nL ini ret d) {v : Int32} {ty : FieldType} (hr : ret = some ty) (hn : narrow ty (.int v) = .int v) (hd : decode cc pc = .ok (.ireturn, 1)) (had : ∀ j, ((j < 86 ∨ j = 122) ∨ 1000 ≤ j) → ad' j = ad j) (hp : post (some (.int v)) I G) (hc : cells ≤ mc ∧ slots ≤ ms) : am_V X cells slots (am_RtT X ad post mc ms) gS ad' (pc, L, [.int v], I, G, gP 999) := by
  obtain ⟨p, l, e, R, s, m, args, below, meth, c, A, D, cys, o', cc', nL', ini'⟩ := X
  obtain ⟨rfl, rfl, rfl, rfl, hret, -, -⟩ := hi
  obtain ⟨⟨hx, hb, -, -, -, hlocks, -⟩, -⟩ := hX
  intro h1 h2 H locs ls hP hD hS hl
  exact W.widen hc.1 hc.2 (W.zret hx hb (hret.trans hr) hn (fun t ht _ => ⟨⟨some (.int v), ad', I, G, hp, had, rfl, by rw [ht]; exact hP, hD⟩, hS.F ht⟩) hS.2.2 hd hlocks)
def zP_201 : am_P := (am_z (gP 999) 123 .null)
def zP_202 : am_P := (am_up (am_z (am_up (am_z (am_up (am_z (am_up (am_z (am_up (am_z (am_up (am_z (am_up (am_z (am_up (am_z (am_up (am_z (am_up (am_z (am_up (am_z (am_up (am_z (am_up (am_z (am_up (am_z (am_up (am_z zP_201 124 .null) 123 5 (.ref 124)) 125 .null) 123 6 (.ref 125)) 126 .null) 123 7 (.ref 126)) 127 .null) 123 8 (.ref 127)) 128 .null) 123 9 (.ref 128)) 129 .null) 123 10 (.ref 129)) 130 .null) 123 11 (.ref 130)) 131 .null) 123 12 (.ref 131)) 132 .null) 123 15 (.ref 132)) 133 .null) 123 16 (.ref 133)) 134 .null) 123 17 (.ref 134)) 135 .null) 123 18 (.ref 135)) 136 .null) 123 19 (.ref 136)) 137 .null) 123 20 (.ref 137)) 138 .null) 123 22 (.ref 138))
def zI_X12_init_123r (I : am_I) : am_I := (am_z (am_z (am_z (am_z (am_z (am_z (am_z (am_z (am_z (am_z (am_z (am_z (am_z (am_z (am_z (am_up (am_up I 123 0 (16 : Int32)) 123 1 (12 : Int32)) 124 0) 125 0) 126 0) 127 0) 128 0) 129 0) 130 0) 131 0) 132 0) 133 0) 134 0) 135 0) 136 0) 137 0) 138 0)
def zG_X12_init_123r (G : am_G) : am_G := (am_z (am_z (am_z (am_z (am_z (am_z (am_z (am_z (am_z (am_z (am_z (am_z (am_z (am_z (am_z G 124 0) 125 0) 126 0) 127 0) 128 0) 129 0) 130 0) 131 0) 132 0) 133 0) 134 0) 135 0) 136 0) 137 0) 138 0)
set_option maxRecDepth 20000 in
set_option maxHeartbeats 600000 in
theorem c_X12_init_123r (I : am_I) (G : am_G)  : am_CtA mX12_init 1 15 1336 124 (gS2.take 124) [.ref 123] I G zP_201 (am_pA (gS2.take 139) (zI_X12_init_123r I) (zG_X12_init_123r G) zP_202) := by
  refine am_ofA (by decide +kernel) rfl (fun _ => rfl) (by decide) (Nat.le_of_ble_eq_true rfl) (fun X ad hX0 hi hm => ?_)
  have hi : am_info X 10 cX12_init 1 true none 1 := hi
  have hm : am_mem X 15 1336 := hm
  show am_V X 0 0 _ (gS2.take 124) ad (0, [(0, .ref 123)], [], I, G, zP_201)
  refine am_blk 0 [(.aload_n 0, 1, 0, 0, .null)] (1, [(0, .ref 123)], [.ref 123], I, G, zP_201) (True) hX0 hi (by decide +kernel) rfl trivial ?_
  refine am_obj hX0 hi (idx := 3) (by decide +kernel) (by decide +kernel) (Nat.le_of_ble_eq_true rfl) ?_
  show am_V X 0 0 _ (gS2.take 124) ad (4, [(0, .ref 123)], [], I, G, zP_201)
  refine am_blk 4 [(.aload_n 0, 1, 0, 0, .null), (.bipush (16), 2, 0, 0, .int (16 : Int32)), (.putfield 9, 3, 10, 0, .null), (.aload_n 0, 1, 0, 0, .null), (.bipush (12), 2, 0, 0, .int (12 : Int32)), (.putfield 15, 3, 10, 1, .null), (.aload_n 0, 1, 0, 0, .null), (.iconst (4), 1, 0, 0, .int (4 : Int32))] (18, [(0, .ref 123)], [.int (4 : Int32), .ref 123], (am_up (am_up I 123 0 (16 : Int32)) 123 1 (12 : Int32)), G, zP_201) (True) hX0 hi (by decide +kernel) rfl trivial ?_
  refine am_newa hX0 hi hm (t := 0) (N := 4) (n := (4 : Int32)) (at' := .int) (by simp) (by decide +kernel) (by decide +kernel) (by decide) (by decide) (by decide) ⟨by decide, by decide⟩ (by decide +kernel) (by decide +kernel) (fun ad1 e1 => ?_)
  have e1 : ∀ j, j ≠ 124 → ad1 j = ad j := e1
  have hX1 := hX0.adr (fun j hj => e1 j (by show j ≠ 124; omega))
  show am_V X 1 4 _ (gS2.take 125) ad1 (20, [(0, .ref 123)], [.ref 124, .ref 123], (am_z (am_up (am_up I 123 0 (16 : Int32)) 123 1 (12 : Int32)) 124 0), (am_z G 124 0), (am_z zP_201 124 .null))
  refine am_blk 20 [(.putfield 18, 3, 10, 5, .null), (.aload_n 0, 1, 0, 0, .null), (.iconst (4), 1, 0, 0, .int (4 : Int32))] (25, [(0, .ref 123)], [.int (4 : Int32), .ref 123], (am_z (am_up (am_up I 123 0 (16 : Int32)) 123 1 (12 : Int32)) 124 0), (am_z G 124 0), (am_up (am_z zP_201 124 .null) 123 5 (.ref 124))) (True) hX1 hi (by decide +kernel) rfl trivial ?_
  refine am_newa hX1 hi hm (t := 0) (N := 4) (n := (4 : Int32)) (at' := .int) (by simp) (by decide +kernel) (by decide +kernel) (by decide) (by decide) (by decide) ⟨by decide, by decide⟩ (by decide +kernel) (by decide +kernel) (fun ad2 e2 => ?_)
  have e2 : ∀ j, j ≠ 125 → ad2 j = ad1 j := e2
  have hX2 := hX1.adr (fun j hj => e2 j (by show j ≠ 125; omega))
  show am_V X 2 8 _ (gS2.take 126) ad2 (27, [(0, .ref 123)], [.ref 125, .ref 123], (am_z (am_z (am_up (am_up I 123 0 (16 : Int32)) 123 1 (12 : Int32)) 124 0) 125 0), (am_z (am_z G 124 0) 125 0), (am_z (am_up (am_z zP_201 124 .null) 123 5 (.ref 124)) 125 .null))
  refine am_blk 27 [(.putfield 22, 3, 10, 6, .null), (.aload_n 0, 1, 0, 0, .null), (.iconst (4), 1, 0, 0, .int (4 : Int32))] (32, [(0, .ref 123)], [.int (4 : Int32), .ref 123], (am_z (am_z (am_up (am_up I 123 0 (16 : Int32)) 123 1 (12 : Int32)) 124 0) 125 0), (am_z (am_z G 124 0) 125 0), (am_up (am_z (am_up (am_z zP_201 124 .null) 123 5 (.ref 124)) 125 .null) 123 6 (.ref 125))) (True) hX2 hi (by decide +kernel) rfl trivial ?_
  refine am_newa hX2 hi hm (t := 0) (N := 4) (n := (4 : Int32)) (at' := .int) (by simp) (by decide +kernel) (by decide +kernel) (by decide) (by decide) (by decide) ⟨by decide, by decide⟩ (by decide +kernel) (by decide +kernel) (fun ad3 e3 => ?_)
  have e3 : ∀ j, j ≠ 126 → ad3 j = ad2 j := e3
  have hX3 := hX2.adr (fun j hj => e3 j (by show j ≠ 126; omega))
  show am_V X 3 12 _ (gS2.take 127) ad3 (34, [(0, .ref 123)], [.ref 126, .ref 123], (am_z (am_z (am_z (am_up (am_up I 123 0 (16 : Int32)) 123 1 (12 : Int32)) 124 0) 125 0) 126 0), (am_z (am_z (am_z G 124 0) 125 0) 126 0), (am_z (am_up (am_z (am_up (am_z zP_201 124 .null) 123 5 (.ref 124)) 125 .null) 123 6 (.ref 125)) 126 .null))
  refine am_blk 34 [(.putfield 25, 3, 10, 7, .null), (.aload_n 0, 1, 0, 0, .null), (.iconst (4), 1, 0, 0, .int (4 : Int32))] (39, [(0, .ref 123)], [.int (4 : Int32), .ref 123], (am_z (am_z (am_z (am_up (am_up I 123 0 (16 : Int32)) 123 1 (12 : Int32)) 124 0) 125 0) 126 0), (am_z (am_z (am_z G 124 0) 125 0) 126 0), (am_up (am_z (am_up (am_z (am_up (am_z zP_201 124 .null) 123 5 (.ref 124)) 125 .null) 123 6 (.ref 125)) 126 .null) 123 7 (.ref 126))) (True) hX3 hi (by decide +kernel) rfl trivial ?_
  refine am_newa hX3 hi hm (t := 0) (N := 4) (n := (4 : Int32)) (at' := .int) (by simp) (by decide +kernel) (by decide +kernel) (by decide) (by decide) (by decide) ⟨by decide, by decide⟩ (by decide +kernel) (by decide +kernel) (fun ad4 e4 => ?_)
  have e4 : ∀ j, j ≠ 127 → ad4 j = ad3 j := e4
  have hX4 := hX3.adr (fun j hj => e4 j (by show j ≠ 127; omega))
  show am_V X 4 16 _ (gS2.take 128) ad4 (41, [(0, .ref 123)], [.ref 127, .ref 123], (am_z (am_z (am_z (am_z (am_up (am_up I 123 0 (16 : Int32)) 123 1 (12 : Int32)) 124 0) 125 0) 126 0) 127 0), (am_z (am_z (am_z (am_z G 124 0) 125 0) 126 0) 127 0), (am_z (am_up (am_z (am_up (am_z (am_up (am_z zP_201 124 .null) 123 5 (.ref 124)) 125 .null) 123 6 (.ref 125)) 126 .null) 123 7 (.ref 126)) 127 .null))
  refine am_blk 41 [(.putfield 28, 3, 10, 8, .null), (.aload_n 0, 1, 0, 0, .null), (.iconst (4), 1, 0, 0, .int (4 : Int32))] (46, [(0, .ref 123)], [.int (4 : Int32), .ref 123], (am_z (am_z (am_z (am_z (am_up (am_up I 123 0 (16 : Int32)) 123 1 (12 : Int32)) 124 0) 125 0) 126 0) 127 0), (am_z (am_z (am_z (am_z G 124 0) 125 0) 126 0) 127 0), (am_up (am_z (am_up (am_z (am_up (am_z (am_up (am_z zP_201 124 .null) 123 5 (.ref 124)) 125 .null) 123 6 (.ref 125)) 126 .null) 123 7 (.ref 126)) 127 .null) 123 8 (.ref 127))) (True) hX4 hi (by decide +kernel) rfl trivial ?_
  refine am_newa hX4 hi hm (t := 0) (N := 4) (n := (4 : Int32)) (at' := .int) (by simp) (by decide +kernel) (by decide +kernel) (by decide) (by decide) (by decide) ⟨by decide, by decide⟩ (by decide +kernel) (by decide +kernel) (fun ad5 e5 => ?_)
  have e5 : ∀ j, j ≠ 128 → ad5 j = ad4 j := e5
  have hX5 := hX4.adr (fun j hj => e5 j (by show j ≠ 128; omega))
  show am_V X 5 20 _ (gS2.take 129) ad5 (48, [(0, .ref 123)], [.ref 128, .ref 123], (am_z (am_z (am_z (am_z (am_z (am_up (am_up I 123 0 (16 : Int32)) 123 1 (12 : Int32)) 124 0) 125 0) 126 0) 127 0) 128 0), (am_z (am_z (am_z (am_z (am_z G 124 0) 125 0) 126 0) 127 0) 128 0), (am_z (am_up (am_z (am_up (am_z (am_up (am_z (am_up (am_z zP_201 124 .null) 123 5 (.ref 124)) 125 .null) 123 6 (.ref 125)) 126 .null) 123 7 (.ref 126)) 127 .null) 123 8 (.ref 127)) 128 .null))
  refine am_blk 48 [(.putfield 31, 3, 10, 9, .null), (.aload_n 0, 1, 0, 0, .null), (.iconst (4), 1, 0, 0, .int (4 : Int32))] (53, [(0, .ref 123)], [.int (4 : Int32), .ref 123], (am_z (am_z (am_z (am_z (am_z (am_up (am_up I 123 0 (16 : Int32)) 123 1 (12 : Int32)) 124 0) 125 0) 126 0) 127 0) 128 0), (am_z (am_z (am_z (am_z (am_z G 124 0) 125 0) 126 0) 127 0) 128 0), (am_up (am_z (am_up (am_z (am_up (am_z (am_up (am_z (am_up (am_z zP_201 124 .null) 123 5 (.ref 124)) 125 .null) 123 6 (.ref 125)) 126 .null) 123 7 (.ref 126)) 127 .null) 123 8 (.ref 127)) 128 .null) 123 9 (.ref 128))) (True) hX5 hi (by decide +kernel) rfl trivial ?_
  refine am_newa hX5 hi hm (t := 0) (N := 4) (n := (4 : Int32)) (at' := .int) (by simp) (by decide +kernel) (by decide +kernel) (by decide) (by decide) (by decide) ⟨by decide, by decide⟩ (by decide +kernel) (by decide +kernel) (fun ad6 e6 => ?_)
  have e6 : ∀ j, j ≠ 129 → ad6 j = ad5 j := e6
  have hX6 := hX5.adr (fun j hj => e6 j (by show j ≠ 129; omega))
  show am_V X 6 24 _ (gS2.take 130) ad6 (55, [(0, .ref 123)], [.ref 129, .ref 123], (am_z (am_z (am_z (am_z (am_z (am_z (am_up (am_up I 123 0 (16 : Int32)) 123 1 (12 : Int32)) 124 0) 125 0) 126 0) 127 0) 128 0) 129 0), (am_z (am_z (am_z (am_z (am_z (am_z G 124 0) 125 0) 126 0) 127 0) 128 0) 129 0), (am_z (am_up (am_z (am_up (am_z (am_up (am_z (am_up (am_z (am_up (am_z zP_201 124 .null) 123 5 (.ref 124)) 125 .null) 123 6 (.ref 125)) 126 .null) 123 7 (.ref 126)) 127 .null) 123 8 (.ref 127)) 128 .null) 123 9 (.ref 128)) 129 .null))
  refine am_blk 55 [(.putfield 34, 3, 10, 10, .null), (.aload_n 0, 1, 0, 0, .null), (.iconst (4), 1, 0, 0, .int (4 : Int32))] (60, [(0, .ref 123)], [.int (4 : Int32), .ref 123], (am_z (am_z (am_z (am_z (am_z (am_z (am_up (am_up I 123 0 (16 : Int32)) 123 1 (12 : Int32)) 124 0) 125 0) 126 0) 127 0) 128 0) 129 0), (am_z (am_z (am_z (am_z (am_z (am_z G 124 0) 125 0) 126 0) 127 0) 128 0) 129 0), (am_up (am_z (am_up (am_z (am_up (am_z (am_up (am_z (am_up (am_z (am_up (am_z zP_201 124 .null) 123 5 (.ref 124)) 125 .null) 123 6 (.ref 125)) 126 .null) 123 7 (.ref 126)) 127 .null) 123 8 (.ref 127)) 128 .null) 123 9 (.ref 128)) 129 .null) 123 10 (.ref 129))) (True) hX6 hi (by decide +kernel) rfl trivial ?_
  refine am_newa hX6 hi hm (t := 0) (N := 4) (n := (4 : Int32)) (at' := .int) (by simp) (by decide +kernel) (by decide +kernel) (by decide) (by decide) (by decide) ⟨by decide, by decide⟩ (by decide +kernel) (by decide +kernel) (fun ad7 e7 => ?_)
  have e7 : ∀ j, j ≠ 130 → ad7 j = ad6 j := e7
  have hX7 := hX6.adr (fun j hj => e7 j (by show j ≠ 130; omega))
  show am_V X 7 28 _ (gS2.take 131) ad7 (62, [(0, .ref 123)], [.ref 130, .ref 123], (am_z (am_z (am_z (am_z (am_z (am_z (am_z (am_up (am_up I 123 0 (16 : Int32)) 123 1 (12 : Int32)) 124 0) 125 0) 126 0) 127 0) 128 0) 129 0) 130 0), (am_z (am_z (am_z (am_z (am_z (am_z (am_z G 124 0) 125 0) 126 0) 127 0) 128 0) 129 0) 130 0), (am_z (am_up (am_z (am_up (am_z (am_up (am_z (am_up (am_z (am_up (am_z (am_up (am_z zP_201 124 .null) 123 5 (.ref 124)) 125 .null) 123 6 (.ref 125)) 126 .null) 123 7 (.ref 126)) 127 .null) 123 8 (.ref 127)) 128 .null) 123 9 (.ref 128)) 129 .null) 123 10 (.ref 129)) 130 .null))
  refine am_blk 62 [(.putfield 37, 3, 10, 11, .null), (.aload_n 0, 1, 0, 0, .null), (.iconst (5), 1, 0, 0, .int (5 : Int32))] (67, [(0, .ref 123)], [.int (5 : Int32), .ref 123], (am_z (am_z (am_z (am_z (am_z (am_z (am_z (am_up (am_up I 123 0 (16 : Int32)) 123 1 (12 : Int32)) 124 0) 125 0) 126 0) 127 0) 128 0) 129 0) 130 0), (am_z (am_z (am_z (am_z (am_z (am_z (am_z G 124 0) 125 0) 126 0) 127 0) 128 0) 129 0) 130 0), (am_up (am_z (am_up (am_z (am_up (am_z (am_up (am_z (am_up (am_z (am_up (am_z (am_up (am_z zP_201 124 .null) 123 5 (.ref 124)) 125 .null) 123 6 (.ref 125)) 126 .null) 123 7 (.ref 126)) 127 .null) 123 8 (.ref 127)) 128 .null) 123 9 (.ref 128)) 129 .null) 123 10 (.ref 129)) 130 .null) 123 11 (.ref 130))) (True) hX7 hi (by decide +kernel) rfl trivial ?_
  refine am_newa hX7 hi hm (t := 0) (N := 5) (n := (5 : Int32)) (at' := .int) (by simp) (by decide +kernel) (by decide +kernel) (by decide) (by decide) (by decide) ⟨by decide, by decide⟩ (by decide +kernel) (by decide +kernel) (fun ad8 e8 => ?_)
  have e8 : ∀ j, j ≠ 131 → ad8 j = ad7 j := e8
  have hX8 := hX7.adr (fun j hj => e8 j (by show j ≠ 131; omega))
  show am_V X 8 33 _ (gS2.take 132) ad8 (69, [(0, .ref 123)], [.ref 131, .ref 123], (am_z (am_z (am_z (am_z (am_z (am_z (am_z (am_z (am_up (am_up I 123 0 (16 : Int32)) 123 1 (12 : Int32)) 124 0) 125 0) 126 0) 127 0) 128 0) 129 0) 130 0) 131 0), (am_z (am_z (am_z (am_z (am_z (am_z (am_z (am_z G 124 0) 125 0) 126 0) 127 0) 128 0) 129 0) 130 0) 131 0), (am_z (am_up (am_z (am_up (am_z (am_up (am_z (am_up (am_z (am_up (am_z (am_up (am_z (am_up (am_z zP_201 124 .null) 123 5 (.ref 124)) 125 .null) 123 6 (.ref 125)) 126 .null) 123 7 (.ref 126)) 127 .null) 123 8 (.ref 127)) 128 .null) 123 9 (.ref 128)) 129 .null) 123 10 (.ref 129)) 130 .null) 123 11 (.ref 130)) 131 .null))
  refine am_blk 69 [(.putfield 40, 3, 10, 12, .null), (.aload_n 0, 1, 0, 0, .null), (.bipush (20), 2, 0, 0, .int (20 : Int32))] (75, [(0, .ref 123)], [.int (20 : Int32), .ref 123], (am_z (am_z (am_z (am_z (am_z (am_z (am_z (am_z (am_up (am_up I 123 0 (16 : Int32)) 123 1 (12 : Int32)) 124 0) 125 0) 126 0) 127 0) 128 0) 129 0) 130 0) 131 0), (am_z (am_z (am_z (am_z (am_z (am_z (am_z (am_z G 124 0) 125 0) 126 0) 127 0) 128 0) 129 0) 130 0) 131 0), (am_up (am_z (am_up (am_z (am_up (am_z (am_up (am_z (am_up (am_z (am_up (am_z (am_up (am_z (am_up (am_z zP_201 124 .null) 123 5 (.ref 124)) 125 .null) 123 6 (.ref 125)) 126 .null) 123 7 (.ref 126)) 127 .null) 123 8 (.ref 127)) 128 .null) 123 9 (.ref 128)) 129 .null) 123 10 (.ref 129)) 130 .null) 123 11 (.ref 130)) 131 .null) 123 12 (.ref 131))) (True) hX8 hi (by decide +kernel) rfl trivial ?_
  refine am_newa hX8 hi hm (t := 0) (N := 20) (n := (20 : Int32)) (at' := .int) (by simp) (by decide +kernel) (by decide +kernel) (by decide) (by decide) (by decide) ⟨by decide, by decide⟩ (by decide +kernel) (by decide +kernel) (fun ad9 e9 => ?_)
  have e9 : ∀ j, j ≠ 132 → ad9 j = ad8 j := e9
  have hX9 := hX8.adr (fun j hj => e9 j (by show j ≠ 132; omega))
  show am_V X 9 53 _ (gS2.take 133) ad9 (77, [(0, .ref 123)], [.ref 132, .ref 123], (am_z (am_z (am_z (am_z (am_z (am_z (am_z (am_z (am_z (am_up (am_up I 123 0 (16 : Int32)) 123 1 (12 : Int32)) 124 0) 125 0) 126 0) 127 0) 128 0) 129 0) 130 0) 131 0) 132 0), (am_z (am_z (am_z (am_z (am_z (am_z (am_z (am_z (am_z G 124 0) 125 0) 126 0) 127 0) 128 0) 129 0) 130 0) 131 0) 132 0), (am_z (am_up (am_z (am_up (am_z (am_up (am_z (am_up (am_z (am_up (am_z (am_up (am_z (am_up (am_z (am_up (am_z zP_201 124 .null) 123 5 (.ref 124)) 125 .null) 123 6 (.ref 125)) 126 .null) 123 7 (.ref 126)) 127 .null) 123 8 (.ref 127)) 128 .null) 123 9 (.ref 128)) 129 .null) 123 10 (.ref 129)) 130 .null) 123 11 (.ref 130)) 131 .null) 123 12 (.ref 131)) 132 .null))
  refine am_blk 77 [(.putfield 43, 3, 10, 15, .null), (.aload_n 0, 1, 0, 0, .null), (.bipush (20), 2, 0, 0, .int (20 : Int32))] (83, [(0, .ref 123)], [.int (20 : Int32), .ref 123], (am_z (am_z (am_z (am_z (am_z (am_z (am_z (am_z (am_z (am_up (am_up I 123 0 (16 : Int32)) 123 1 (12 : Int32)) 124 0) 125 0) 126 0) 127 0) 128 0) 129 0) 130 0) 131 0) 132 0), (am_z (am_z (am_z (am_z (am_z (am_z (am_z (am_z (am_z G 124 0) 125 0) 126 0) 127 0) 128 0) 129 0) 130 0) 131 0) 132 0), (am_up (am_z (am_up (am_z (am_up (am_z (am_up (am_z (am_up (am_z (am_up (am_z (am_up (am_z (am_up (am_z (am_up (am_z zP_201 124 .null) 123 5 (.ref 124)) 125 .null) 123 6 (.ref 125)) 126 .null) 123 7 (.ref 126)) 127 .null) 123 8 (.ref 127)) 128 .null) 123 9 (.ref 128)) 129 .null) 123 10 (.ref 129)) 130 .null) 123 11 (.ref 130)) 131 .null) 123 12 (.ref 131)) 132 .null) 123 15 (.ref 132))) (True) hX9 hi (by decide +kernel) rfl trivial ?_
  refine am_newa hX9 hi hm (t := 0) (N := 20) (n := (20 : Int32)) (at' := .int) (by simp) (by decide +kernel) (by decide +kernel) (by decide) (by decide) (by decide) ⟨by decide, by decide⟩ (by decide +kernel) (by decide +kernel) (fun ad10 e10 => ?_)
  have e10 : ∀ j, j ≠ 133 → ad10 j = ad9 j := e10
  have hX10 := hX9.adr (fun j hj => e10 j (by show j ≠ 133; omega))
  show am_V X 10 73 _ (gS2.take 134) ad10 (85, [(0, .ref 123)], [.ref 133, .ref 123], (am_z (am_z (am_z (am_z (am_z (am_z (am_z (am_z (am_z (am_z (am_up (am_up I 123 0 (16 : Int32)) 123 1 (12 : Int32)) 124 0) 125 0) 126 0) 127 0) 128 0) 129 0) 130 0) 131 0) 132 0) 133 0), (am_z (am_z (am_z (am_z (am_z (am_z (am_z (am_z (am_z (am_z G 124 0) 125 0) 126 0) 127 0) 128 0) 129 0) 130 0) 131 0) 132 0) 133 0), (am_z (am_up (am_z (am_up (am_z (am_up (am_z (am_up (am_z (am_up (am_z (am_up (am_z (am_up (am_z (am_up (am_z (am_up (am_z zP_201 124 .null) 123 5 (.ref 124)) 125 .null) 123 6 (.ref 125)) 126 .null) 123 7 (.ref 126)) 127 .null) 123 8 (.ref 127)) 128 .null) 123 9 (.ref 128)) 129 .null) 123 10 (.ref 129)) 130 .null) 123 11 (.ref 130)) 131 .null) 123 12 (.ref 131)) 132 .null) 123 15 (.ref 132)) 133 .null))
  refine am_blk 85 [(.putfield 46, 3, 10, 16, .null), (.aload_n 0, 1, 0, 0, .null), (.bipush (21), 2, 0, 0, .int (21 : Int32))] (91, [(0, .ref 123)], [.int (21 : Int32), .ref 123], (am_z (am_z (am_z (am_z (am_z (am_z (am_z (am_z (am_z (am_z (am_up (am_up I 123 0 (16 : Int32)) 123 1 (12 : Int32)) 124 0) 125 0) 126 0) 127 0) 128 0) 129 0) 130 0) 131 0) 132 0) 133 0), (am_z (am_z (am_z (am_z (am_z (am_z (am_z (am_z (am_z (am_z G 124 0) 125 0) 126 0) 127 0) 128 0) 129 0) 130 0) 131 0) 132 0) 133 0), (am_up (am_z (am_up (am_z (am_up (am_z (am_up (am_z (am_up (am_z (am_up (am_z (am_up (am_z (am_up (am_z (am_up (am_z (am_up (am_z zP_201 124 .null) 123 5 (.ref 124)) 125 .null) 123 6 (.ref 125)) 126 .null) 123 7 (.ref 126)) 127 .null) 123 8 (.ref 127)) 128 .null) 123 9 (.ref 128)) 129 .null) 123 10 (.ref 129)) 130 .null) 123 11 (.ref 130)) 131 .null) 123 12 (.ref 131)) 132 .null) 123 15 (.ref 132)) 133 .null) 123 16 (.ref 133))) (True) hX10 hi (by decide +kernel) rfl trivial ?_
  refine am_newa hX10 hi hm (t := 0) (N := 21) (n := (21 : Int32)) (at' := .int) (by simp) (by decide +kernel) (by decide +kernel) (by decide) (by decide) (by decide) ⟨by decide, by decide⟩ (by decide +kernel) (by decide +kernel) (fun ad11 e11 => ?_)
  have e11 : ∀ j, j ≠ 134 → ad11 j = ad10 j := e11
  have hX11 := hX10.adr (fun j hj => e11 j (by show j ≠ 134; omega))
  show am_V X 11 94 _ (gS2.take 135) ad11 (93, [(0, .ref 123)], [.ref 134, .ref 123], (am_z (am_z (am_z (am_z (am_z (am_z (am_z (am_z (am_z (am_z (am_z (am_up (am_up I 123 0 (16 : Int32)) 123 1 (12 : Int32)) 124 0) 125 0) 126 0) 127 0) 128 0) 129 0) 130 0) 131 0) 132 0) 133 0) 134 0), (am_z (am_z (am_z (am_z (am_z (am_z (am_z (am_z (am_z (am_z (am_z G 124 0) 125 0) 126 0) 127 0) 128 0) 129 0) 130 0) 131 0) 132 0) 133 0) 134 0), (am_z (am_up (am_z (am_up (am_z (am_up (am_z (am_up (am_z (am_up (am_z (am_up (am_z (am_up (am_z (am_up (am_z (am_up (am_z (am_up (am_z zP_201 124 .null) 123 5 (.ref 124)) 125 .null) 123 6 (.ref 125)) 126 .null) 123 7 (.ref 126)) 127 .null) 123 8 (.ref 127)) 128 .null) 123 9 (.ref 128)) 129 .null) 123 10 (.ref 129)) 130 .null) 123 11 (.ref 130)) 131 .null) 123 12 (.ref 131)) 132 .null) 123 15 (.ref 132)) 133 .null) 123 16 (.ref 133)) 134 .null))
  refine am_blk 93 [(.putfield 49, 3, 10, 17, .null), (.aload_n 0, 1, 0, 0, .null), (.bipush (21), 2, 0, 0, .int (21 : Int32))] (99, [(0, .ref 123)], [.int (21 : Int32), .ref 123], (am_z (am_z (am_z (am_z (am_z (am_z (am_z (am_z (am_z (am_z (am_z (am_up (am_up I 123 0 (16 : Int32)) 123 1 (12 : Int32)) 124 0) 125 0) 126 0) 127 0) 128 0) 129 0) 130 0) 131 0) 132 0) 133 0) 134 0), (am_z (am_z (am_z (am_z (am_z (am_z (am_z (am_z (am_z (am_z (am_z G 124 0) 125 0) 126 0) 127 0) 128 0) 129 0) 130 0) 131 0) 132 0) 133 0) 134 0), (am_up (am_z (am_up (am_z (am_up (am_z (am_up (am_z (am_up (am_z (am_up (am_z (am_up (am_z (am_up (am_z (am_up (am_z (am_up (am_z (am_up (am_z zP_201 124 .null) 123 5 (.ref 124)) 125 .null) 123 6 (.ref 125)) 126 .null) 123 7 (.ref 126)) 127 .null) 123 8 (.ref 127)) 128 .null) 123 9 (.ref 128)) 129 .null) 123 10 (.ref 129)) 130 .null) 123 11 (.ref 130)) 131 .null) 123 12 (.ref 131)) 132 .null) 123 15 (.ref 132)) 133 .null) 123 16 (.ref 133)) 134 .null) 123 17 (.ref 134))) (True) hX11 hi (by decide +kernel) rfl trivial ?_
  refine am_newa hX11 hi hm (t := 0) (N := 21) (n := (21 : Int32)) (at' := .int) (by simp) (by decide +kernel) (by decide +kernel) (by decide) (by decide) (by decide) ⟨by decide, by decide⟩ (by decide +kernel) (by decide +kernel) (fun ad12 e12 => ?_)
  have e12 : ∀ j, j ≠ 135 → ad12 j = ad11 j := e12
  have hX12 := hX11.adr (fun j hj => e12 j (by show j ≠ 135; omega))
  show am_V X 12 115 _ (gS2.take 136) ad12 (101, [(0, .ref 123)], [.ref 135, .ref 123], (am_z (am_z (am_z (am_z (am_z (am_z (am_z (am_z (am_z (am_z (am_z (am_z (am_up (am_up I 123 0 (16 : Int32)) 123 1 (12 : Int32)) 124 0) 125 0) 126 0) 127 0) 128 0) 129 0) 130 0) 131 0) 132 0) 133 0) 134 0) 135 0), (am_z (am_z (am_z (am_z (am_z (am_z (am_z (am_z (am_z (am_z (am_z (am_z G 124 0) 125 0) 126 0) 127 0) 128 0) 129 0) 130 0) 131 0) 132 0) 133 0) 134 0) 135 0), (am_z (am_up (am_z (am_up (am_z (am_up (am_z (am_up (am_z (am_up (am_z (am_up (am_z (am_up (am_z (am_up (am_z (am_up (am_z (am_up (am_z (am_up (am_z zP_201 124 .null) 123 5 (.ref 124)) 125 .null) 123 6 (.ref 125)) 126 .null) 123 7 (.ref 126)) 127 .null) 123 8 (.ref 127)) 128 .null) 123 9 (.ref 128)) 129 .null) 123 10 (.ref 129)) 130 .null) 123 11 (.ref 130)) 131 .null) 123 12 (.ref 131)) 132 .null) 123 15 (.ref 132)) 133 .null) 123 16 (.ref 133)) 134 .null) 123 17 (.ref 134)) 135 .null))
  refine am_blk 101 [(.putfield 52, 3, 10, 18, .null), (.aload_n 0, 1, 0, 0, .null), (.bipush (21), 2, 0, 0, .int (21 : Int32))] (107, [(0, .ref 123)], [.int (21 : Int32), .ref 123], (am_z (am_z (am_z (am_z (am_z (am_z (am_z (am_z (am_z (am_z (am_z (am_z (am_up (am_up I 123 0 (16 : Int32)) 123 1 (12 : Int32)) 124 0) 125 0) 126 0) 127 0) 128 0) 129 0) 130 0) 131 0) 132 0) 133 0) 134 0) 135 0), (am_z (am_z (am_z (am_z (am_z (am_z (am_z (am_z (am_z (am_z (am_z (am_z G 124 0) 125 0) 126 0) 127 0) 128 0) 129 0) 130 0) 131 0) 132 0) 133 0) 134 0) 135 0), (am_up (am_z (am_up (am_z (am_up (am_z (am_up (am_z (am_up (am_z (am_up (am_z (am_up (am_z (am_up (am_z (am_up (am_z (am_up (am_z (am_up (am_z (am_up (am_z zP_201 124 .null) 123 5 (.ref 124)) 125 .null) 123 6 (.ref 125)) 126 .null) 123 7 (.ref 126)) 127 .null) 123 8 (.ref 127)) 128 .null) 123 9 (.ref 128)) 129 .null) 123 10 (.ref 129)) 130 .null) 123 11 (.ref 130)) 131 .null) 123 12 (.ref 131)) 132 .null) 123 15 (.ref 132)) 133 .null) 123 16 (.ref 133)) 134 .null) 123 17 (.ref 134)) 135 .null) 123 18 (.ref 135))) (True) hX12 hi (by decide +kernel) rfl trivial ?_
  refine am_newa hX12 hi hm (t := 0) (N := 21) (n := (21 : Int32)) (at' := .int) (by simp) (by decide +kernel) (by decide +kernel) (by decide) (by decide) (by decide) ⟨by decide, by decide⟩ (by decide +kernel) (by decide +kernel) (fun ad13 e13 => ?_)
  have e13 : ∀ j, j ≠ 136 → ad13 j = ad12 j := e13
  have hX13 := hX12.adr (fun j hj => e13 j (by show j ≠ 136; omega))
  show am_V X 13 136 _ (gS2.take 137) ad13 (109, [(0, .ref 123)], [.ref 136, .ref 123], (am_z (am_z (am_z (am_z (am_z (am_z (am_z (am_z (am_z (am_z (am_z (am_z (am_z (am_up (am_up I 123 0 (16 : Int32)) 123 1 (12 : Int32)) 124 0) 125 0) 126 0) 127 0) 128 0) 129 0) 130 0) 131 0) 132 0) 133 0) 134 0) 135 0) 136 0), (am_z (am_z (am_z (am_z (am_z (am_z (am_z (am_z (am_z (am_z (am_z (am_z (am_z G 124 0) 125 0) 126 0) 127 0) 128 0) 129 0) 130 0) 131 0) 132 0) 133 0) 134 0) 135 0) 136 0), (am_z (am_up (am_z (am_up (am_z (am_up (am_z (am_up (am_z (am_up (am_z (am_up (am_z (am_up (am_z (am_up (am_z (am_up (am_z (am_up (am_z (am_up (am_z (am_up (am_z zP_201 124 .null) 123 5 (.ref 124)) 125 .null) 123 6 (.ref 125)) 126 .null) 123 7 (.ref 126)) 127 .null) 123 8 (.ref 127)) 128 .null) 123 9 (.ref 128)) 129 .null) 123 10 (.ref 129)) 130 .null) 123 11 (.ref 130)) 131 .null) 123 12 (.ref 131)) 132 .null) 123 15 (.ref 132)) 133 .null) 123 16 (.ref 133)) 134 .null) 123 17 (.ref 134)) 135 .null) 123 18 (.ref 135)) 136 .null))
  refine am_blk 109 [(.putfield 55, 3, 10, 19, .null), (.aload_n 0, 1, 0, 0, .null), (.sipush (800), 3, 0, 0, .int (800 : Int32))] (116, [(0, .ref 123)], [.int (800 : Int32), .ref 123], (am_z (am_z (am_z (am_z (am_z (am_z (am_z (am_z (am_z (am_z (am_z (am_z (am_z (am_up (am_up I 123 0 (16 : Int32)) 123 1 (12 : Int32)) 124 0) 125 0) 126 0) 127 0) 128 0) 129 0) 130 0) 131 0) 132 0) 133 0) 134 0) 135 0) 136 0), (am_z (am_z (am_z (am_z (am_z (am_z (am_z (am_z (am_z (am_z (am_z (am_z (am_z G 124 0) 125 0) 126 0) 127 0) 128 0) 129 0) 130 0) 131 0) 132 0) 133 0) 134 0) 135 0) 136 0), (am_up (am_z (am_up (am_z (am_up (am_z (am_up (am_z (am_up (am_z (am_up (am_z (am_up (am_z (am_up (am_z (am_up (am_z (am_up (am_z (am_up (am_z (am_up (am_z (am_up (am_z zP_201 124 .null) 123 5 (.ref 124)) 125 .null) 123 6 (.ref 125)) 126 .null) 123 7 (.ref 126)) 127 .null) 123 8 (.ref 127)) 128 .null) 123 9 (.ref 128)) 129 .null) 123 10 (.ref 129)) 130 .null) 123 11 (.ref 130)) 131 .null) 123 12 (.ref 131)) 132 .null) 123 15 (.ref 132)) 133 .null) 123 16 (.ref 133)) 134 .null) 123 17 (.ref 134)) 135 .null) 123 18 (.ref 135)) 136 .null) 123 19 (.ref 136))) (True) hX13 hi (by decide +kernel) rfl trivial ?_
  refine am_newa hX13 hi hm (t := 0) (N := 800) (n := (800 : Int32)) (at' := .int) (by simp) (by decide +kernel) (by decide +kernel) (by decide) (by decide) (by decide) ⟨by decide, by decide⟩ (by decide +kernel) (by decide +kernel) (fun ad14 e14 => ?_)
  have e14 : ∀ j, j ≠ 137 → ad14 j = ad13 j := e14
  have hX14 := hX13.adr (fun j hj => e14 j (by show j ≠ 137; omega))
  show am_V X 14 936 _ (gS2.take 138) ad14 (118, [(0, .ref 123)], [.ref 137, .ref 123], (am_z (am_z (am_z (am_z (am_z (am_z (am_z (am_z (am_z (am_z (am_z (am_z (am_z (am_z (am_up (am_up I 123 0 (16 : Int32)) 123 1 (12 : Int32)) 124 0) 125 0) 126 0) 127 0) 128 0) 129 0) 130 0) 131 0) 132 0) 133 0) 134 0) 135 0) 136 0) 137 0), (am_z (am_z (am_z (am_z (am_z (am_z (am_z (am_z (am_z (am_z (am_z (am_z (am_z (am_z G 124 0) 125 0) 126 0) 127 0) 128 0) 129 0) 130 0) 131 0) 132 0) 133 0) 134 0) 135 0) 136 0) 137 0), (am_z (am_up (am_z (am_up (am_z (am_up (am_z (am_up (am_z (am_up (am_z (am_up (am_z (am_up (am_z (am_up (am_z (am_up (am_z (am_up (am_z (am_up (am_z (am_up (am_z (am_up (am_z zP_201 124 .null) 123 5 (.ref 124)) 125 .null) 123 6 (.ref 125)) 126 .null) 123 7 (.ref 126)) 127 .null) 123 8 (.ref 127)) 128 .null) 123 9 (.ref 128)) 129 .null) 123 10 (.ref 129)) 130 .null) 123 11 (.ref 130)) 131 .null) 123 12 (.ref 131)) 132 .null) 123 15 (.ref 132)) 133 .null) 123 16 (.ref 133)) 134 .null) 123 17 (.ref 134)) 135 .null) 123 18 (.ref 135)) 136 .null) 123 19 (.ref 136)) 137 .null))
  refine am_blk 118 [(.putfield 58, 3, 10, 20, .null), (.aload_n 0, 1, 0, 0, .null), (.sipush (400), 3, 0, 0, .int (400 : Int32))] (125, [(0, .ref 123)], [.int (400 : Int32), .ref 123], (am_z (am_z (am_z (am_z (am_z (am_z (am_z (am_z (am_z (am_z (am_z (am_z (am_z (am_z (am_up (am_up I 123 0 (16 : Int32)) 123 1 (12 : Int32)) 124 0) 125 0) 126 0) 127 0) 128 0) 129 0) 130 0) 131 0) 132 0) 133 0) 134 0) 135 0) 136 0) 137 0), (am_z (am_z (am_z (am_z (am_z (am_z (am_z (am_z (am_z (am_z (am_z (am_z (am_z (am_z G 124 0) 125 0) 126 0) 127 0) 128 0) 129 0) 130 0) 131 0) 132 0) 133 0) 134 0) 135 0) 136 0) 137 0), (am_up (am_z (am_up (am_z (am_up (am_z (am_up (am_z (am_up (am_z (am_up (am_z (am_up (am_z (am_up (am_z (am_up (am_z (am_up (am_z (am_up (am_z (am_up (am_z (am_up (am_z (am_up (am_z zP_201 124 .null) 123 5 (.ref 124)) 125 .null) 123 6 (.ref 125)) 126 .null) 123 7 (.ref 126)) 127 .null) 123 8 (.ref 127)) 128 .null) 123 9 (.ref 128)) 129 .null) 123 10 (.ref 129)) 130 .null) 123 11 (.ref 130)) 131 .null) 123 12 (.ref 131)) 132 .null) 123 15 (.ref 132)) 133 .null) 123 16 (.ref 133)) 134 .null) 123 17 (.ref 134)) 135 .null) 123 18 (.ref 135)) 136 .null) 123 19 (.ref 136)) 137 .null) 123 20 (.ref 137))) (True) hX14 hi (by decide +kernel) rfl trivial ?_
  refine am_newa hX14 hi hm (t := 0) (N := 400) (n := (400 : Int32)) (at' := .int) (by simp) (by decide +kernel) (by decide +kernel) (by decide) (by decide) (by decide) ⟨by decide, by decide⟩ (by decide +kernel) (by decide +kernel) (fun ad15 e15 => ?_)
  have e15 : ∀ j, j ≠ 138 → ad15 j = ad14 j := e15
  have hX15 := hX14.adr (fun j hj => e15 j (by show j ≠ 138; omega))
  show am_V X 15 1336 _ (gS2.take 139) ad15 (127, [(0, .ref 123)], [.ref 138, .ref 123], (am_z (am_z (am_z (am_z (am_z (am_z (am_z (am_z (am_z (am_z (am_z (am_z (am_z (am_z (am_z (am_up (am_up I 123 0 (16 : Int32)) 123 1 (12 : Int32)) 124 0) 125 0) 126 0) 127 0) 128 0) 129 0) 130 0) 131 0) 132 0) 133 0) 134 0) 135 0) 136 0) 137 0) 138 0), (am_z (am_z (am_z (am_z (am_z (am_z (am_z (am_z (am_z (am_z (am_z (am_z (am_z (am_z (am_z G 124 0) 125 0) 126 0) 127 0) 128 0) 129 0) 130 0) 131 0) 132 0) 133 0) 134 0) 135 0) 136 0) 137 0) 138 0), (am_z (am_up (am_z (am_up (am_z (am_up (am_z (am_up (am_z (am_up (am_z (am_up (am_z (am_up (am_z (am_up (am_z (am_up (am_z (am_up (am_z (am_up (am_z (am_up (am_z (am_up (am_z (am_up (am_z zP_201 124 .null) 123 5 (.ref 124)) 125 .null) 123 6 (.ref 125)) 126 .null) 123 7 (.ref 126)) 127 .null) 123 8 (.ref 127)) 128 .null) 123 9 (.ref 128)) 129 .null) 123 10 (.ref 129)) 130 .null) 123 11 (.ref 130)) 131 .null) 123 12 (.ref 131)) 132 .null) 123 15 (.ref 132)) 133 .null) 123 16 (.ref 133)) 134 .null) 123 17 (.ref 134)) 135 .null) 123 18 (.ref 135)) 136 .null) 123 19 (.ref 136)) 137 .null) 123 20 (.ref 137)) 138 .null))
  refine am_blk 127 [(.putfield 61, 3, 10, 22, .null)] (130, [(0, .ref 123)], [], (am_z (am_z (am_z (am_z (am_z (am_z (am_z (am_z (am_z (am_z (am_z (am_z (am_z (am_z (am_z (am_up (am_up I 123 0 (16 : Int32)) 123 1 (12 : Int32)) 124 0) 125 0) 126 0) 127 0) 128 0) 129 0) 130 0) 131 0) 132 0) 133 0) 134 0) 135 0) 136 0) 137 0) 138 0), (am_z (am_z (am_z (am_z (am_z (am_z (am_z (am_z (am_z (am_z (am_z (am_z (am_z (am_z (am_z G 124 0) 125 0) 126 0) 127 0) 128 0) 129 0) 130 0) 131 0) 132 0) 133 0) 134 0) 135 0) 136 0) 137 0) 138 0), (am_up (am_z (am_up (am_z (am_up (am_z (am_up (am_z (am_up (am_z (am_up (am_z (am_up (am_z (am_up (am_z (am_up (am_z (am_up (am_z (am_up (am_z (am_up (am_z (am_up (am_z (am_up (am_z (am_up (am_z zP_201 124 .null) 123 5 (.ref 124)) 125 .null) 123 6 (.ref 125)) 126 .null) 123 7 (.ref 126)) 127 .null) 123 8 (.ref 127)) 128 .null) 123 9 (.ref 128)) 129 .null) 123 10 (.ref 129)) 130 .null) 123 11 (.ref 130)) 131 .null) 123 12 (.ref 131)) 132 .null) 123 15 (.ref 132)) 133 .null) 123 16 (.ref 133)) 134 .null) 123 17 (.ref 134)) 135 .null) 123 18 (.ref 135)) 136 .null) 123 19 (.ref 136)) 137 .null) 123 20 (.ref 137)) 138 .null) 123 22 (.ref 138))) (True) hX15 hi (by decide +kernel) rfl trivial ?_
  exact am_vretA hX15 hi rfl (by decide +kernel) (fun j hj => by rw [e15 j (by omega), e14 j (by omega), e13 j (by omega), e12 j (by omega), e11 j (by omega), e10 j (by omega), e9 j (by omega), e8 j (by omega), e7 j (by omega), e6 j (by omega), e5 j (by omega), e4 j (by omega), e3 j (by omega), e2 j (by omega), e1 j (by omega)]) ⟨rfl, rfl, rfl, rfl, rfl⟩ ⟨by decide, by decide⟩
def zP_203 : am_P := (am_up zP_202 79 12 (.ref 123))

noncomputable def L_X14_read_79 (n0 : Nat) (hd : Nat) (I : am_I) (G : am_G) (v1 : Int32) (v2 : Int32) : Option (Int32 × am_I × am_G) := match n0 with
  | 0 => none
  | n + 1 => match hd with
    | 0 => (if v1 ≤ (I 79 9) then L_X14_read_79 n 1 I G v1 (0 : Int32) else rb (R_X14_errorOf_79 I G (I 79 9)) (fun r101 I101 G101 => (if r101 = 0 then L_X14_read_79 n 0 (am_up I101 79 9 ((I101 79 9) + (1 : Int32))) G101 v1 0 else rg (vp_in (I101 79 9) 401) (some (r101, (am_up I101 79 3 (I101 82 (I101 79 9).toNatClampNeg)), G101)))))
    | _ => (if (I 123 23) ≤ v2 then some ((0 : Int32), I, G) else rg (vp_in v2 400) (rg (vp_in v2 400) (rg (vp_in (I 138 v2.toNatClampNeg) 800) (rg (vp_in (I 137 (I 138 v2.toNatClampNeg).toNatClampNeg) 401) (rg (vp_in (I 138 v2.toNatClampNeg) 800) (L_X14_read_79 n 1 (am_up I 137 (I 138 v2.toNatClampNeg).toNatClampNeg (I 85 (I 137 (I 138 v2.toNatClampNeg).toNatClampNeg).toNatClampNeg)) G v1 (v2 + (1 : Int32))))))))
theorem L_X14_read_79_0 (n : Nat) (I : am_I) (G : am_G) (v1 : Int32) (v2 : Int32) : L_X14_read_79 (n + 1) 0 I G v1 v2 = (if v1 ≤ (I 79 9) then L_X14_read_79 n 1 I G v1 (0 : Int32) else rb (R_X14_errorOf_79 I G (I 79 9)) (fun r101 I101 G101 => (if r101 = 0 then L_X14_read_79 n 0 (am_up I101 79 9 ((I101 79 9) + (1 : Int32))) G101 v1 0 else rg (vp_in (I101 79 9) 401) (some (r101, (am_up I101 79 3 (I101 82 (I101 79 9).toNatClampNeg)), G101))))) := rfl
theorem L_X14_read_79_1 (n : Nat) (I : am_I) (G : am_G) (v1 : Int32) (v2 : Int32) : L_X14_read_79 (n + 1) 1 I G v1 v2 = (if (I 123 23) ≤ v2 then some ((0 : Int32), I, G) else rg (vp_in v2 400) (rg (vp_in v2 400) (rg (vp_in (I 138 v2.toNatClampNeg) 800) (rg (vp_in (I 137 (I 138 v2.toNatClampNeg).toNatClampNeg) 401) (rg (vp_in (I 138 v2.toNatClampNeg) 800) (L_X14_read_79 n 1 (am_up I 137 (I 138 v2.toNatClampNeg).toNatClampNeg (I 85 (I 137 (I 138 v2.toNatClampNeg).toNatClampNeg).toNatClampNeg)) G v1 (v2 + (1 : Int32)))))))) := rfl
theorem L_X14_read_79_z (h : Nat) (I : am_I) (G : am_G) (v1 : Int32) (v2 : Int32) : L_X14_read_79 0 h I G v1 v2 = none := rfl
noncomputable def R_X14_read_79 (I : am_I) (G : am_G)  : Option (Int32 × am_I × am_G) := rb (R_X14_cut_79 I G ) (fun r1 I1 G1 => rb (R_X14_isPlan_79 (am_up (am_up I1 79 9 (0 : Int32)) 79 10 (0 : Int32)) G1 ) (fun r2 I2 G2 => (if r2 = 0 then rg (vp_in (I2 79 9) 401) (some ((1 : Int32), (am_up I2 79 3 (I2 82 (I2 79 9).toNatClampNeg)), G2)) else L_X14_read_79 FU 0 (am_up I2 79 9 (0 : Int32)) G2 (I2 79 9) 0)))
set_option maxRecDepth 20000 in
set_option maxHeartbeats 600000 in
theorem l_X14_read_79 {X : am_X} {ad ad0 : Nat → Nat} (e9 : ∀ j, j < 123 ∨ 1000 ≤ j → ad j = ad0 j) (hX : am_okz X ad) (hi : am_info X 12 cX14_read 3 false (Option.some Jvm.ClassFile.FieldType.int) 51) (n : Nat) : (∀ (I : am_I) (G : am_G) (v1 : Int32) (v2 : Int32) (out : Int32 × am_I × am_G), L_X14_read_79 n 0 I G v1 v2 = some out → am_V X 16 1360 (am_RtA X 123 ad0 (fun r sh9 I9 G9 P9 => r = some (.int out.1) ∧ sh9 = gS2 ∧ I9 = out.2.1 ∧ G9 = out.2.2 ∧ P9 = gP 123) 16 1360) gS2 ad (57, [(0, .ref 79), (1, .int v1)], [], I, G, (gP 123))) ∧ (∀ (I : am_I) (G : am_G) (v1 : Int32) (v2 : Int32) (out : Int32 × am_I × am_G), L_X14_read_79 n 1 I G v1 v2 = some out → am_V X 16 1360 (am_RtA X 123 ad0 (fun r sh9 I9 G9 P9 => r = some (.int out.1) ∧ sh9 = gS2 ∧ I9 = out.2.1 ∧ G9 = out.2.2 ∧ P9 = gP 123) 16 1360) gS2 ad (111, [(0, .ref 79), (1, .int v1), (2, .int v2)], [], I, G, (gP 123))) := by
  induction n with
  | zero => exact ⟨(fun I G v1 v2 out h => by rw [L_X14_read_79_z] at h; cases h), (fun I G v1 v2 out h => by rw [L_X14_read_79_z] at h; cases h)⟩
  | succ n ih =>
    refine ⟨?_, ?_⟩
    · intro I G v1 v2 out h
      rw [L_X14_read_79_0] at h
      refine am_blk 57 [(.aload_n 0, 1, 0, 0, .null), (.getfield 122, 3, 12, 9, .null), (.iload_n 1, 1, 1, 0, .null)] (62, [(0, .ref 79), (1, .int v1)], [.int v1, .int (I 79 9)], I, G, (gP 123)) (True) hX hi (by decide +kernel) rfl trivial ?_
      refine am_icmp_ge (tgt := 109) hX hi (off := (47)) (by decide +kernel) (by decide) (fun c62 => ?_) (fun c62 => ?_)
      · rw [if_pos c62] at h
        refine am_blk 109 [(.iconst (0), 1, 0, 0, .int (0 : Int32)), (.istore_n 2, 1, 2, 0, .null)] (111, [(0, .ref 79), (1, .int v1), (2, .int (0 : Int32))], [], I, G, (gP 123)) (True) hX hi (by decide +kernel) rfl trivial ?_
        exact ih.2 _ _ _ _ _ h
      · rw [if_neg c62] at h
        refine am_blk 65 [(.aload_n 0, 1, 0, 0, .null), (.aload_n 0, 1, 0, 0, .null), (.getfield 122, 3, 12, 9, .null)] (70, [(0, .ref 79), (1, .int v1)], [.int (I 79 9), .ref 79], I, G, (gP 123)) (True) hX hi (by decide +kernel) rfl trivial ?_
        obtain ⟨r101, I101, G101, hc, h⟩ := rb_some h
        refine am_callV hX hi (M := mX14_errorOf) (idx := 313) (d' := 5) (b := 79) (ci := 12) (As := [.int (I 79 9)]) (rest := []) mkX14_errorOf miX14_errorOf mvX14_errorOf (by decide +kernel) (by decide +kernel) rfl (by decide +kernel) rfl ⟨by omega, by decide, Nat.le_of_ble_eq_true rfl⟩ rfl (c_X14_errorOf_79 I G (I 79 9) hc) ?_
        rintro r9 I9 G9 P9 ⟨e0, e1, e2, e3⟩
        rw [e0, e1, e2, e3]
        show am_V X _ _ _ _ _ (73, [(0, .ref 79), (1, .int v1)], [.int r101], I101, G101, (gP 123))
        refine am_blk 73 [(.istore_n 2, 1, 2, 0, .null), (.iload_n 2, 1, 2, 0, .null)] (75, [(0, .ref 79), (1, .int v1), (2, .int r101)], [.int r101], I101, G101, (gP 123)) (True) hX hi (by decide +kernel) rfl trivial ?_
        refine am_if_ne (tgt := 81) hX hi (off := (6)) (by decide +kernel) (by decide) (fun c75 => ?_) (fun c75 => ?_)
        · rw [if_neg c75] at h
          obtain ⟨g0, h⟩ := rg_some h
          refine am_blk 81 [(.aload_n 0, 1, 0, 0, .null), (.aload_n 0, 1, 0, 0, .null), (.getfield 20, 3, 12, 5, .null), (.aload_n 0, 1, 0, 0, .null), (.getfield 122, 3, 12, 9, .null), (.iaload, 1, 0, 0, .null), (.putfield 13, 3, 12, 3, .null), (.iload_n 2, 1, 2, 0, .null)] (95, [(0, .ref 79), (1, .int v1), (2, .int r101)], [.int r101], (am_up I101 79 3 (I101 82 (I101 79 9).toNatClampNeg)), G101, (gP 123)) (vp_in (I101 79 9) 401 ∧ True) hX hi (by decide +kernel) rfl ⟨g0, trivial⟩ ?_
          cases h
          exact am_iretA hX hi rfl rfl (by decide +kernel) e9 ⟨rfl, rfl, rfl, rfl, rfl⟩ ⟨by decide, by decide⟩
        · rw [if_pos c75] at h
          refine am_blk 78 [(.goto (18), 3, 0, 96, .null), (.aload_n 0, 1, 0, 0, .null), (.dup, 1, 0, 0, .null), (.getfield 122, 3, 12, 9, .null), (.iconst (1), 1, 0, 0, .int (1 : Int32)), (.iadd, 1, 0, 0, .null), (.putfield 122, 3, 12, 9, .null), (.goto (-49), 3, 0, 57, .null)] (57, [(0, .ref 79), (1, .int v1), (2, .int r101)], [], (am_up I101 79 9 ((I101 79 9) + (1 : Int32))), G101, (gP 123)) (True) hX hi (by decide +kernel) rfl trivial ?_
          refine am_sub (L' := [(0, .ref 79), (1, .int v1)]) (by simp) ?_
          exact ih.1 _ _ _ _ _ h
    · intro I G v1 v2 out h
      rw [L_X14_read_79_1] at h
      refine am_blk 111 [(.iload_n 2, 1, 2, 0, .null), (.aload_n 0, 1, 0, 0, .null), (.getfield 39, 3, 12, 12, .null), (.getfield 196, 3, 10, 23, .null)] (119, [(0, .ref 79), (1, .int v1), (2, .int v2)], [.int (I 123 23), .int v2], I, G, (gP 123)) (True) hX hi (by decide +kernel) rfl trivial ?_
      refine am_icmp_ge (tgt := 167) hX hi (off := (48)) (by decide +kernel) (by decide) (fun c119 => ?_) (fun c119 => ?_)
      · rw [if_pos c119] at h
        refine am_blk 167 [(.iconst (0), 1, 0, 0, .int (0 : Int32))] (168, [(0, .ref 79), (1, .int v1), (2, .int v2)], [.int (0 : Int32)], I, G, (gP 123)) (True) hX hi (by decide +kernel) rfl trivial ?_
        cases h
        exact am_iretA hX hi rfl rfl (by decide +kernel) e9 ⟨rfl, rfl, rfl, rfl, rfl⟩ ⟨by decide, by decide⟩
      · rw [if_neg c119] at h
        obtain ⟨g0, h⟩ := rg_some h
        obtain ⟨g1, h⟩ := rg_some h
        obtain ⟨g2, h⟩ := rg_some h
        obtain ⟨g3, h⟩ := rg_some h
        obtain ⟨g4, h⟩ := rg_some h
        refine am_blk 122 [(.aload_n 0, 1, 0, 0, .null), (.getfield 39, 3, 12, 12, .null), (.getfield 131, 3, 10, 20, .null), (.aload_n 0, 1, 0, 0, .null), (.getfield 39, 3, 12, 12, .null), (.getfield 193, 3, 10, 22, .null), (.iload_n 2, 1, 2, 0, .null), (.iaload, 1, 0, 0, .null), (.aload_n 0, 1, 0, 0, .null), (.getfield 29, 3, 12, 8, .null), (.aload_n 0, 1, 0, 0, .null), (.getfield 39, 3, 12, 12, .null), (.getfield 131, 3, 10, 20, .null), (.aload_n 0, 1, 0, 0, .null), (.getfield 39, 3, 12, 12, .null), (.getfield 193, 3, 10, 22, .null), (.iload_n 2, 1, 2, 0, .null), (.iaload, 1, 0, 0, .null), (.iaload, 1, 0, 0, .null), (.iaload, 1, 0, 0, .null), (.iastore, 1, 0, 0, .null), (.iinc 2 (1), 3, 2, 0, .int (1 : Int32)), (.goto (-53), 3, 0, 111, .null)] (111, [(0, .ref 79), (1, .int v1), (2, .int (v2 + (1 : Int32)))], [], (am_up I 137 (I 138 v2.toNatClampNeg).toNatClampNeg (I 85 (I 137 (I 138 v2.toNatClampNeg).toNatClampNeg).toNatClampNeg)), G, (gP 123)) (vp_in v2 400 ∧ vp_in v2 400 ∧ vp_in (I 138 v2.toNatClampNeg) 800 ∧ vp_in (I 137 (I 138 v2.toNatClampNeg).toNatClampNeg) 401 ∧ vp_in (I 138 v2.toNatClampNeg) 800 ∧ True) hX hi (by decide +kernel) rfl ⟨g0, g1, g2, g3, g4, trivial⟩ ?_
        exact ih.2 _ _ _ _ _ h
set_option maxRecDepth 20000 in
set_option maxHeartbeats 600000 in
theorem b_X14_read_79 {X : am_X} {ad ad0 : Nat → Nat} (e9 : ∀ j, j < 123 ∨ 1000 ≤ j → ad j = ad0 j) (hX : am_okz X ad) (hi : am_info X 12 cX14_read 3 false (Option.some Jvm.ClassFile.FieldType.int) 51) (I : am_I) (G : am_G) {out : Int32 × am_I × am_G} (h : R_X14_read_79 I G  = some out) : am_V X 16 1360 (am_RtA X 123 ad0 (fun r sh9 I9 G9 P9 => r = some (.int out.1) ∧ sh9 = gS2 ∧ I9 = out.2.1 ∧ G9 = out.2.2 ∧ P9 = gP 123) 16 1360) gS2 ad (11, [(0, .ref 79)], [], I, G, (gP 123)) := by
  unfold R_X14_read_79 at h
  refine am_blk 11 [(.aload_n 0, 1, 0, 0, .null)] (12, [(0, .ref 79)], [.ref 79], I, G, (gP 123)) (True) hX hi (by decide +kernel) rfl trivial ?_
  obtain ⟨r1, I1, G1, hc, h⟩ := rb_some h
  refine am_callV hX hi (M := mX14_cut) (idx := 307) (d' := 7) (b := 79) (ci := 12) (As := []) (rest := []) mkX14_cut miX14_cut mvX14_cut (by decide +kernel) (by decide +kernel) rfl (by decide +kernel) rfl ⟨by omega, by decide, Nat.le_of_ble_eq_true rfl⟩ rfl (c_X14_cut_79 I G  hc) ?_
  rintro r9 I9 G9 P9 ⟨e0, e1, e2, e3⟩
  rw [e0, e1, e2, e3]
  show am_V X _ _ _ _ _ (15, [(0, .ref 79)], [], I1, G1, (gP 123))
  refine am_blk 15 [(.aload_n 0, 1, 0, 0, .null), (.iconst (0), 1, 0, 0, .int (0 : Int32)), (.putfield 122, 3, 12, 9, .null), (.aload_n 0, 1, 0, 0, .null), (.iconst (0), 1, 0, 0, .int (0 : Int32)), (.putfield 190, 3, 12, 10, .null), (.aload_n 0, 1, 0, 0, .null)] (26, [(0, .ref 79)], [.ref 79], (am_up (am_up I1 79 9 (0 : Int32)) 79 10 (0 : Int32)), G1, (gP 123)) (True) hX hi (by decide +kernel) rfl trivial ?_
  obtain ⟨r2, I2, G2, hc, h⟩ := rb_some h
  refine am_callV hX hi (M := mX14_isPlan) (idx := 310) (d' := 50) (b := 79) (ci := 12) (As := []) (rest := []) mkX14_isPlan miX14_isPlan mvX14_isPlan (by decide +kernel) (by decide +kernel) rfl (by decide +kernel) rfl ⟨by omega, by decide, Nat.le_of_ble_eq_true rfl⟩ rfl (c_X14_isPlan_79 (am_up (am_up I1 79 9 (0 : Int32)) 79 10 (0 : Int32)) G1  hc) ?_
  rintro r9 I9 G9 P9 ⟨e0, e1, e2, e3⟩
  rw [e0, e1, e2, e3]
  show am_V X _ _ _ _ _ (29, [(0, .ref 79)], [.int r2], I2, G2, (gP 123))
  refine am_if_ne (tgt := 47) hX hi (off := (18)) (by decide +kernel) (by decide) (fun c29 => ?_) (fun c29 => ?_)
  · rw [if_neg c29] at h
    refine am_blk 47 [(.aload_n 0, 1, 0, 0, .null), (.getfield 122, 3, 12, 9, .null), (.istore_n 1, 1, 1, 0, .null), (.aload_n 0, 1, 0, 0, .null), (.iconst (0), 1, 0, 0, .int (0 : Int32)), (.putfield 122, 3, 12, 9, .null)] (57, [(0, .ref 79), (1, .int (I2 79 9))], [], (am_up I2 79 9 (0 : Int32)), G2, (gP 123)) (True) hX hi (by decide +kernel) rfl trivial ?_
    exact (l_X14_read_79 e9 hX hi FU).1 _ _ _ _ _ h
  · rw [if_pos c29] at h
    obtain ⟨g0, h⟩ := rg_some h
    refine am_blk 32 [(.aload_n 0, 1, 0, 0, .null), (.aload_n 0, 1, 0, 0, .null), (.getfield 20, 3, 12, 5, .null), (.aload_n 0, 1, 0, 0, .null), (.getfield 122, 3, 12, 9, .null), (.iaload, 1, 0, 0, .null), (.putfield 13, 3, 12, 3, .null), (.iconst (1), 1, 0, 0, .int (1 : Int32))] (46, [(0, .ref 79)], [.int (1 : Int32)], (am_up I2 79 3 (I2 82 (I2 79 9).toNatClampNeg)), G2, (gP 123)) (vp_in (I2 79 9) 401 ∧ True) hX hi (by decide +kernel) rfl ⟨g0, trivial⟩ ?_
    cases h
    exact am_iretA hX hi rfl rfl (by decide +kernel) e9 ⟨rfl, rfl, rfl, rfl, rfl⟩ ⟨by decide, by decide⟩
def zI_X14r (I : am_I) : am_I := (zI_X12_init_123r (am_z I 123 0))
def zG_X14r (G : am_G) : am_G := (zG_X12_init_123r (am_z G 123 0))
set_option maxRecDepth 20000 in
set_option maxHeartbeats 1000000 in
theorem c_X14_read_79 (I : am_I) (G : am_G) {out : Int32 × am_I × am_G} (h : R_X14_read_79 (zI_X14r I) (zG_X14r G)  = some out) : am_CtA mX14_read 51 16 1360 123 gS [.ref 79] I G (gP 999) (fun r sh9 I9 G9 P9 => r = some (.int out.1) ∧ sh9 = gS2 ∧ I9 = out.2.1 ∧ G9 = out.2.2 ∧ P9 = gP 123) := by
  refine am_ofA (by decide +kernel) rfl (by decide) (by decide) (Nat.le_of_ble_eq_true rfl) (fun X ad hX0 hi hm => ?_)
  have hi : am_info X 12 cX14_read 3 false (Option.some Jvm.ClassFile.FieldType.int) 51 := hi
  have hm : am_mem X 16 1360 := hm
  show am_V X 0 0 _ (gS2.take 123) ad (0, [(0, .ref 79)], [], I, G, (gP 999))
  refine am_blk 0 [(.aload_n 0, 1, 0, 0, .null)] (1, [(0, .ref 79)], [.ref 79], I, G, (gP 999)) (True) hX0 hi (by decide +kernel) rfl trivial ?_
  refine am_new hX0 hi hm (ci := 10) (idx := 32) rfl (by decide +kernel) (by decide +kernel) (by decide +kernel) (by decide +kernel) ⟨by decide, by decide⟩ (by decide +kernel) (by decide +kernel) (fun ad1 e1 => ?_)
  have e1 : ∀ j, j ≠ 123 → ad1 j = ad j := e1
  have hX1 := hX0.adr (fun j hj => e1 j (by show j ≠ 123; omega))
  show am_V X 1 24 _ (gS2.take 124) ad1 (4, [(0, .ref 79)], [.ref 123, .ref 79], (am_z I 123 0), (am_z G 123 0), (am_z (gP 999) 123 .null))
  refine am_blk 4 [(.dup, 1, 0, 0, .null)] (5, [(0, .ref 79)], [.ref 123, .ref 123, .ref 79], (am_z I 123 0), (am_z G 123 0), (am_z (gP 999) 123 .null)) (True) hX1 hi (by decide +kernel) rfl trivial ?_
  show am_V X 1 24 _ (gS2.take 124) ad1 (5, [(0, .ref 79)], [.ref 123, .ref 123, .ref 79], (am_z I 123 0), (am_z G 123 0), zP_201)
  refine am_callIN hX1 hi hm (M := mX12_init) (idx := 34) (d' := 1) (mc := 15) (ms := 1336) (keep := 124) (As := []) (rest := [.ref 123, .ref 79]) mkX12_init miX12_init rfl rfl (by decide +kernel) (by decide +kernel) rfl ⟨by decide, by decide, Nat.le_of_ble_eq_true rfl⟩ rfl ⟨by decide, by decide⟩ (by decide +kernel) (c_X12_init_123r (am_z I 123 0) (am_z G 123 0)) ?_
  rintro r7 sh7 ad2 I7 G7 P7 ⟨q0, q1, q2, q3, q4⟩ e2
  rw [q0, q1, q2, q3, q4]
  have hX2 := hX1.adr (fun j hj => e2 j (Or.inr hj))
  show am_V X 16 1360 _ (gS2.take 139) ad2 (8, [(0, .ref 79)], [.ref 123, .ref 79], (zI_X12_init_123r (am_z I 123 0)), (zG_X12_init_123r (am_z G 123 0)), zP_202)
  refine am_blk 8 [(.putfield 39, 3, 12, 12, .null)] (11, [(0, .ref 79)], [], (zI_X12_init_123r (am_z I 123 0)), (zG_X12_init_123r (am_z G 123 0)), (am_up zP_202 79 12 (.ref 123))) (True) hX2 hi (by decide +kernel) rfl trivial ?_
  refine am_renV (sh' := gS2) (P' := gP 123) (fun x => x) (fun _ _ => rfl) (by decide +kernel) (fun _ _ _ _ h => h) rfl ?_
  exact b_X14_read_79 (fun j hj => by rw [e2 j (by omega), e1 j (by omega)]) hX2 hi _ _ h
noncomputable def R_X14_teach_79 (I : am_I) (G : am_G) : Option (Int32 × am_I × am_G) := rb (R_X14_read_79 (zI_X14r (am_up (am_up I 79 0 (0 : Int32)) 79 3 (-1 : Int32))) (zG_X14r G)) (fun r I1 G1 => if r ≤ 0 then rb (R_X13_begin_102 (fun a => (am_up I1 79 2 (0 : Int32)) (gR1 a)) (fun a => G1 (gR1 a))) (fun _ I2 G2 => some ((0 : Int32), I2, G2)) else some (r, (fun a => (am_up I1 79 2 (0 : Int32)) (gR0 a)), (fun a => G1 (gR0 a))))
set_option maxRecDepth 20000 in
set_option maxHeartbeats 1000000 in
theorem c_X14_teach_79 (I : am_I) (G : am_G) {out : Int32 × am_I × am_G} (h : R_X14_teach_79 I G = some out) : am_CtT mX14_teach 52 16 1360 [.ref 79] I G (fun r I9 G9 => r = some (.int out.1) ∧ I9 = out.2.1 ∧ G9 = out.2.2) := by
  refine am_ofT (by decide +kernel) rfl (by decide) (by decide) (Nat.le_of_ble_eq_true rfl) (fun X ad hX hi hm => ?_)
  have hi : am_info X 12 cX14_teach 2 false (Option.some Jvm.ClassFile.FieldType.int) 52 := hi
  have hm : am_mem X 16 1360 := hm
  show am_V X 0 0 _ _ ad (0, [(0, .ref 79)], [], I, G, (gP 999))
  unfold R_X14_teach_79 at h
  obtain ⟨r1, I1, G1, hc, h⟩ := rb_some h
  refine am_blk 0 [(.aload_n 0, 1, 0, 0, .null), (.iconst (0), 1, 0, 0, .int (0 : Int32)), (.putfield 57, 3, 12, 0, .null), (.aload_n 0, 1, 0, 0, .null), (.iconst (-1), 1, 0, 0, .int (-1 : Int32)), (.putfield 13, 3, 12, 3, .null), (.aload_n 0, 1, 0, 0, .null)] (11, [(0, .ref 79)], [.ref 79], (am_up (am_up I 79 0 (0 : Int32)) 79 3 (-1 : Int32)), G, (gP 999)) (True) hX hi (by decide +kernel) rfl trivial ?_
  refine am_callVA hX hi hm (M := mX14_read) (idx := 319) (d' := 51) (mc := 16) (ms := 1360) (keep := 123) (b := 79) (ci := 12) (As := []) (rest := []) mkX14_read miX14_read mvX14_read (by decide +kernel) (by decide +kernel) rfl (by decide +kernel) rfl ⟨by decide, by decide, Nat.le_of_ble_eq_true rfl⟩ rfl ⟨by decide, by decide⟩ (by decide +kernel) (c_X14_read_79 _ _ hc) ?_
  rintro r9 sh9 ad1 I9 G9 P9 ⟨q0, q1, q2, q3, q4⟩ e1
  rw [q0, q1, q2, q3, q4]
  have hX := hX.adr (fun j hj => e1 j (Or.inr hj))
  show am_V X 16 1360 _ gS2 ad1 (14, [(0, .ref 79)], [.int r1], I1, G1, (gP 123))
  refine am_blk 14 [(.istore_n 1, 1, 1, 0, .null), (.aload_n 0, 1, 0, 0, .null), (.iconst (0), 1, 0, 0, .int (0 : Int32)), (.putfield 83, 3, 12, 2, .null), (.iload_n 1, 1, 1, 0, .null)] (21, [(0, .ref 79), (1, .int r1)], [.int r1], (am_up I1 79 2 (0 : Int32)), G1, (gP 123)) (True) hX hi (by decide +kernel) rfl trivial ?_
  refine am_if_le (tgt := 26) hX hi (off := (5)) (by decide +kernel) (by decide) (fun c21 => ?_) (fun c21 => ?_)
  · rw [if_pos c21] at h
    obtain ⟨r2, I2, G2, hc2, h⟩ := rb_some h
    refine am_blk 26 [(.aload_n 0, 1, 0, 0, .null), (.aload_n 0, 1, 0, 0, .null), (.getfield 39, 3, 12, 12, .null), (.putfield 35, 3, 12, 11, .null), (.aload_n 0, 1, 0, 0, .null), (.getfield 47, 3, 12, 13, .null)] (38, [(0, .ref 79), (1, .int r1)], [.ref 102], (am_up I1 79 2 (0 : Int32)), G1, gP1) (True) hX hi (by decide +kernel) rfl trivial ?_
    refine am_renV (sh' := gS) (P' := gP 999) gR1 gR1_s gR1_p gR1_i rfl ?_
    have hX := hX.adr (ad' := fun j => ad1 (gR1 j)) (fun j hj => by show ad1 (gR1 j) = ad1 j; unfold gR1; rw [if_neg (by omega), if_neg (by omega)])
    refine am_callV hX hi (M := mX13_begin) (idx := 54) (d' := 1) (b := 102) (ci := 11) (As := []) (rest := []) mkX13_begin miX13_begin mvX13_begin (by decide +kernel) (by decide +kernel) rfl (by decide +kernel) rfl ⟨by decide, by decide, Nat.le_of_ble_eq_true rfl⟩ rfl (c_X13_begin_102 999 _ _ hc2) ?_
    rintro r8 I8 G8 P8 ⟨q0, q1, q2, q3⟩
    rw [q0, q1, q2, q3]
    show am_V X 16 1360 _ gS (fun j => ad1 (gR1 j)) (41, [(0, .ref 79), (1, .int r1)], [], I2, G2, (gP 999))
    refine am_blk 41 [(.iconst (0), 1, 0, 0, .int (0 : Int32))] (42, [(0, .ref 79), (1, .int r1)], [.int (0 : Int32)], I2, G2, (gP 999)) (True) hX hi (by decide +kernel) rfl trivial ?_
    cases h
    refine am_iretT hX hi rfl rfl (by decide +kernel) (fun j hj => ?_) ⟨rfl, rfl, rfl⟩ ⟨by decide, by decide⟩
    show ad1 (gR1 j) = ad j
    unfold gR1; rw [if_neg (by omega), if_neg (by omega)]; exact e1 j (by omega)
  · rw [if_neg c21] at h
    refine am_blk 24 [(.iload_n 1, 1, 1, 0, .null)] (25, [(0, .ref 79), (1, .int r1)], [.int r1], (am_up I1 79 2 (0 : Int32)), G1, (gP 123)) (True) hX hi (by decide +kernel) rfl trivial ?_
    refine am_renV (sh' := gS) (P' := gP 999) gR0 gR0_s gR0_p gR0_i rfl ?_
    have hX := hX.adr (ad' := fun j => ad1 (gR0 j)) (fun j hj => by show ad1 (gR0 j) = ad1 j; unfold gR0; rw [if_neg (by omega)])
    cases h
    refine am_iretT hX hi rfl rfl (by decide +kernel) (fun j hj => ?_) ⟨rfl, rfl, rfl⟩ ⟨by decide, by decide⟩
    show ad1 (gR0 j) = ad j
    unfold gR0; rw [if_neg (by omega)]; exact e1 j (by omega)
