/-! the law's own walk: the script, doubles in locals, the end, the call of teach -/
def am_scr (X : am_X) (ad : Nat → Nat) (N : Nat) (xs : Nat → Int32) : Prop := match X with
  | (_, _, _, _, s, _, _, _, _, _, A, _, _, _, _, _, _) => va_X (ad 5000) N xs s s.heap ∧ ad 5000 < s.heap.size ∧ ¬ A (ad 5000)
theorem am_scr.adr {X : am_X} {ad ad' : Nat → Nat} {N : Nat} {xs : Nat → Int32} (h : am_scr X ad N xs) (he : ad' 5000 = ad 5000) : am_scr X ad' N xs := by
  obtain ⟨p, l, e, R, s, m, args, below, meth, c, A, D, cys, o', cc', nL', ini'⟩ := X
  show va_X (ad' 5000) N xs s s.heap ∧ ad' 5000 < s.heap.size ∧ ¬ A (ad' 5000)
  rw [he]; exact h
section AML
variable {X : am_X} {o : Nat} {cc : ByteArray} {nL : Nat} {ini : Bool} {ret : Option FieldType} {d : Nat}
variable {cells slots mc ms MC MS : Nat} {Q : State → Prop} {sh : List am_Sh} {ad : Nat → Nat} {pc : Nat} {L : am_L} {st : List Value} {I : am_I} {G : am_G} {P : am_P} {N : Nat} {xs : Nat → Int32}
theorem am_slen (hX : am_okz X ad) (hi : am_info X o cc nL ini ret d) (hs : am_scr X ad N xs) (hd : decode cc pc = .ok (.arraylength, 1)) (k : am_V X cells slots Q sh ad (pc + 1, L, .int (Int32.ofNat N) :: st, I, G, P)) : am_V X cells slots Q sh ad (pc, L, .ref 5000 :: st, I, G, P) := by
  obtain ⟨p, l, e, R, s, m, args, below, meth, c, A, D, cys, o', cc', nL', ini'⟩ := X
  obtain ⟨rfl, rfl, rfl, rfl, -, -, -⟩ := hi
  obtain ⟨⟨hx, hb, -⟩, -⟩ := hX
  obtain ⟨h1, h2, h3⟩ := hs
  intro q1 q2 H locs ls hP hD hS hl
  exact va_slen hx hb h1 h2 h3 hS hd (k q1 q2 H locs ls hP hD hS hl)
theorem am_sld (hX : am_okz X ad) (hi : am_info X o cc nL ini ret d) (hs : am_scr X ad N xs) {i : Int32} (hin : vp_in i N) (hd : decode cc pc = .ok (.iaload, 1)) (k : am_V X cells slots Q sh ad (pc + 1, L, .int (xs i.toNatClampNeg) :: st, I, G, P)) : am_V X cells slots Q sh ad (pc, L, .int i :: .ref 5000 :: st, I, G, P) := by
  obtain ⟨p, l, e, R, s, m, args, below, meth, c, A, D, cys, o', cc', nL', ini'⟩ := X
  obtain ⟨rfl, rfl, rfl, rfl, -, -, -⟩ := hi
  obtain ⟨⟨hx, hb, -⟩, -⟩ := hX
  obtain ⟨h1, h2, h3⟩ := hs
  intro q1 q2 H locs ls hP hD hS hl
  exact va_sld hx hb h1 h2 h3 hS hin hd (k q1 q2 H locs ls hP hD hS hl)
/-- more room may have been taken -/
theorem am_wid {k n : Nat} {S : am_S} (hm : am_mem X MC MS) (h1 : cells ≤ k) (h2 : slots ≤ n) (h3 : k ≤ MC ∧ n ≤ MS) (kk : am_V X k n Q sh ad S) : am_V X cells slots Q sh ad S := by
  obtain ⟨p, l, e, R, s, m, args, below, meth, c, A, D, cys, o', cc', nL', ini'⟩ := X
  obtain ⟨rfl, rfl⟩ := hm
  obtain ⟨pc, L, st, I, G, P⟩ := S
  intro q1 q2 H locs ls hP hD hS hl
  exact W.widen h1 h2 (kk h3.1 h3.2 H locs ls hP hD hS hl)
theorem am_dst (hX : am_okz X ad) (hi : am_info X o cc nL ini ret d) {i : Nat} {x : UInt64} {L' : am_L} (hd : decode cc pc = .ok (.dstore i, 2)) (hn : i + 1 < nL) (hl9 : ∀ ad : Nat → Nat, (i, Value.double x) :: (L.map (am_tl ad)).filter (fun q => !(q.1 == i) && (!(q.1 == i + 1) && !(q.1 + 1 == i && q.2.category == 2))) = L'.map (am_tl ad)) (k : am_V X cells slots Q sh ad (pc + 2, L', st, I, G, P)) : am_V X cells slots Q sh ad (pc, L, .double x :: st, I, G, P) := by
  obtain ⟨p, l, e, R, s, m, args, below, meth, c, A, D, cys, o', cc', nL', ini'⟩ := X
  obtain ⟨rfl, rfl, rfl, rfl, -, -, -⟩ := hi
  obtain ⟨⟨hx, hb, -⟩, -⟩ := hX
  intro q1 q2 H locs ls hP hD hS hl
  exact lv_dstore hx hb hd hl hn (hl9 ad) (fun ls' hl' => k q1 q2 H locs ls' hP hD hS hl')
theorem am_dld (hX : am_okz X ad) (hi : am_info X o cc nL ini ret d) {i : Nat} {x : UInt64} (hd : decode cc pc = .ok (.dload i, 2)) (hL : (i, Value.double x) ∈ L) (k : am_V X cells slots Q sh ad (pc + 2, L, .double x :: st, I, G, P)) : am_V X cells slots Q sh ad (pc, L, st, I, G, P) := by
  obtain ⟨p, l, e, R, s, m, args, below, meth, c, A, D, cys, o', cc', nL', ini'⟩ := X
  obtain ⟨rfl, rfl, rfl, rfl, -, -, -⟩ := hi
  obtain ⟨⟨hx, hb, -⟩, -⟩ := hX
  intro q1 q2 H locs ls hP hD hS hl
  have h9 : (i, Value.double x) ∈ L.map (am_tl ad) := List.mem_map.mpr ⟨(i, .double x), hL, rfl⟩
  exact lv_dload hx hb hd (hl.2.2 _ h9) (k q1 q2 H locs ls hP hD hS hl)
/-- the call of teach -/
theorem am_callVT {post : Option Value → am_I → am_G → Prop} (hX : am_okz X ad) (hi : am_info X o cc nL ini ret d) (hm : am_mem X MC MS) {M : am_M} {d' idx b ci : Nat} {As rest : List Value} (hM : am_Mok M) (hin : Cond.instanceMethod M.1 ∈ lw_tbl) (hsl : Cond.selects M.1.cls M.1 M.1 ∈ lw_tbl) (hl : am_lnk o idx M.1 false = true) (hd : decode cc pc = .ok (.invokevirtual idx, 3))
    (hs : gS[b]? = some (.inl ci)) (hcn : (vwCl[ci]?).map (fun r => r.1) = some M.1.cls) (hn : As.length = M.2.2.2.2.2.1) (hdd : d' + 1 ≤ d ∧ M.2.2.1 ≤ 11 ∧ (rest.map fun v => v.category).sum ≤ 8) (hst : st = As.reverse ++ .ref b :: rest) (hroom : cells + mc ≤ MC ∧ slots + ms ≤ MS)
    (hkp : ∀ ad' : Nat → Nat, (∀ j, ((j < 86 ∨ j = 122) ∨ 1000 ≤ j) → ad' j = ad j) → L.map (am_tl ad') = L.map (am_tl ad) ∧ rest.map (am_tv ad') = rest.map (am_tv ad)) (hC : am_CtT M d' mc ms (.ref b :: As) I G post)
    (kk : ∀ r ad' I' G', post r I' G' → (∀ j, ((j < 86 ∨ j = 122) ∨ 1000 ≤ j) → ad' j = ad j) → am_V X (cells + mc) (slots + ms) Q gS ad' (pc + 3, L, r.toList ++ rest, I', G', gP 999)) : am_V X cells slots Q gS ad (pc, L, st, I, G, gP 999) := by
  subst hst
  obtain ⟨p, l, e, R, s, m, args, below, meth, c, A, D, cys, o', cc', nL', ini'⟩ := X
  obtain ⟨rfl, rfl, rfl, rfl, -, hR1, hR2⟩ := hi
  obtain ⟨rfl, rfl⟩ := hm
  obtain ⟨⟨hx, hb, hml, hown, hts, hlk, hK, hN, hA, hini, hR3, hR4⟩, hZ⟩ := hX
  intro h1 h2 H locs ls hP hD hS hlo
  obtain ⟨q1, q2, q3, q4, q5⟩ := hM
  have hlw : Cond.methodLink (am_own o') idx M.1 ∈ lw_tbl := by
    have := am_lnk_ok hl
    simpa using this
  obtain ⟨r0, hr0, hr1⟩ := Option.map_eq_some_iff.mp hcn
  have hws := am_ws_at (cys := cys) (ad := ad) (I := I) (G := G) (P := gP 999) hs
  have cw : CallW R s args (am_own o') M.1.cls idx M.1 M.2.1 M.2.2.1 M.2.2.2.1 (am_wl M.1 M.2.1 M.2.2.1 M.2.2.2.1) (am_rm d' mc ms) mc ms M.2.2.2.2.2.1 :=
    ⟨callB_of _ hts (am_goodIn ⟨q1, q2, q3, q4, q5⟩) rfl rfl rfl (hts _ (am_good q2 rfl)) (hts _ (am_good hlw rfl)) ⟨q3, q4, q5⟩ ⟨by show d' + 1 ≤ R.frames; omega, by show 8 + (M.2.2.1 + 11) + 30 * d' ≤ R.locals; omega⟩, hts _ (am_good hin rfl), hts _ (am_good hsl rfl)⟩
  have hA1 := am_A1 hD hS hA
  have hr := va_runV (e := e) (below := below) (meth := meth) (As := As.map (am_tv ad)) (b := ad b) (rest := rest.map (am_tv ad)) (cells := cells) (slots := slots) (locs := locs) (g := F0 m pc ls ((As.reverse ++ .ref b :: rest).map (am_tv ad))) ⟨hx, hb, hml, hown, hts⟩ (hC l D cys ad H.size) cw ⟨am_blind, by rw [← hr1]; exact va_recv hK hP hr0 hws, fun U hU hW => ⟨rfl, by rw [hU], by rw [hU]; exact hP, va_K.moved hW.alike hK, hD.weaken (fun _ _ _ _ => trivial), am_nst.warm hW hN, by rw [hU]; exact (am_Zs.warm hW (hZ.kept hS.2.1)).narrow hA1⟩⟩ rfl (by rw [List.length_map]; exact hn) hlo.1 (by simp [am_tv, F0]) (lv_room (by rw [am_cats]; exact hdd.2.2)) hd hroom
  intro T hT X9
  obtain ⟨v, st₀, t, T', L9, h0, X', hL, e1, e2, ⟨⟨r, ad', I', G', hp, had, hv, hP1, hD1⟩, hz, hk⟩, st9⟩ := hr T hT X9
  cases hv
  rw [h0] at hz hk
  have hS1 : va_S A s.heap T'.heap (locs ++ L9) := ⟨Nat.le_trans hS.1 (by rw [e1]; exact hz), fun q h1 h2 => by rw [e1, hk q (Nat.lt_of_lt_of_le h1 hS.1) (fun z => h2 (hA1 q z))]; exact hS.2.1 q h1 h2, fun q hq => by
      rcases List.mem_append.mp hq with h | h
      · exact hS.2.2 q h
      · exact hA1 _ (hL q h)⟩
  obtain ⟨k1, k2⟩ := hkp ad' had
  have kk9 := kk r ad' I' G' hp had hroom.1 hroom.2 T'.heap (locs ++ L9) ls (by rw [e1]; exact hP1) (hD1.weaken (fun _ _ _ z => hA1 _ z)) hS1 (by rw [k1]; exact hlo)
  rw [← am_out, k2] at kk9
  obtain ⟨t2, a1, b1⟩ := kk9 T' rfl X'
  exact ⟨t2, st9 t2 a1, b1⟩
end AML
