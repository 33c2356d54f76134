/-- more rules: a static row of a nest mate, arraycopy of int rows -/
theorem am_gstN {X : am_X} {o : Nat} {cc : ByteArray} {nL : Nat} {ini : Bool} {ret : Option FieldType} {d cells slots : Nat} {Q : State → Prop} {sh : List am_Sh} {ad : Nat → Nat} {pc : Nat} {L : am_L} {st : List Value} {I : am_I} {G : am_G} {P : am_P} (hX : am_okz X ad) (hi : am_info X o cc nL ini ret d) {i idx : Nat} {q : String × String × List Int32} (hq : am_sT[i]? = some q) (hl : Cond.fieldLinkNest (am_own o) idx q.1 q.2.1 "[I" (am_host o) ∈ lw_tbl) (hd : decode cc pc = .ok (.getstatic idx, 3)) (k : am_V X cells slots Q sh ad (pc + 3, L, .ref (1000 + i) :: st, I, G, P)) : am_V X cells slots Q sh ad (pc, L, st, I, G, P) := by
  obtain ⟨p, l, e, R, s, m, args, below, meth, c, A, D, cys, o', cc', nL', ini'⟩ := X
  obtain ⟨rfl, rfl, rfl, rfl, -, -, -⟩ := hi
  obtain ⟨⟨hx, hb, hml, hown, hts, hlk, hK, hN, -⟩, hZ⟩ := hX
  intro q1 q2 H locs ls hP hD hS hlo
  exact va_getsN hx hb (hZ.1 i q hq).1 hS hown (va_Nw.use rfl (hN _ hl rfl)) (fun x h => h) hd (k q1 q2 H locs ls hP hD hS hlo)
/-- a row's first n places over another's -/
def am_cp (I : am_I) (a b n : Nat) : am_I := fun c j => if c = b ∧ j < n then I a j else I c j
set_option maxRecDepth 100000 in
theorem am_w_ac1 : Cond.native arraycopyName ∈ am_all := am_good (by decide +kernel) rfl
set_option maxRecDepth 100000 in
theorem am_w_ac2 : Cond.static arraycopyName ∈ am_all := am_good (by decide +kernel) rfl
set_option maxRecDepth 100000 in
theorem am_w_ac3 : Cond.initialized "java/lang/System" ∈ am_all := am_good (by decide +kernel) rfl
theorem am_acopy {X : am_X} {o : Nat} {cc : ByteArray} {nL : Nat} {ini : Bool} {ret : Option FieldType} {d cells slots : Nat} {Q : State → Prop} {sh : List am_Sh} {ad : Nat → Nat} {pc : Nat} {L : am_L} {st : List Value} {I : am_I} {G : am_G} {P : am_P} (hX : am_okz X ad) (hi : am_info X o cc nL ini ret d) {a b na nb idx : Nat} {n : Int32} (ha : sh[a]? = some (.inr (0, na))) (hb' : sh[b]? = some (.inr (0, nb))) (hn : 0 ≤ n.toInt ∧ n.toInt ≤ na ∧ n.toInt ≤ nb) (hl : Cond.methodLink (am_own o) idx arraycopyName ∈ lw_tbl) (hd : decode cc pc = .ok (.invokestatic idx, 3)) (hr : 2 ≤ d ∧ (st.map fun v => v.category).sum ≤ 8) (k : am_V X cells slots Q sh ad (pc + 3, L, st, am_cp I a b n.toInt.toNat, G, P)) : am_V X cells slots Q sh ad (pc, L, .int n :: .int 0 :: .ref b :: .int 0 :: .ref a :: st, I, G, P) := by
  obtain ⟨p, l, e, R, s, m, args, below, meth, c, A, D, cys, o', cc', nL', ini'⟩ := X
  obtain ⟨rfl, rfl, rfl, rfl, -, hR1, hR2⟩ := hi
  obtain ⟨⟨hx, hb, hml, hown, hts, hlk, hK, hN, -⟩, hZ⟩ := hX
  intro q1 q2 H locs ls hP hD hS hlo
  have h1 := am_ws_at (cys := cys) (ad := ad) (I := I) (G := G) (P := P) ha
  have h2 := am_ws_at (cys := cys) (ad := ad) (I := I) (G := G) (P := P) hb'
  have h0 : ¬ ((0 : Int32) < 0) := by decide
  have hn0 : ¬ n < 0 := by rw [i_lt, i_0]; omega
  have e0 : (0 : Int32).toNatClampNeg = 0 := rfl
  refine va_copyi hx hb (hml.trans hlo.1.symm) hown (hts _ (am_good hl rfl)) (hts _ am_w_ac1) (hts _ am_w_ac2) (hts _ am_w_ac3) hK hP hD hS a b 0 0 h1 h2 rfl rfl rfl h0 h0 hn0 (by rw [e0, i_cl]; omega) (by rw [e0, i_cl]; omega) (fun i _ => rfl) (by omega) (by rw [am_cats, show nativeFrameWords "java/lang/System" "arraycopy" 5 = 7 by decide +kernel]; omega) hd (fun H1 locs1 hP1 hD1 hS1 => ?_)
  have hset : (am_ws cys ad sh I G P).set b (ad b, .inl (cys.1, nb, .inl (va_cpy (I a) (I b) (0 : Int32).toNatClampNeg (0 : Int32).toNatClampNeg n.toNatClampNeg))) = am_ws cys ad sh (am_cp I a b n.toInt.toNat) G P := by
    refine am_ws_set hb' (fun z hz => ⟨by funext j; simp [am_cp, hz], rfl, rfl⟩) ?_
    have : am_cp I a b n.toInt.toNat b = va_cpy (I a) (I b) (0 : Int32).toNatClampNeg (0 : Int32).toNatClampNeg n.toNatClampNeg := by
      funext j
      unfold am_cp va_cpy
      rw [show n.toNatClampNeg = n.toInt.toNat from rfl]
      simp [e0]
    rw [this]; rfl
  rw [hset] at hP1 hD1
  exact k q1 q2 H1 locs1 ls hP1 hD1 hS1 hlo
set_option maxHeartbeats 2000000 in
theorem c_copy {sh : List am_Sh} {I : am_I} {G : am_G} {P : am_P} {a b n : Nat} (ha : sh[a]? = some (.inr (0, n))) (hb : sh[b]? = some (.inr (0, n))) (hn : n < 2147483648) : am_Ct mX0_copy 2 sh [.ref a, .ref b] I G P (pV (am_cp I a b n) G P) := by
  refine am_ofF (by decide +kernel) rfl (by decide) (by decide) (Nat.le_of_ble_eq_true rfl) (fun X ad hX hi => ?_)
  have hi : am_info X 13 cX0_copy 2 false none 2 := hi
  show am_V X 0 0 _ _ ad (0, [(0, .ref a), (1, .ref b)], [], I, G, P)
  refine am_blk 0 [(.aload_n 0, 1, 0, 0, .null)] (1, [(0, .ref a), (1, .ref b)], [.ref a], I, G, P) True hX hi (by decide +kernel) rfl trivial ?_
  refine am_nul hX hi (off := 21) (by decide +kernel) ?_
  refine am_blk 4 [(.aload_n 1, 1, 1, 0, .null)] (5, [(0, .ref a), (1, .ref b)], [.ref b], I, G, P) True hX hi (by decide +kernel) rfl trivial ?_
  refine am_nul hX hi (off := 17) (by decide +kernel) ?_
  refine am_blk 8 [(.aload_n 0, 1, 0, 0, .null), (.iconst 0, 1, 0, 0, .int 0), (.aload_n 1, 1, 1, 0, .null), (.iconst 0, 1, 0, 0, .int 0), (.aload_n 0, 1, 0, 0, .null), (.arraylength, 1, 0, 0, .null), (.aload_n 1, 1, 1, 0, .null), (.arraylength, 1, 0, 0, .null), (.invokestatic 7, 3, 1, 0, .null)] (19, [(0, .ref a), (1, .ref b)], [.int (if Int32.ofNat n < Int32.ofNat n then Int32.ofNat n else Int32.ofNat n), .int 0, .ref b, .int 0, .ref a], I, G, P) True hX hi (by decide +kernel) (by simp [am_run, am_st, am_lk, ha, hb, am_beq, Value.category, show Nat.ble 4 8 = true from rfl]) trivial ?_
  rw [show (if Int32.ofNat n < Int32.ofNat n then Int32.ofNat n else Int32.ofNat n) = Int32.ofNat n by split <;> rfl]
  have e1 := i_of n hn
  refine am_acopy (idx := 13) hX hi ha hb (by rw [e1]; omega) (List.mem_of_getElem? (i := 844) (by decide +kernel)) (by decide +kernel) ⟨by decide, by decide⟩ ?_
  refine am_vret hX hi rfl (by decide +kernel) ⟨rfl, ?_, rfl, rfl⟩
  rw [e1]; rfl
set_option maxRecDepth 20000 in
theorem c_namesBehind (rd : Nat) (I : am_I) (G : am_G) (x1 : Int32) : am_Ct mX6_namesBehind 1 gS [.ref 28, .int x1] I G (gP rd) (pR (if x1 = 9 then 49 else if x1 = 16 then 51 else 47) I G (gP rd)) := by
  refine am_ofF (by decide +kernel) rfl (by decide) (by decide) (Nat.le_of_ble_eq_true rfl) (fun X ad hX hi => ?_)
  have hi : am_info X 6 cX6_namesBehind 2 false (some (.object "MarbledPaper$Names")) 1 := hi
  show am_V X 0 0 _ _ ad (0, [(0, .ref 28), (1, .int x1)], [], I, G, (gP rd))
  refine am_blk 0 [(.iload_n 1, 1, 1, 0, .null), (.bipush (9), 2, 0, 0, .int (9 : Int32))] (3, [(0, .ref 28), (1, .int x1)], [.int (9 : Int32), .int x1], I, G, (gP rd)) (True) hX hi (by decide +kernel) rfl trivial ?_
  refine am_icmp_ne (tgt := 11) hX hi (off := (8)) (by decide +kernel) (by decide) (fun c3 => ?_) (fun c3 => ?_)
  · refine am_blk 11 [(.iload_n 1, 1, 1, 0, .null), (.bipush (16), 2, 0, 0, .int (16 : Int32))] (14, [(0, .ref 28), (1, .int x1)], [.int (16 : Int32), .int x1], I, G, (gP rd)) (True) hX hi (by decide +kernel) rfl trivial ?_
    refine am_icmp_ne (tgt := 24) hX hi (off := (10)) (by decide +kernel) (by decide) (fun c14 => ?_) (fun c14 => ?_)
    · refine am_blk 24 [(.aload_n 0, 1, 0, 0, .null), (.getfield 23, 3, 6, 2, .null)] (28, [(0, .ref 28), (1, .int x1)], [.ref 47], I, G, (gP rd)) (True) hX hi (by decide +kernel) rfl trivial ?_
      refine am_aret hX hi rfl (by decide +kernel) ⟨?_, rfl, rfl, rfl⟩
      simp_all
    · refine am_blk 17 [(.aload_n 0, 1, 0, 0, .null), (.getfield 30, 3, 6, 4, .null), (.goto (7), 3, 0, 28, .null)] (28, [(0, .ref 28), (1, .int x1)], [.ref 51], I, G, (gP rd)) (True) hX hi (by decide +kernel) rfl trivial ?_
      refine am_aret hX hi rfl (by decide +kernel) ⟨?_, rfl, rfl, rfl⟩
      simp_all
  · refine am_blk 6 [(.aload_n 0, 1, 0, 0, .null), (.getfield 27, 3, 6, 3, .null)] (10, [(0, .ref 28), (1, .int x1)], [.ref 49], I, G, (gP rd)) (True) hX hi (by decide +kernel) rfl trivial ?_
    refine am_aret hX hi rfl (by decide +kernel) ⟨?_, rfl, rfl, rfl⟩
    simp_all
section AMD2
variable {X : am_X} {o : Nat} {cc : ByteArray} {nL : Nat} {ini : Bool} {ret : Option FieldType} {d : Nat}
variable {cells slots : Nat} {Q : State → Prop} {sh : List am_Sh} {ad : Nat → Nat} {pc : Nat} {L : am_L} {st : List Value} {I : am_I} {G : am_G} {P : am_P} {post : am_Po}
/-- invokevirtual -/
theorem am_callV2 (hX : am_okz X ad) (hi : am_info X o cc nL ini ret d) {M : am_M} {d' idx b ci : Nat} {As rest : List Value} (hM : am_Mok M) (hin : Cond.instanceMethod M.1 ∈ lw_tbl) (hsl : Cond.selects M.1.cls M.1 M.1 ∈ lw_tbl) (hl : am_lnk o idx M.1 false = true) (hd : decode cc pc = .ok (.invokevirtual idx, 3))
    (hs : sh[b]? = some (.inl ci)) (hcn : (vwCl[ci]?).map (fun r => r.1) = some M.1.cls) (hn : As.length = M.2.2.2.2.2.1) (hdd : d' + 1 ≤ d ∧ 19 + M.2.2.1 + 30 * d' ≤ 30 * d ∧ (rest.map fun v => v.category).sum ≤ 8) (hst : st = As.reverse ++ .ref b :: rest) (hC : am_Ct M d' sh (.ref b :: As) I G P post)
    (kk : ∀ r I' G' P', post r I' G' P' → am_V X cells slots Q sh ad (pc + 3, L, r.toList ++ rest, I', G', P')) : am_V X cells slots Q sh ad (pc, L, st, I, G, P) := by
  subst hst
  obtain ⟨p, l, e, R, s, m, args, below, meth, c, A, D, cys, o', cc', nL', ini'⟩ := X
  obtain ⟨rfl, rfl, rfl, rfl, -, hR1, hR2⟩ := hi
  obtain ⟨⟨hx, hb, hml, hown, hts, hlk, hK, hN, hA, hini, hR3, hR4⟩, hZ⟩ := hX
  intro h1 h2 H locs ls hP hD hS hlo
  obtain ⟨q1, q2, q3, q4, q5⟩ := hM
  have hlw : Cond.methodLink (am_own o') idx M.1 ∈ lw_tbl := by
    have := am_lnk_ok hl
    simpa using this
  obtain ⟨r0, hr0, hr1⟩ := Option.map_eq_some_iff.mp hcn
  have hws := am_ws_at (cys := cys) (ad := ad) (I := I) (G := G) (P := P) hs
  have cw : CallW R s args (am_own o') M.1.cls idx M.1 M.2.1 M.2.2.1 M.2.2.2.1 (am_wl M.1 M.2.1 M.2.2.1 M.2.2.2.1) (am_rm d' 0 0) 0 0 M.2.2.2.2.2.1 :=
    ⟨callB_of _ hts (am_goodIn ⟨q1, q2, q3, q4, q5⟩) rfl rfl rfl (hts _ (am_good q2 rfl)) (hts _ (am_good hlw rfl)) ⟨q3, q4, q5⟩ ⟨by show d' + 1 ≤ R.frames; omega, by show 8 + (M.2.2.1 + 11) + 30 * d' ≤ R.locals; omega⟩, hts _ (am_good hin rfl), hts _ (am_good hsl rfl)⟩
  have hA1 := am_A1 hD hS hA
  refine am_goes (A1 := va_A (am_ws cys ad sh I G P) H.size) (va_runV (As := As.map (am_tv ad)) (b := ad b) (rest := rest.map (am_tv ad)) ⟨hx, hb, hml, hown, hts⟩ (hC l D cys ad H.size) cw ⟨am_blind, ?_, ?_⟩ rfl (by rw [List.length_map]; exact hn) hlo.1 ?_ ?_ hd ⟨h1, h2⟩) hS hA1 hD ?_
  · rw [← hr1]
    exact va_recv hK hP hr0 hws
  · intro U hU hW
    exact ⟨rfl, by rw [hU], by rw [hU]; exact hP, va_K.moved hW.alike hK, hD.weaken (fun _ _ _ _ => trivial), am_nst.warm hW hN, by rw [hU]; exact (am_Zs.warm hW (hZ.kept hS.2.1)).narrow hA1⟩
  · simp [am_tv]
  · exact lv_room (by rw [am_cats]; exact hdd.2.2)
  · intro r I' G' P' hp H1 locs1 hP1 hD1 hS1
    rw [am_out]
    exact kk r I' G' P' hp h1 h2 H1 locs1 ls hP1 hD1 hS1 hlo
/-- invokestatic -/
theorem am_callS2 (hX : am_okz X ad) (hi : am_info X o cc nL ini ret d) {M : am_M} {d' idx : Nat} {As rest : List Value} (hM : am_Mok M) (hin : Cond.static M.1 ∈ lw_tbl) (hl : am_lnk o idx M.1 false = true) (hd : decode cc pc = .ok (.invokestatic idx, 3))
    (hn : As.length = M.2.2.2.2.2.1) (hdd : d' + 1 ≤ d ∧ 19 + M.2.2.1 + 30 * d' ≤ 30 * d ∧ (rest.map fun v => v.category).sum ≤ 8) (hst : st = As.reverse ++ rest) (hC : am_Ct M d' sh As I G P post)
    (kk : ∀ r I' G' P', post r I' G' P' → am_V X cells slots Q sh ad (pc + 3, L, r.toList ++ rest, I', G', P')) : am_V X cells slots Q sh ad (pc, L, st, I, G, P) := by
  subst hst
  obtain ⟨p, l, e, R, s, m, args, below, meth, c, A, D, cys, o', cc', nL', ini'⟩ := X
  obtain ⟨rfl, rfl, rfl, rfl, -, hR1, hR2⟩ := hi
  obtain ⟨⟨hx, hb, hml, hown, hts, hlk, hK, hN, hA, hini, hR3, hR4⟩, hZ⟩ := hX
  intro h1 h2 H locs ls hP hD hS hlo
  obtain ⟨q1, q2, q3, q4, q5⟩ := hM
  have hlw : Cond.methodLink (am_own o') idx M.1 ∈ lw_tbl := by
    have := am_lnk_ok hl
    simpa using this
  have cw : CallB R s args (am_own o') idx M.1 M.2.1 M.2.2.1 M.2.2.2.1 (am_wl M.1 M.2.1 M.2.2.1 M.2.2.2.1) (am_rm d' 0 0) 0 0 M.2.2.2.2.2.1 ∧ (Cond.static M.1).before args s = true :=
    ⟨callB_of _ hts (am_goodIn ⟨q1, q2, q3, q4, q5⟩) rfl rfl rfl (hts _ (am_good q2 rfl)) (hts _ (am_good hlw rfl)) ⟨q3, q4, q5⟩ ⟨by show d' + 1 ≤ R.frames; omega, by show 8 + (M.2.2.1 + 11) + 30 * d' ≤ R.locals; omega⟩, hts _ (am_good hin rfl)⟩
  have hA1 := am_A1 hD hS hA
  refine am_goes (A1 := va_A (am_ws cys ad sh I G P) H.size) (va_runS (As := As.map (am_tv ad)) (rest := rest.map (am_tv ad)) ⟨hx, hb, hml, hown, hts⟩ (hC l D cys ad H.size) cw ⟨am_blind, ?_⟩ rfl (by rw [List.length_map]; exact hn) hlo.1 ?_ ?_ hd ⟨h1, h2⟩) hS hA1 hD ?_
  · intro U hU hW
    exact ⟨rfl, by rw [hU], by rw [hU]; exact hP, va_K.moved hW.alike hK, hD.weaken (fun _ _ _ _ => trivial), am_nst.warm hW hN, by rw [hU]; exact (am_Zs.warm hW (hZ.kept hS.2.1)).narrow hA1⟩
  · simp
  · exact lv_room (by rw [am_cats]; exact hdd.2.2)
  · intro r I' G' P' hp H1 locs1 hP1 hD1 hS1
    rw [am_out]
    exact kk r I' G' P' hp h1 h2 H1 locs1 ls hP1 hD1 hS1 hlo
/-- invokestatic -/
theorem am_callSN (hX : am_okz X ad) (hi : am_info X o cc nL ini ret d) {M : am_M} {d' idx : Nat} {As rest : List Value} (hM : am_Mok M) (hin : Cond.static M.1 ∈ lw_tbl) (hl : am_lnk o idx M.1 true = true) (hd : decode cc pc = .ok (.invokestatic idx, 3))
    (hn : As.length = M.2.2.2.2.2.1) (hdd : d' + 1 ≤ d ∧ M.2.2.1 ≤ 11 ∧ (rest.map fun v => v.category).sum ≤ 8) (hst : st = As.reverse ++ rest) (hC : am_Ct M d' sh As I G P post)
    (kk : ∀ r I' G' P', post r I' G' P' → am_V X cells slots Q sh ad (pc + 3, L, r.toList ++ rest, I', G', P')) : am_V X cells slots Q sh ad (pc, L, st, I, G, P) := by
  subst hst
  obtain ⟨p, l, e, R, s, m, args, below, meth, c, A, D, cys, o', cc', nL', ini'⟩ := X
  obtain ⟨rfl, rfl, rfl, rfl, -, hR1, hR2⟩ := hi
  obtain ⟨⟨hx, hb, hml, hown, hts, hlk, hK, hN, hA, hini, hR3, hR4⟩, hZ⟩ := hX
  intro h1 h2 H locs ls hP hD hS hlo
  obtain ⟨q1, q2, q3, q4, q5⟩ := hM
  have hlw : Cond.methodLinkNest (am_own o') idx M.1 (am_host o') ∈ lw_tbl := by
    have := am_lnk_ok hl
    simpa using this
  have cw : va_CN R s args (am_own o') idx M.1 (am_host o') M.2.1 M.2.2.1 M.2.2.2.1 (am_wl M.1 M.2.1 M.2.2.1 M.2.2.2.1) (am_rm d' 0 0) 0 0 M.2.2.2.2.2.1 ∧ (Cond.static M.1).before args s = true ∧ True :=
    ⟨va_cnB _ hts (am_goodIn ⟨q1, q2, q3, q4, q5⟩) rfl rfl rfl (hN _ hlw rfl) (hts _ (am_good q2 rfl)) ⟨q3, q4, q5⟩ ⟨by show d' + 1 ≤ R.frames; omega, by show 8 + (M.2.2.1 + 11) + 30 * d' ≤ R.locals; omega⟩, hts _ (am_good hin rfl), trivial⟩
  have hA1 := am_A1 hD hS hA
  refine am_goes (A1 := va_A (am_ws cys ad sh I G P) H.size) (va_runSN (As := As.map (am_tv ad)) (rest := rest.map (am_tv ad)) ⟨hx, hb, hml, hown, hts⟩ (hC l D cys ad H.size) cw ⟨am_blind, ?_⟩ rfl (by rw [List.length_map]; exact hn) hlo.1 ?_ ?_ hd ⟨h1, h2⟩) hS hA1 hD ?_
  · intro U hU hW
    exact ⟨rfl, by rw [hU], by rw [hU]; exact hP, va_K.moved hW.alike hK, hD.weaken (fun _ _ _ _ => trivial), am_nst.warm hW hN, by rw [hU]; exact (am_Zs.warm hW (hZ.kept hS.2.1)).narrow hA1⟩
  · simp
  · exact lv_room (by rw [am_cats]; exact hdd.2.2)
  · intro r I' G' P' hp H1 locs1 hP1 hD1 hS1
    rw [am_out]
    exact kk r I' G' P' hp h1 h2 H1 locs1 ls hP1 hD1 hS1 hlo
end AMD2
