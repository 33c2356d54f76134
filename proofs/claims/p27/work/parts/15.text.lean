/-! texts: their fields, their bytes; java.lang.String's length, charAt, indexOf -/
set_option maxRecDepth 100000 in
theorem am_w_cod : Cond.fieldLink (am_own 0) 15 "java/lang/String" "coder" "B" ∈ am_all := am_good (List.mem_of_getElem? (i := 1553) (by decide +kernel)) rfl
set_option maxRecDepth 100000 in
theorem am_w_val : Cond.fieldLink (am_own 0) 9 "java/lang/String" "value" "[B" ∈ am_all := am_good (List.mem_of_getElem? (i := 1552) (by decide +kernel)) rfl
set_option maxRecDepth 100000 in
theorem am_w_cs : Cond.fieldLink (am_own 0) 38 "java/lang/String" "COMPACT_STRINGS" "Z" ∈ am_all := am_good (List.mem_of_getElem? (i := 99) (by decide +kernel)) rfl
set_option maxRecDepth 100000 in
theorem am_w_sf : Cond.fieldLink (am_own 0) 1053 "jdk/internal/util/Preconditions" "SIOOBE_FORMATTER" "Ljava/util/function/BiFunction;" ∈ am_all := am_good (List.mem_of_getElem? (i := 115) (by decide +kernel)) rfl
def am_okb (x : Int32) : Bool := decide (x.toInt8.toInt32 = x) && (decide (((x &&& 255).toUInt32 % 65536).toInt32 = x) && (decide (narrow .char (.int x) = .int x) && (decide (0 ≤ x.toInt) && decide (x.toInt < 128))))
theorem am_tB_ok : am_tB.all (fun q => Nat.blt q.2.length 1000 && q.2.all am_okb) = true := by decide +kernel
theorem am_tB_len {k : Nat} {q : Nat × List Int32} (hq : am_tB[k]? = some q) : q.2.length < 1000 := by
  have h := List.all_eq_true.mp am_tB_ok q (List.mem_of_getElem? hq)
  simp only [Bool.and_eq_true] at h
  exact Nat.blt_eq ▸ h.1
theorem am_tB_at {k : Nat} {q : Nat × List Int32} (hq : am_tB[k]? = some q) {j : Nat} (hj : j < q.2.length) : (q.2.getD j 0).toInt8.toInt32 = q.2.getD j 0 ∧ ((q.2.getD j 0 &&& 255).toUInt32 % 65536).toInt32 = q.2.getD j 0 ∧ narrow .char (.int (q.2.getD j 0)) = .int (q.2.getD j 0) ∧ 0 ≤ (q.2.getD j 0).toInt ∧ (q.2.getD j 0).toInt < 128 := by
  have h := List.all_eq_true.mp am_tB_ok q (List.mem_of_getElem? hq)
  simp only [Bool.and_eq_true] at h
  have hm : q.2.getD j 0 ∈ q.2 := by
    rw [List.getD_eq_getElem?_getD, List.getElem?_eq_getElem hj, Option.getD_some]
    exact List.getElem_mem hj
  have h2 := List.all_eq_true.mp h.2 _ hm
  simp only [am_okb, Bool.and_eq_true, decide_eq_true_eq] at h2
  exact ⟨h2.1, h2.2.1, h2.2.2.1, h2.2.2.2.1, h2.2.2.2.2⟩
section AMT
variable {X : am_X} {cc : ByteArray} {nL : Nat} {o : Nat} {ini : Bool} {ret : Option FieldType} {d cells slots : Nat} {Q : State → Prop} {sh : List am_Sh} {ad : Nat → Nat} {pc : Nat} {L : am_L} {st : List Value} {I : am_I} {G : am_G} {P : am_P} {post : am_Po}
theorem am_tcod (hX : am_okz X ad) (hi : am_info X 0 cc nL ini ret d) {k : Nat} {q : Nat × List Int32} (hq : am_tB[k]? = some q) (hd : decode cc pc = .ok (.getfield 15, 3)) (kk : am_V X cells slots Q sh ad (pc + 3, L, .int 0 :: st, I, G, P)) : am_V X cells slots Q sh ad (pc, L, .ref (2000 + q.1) :: st, I, G, P) := by
  obtain ⟨p, l, e, R, s, m, args, below, meth, c, A, D, cys, o', cc', nL', ini'⟩ := X
  obtain ⟨rfl, rfl, rfl, rfl, -, -, -⟩ := hi
  obtain ⟨⟨hx, hb, hml, hown, hts, -⟩, hZ⟩ := hX
  intro q1 q2 H locs ls hP hD hS hlo
  exact vk_getf hx hb (hZ.2.2.1 k q hq).2.1 hS hown (hts _ am_w_cod) (fun x h => h) hd (kk q1 q2 H locs ls hP hD hS hlo)
theorem am_tval (hX : am_okz X ad) (hi : am_info X 0 cc nL ini ret d) {k : Nat} {q : Nat × List Int32} (hq : am_tB[k]? = some q) (hd : decode cc pc = .ok (.getfield 9, 3)) (kk : am_V X cells slots Q sh ad (pc + 3, L, .ref (3000 + q.1) :: st, I, G, P)) : am_V X cells slots Q sh ad (pc, L, .ref (2000 + q.1) :: st, I, G, P) := by
  obtain ⟨p, l, e, R, s, m, args, below, meth, c, A, D, cys, o', cc', nL', ini'⟩ := X
  obtain ⟨rfl, rfl, rfl, rfl, -, -, -⟩ := hi
  obtain ⟨⟨hx, hb, hml, hown, hts, -⟩, hZ⟩ := hX
  intro q1 q2 H locs ls hP hD hS hlo
  exact vk_getf hx hb (hZ.2.2.1 k q hq).2.2.1 hS hown (hts _ am_w_val) (fun x h => h) hd (kk q1 q2 H locs ls hP hD hS hlo)
theorem am_tcs (hX : am_okz X ad) (hi : am_info X 0 cc nL ini ret d) (hd : decode cc pc = .ok (.getstatic 38, 3)) (kk : am_V X cells slots Q sh ad (pc + 3, L, .int 1 :: st, I, G, P)) : am_V X cells slots Q sh ad (pc, L, st, I, G, P) := by
  obtain ⟨p, l, e, R, s, m, args, below, meth, c, A, D, cys, o', cc', nL', ini'⟩ := X
  obtain ⟨rfl, rfl, rfl, rfl, -, -, -⟩ := hi
  obtain ⟨⟨hx, hb, hml, hown, hts, -⟩, hZ⟩ := hX
  intro q1 q2 H locs ls hP hD hS hlo
  exact va_gets hx hb hZ.2.2.2.2.2.2.2.1 hS hown (hts _ am_w_cs) (fun x h => h) hd (kk q1 q2 H locs ls hP hD hS hlo)
theorem am_tlen (hX : am_okz X ad) (hi : am_info X o cc nL ini ret d) {k : Nat} {q : Nat × List Int32} (hq : am_tB[k]? = some q) (hd : decode cc pc = .ok (.arraylength, 1)) (kk : am_V X cells slots Q sh ad (pc + 1, L, .int (Int32.ofNat q.2.length) :: st, I, G, P)) : am_V X cells slots Q sh ad (pc, L, .ref (3000 + q.1) :: st, I, G, P) := by
  obtain ⟨p, l, e, R, s, m, args, below, meth, c, A, D, cys, o', cc', nL', ini'⟩ := X
  obtain ⟨rfl, rfl, rfl, rfl, -, -, -⟩ := hi
  obtain ⟨⟨hx, hb, hml, hown, hts, -⟩, hZ⟩ := hX
  intro q1 q2 H locs ls hP hD hS hlo
  exact va_tlen hx hb (hZ.2.2.1 k q hq).2.2.2 hS rfl hd (kk q1 q2 H locs ls hP hD hS hlo)
theorem am_tb (hX : am_okz X ad) (hi : am_info X o cc nL ini ret d) {k : Nat} {q : Nat × List Int32} (hq : am_tB[k]? = some q) {j : Int32} (hj : vp_in j q.2.length) (hd : decode cc pc = .ok (.baload, 1)) (kk : am_V X cells slots Q sh ad (pc + 1, L, .int (q.2.getD j.toNatClampNeg 0) :: st, I, G, P)) : am_V X cells slots Q sh ad (pc, L, .int j :: .ref (3000 + q.1) :: st, I, G, P) := by
  obtain ⟨p, l, e, R, s, m, args, below, meth, c, A, D, cys, o', cc', nL', ini'⟩ := X
  obtain ⟨rfl, rfl, rfl, rfl, -, -, -⟩ := hi
  obtain ⟨⟨hx, hb, hml, hown, hts, -⟩, hZ⟩ := hX
  intro q1 q2 H locs ls hP hD hS hlo
  exact va_tb hx hb (hZ.2.2.1 k q hq).2.2.2 hS hj rfl hd (kk q1 q2 H locs ls hP hD hS hlo)
theorem am_ldcS (hX : am_okz X ad) (hi : am_info X o cc nL ini ret d) {i idx : Nat} {q : String × Nat × String} (hq : am_tT[i]? = some q) (ho : q.1 = am_own o) (hx9 : q.2.1 = idx) (hd : decode cc pc = .ok (.ldc idx, 2)) (kk : am_V X cells slots Q sh ad (pc + 2, L, .ref (2000 + i) :: st, I, G, P)) : am_V X cells slots Q sh ad (pc, L, st, I, G, P) := by
  obtain ⟨p, l, e, R, s, m, args, below, meth, c, A, D, cys, o', cc', nL', ini'⟩ := X
  obtain ⟨rfl, rfl, rfl, rfl, -, -, -⟩ := hi
  obtain ⟨⟨hx, hb, hml, hown, hts, -⟩, hZ⟩ := hX
  subst hx9
  intro q1 q2 H locs ls hP hD hS hlo
  exact va_ldcS hx hb (by rw [ho]; exact hown) (hZ.2.1 i q hq) hd (kk q1 q2 H locs ls hP hD hS hlo)
theorem am_i2b (hX : am_okz X ad) (hi : am_info X o cc nL ini ret d) {x : Int32} (hd : decode cc pc = .ok (.i2b, 1)) (kk : am_V X cells slots Q sh ad (pc + 1, L, .int x.toInt8.toInt32 :: st, I, G, P)) : am_V X cells slots Q sh ad (pc, L, .int x :: st, I, G, P) := by
  obtain ⟨p, l, e, R, s, m, args, below, meth, c, A, D, cys, o', cc', nL', ini'⟩ := X
  obtain ⟨rfl, rfl, rfl, rfl, -, -, -⟩ := hi
  obtain ⟨⟨hx, hb, hml, hown, hts, -⟩, hZ⟩ := hX
  intro q1 q2 H locs ls hP hD hS hlo
  exact lv_i2b hx hb hd rfl (kk q1 q2 H locs ls hP hD hS hlo)
/-- invokevirtual on a text -/
theorem am_callT (hX : am_okz X ad) (hi : am_info X o cc nL ini ret d) {M : am_M} {d' idx k : Nat} {q : Nat × List Int32} {As rest : List Value} (hM : am_Mok M) (hin : Cond.instanceMethod M.1 ∈ lw_tbl) (hsl : Cond.selects M.1.cls M.1 M.1 ∈ lw_tbl) (hl : am_lnk o idx M.1 false = true) (hd : decode cc pc = .ok (.invokevirtual idx, 3))
    (hq : am_tB[k]? = some q) (hcn : M.1.cls = "java/lang/String") (hn : As.length = M.2.2.2.2.2.1) (hdd : d' + 1 ≤ d ∧ M.2.2.1 ≤ 11 ∧ (rest.map fun v => v.category).sum ≤ 8) (hst : st = As.reverse ++ .ref (2000 + q.1) :: rest) (hC : am_Ct M d' sh (.ref (2000 + q.1) :: As) I G P post)
    (kk : ∀ r I' G' P', post r I' G' P' → am_V X cells slots Q sh ad (pc + 3, L, r.toList ++ rest, I', G', P')) : am_V X cells slots Q sh ad (pc, L, st, I, G, P) := by
  subst hst
  obtain ⟨p, l, e, R, s, m, args, below, meth, c, A, D, cys, o', cc', nL', ini'⟩ := X
  obtain ⟨rfl, rfl, rfl, rfl, -, hR1, hR2⟩ := hi
  obtain ⟨⟨hx, hb, hml, hown, hts, hlk, hK, hN, hA, hini, hR3, hR4⟩, hZ⟩ := hX
  intro h1 h2 H locs ls hP hD hS hlo
  obtain ⟨q1, q2, q3, q4, q5⟩ := hM
  have hlw : Cond.methodLink (am_own o') idx M.1 ∈ lw_tbl := by
    have := am_lnk_ok hl
    simpa using this
  have cw : CallW R s args (am_own o') M.1.cls idx M.1 M.2.1 M.2.2.1 M.2.2.2.1 (am_wl M.1 M.2.1 M.2.2.1 M.2.2.2.1) (am_rm d' 0 0) 0 0 M.2.2.2.2.2.1 :=
    ⟨callB_of _ hts (am_goodIn ⟨q1, q2, q3, q4, q5⟩) rfl rfl rfl (hts _ (am_good q2 rfl)) (hts _ (am_good hlw rfl)) ⟨q3, q4, q5⟩ ⟨by show d' + 1 ≤ R.frames; omega, by show 8 + (M.2.2.1 + 11) + 30 * d' ≤ R.locals; omega⟩, hts _ (am_good hin rfl), hts _ (am_good hsl rfl)⟩
  have hA1 := am_A1 hD hS hA
  refine am_goes (A1 := va_A (am_ws cys ad sh I G P) H.size) (va_runV (As := As.map (am_tv ad)) (b := ad (2000 + q.1)) (rest := rest.map (am_tv ad)) ⟨hx, hb, hml, hown, hts⟩ (hC l D cys ad H.size) cw ⟨am_blind, ?_, ?_⟩ rfl (by rw [List.length_map]; exact hn) hlo.1 ?_ ?_ hd ⟨h1, h2⟩) hS hA1 hD ?_
  · obtain ⟨cell, w1, w2, w3, -⟩ := ((hZ.2.2.1 k q hq).1).kept hS.2.1
    rw [hcn]
    exact ⟨cell, w1, w2, w3⟩
  · intro U hU hW
    exact ⟨rfl, by rw [hU], by rw [hU]; exact hP, va_K.moved hW.alike hK, hD.weaken (fun _ _ _ _ => trivial), am_nst.warm hW hN, by rw [hU]; exact (am_Zs.warm hW (hZ.kept hS.2.1)).narrow hA1⟩
  · simp [am_tv]
  · exact lv_room (by rw [am_cats]; exact hdd.2.2)
  · intro r I' G' P' hp H1 locs1 hP1 hD1 hS1
    rw [am_out]
    exact kk r I' G' P' hp h1 h2 H1 locs1 ls hP1 hD1 hS1 hlo
/-! a reference to nothing that we know: a number for it -/
def am_mxV (v : Value) : Nat := match v with
  | .ref k => k
  | _ => 0
def am_mxL : List Value → Nat
  | [] => 0
  | v :: r => am_mxV v + am_mxL r
theorem am_mxL_le {v : Value} : ∀ {vs : List Value}, v ∈ vs → am_mxV v ≤ am_mxL vs
  | [], h => by cases h
  | w :: r, h => by
    unfold am_mxL
    rcases List.mem_cons.mp h with h | h
    · rw [h]; omega
    · have := am_mxL_le h; omega
theorem am_ksl {c k t : Nat} (h : (am_ks c)[k]? = some t) : k < 100 := by
  have h1 := am_ks_lt h
  have h2 : (List.range 13).all (fun c => Nat.blt (am_ks c).length 100) = true := by decide +kernel
  have h3 : (am_ks c).length < 100 := Nat.blt_eq ▸ List.all_eq_true.mp h2 c (List.mem_range.mpr h1)
  have h4 := (List.getElem?_eq_some_iff.mp h).1
  omega
theorem am_tv_ne {v : Value} {n : Nat} {ad ad' : Nat → Nat} (h : am_mxV v < n) (ha : ∀ j, j ≠ n → ad' j = ad j) : am_tv ad' v = am_tv ad v := by
  cases v with
  | ref k =>
    simp only [am_tv]
    rw [ha k (by simp only [am_mxV] at h; omega)]
  | _ => rfl
def am_rl (sh : List am_Sh) (b : Nat) : Nat := match sh[b]? with
  | some (.inr (_, m)) => m
  | _ => 100
theorem am_ws_same {cys : am_C3} {ad ad' : Nat → Nat} {sh : List am_Sh} {I : am_I} {G : am_G} {P : am_P} (h0 : ∀ b, b < sh.length → ad' b = ad b) (h : ∀ b c k t : Nat, sh[b]? = some (.inl c) → (am_ks c)[k]? = some t → am_tv ad' (P b k) = am_tv ad (P b k)) (h3 : ∀ b m j : Nat, sh[b]? = some (.inr (3, m)) → j < m → am_tv ad' (P b j) = am_tv ad (P b j)) : am_ws cys ad' sh I G P = am_ws cys ad sh I G P := by
  apply List.ext_getElem?
  intro j
  simp only [am_ws, List.getElem?_mapIdx]
  cases hs : sh[j]? with
  | none => rfl
  | some x =>
    have hj := (List.getElem?_eq_some_iff.mp hs).1
    simp only [Option.map_some]
    rw [h0 j hj]
    cases x with
    | inr y => rcases y with ⟨t, n⟩; match t with
      | 0 => rfl
      | 1 => rfl
      | 2 => rfl
      | 3 =>
        have e3 : am_rw ad' n (P j) = am_rw ad n (P j) := by
          funext k
          unfold am_rw
          cases hb : Nat.blt k n with
          | false => rfl
          | true =>
            have e4 := h3 j n k hs (by rw [Nat.blt_eq] at hb; exact hb)
            show am_ov ad' (P j k) = am_ov ad (P j k)
            cases hv : P j k with
            | ref z => rw [hv] at e4; simp only [am_tv] at e4; simp only [am_ov]; rw [Value.ref.inj e4]
            | _ => rfl
        simp only [am_E, e3]
      | 4 => rfl
      | t + 5 => rfl
    | inl c =>
      have : am_fs ad' (am_ks c) (I j) (G j) (P j) = am_fs ad (am_ks c) (I j) (G j) (P j) := by
        apply List.ext_getElem?
        intro k
        simp only [am_fs, List.getElem?_mapIdx]
        cases hk : (am_ks c)[k]? with
        | none => rfl
        | some t =>
          simp only [Option.map_some, am_fv]
          split <;> first | rfl | rw [h j c k t hs hk]
      simp only [am_E, this]
theorem am_tabs : (am_sT.length = 2 ∧ am_tT.length ≤ 100) ∧ (am_tB.all (fun q => Nat.blt q.1 100) = true ∧ am_gT.length = 8 ∧ am_bT.length = 2) := by decide +kernel
theorem am_Zs.adr2 {ad ad' : Nat → Nat} {A : Nat → Prop} {U : State} {H : Heap} (h : am_Zs ad A U H) (he : ∀ i, 1000 ≤ i → i < 5000 → ad' i = ad i) : am_Zs ad' A U H := by
  obtain ⟨h1, h2, h3, h4, h5, h6, h7, h8, h9⟩ := h
  have t1 := am_tabs.1.1
  have t2 := am_tabs.1.2
  refine ⟨fun i q hi => ?_, fun i q hi => ?_, fun k q hk => ?_, ?_, ?_, fun i q hi => ?_, fun i q hi => ?_, h8, h9⟩
  · have := (List.getElem?_eq_some_iff.mp hi).1
    rw [he (1000 + i) (by omega) (by omega)]; exact h1 i q hi
  · have := (List.getElem?_eq_some_iff.mp hi).1
    rw [he (2000 + i) (by omega) (by omega)]; exact h2 i q hi
  · have : q.1 < 100 := Nat.blt_eq ▸ List.all_eq_true.mp am_tabs.2.1 q (List.mem_of_getElem? hk)
    rw [he (2000 + q.1) (by omega) (by omega), he (3000 + q.1) (by omega) (by omega)]; exact h3 k q hk
  · rw [he 1006 (by omega) (by omega)]; exact h4
  · rw [he 1006 (by omega) (by omega)]
    obtain ⟨cell, g1, g2, g3, g4, g5, g6, g7⟩ := h5
    exact ⟨cell, g1, g2, g3, g4, g5, fun j hj => by show cell.slots[j]? = some (Value.ref (ad' (1010 + j))); rw [he (1010 + j) (by omega) (by omega)]; exact g6 j hj, g7⟩
  · have := (List.getElem?_eq_some_iff.mp hi).1
    have t3 := am_tabs.2.2.1
    rw [he (1010 + i) (by omega) (by omega)]; exact h6 i q hi
  · have := (List.getElem?_eq_some_iff.mp hi).1
    have t4 := am_tabs.2.2.2
    rw [he (1020 + i) (by omega) (by omega)]; exact h7 i q hi
/-- getstatic of the formatter, a reference that nobody looks at -/
theorem am_gSF (hX : am_okz X ad) (hi : am_info X 0 cc nL ini ret d) (hd : decode cc pc = .ok (.getstatic 1053, 3)) (k0 : am_V X cells slots Q sh ad (pc + 3, L, .null :: st, I, G, P))
    (k1 : ∀ (ad' : Nat → Nat) (n : Nat), am_okz X ad' → (∀ cys : am_C3, am_ws cys ad' sh I G P = am_ws cys ad sh I G P) → am_V X cells slots Q sh ad' (pc + 3, L, .ref n :: st, I, G, P)) : am_V X cells slots Q sh ad (pc, L, st, I, G, P) := by
  obtain ⟨p, l, e, R, s, m, args, below, meth, c, A, D, cys, o', cc', nL', ini'⟩ := X
  obtain ⟨rfl, rfl, rfl, rfl, -, -, -⟩ := hi
  obtain ⟨hY, hZ⟩ := hX
  have hY0 := hY
  obtain ⟨hx, hb, hml, hown, hts, -⟩ := hY0
  intro q1 q2 H locs ls hP hD hS hlo
  rcases hZ.2.2.2.2.2.2.2.2 with h | ⟨t, h⟩
  · exact va_gets hx hb h hS hown (hts _ am_w_sf) (fun x h => h) hd (k0 q1 q2 H locs ls hP hD hS hlo)
  · let vs : List Value := (List.range sh.length).flatMap (fun b => (List.range (am_rl sh b)).map (P b)) ++ (L.map (fun q => q.2) ++ st)
    let n : Nat := 5001 + sh.length + am_mxL vs
    let ad' : Nat → Nat := fun j => if j = n then t else ad j
    have ha : ∀ j, j ≠ n → ad' j = ad j := fun j hj => if_neg hj
    have hv : ∀ v ∈ vs, am_tv ad' v = am_tv ad v := fun v hm => am_tv_ne (n := n) (by have := am_mxL_le hm; show am_mxV v < 5001 + sh.length + am_mxL vs; omega) ha
    have hw : ∀ cys : am_C3, am_ws cys ad' sh I G P = am_ws cys ad sh I G P := fun cys => am_ws_same (fun b hb9 => ha b (by show b ≠ 5001 + sh.length + am_mxL vs; omega)) (fun b c k t hs hk => hv _ (by
      refine List.mem_append_left _ (List.mem_flatMap.mpr ⟨b, List.mem_range.mpr (List.getElem?_eq_some_iff.mp hs).1, List.mem_map_of_mem (List.mem_range.mpr (by unfold am_rl; rw [hs]; exact am_ksl hk))⟩))) (fun b m j hs hj => hv _ (by
      refine List.mem_append_left _ (List.mem_flatMap.mpr ⟨b, List.mem_range.mpr (List.getElem?_eq_some_iff.mp hs).1, List.mem_map_of_mem (List.mem_range.mpr (by unfold am_rl; rw [hs]; exact hj))⟩)))
    have e1 : L.map (am_tl ad') = L.map (am_tl ad) := List.map_congr_left fun q hq => by
      show (q.1, am_tv ad' q.2) = (q.1, am_tv ad q.2)
      rw [hv q.2 (List.mem_append_right _ (List.mem_append_left _ (List.mem_map_of_mem (f := fun q => q.2) hq)))]
    have e2 : st.map (am_tv ad') = st.map (am_tv ad) := List.map_congr_left fun v hq => hv v (List.mem_append_right _ (List.mem_append_right _ hq))
    have hZ' : am_Zs ad' A s s.heap := hZ.adr2 (fun i h1 h2 => ha i (by show i ≠ 5001 + sh.length + am_mxL vs; omega))
    have kk := k1 ad' n ⟨hY, hZ'⟩ hw q1 q2 H locs ls (by rw [hw]; exact hP) (by rw [hw]; exact hD) hS (by rw [e1]; exact hlo)
    have e6 : (Value.ref n :: st).map (am_tv ad') = .ref t :: st.map (am_tv ad) := by
      rw [List.map_cons, e2]
      show Value.ref (if n = n then t else ad n) :: _ = _
      rw [if_pos rfl]
    rw [e6] at kk
    exact va_gets hx hb h hS hown (hts _ am_w_sf) (fun x h => h) hd kk
/-- the end of a void method, with other names for the same cells -/
theorem am_vret9 {ad' : Nat → Nat} (hX : am_okz X ad') (hi : am_info X o cc nL ini ret d) (hr : ret = none) (hw : ∀ cys : am_C3, am_ws cys ad' sh I G P = am_ws cys ad sh I G P) (hd : decode cc pc = .ok (.return_, 1)) (hp : post none I G P) : am_V X 0 0 (am_Rt X sh ad post) sh ad' (pc, L, [], I, G, P) := by
  obtain ⟨p, l, e, R, s, m, args, below, meth, c, A, D, cys, o', cc', nL', ini'⟩ := X
  obtain ⟨rfl, rfl, rfl, rfl, hret, -, -⟩ := hi
  obtain ⟨⟨hx, hb, -, -, -, hlocks, -⟩, -⟩ := hX
  intro h1 h2 H locs ls hP hD hS hl
  rw [hw] at hP
  exact W.vret hx hb (hret.trans hr) (fun t ht _ => ⟨⟨none, I, G, P, hp, rfl, by rw [ht]; exact hP⟩, hS.F ht⟩) hS.2.2 hd hlocks
end AMT
/-! contracts -/
section AMTC
variable {sh : List am_Sh} {I : am_I} {G : am_G} {P : am_P} {k : Nat} {q : Nat × List Int32}
set_option maxHeartbeats 1000000 in
theorem c_coder (hq : am_tB[k]? = some q) : am_Ct mJ0_coder_7d493 1 sh [.ref (2000 + q.1)] I G P (pI 0 I G P) := by
  refine am_ofF (by decide +kernel) rfl (by decide) (by decide) (Nat.le_of_ble_eq_true rfl) (fun X ad hX hi => ?_)
  have hi : am_info X 0 cJ0_coder_7d493 1 false (some .byte) 1 := hi
  show am_V X 0 0 _ _ ad (0, [(0, .ref (2000 + q.1))], [], I, G, P)
  refine am_tcs hX hi (by decide +kernel) ?_
  refine am_if_eq hX hi (off := 10) (tgt := 13) (by decide +kernel) (by decide) (fun c => absurd c (by decide)) (fun _ => ?_)
  refine am_blk 6 [(.aload_n 0, 1, 0, 0, .null)] (7, [(0, .ref (2000 + q.1))], [.ref (2000 + q.1)], I, G, P) True hX hi (by decide +kernel) rfl trivial ?_
  refine am_tcod hX hi hq (by decide +kernel) ?_
  refine am_blk 10 [(.goto 4, 3, 0, 14, .null)] (14, [(0, .ref (2000 + q.1))], [.int 0], I, G, P) True hX hi (by decide +kernel) rfl trivial ?_
  exact am_iret hX hi rfl rfl (by decide +kernel) (pI_eq rfl)
set_option maxHeartbeats 1000000 in
theorem c_latin (hq : am_tB[k]? = some q) : am_Ct mJ0_isLatin1_aae02 1 sh [.ref (2000 + q.1)] I G P (pI 1 I G P) := by
  refine am_ofF (by decide +kernel) rfl (by decide) (by decide) (Nat.le_of_ble_eq_true rfl) (fun X ad hX hi => ?_)
  have hi : am_info X 0 cJ0_isLatin1_aae02 1 false (some .boolean) 1 := hi
  show am_V X 0 0 _ _ ad (0, [(0, .ref (2000 + q.1))], [], I, G, P)
  refine am_tcs hX hi (by decide +kernel) ?_
  refine am_if_eq hX hi (off := 14) (tgt := 17) (by decide +kernel) (by decide) (fun c => absurd c (by decide)) (fun _ => ?_)
  refine am_blk 6 [(.aload_n 0, 1, 0, 0, .null)] (7, [(0, .ref (2000 + q.1))], [.ref (2000 + q.1)], I, G, P) True hX hi (by decide +kernel) rfl trivial ?_
  refine am_tcod hX hi hq (by decide +kernel) ?_
  refine am_if_ne hX hi (off := 7) (tgt := 17) (by decide +kernel) (by decide) (fun c => absurd rfl c) (fun _ => ?_)
  refine am_blk 13 [(.iconst 1, 1, 0, 0, .int 1), (.goto 4, 3, 0, 18, .null)] (18, [(0, .ref (2000 + q.1))], [.int 1], I, G, P) True hX hi (by decide +kernel) rfl trivial ?_
  exact am_iret hX hi rfl rfl (by decide +kernel) (pI_eq rfl)
set_option maxHeartbeats 1000000 in
theorem c_tlength (hq : am_tB[k]? = some q) : am_Ct mJ0_length_8abf5 2 sh [.ref (2000 + q.1)] I G P (pI (Int32.ofNat q.2.length) I G P) := by
  refine am_ofF (by decide +kernel) rfl (by decide) (by decide) (Nat.le_of_ble_eq_true rfl) (fun X ad hX hi => ?_)
  have hi : am_info X 0 cJ0_length_8abf5 1 false (some .int) 2 := hi
  show am_V X 0 0 _ _ ad (0, [(0, .ref (2000 + q.1))], [], I, G, P)
  refine am_blk 0 [(.aload_n 0, 1, 0, 0, .null)] (1, [(0, .ref (2000 + q.1))], [.ref (2000 + q.1)], I, G, P) True hX hi (by decide +kernel) rfl trivial ?_
  refine am_tval hX hi hq (by decide +kernel) ?_
  refine am_tlen hX hi hq (by decide +kernel) ?_
  refine am_blk 5 [(.aload_n 0, 1, 0, 0, .null)] (6, [(0, .ref (2000 + q.1))], [.ref (2000 + q.1), .int (Int32.ofNat q.2.length)], I, G, P) True hX hi (by decide +kernel) rfl trivial ?_
  refine am_callT hX hi (M := mJ0_coder_7d493) (idx := 335) (d' := 1) (As := []) (rest := [.int (Int32.ofNat q.2.length)]) mkJ0_coder_7d493 miJ0_coder_7d493 mvJ0_coder_7d493 (by decide +kernel) (by decide +kernel) hq rfl rfl ⟨by decide, by decide, Nat.le_of_ble_eq_true rfl⟩ rfl (c_coder hq) ?_
  rintro r9 I9 G9 P9 ⟨e0, e1, e2, e3⟩
  rw [e0, e1, e2, e3]
  refine am_blk 9 [(.ishr, 1, 0, 0, .null)] (10, [(0, .ref (2000 + q.1))], [.int (Int32.ofNat q.2.length >>> ((0 : Int32) &&& 31))], I, G, P) True hX hi (by decide +kernel) rfl trivial ?_
  refine am_iret hX hi rfl rfl (by decide +kernel) (pI_eq ?_)
  rw [show ((0 : Int32) &&& 31) = 0 from by decide]
  simp
set_option maxHeartbeats 1000000 in
theorem c_pchk {x n : Int32} {v : Value} (hv : v = .null ∨ ∃ z, v = .ref z) (h0 : 0 ≤ x.toInt) (h1 : x.toInt < n.toInt) : am_Ct mJ3_checkIndex_8e157 1 sh [.int x, .int n, v] I G P (pI x I G P) := by
  rcases hv with rfl | ⟨z, rfl⟩
  all_goals
    refine am_ofF (by decide +kernel) rfl (by decide) (by decide) (Nat.le_of_ble_eq_true rfl) (fun X ad hX hi => ?_)
    have hi : am_info X 19 cJ3_checkIndex_8e157 3 false (some .int) 1 := hi
    refine am_blk 0 [(.iload_n 0, 1, 0, 0, .null)] (1, lv_args 0 [.int x, .int n, _], [.int x], I, G, P) True hX hi (by decide +kernel) rfl trivial ?_
    refine am_if_lt hX hi (off := 8) (tgt := 9) (by decide +kernel) (by decide) (fun c => absurd c (by rw [i_lt, i_0]; omega)) (fun _ => ?_)
    refine am_blk 4 [(.iload_n 0, 1, 0, 0, .null), (.iload_n 1, 1, 1, 0, .null)] (6, lv_args 0 [.int x, .int n, _], [.int n, .int x], I, G, P) True hX hi (by decide +kernel) rfl trivial ?_
    refine am_icmp_lt hX hi (off := 10) (tgt := 16) (by decide +kernel) (by decide) (fun _ => ?_) (fun c => absurd ((i_lt _ _).mpr h1) c)
    refine am_blk 16 [(.iload_n 0, 1, 0, 0, .null)] (17, lv_args 0 [.int x, .int n, _], [.int x], I, G, P) True hX hi (by decide +kernel) rfl trivial ?_
    exact am_iret hX hi rfl rfl (by decide +kernel) (pI_eq rfl)
set_option maxHeartbeats 1000000 in
theorem c_chk {x n : Int32} (h0 : 0 ≤ x.toInt) (h1 : x.toInt < n.toInt) : am_Ct mJ0_checkIndex_df160 2 sh [.int x, .int n] I G P (pV I G P) := by
  refine am_ofF (by decide +kernel) rfl (by decide) (by decide) (Nat.le_of_ble_eq_true rfl) (fun X ad hX hi => ?_)
  have hi : am_info X 0 cJ0_checkIndex_df160 2 false none 2 := hi
  show am_V X 0 0 _ _ ad (0, [(0, .int x), (1, .int n)], [], I, G, P)
  refine am_blk 0 [(.iload_n 0, 1, 0, 0, .null), (.iload_n 1, 1, 1, 0, .null)] (2, [(0, .int x), (1, .int n)], [.int n, .int x], I, G, P) True hX hi (by decide +kernel) rfl trivial ?_
  refine am_gSF hX hi (by decide +kernel) ?_ (fun ad' z hX' hw => ?_)
  · refine am_callS hX hi (M := mJ3_checkIndex_8e157) (idx := 1059) (d' := 1) (As := [.int x, .int n, .null]) (rest := []) mkJ3_checkIndex_8e157 msJ3_checkIndex_8e157 (by decide +kernel) (by decide +kernel) rfl ⟨by decide, by decide, Nat.le_of_ble_eq_true rfl⟩ rfl (c_pchk (Or.inl rfl) h0 h1) ?_
    rintro r9 I9 G9 P9 ⟨e0, e1, e2, e3⟩
    rw [e0, e1, e2, e3]
    refine am_blk 8 [(.pop, 1, 0, 0, .null)] (9, [(0, .int x), (1, .int n)], [], I, G, P) True hX hi (by decide +kernel) rfl trivial ?_
    exact am_vret hX hi rfl (by decide +kernel) (pV_eq rfl)
  · refine am_callS hX' hi (M := mJ3_checkIndex_8e157) (idx := 1059) (d' := 1) (As := [.int x, .int n, .ref z]) (rest := []) mkJ3_checkIndex_8e157 msJ3_checkIndex_8e157 (by decide +kernel) (by decide +kernel) rfl ⟨by decide, by decide, Nat.le_of_ble_eq_true rfl⟩ rfl (c_pchk (Or.inr ⟨z, rfl⟩) h0 h1) ?_
    rintro r9 I9 G9 P9 ⟨e0, e1, e2, e3⟩
    rw [e0, e1, e2, e3]
    refine am_blk 8 [(.pop, 1, 0, 0, .null)] (9, [(0, .int x), (1, .int n)], [], I, G, P) True hX' hi (by decide +kernel) rfl trivial ?_
    exact am_vret9 hX' hi rfl hw (by decide +kernel) (pV_eq rfl)
set_option maxHeartbeats 1000000 in
theorem c_lcharAt (hq : am_tB[k]? = some q) {x : Int32} (h0 : 0 ≤ x.toInt) (h1 : x.toInt < q.2.length) : am_Ct mJ1_charAt_3b067 3 sh [.ref (3000 + q.1), .int x] I G P (pI (q.2.getD x.toInt.toNat 0) I G P) := by
  refine am_ofF (by decide +kernel) rfl (by decide) (by decide) (Nat.le_of_ble_eq_true rfl) (fun X ad hX hi => ?_)
  have hi : am_info X 17 cJ1_charAt_3b067 2 false (some .char) 3 := hi
  have hl := am_tB_len hq
  obtain ⟨b1, b2, b3, -⟩ := am_tB_at hq (j := x.toInt.toNat) (by omega)
  show am_V X 0 0 _ _ ad (0, [(0, .ref (3000 + q.1)), (1, .int x)], [], I, G, P)
  refine am_blk 0 [(.iload_n 1, 1, 1, 0, .null), (.aload_n 0, 1, 0, 0, .null)] (2, [(0, .ref (3000 + q.1)), (1, .int x)], [.ref (3000 + q.1), .int x], I, G, P) True hX hi (by decide +kernel) rfl trivial ?_
  refine am_tlen hX hi hq (by decide +kernel) ?_
  refine am_callS hX hi (M := mJ0_checkIndex_df160) (idx := 9) (d' := 2) (As := [.int x, .int (Int32.ofNat q.2.length)]) (rest := []) mkJ0_checkIndex_df160 msJ0_checkIndex_df160 (by decide +kernel) (by decide +kernel) rfl ⟨by decide, by decide, Nat.le_of_ble_eq_true rfl⟩ rfl (c_chk h0 (by rw [i_of _ (by omega)]; exact h1)) ?_
  rintro r9 I9 G9 P9 ⟨e0, e1, e2, e3⟩
  rw [e0, e1, e2, e3]
  refine am_blk 6 [(.aload_n 0, 1, 0, 0, .null), (.iload_n 1, 1, 1, 0, .null)] (8, [(0, .ref (3000 + q.1)), (1, .int x)], [.int x, .ref (3000 + q.1)], I, G, P) True hX hi (by decide +kernel) rfl trivial ?_
  refine am_tb hX hi hq ((i_in _ _).mpr ⟨h0, h1⟩) (by decide +kernel) ?_
  refine am_blk 9 [(.sipush 255, 3, 0, 0, .int 255), (.iand, 1, 0, 0, .null), (.i2c, 1, 0, 0, .null)] (14, [(0, .ref (3000 + q.1)), (1, .int x)], [.int ((q.2.getD x.toInt.toNat 0 &&& 255).toUInt32 % 65536).toInt32], I, G, P) True hX hi (by decide +kernel) rfl trivial ?_
  rw [b2]
  exact am_iret hX hi rfl b3 (by decide +kernel) (pI_eq rfl)
set_option maxHeartbeats 1000000 in
theorem c_charAt (hq : am_tB[k]? = some q) {x : Int32} (h0 : 0 ≤ x.toInt) (h1 : x.toInt < q.2.length) : am_Ct mJ0_charAt_5068e 4 sh [.ref (2000 + q.1), .int x] I G P (pI (q.2.getD x.toInt.toNat 0) I G P) := by
  refine am_ofF (by decide +kernel) rfl (by decide) (by decide) (Nat.le_of_ble_eq_true rfl) (fun X ad hX hi => ?_)
  have hi : am_info X 0 cJ0_charAt_5068e 2 false (some .char) 4 := hi
  obtain ⟨b1, b2, b3, -⟩ := am_tB_at hq (j := x.toInt.toNat) (by omega)
  show am_V X 0 0 _ _ ad (0, [(0, .ref (2000 + q.1)), (1, .int x)], [], I, G, P)
  refine am_blk 0 [(.aload_n 0, 1, 0, 0, .null)] (1, [(0, .ref (2000 + q.1)), (1, .int x)], [.ref (2000 + q.1)], I, G, P) True hX hi (by decide +kernel) rfl trivial ?_
  refine am_callT hX hi (M := mJ0_isLatin1_aae02) (idx := 492) (d' := 1) (As := []) (rest := []) mkJ0_isLatin1_aae02 miJ0_isLatin1_aae02 mvJ0_isLatin1_aae02 (by decide +kernel) (by decide +kernel) hq rfl rfl ⟨by decide, by decide, Nat.le_of_ble_eq_true rfl⟩ rfl (c_latin hq) ?_
  rintro r9 I9 G9 P9 ⟨e0, e1, e2, e3⟩
  rw [e0, e1, e2, e3]
  refine am_if_eq hX hi (off := 12) (tgt := 16) (by decide +kernel) (by decide) (fun c => absurd c (by decide)) (fun _ => ?_)
  refine am_blk 7 [(.aload_n 0, 1, 0, 0, .null)] (8, [(0, .ref (2000 + q.1)), (1, .int x)], [.ref (2000 + q.1)], I, G, P) True hX hi (by decide +kernel) rfl trivial ?_
  refine am_tval hX hi hq (by decide +kernel) ?_
  refine am_blk 11 [(.iload_n 1, 1, 1, 0, .null)] (12, [(0, .ref (2000 + q.1)), (1, .int x)], [.int x, .ref (3000 + q.1)], I, G, P) True hX hi (by decide +kernel) rfl trivial ?_
  refine am_callS hX hi (M := mJ1_charAt_3b067) (idx := 495) (d' := 3) (As := [.ref (3000 + q.1), .int x]) (rest := []) mkJ1_charAt_3b067 msJ1_charAt_3b067 (by decide +kernel) (by decide +kernel) rfl ⟨by decide, by decide, Nat.le_of_ble_eq_true rfl⟩ rfl (c_lcharAt hq h0 h1) ?_
  rintro r9 I9 G9 P9 ⟨e0, e1, e2, e3⟩
  rw [e0, e1, e2, e3]
  exact am_iret hX hi rfl b3 (by decide +kernel) (pI_eq rfl)
/-- where a byte stands first, from a place on -/
def am_ix (f : Nat → Int32) (c : Int32) : Nat → Nat → Int32
  | 0, _ => -1
  | n + 1, j => if f j = c then Int32.ofNat j else am_ix f c n (j + 1)
set_option maxHeartbeats 1000000 in
theorem am_ixL {X : am_X} {ad : Nat → Nat} (hX : am_okz X ad) (hi : am_info X 17 cJ1_indexOfChar_4cfef 6 false (some .int) 1) (hq : am_tB[k]? = some q) (ch c : Int32) : ∀ n j : Nat, j + n = q.2.length →
    am_V X 0 0 (am_Rt X sh ad (pI (am_ix (fun j => q.2.getD j 0) c n j) I G P)) sh ad (7, [(0, .ref (3000 + q.1)), (1, .int ch), (2, .int 0), (3, .int (Int32.ofNat q.2.length)), (4, .int c), (5, .int (Int32.ofNat j))], [], I, G, P) := by
  have hl := am_tB_len hq
  intro n
  induction n with
  | zero =>
    intro j hj
    refine am_blk 7 [(.iload 5, 2, 5, 0, .null), (.iload_n 3, 1, 3, 0, .null)] (10, [(0, .ref (3000 + q.1)), (1, .int ch), (2, .int 0), (3, .int (Int32.ofNat q.2.length)), (4, .int c), (5, .int (Int32.ofNat j))], [.int (Int32.ofNat q.2.length), .int (Int32.ofNat j)], I, G, P) True hX hi (by decide +kernel) rfl trivial ?_
    refine am_icmp_ge hX hi (off := 21) (tgt := 31) (by decide +kernel) (by decide) (fun _ => ?_) (fun c9 => absurd (by rw [i_le, i_of _ (by omega), i_of _ (by omega)]; omega) c9)
    refine am_blk 31 [(.iconst (-1), 1, 0, 0, .int (-1))] (32, [(0, .ref (3000 + q.1)), (1, .int ch), (2, .int 0), (3, .int (Int32.ofNat q.2.length)), (4, .int c), (5, .int (Int32.ofNat j))], [.int (-1)], I, G, P) True hX hi (by decide +kernel) rfl trivial ?_
    exact am_iret hX hi rfl rfl (by decide +kernel) (pI_eq rfl)
  | succ n ih =>
    intro j hj
    refine am_blk 7 [(.iload 5, 2, 5, 0, .null), (.iload_n 3, 1, 3, 0, .null)] (10, [(0, .ref (3000 + q.1)), (1, .int ch), (2, .int 0), (3, .int (Int32.ofNat q.2.length)), (4, .int c), (5, .int (Int32.ofNat j))], [.int (Int32.ofNat q.2.length), .int (Int32.ofNat j)], I, G, P) True hX hi (by decide +kernel) rfl trivial ?_
    refine am_icmp_ge hX hi (off := 21) (tgt := 31) (by decide +kernel) (by decide) (fun c9 => absurd c9 (by rw [i_le, i_of _ (by omega), i_of _ (by omega)]; omega)) (fun _ => ?_)
    refine am_blk 13 [(.aload_n 0, 1, 0, 0, .null), (.iload 5, 2, 5, 0, .null)] (16, [(0, .ref (3000 + q.1)), (1, .int ch), (2, .int 0), (3, .int (Int32.ofNat q.2.length)), (4, .int c), (5, .int (Int32.ofNat j))], [.int (Int32.ofNat j), .ref (3000 + q.1)], I, G, P) True hX hi (by decide +kernel) rfl trivial ?_
    refine am_tb hX hi hq ((i_in _ _).mpr ⟨by rw [i_of _ (by omega)]; omega, by rw [i_of _ (by omega)]; omega⟩) (by decide +kernel) ?_
    have ej : (Int32.ofNat j).toNatClampNeg = j := by rw [i_cl, i_of _ (by omega)]; omega
    rw [ej]
    refine am_blk 17 [(.iload 4, 2, 4, 0, .null)] (19, [(0, .ref (3000 + q.1)), (1, .int ch), (2, .int 0), (3, .int (Int32.ofNat q.2.length)), (4, .int c), (5, .int (Int32.ofNat j))], [.int c, .int (q.2.getD j 0)], I, G, P) True hX hi (by decide +kernel) rfl trivial ?_
    refine am_icmp_ne hX hi (off := 6) (tgt := 25) (by decide +kernel) (by decide) (fun c9 => ?_) (fun c9 => ?_)
    · refine am_blk 25 [(.iinc 5 1, 3, 5, 0, .int 1), (.goto (-21), 3, 0, 7, .null)] (7, [(0, .ref (3000 + q.1)), (1, .int ch), (2, .int 0), (3, .int (Int32.ofNat q.2.length)), (4, .int c), (5, .int (Int32.ofNat j + 1))], [], I, G, P) True hX hi (by decide +kernel) rfl trivial ?_
      have e1 : Int32.ofNat j + 1 = Int32.ofNat (j + 1) := by
        rw [i_eq, Int32.toInt_add, i_of _ (by omega), i_of _ (by omega), show (1 : Int32).toInt = 1 from rfl]
        exact Int.bmod_eq_of_le_mul_two (by omega) (by omega)
      rw [e1]
      have e2 : am_ix (fun j => q.2.getD j 0) c (n + 1) j = am_ix (fun j => q.2.getD j 0) c n (j + 1) := by
        show (if q.2.getD j 0 = c then _ else _) = _
        rw [if_neg c9]
      rw [e2]
      exact ih (j + 1) (by omega)
    · refine am_blk 22 [(.iload 5, 2, 5, 0, .null)] (24, [(0, .ref (3000 + q.1)), (1, .int ch), (2, .int 0), (3, .int (Int32.ofNat q.2.length)), (4, .int c), (5, .int (Int32.ofNat j))], [.int (Int32.ofNat j)], I, G, P) True hX hi (by decide +kernel) rfl trivial ?_
      refine am_iret hX hi rfl rfl (by decide +kernel) (pI_eq ?_)
      show _ = (if q.2.getD j 0 = c then _ else _)
      rw [if_pos c9]
set_option maxHeartbeats 1000000 in
theorem c_ixChar (hq : am_tB[k]? = some q) (ch : Int32) : am_Ct mJ1_indexOfChar_4cfef 1 sh [.ref (3000 + q.1), .int ch, .int 0, .int (Int32.ofNat q.2.length)] I G P (pI (am_ix (fun j => q.2.getD j 0) ch.toInt8.toInt32 q.2.length 0) I G P) := by
  refine am_ofF (by decide +kernel) rfl (by decide) (by decide) (Nat.le_of_ble_eq_true rfl) (fun X ad hX hi => ?_)
  have hi : am_info X 17 cJ1_indexOfChar_4cfef 6 false (some .int) 1 := hi
  show am_V X 0 0 _ _ ad (0, [(0, .ref (3000 + q.1)), (1, .int ch), (2, .int 0), (3, .int (Int32.ofNat q.2.length))], [], I, G, P)
  refine am_blk 0 [(.iload_n 1, 1, 1, 0, .null)] (1, [(0, .ref (3000 + q.1)), (1, .int ch), (2, .int 0), (3, .int (Int32.ofNat q.2.length))], [.int ch], I, G, P) True hX hi (by decide +kernel) rfl trivial ?_
  refine am_i2b hX hi (by decide +kernel) ?_
  refine am_blk 2 [(.istore 4, 2, 4, 0, .null), (.iload_n 2, 1, 2, 0, .null), (.istore 5, 2, 5, 0, .null)] (7, [(0, .ref (3000 + q.1)), (1, .int ch), (2, .int 0), (3, .int (Int32.ofNat q.2.length)), (4, .int ch.toInt8.toInt32), (5, .int (Int32.ofNat 0))], [], I, G, P) True hX hi (by decide +kernel) rfl trivial ?_
  exact am_ixL hX hi hq ch _ q.2.length 0 (by omega)
set_option maxHeartbeats 1000000 in
theorem c_canEnc (x : Int32) : am_Ct mJ1_canEncode_9a6ad 1 sh [.int x] I G P (pI (if x.toInt < 0 ∨ 255 < x.toInt then 0 else 1) I G P) := by
  refine am_ofF (by decide +kernel) rfl (by decide) (by decide) (Nat.le_of_ble_eq_true rfl) (fun X ad hX hi => ?_)
  have hi : am_info X 17 cJ1_canEncode_9a6ad 1 false (some .boolean) 1 := hi
  show am_V X 0 0 _ _ ad (0, [(0, .int x)], [], I, G, P)
  refine am_blk 0 [(.iload_n 0, 1, 0, 0, .null)] (1, [(0, .int x)], [.int x], I, G, P) True hX hi (by decide +kernel) rfl trivial ?_
  refine am_if_lt hX hi (off := 14) (tgt := 15) (by decide +kernel) (by decide) (fun c => ?_) (fun c => ?_)
  · refine am_blk 15 [(.iconst 0, 1, 0, 0, .int 0)] (16, [(0, .int x)], [.int 0], I, G, P) True hX hi (by decide +kernel) rfl trivial ?_
    rw [i_lt, i_0] at c
    exact am_iret hX hi rfl rfl (by decide +kernel) (pI_eq (by rw [if_pos (Or.inl c)]))
  · rw [i_lt, i_0] at c
    refine am_blk 4 [(.iload_n 0, 1, 0, 0, .null), (.sipush 255, 3, 0, 0, .int 255)] (8, [(0, .int x)], [.int 255, .int x], I, G, P) True hX hi (by decide +kernel) rfl trivial ?_
    refine am_icmp_gt hX hi (off := 7) (tgt := 15) (by decide +kernel) (by decide) (fun c2 => ?_) (fun c2 => ?_)
    · rw [i_lt, show (255 : Int32).toInt = 255 from rfl] at c2
      refine am_blk 15 [(.iconst 0, 1, 0, 0, .int 0)] (16, [(0, .int x)], [.int 0], I, G, P) True hX hi (by decide +kernel) rfl trivial ?_
      exact am_iret hX hi rfl rfl (by decide +kernel) (pI_eq (by rw [if_pos (Or.inr c2)]))
    · rw [i_lt, show (255 : Int32).toInt = 255 from rfl] at c2
      refine am_blk 11 [(.iconst 1, 1, 0, 0, .int 1), (.goto 4, 3, 0, 16, .null)] (16, [(0, .int x)], [.int 1], I, G, P) True hX hi (by decide +kernel) rfl trivial ?_
      exact am_iret hX hi rfl rfl (by decide +kernel) (pI_eq (by rw [if_neg (by omega)]))
/-- where a byte stands first in a text -/
def am_tix (t : List Int32) (ch : Int32) : Int32 := if ch.toInt < 0 ∨ 255 < ch.toInt then -1 else am_ix (fun j => t.getD j 0) ch.toInt8.toInt32 t.length 0
set_option maxHeartbeats 1000000 in
theorem c_lindexOf (hq : am_tB[k]? = some q) (h9 : 0 < q.2.length) (ch : Int32) : am_Ct mJ1_indexOf_4cfef 2 sh [.ref (3000 + q.1), .int ch, .int 0, .int (Int32.ofNat q.2.length)] I G P (pI (am_tix q.2 ch) I G P) := by
  refine am_ofF (by decide +kernel) rfl (by decide) (by decide) (Nat.le_of_ble_eq_true rfl) (fun X ad hX hi => ?_)
  have hi : am_info X 17 cJ1_indexOf_4cfef 4 false (some .int) 2 := hi
  have hl : 0 < q.2.length ∧ q.2.length < 1000 := ⟨h9, am_tB_len hq⟩
  show am_V X 0 0 _ _ ad (0, [(0, .ref (3000 + q.1)), (1, .int ch), (2, .int 0), (3, .int (Int32.ofNat q.2.length))], [], I, G, P)
  refine am_blk 0 [(.iload_n 1, 1, 1, 0, .null)] (1, [(0, .ref (3000 + q.1)), (1, .int ch), (2, .int 0), (3, .int (Int32.ofNat q.2.length))], [.int ch], I, G, P) True hX hi (by decide +kernel) rfl trivial ?_
  refine am_callS hX hi (M := mJ1_canEncode_9a6ad) (idx := 88) (d' := 1) (As := [.int ch]) (rest := []) mkJ1_canEncode_9a6ad msJ1_canEncode_9a6ad (by decide +kernel) (by decide +kernel) rfl ⟨by decide, by decide, Nat.le_of_ble_eq_true rfl⟩ rfl (c_canEnc ch) ?_
  rintro r9 I9 G9 P9 ⟨e0, e1, e2, e3⟩
  rw [e0, e1, e2, e3]
  by_cases hc : ch.toInt < 0 ∨ 255 < ch.toInt
  · rw [if_pos hc]
    refine am_if_ne hX hi (off := 5) (tgt := 9) (by decide +kernel) (by decide) (fun c => absurd rfl c) (fun _ => ?_)
    refine am_blk 7 [(.iconst (-1), 1, 0, 0, .int (-1))] (8, [(0, .ref (3000 + q.1)), (1, .int ch), (2, .int 0), (3, .int (Int32.ofNat q.2.length))], [.int (-1)], I, G, P) True hX hi (by decide +kernel) rfl trivial ?_
    exact am_iret hX hi rfl rfl (by decide +kernel) (pI_eq (by unfold am_tix; rw [if_pos hc]))
  · rw [if_neg hc]
    refine am_if_ne hX hi (off := 5) (tgt := 9) (by decide +kernel) (by decide) (fun _ => ?_) (fun c => absurd c (by decide))
    refine am_blk 9 [(.iload_n 2, 1, 2, 0, .null), (.iconst 0, 1, 0, 0, .int 0), (.invokestatic 92, 3, 2, 0, .null), (.istore_n 2, 1, 2, 0, .null), (.iload_n 3, 1, 3, 0, .null), (.aload_n 0, 1, 0, 0, .null)] (17, [(0, .ref (3000 + q.1)), (1, .int ch), (2, .int 0), (3, .int (Int32.ofNat q.2.length))], [.ref (3000 + q.1), .int (Int32.ofNat q.2.length)], I, G, P) True hX hi (by decide +kernel) rfl trivial ?_
    refine am_tlen hX hi hq (by decide +kernel) ?_
    refine am_blk 18 [(.invokestatic 38, 3, 1, 0, .null), (.istore_n 3, 1, 3, 0, .null), (.iload_n 2, 1, 2, 0, .null), (.iload_n 3, 1, 3, 0, .null)] (24, [(0, .ref (3000 + q.1)), (1, .int ch), (2, .int 0), (3, .int (if Int32.ofNat q.2.length < Int32.ofNat q.2.length then Int32.ofNat q.2.length else Int32.ofNat q.2.length))], [.int (if Int32.ofNat q.2.length < Int32.ofNat q.2.length then Int32.ofNat q.2.length else Int32.ofNat q.2.length), .int 0], I, G, P) True hX hi (by decide +kernel) rfl trivial ?_
    rw [ite_self]
    refine am_icmp_lt hX hi (off := 5) (tgt := 29) (by decide +kernel) (by decide) (fun _ => ?_) (fun c => absurd (by rw [i_lt, i_of _ (by omega), i_0]; omega) c)
    refine am_blk 29 [(.aload_n 0, 1, 0, 0, .null), (.iload_n 1, 1, 1, 0, .null), (.iload_n 2, 1, 2, 0, .null), (.iload_n 3, 1, 3, 0, .null)] (33, [(0, .ref (3000 + q.1)), (1, .int ch), (2, .int 0), (3, .int (Int32.ofNat q.2.length))], [.int (Int32.ofNat q.2.length), .int 0, .int ch, .ref (3000 + q.1)], I, G, P) True hX hi (by decide +kernel) rfl trivial ?_
    refine am_callS hX hi (M := mJ1_indexOfChar_4cfef) (idx := 95) (d' := 1) (As := [.ref (3000 + q.1), .int ch, .int 0, .int (Int32.ofNat q.2.length)]) (rest := []) mkJ1_indexOfChar_4cfef msJ1_indexOfChar_4cfef (by decide +kernel) (by decide +kernel) rfl ⟨by decide, by decide, Nat.le_of_ble_eq_true rfl⟩ rfl (c_ixChar hq ch) ?_
    rintro r9 I9 G9 P9 ⟨e0, e1, e2, e3⟩
    rw [e0, e1, e2, e3]
    exact am_iret hX hi rfl rfl (by decide +kernel) (pI_eq (by unfold am_tix; rw [if_neg hc]))
set_option maxHeartbeats 1000000 in
theorem c_sindexOf2 (hq : am_tB[k]? = some q) (h9 : 0 < q.2.length) (ch : Int32) : am_Ct mJ0_indexOf_7cf53 3 sh [.ref (2000 + q.1), .int ch, .int 0] I G P (pI (am_tix q.2 ch) I G P) := by
  refine am_ofF (by decide +kernel) rfl (by decide) (by decide) (Nat.le_of_ble_eq_true rfl) (fun X ad hX hi => ?_)
  have hi : am_info X 0 cJ0_indexOf_7cf53 3 false (some .int) 3 := hi
  show am_V X 0 0 _ _ ad (0, [(0, .ref (2000 + q.1)), (1, .int ch), (2, .int 0)], [], I, G, P)
  refine am_blk 0 [(.aload_n 0, 1, 0, 0, .null)] (1, [(0, .ref (2000 + q.1)), (1, .int ch), (2, .int 0)], [.ref (2000 + q.1)], I, G, P) True hX hi (by decide +kernel) rfl trivial ?_
  refine am_callT hX hi (M := mJ0_isLatin1_aae02) (idx := 492) (d' := 1) (As := []) (rest := []) mkJ0_isLatin1_aae02 miJ0_isLatin1_aae02 mvJ0_isLatin1_aae02 (by decide +kernel) (by decide +kernel) hq rfl rfl ⟨by decide, by decide, Nat.le_of_ble_eq_true rfl⟩ rfl (c_latin hq) ?_
  rintro r9 I9 G9 P9 ⟨e0, e1, e2, e3⟩
  rw [e0, e1, e2, e3]
  refine am_if_eq hX hi (off := 19) (tgt := 23) (by decide +kernel) (by decide) (fun c => absurd c (by decide)) (fun _ => ?_)
  refine am_blk 7 [(.aload_n 0, 1, 0, 0, .null)] (8, [(0, .ref (2000 + q.1)), (1, .int ch), (2, .int 0)], [.ref (2000 + q.1)], I, G, P) True hX hi (by decide +kernel) rfl trivial ?_
  refine am_tval hX hi hq (by decide +kernel) ?_
  refine am_blk 11 [(.iload_n 1, 1, 1, 0, .null), (.iload_n 2, 1, 2, 0, .null), (.aload_n 0, 1, 0, 0, .null)] (14, [(0, .ref (2000 + q.1)), (1, .int ch), (2, .int 0)], [.ref (2000 + q.1), .int 0, .int ch, .ref (3000 + q.1)], I, G, P) True hX hi (by decide +kernel) rfl trivial ?_
  refine am_callT hX hi (M := mJ0_length_8abf5) (idx := 505) (d' := 2) (As := []) (rest := [.int 0, .int ch, .ref (3000 + q.1)]) mkJ0_length_8abf5 miJ0_length_8abf5 mvJ0_length_8abf5 (by decide +kernel) (by decide +kernel) hq rfl rfl ⟨by decide, by decide, Nat.le_of_ble_eq_true rfl⟩ rfl (c_tlength hq) ?_
  rintro r9 I9 G9 P9 ⟨e0, e1, e2, e3⟩
  rw [e0, e1, e2, e3]
  refine am_callS hX hi (M := mJ1_indexOf_4cfef) (idx := 637) (d' := 2) (As := [.ref (3000 + q.1), .int ch, .int 0, .int (Int32.ofNat q.2.length)]) (rest := []) mkJ1_indexOf_4cfef msJ1_indexOf_4cfef (by decide +kernel) (by decide +kernel) rfl ⟨by decide, by decide, Nat.le_of_ble_eq_true rfl⟩ rfl (c_lindexOf hq h9 ch) ?_
  rintro r9 I9 G9 P9 ⟨e0, e1, e2, e3⟩
  rw [e0, e1, e2, e3]
  refine am_blk 20 [(.goto 16, 3, 0, 36, .null)] (36, [(0, .ref (2000 + q.1)), (1, .int ch), (2, .int 0)], [.int (am_tix q.2 ch)], I, G, P) True hX hi (by decide +kernel) rfl trivial ?_
  exact am_iret hX hi rfl rfl (by decide +kernel) (pI_eq rfl)
set_option maxHeartbeats 1000000 in
theorem c_sindexOf (hq : am_tB[k]? = some q) (h9 : 0 < q.2.length) (ch : Int32) : am_Ct mJ0_indexOf_0f7a4 4 sh [.ref (2000 + q.1), .int ch] I G P (pI (am_tix q.2 ch) I G P) := by
  refine am_ofF (by decide +kernel) rfl (by decide) (by decide) (Nat.le_of_ble_eq_true rfl) (fun X ad hX hi => ?_)
  have hi : am_info X 0 cJ0_indexOf_0f7a4 2 false (some .int) 4 := hi
  show am_V X 0 0 _ _ ad (0, [(0, .ref (2000 + q.1)), (1, .int ch)], [], I, G, P)
  refine am_blk 0 [(.aload_n 0, 1, 0, 0, .null), (.iload_n 1, 1, 1, 0, .null), (.iconst 0, 1, 0, 0, .int 0)] (3, [(0, .ref (2000 + q.1)), (1, .int ch)], [.int 0, .int ch, .ref (2000 + q.1)], I, G, P) True hX hi (by decide +kernel) rfl trivial ?_
  refine am_callT hX hi (M := mJ0_indexOf_7cf53) (idx := 633) (d' := 3) (As := [.int ch, .int 0]) (rest := []) mkJ0_indexOf_7cf53 miJ0_indexOf_7cf53 mvJ0_indexOf_7cf53 (by decide +kernel) (by decide +kernel) hq rfl rfl ⟨by decide, by decide, Nat.le_of_ble_eq_true rfl⟩ rfl (c_sindexOf2 hq h9 ch) ?_
  rintro r9 I9 G9 P9 ⟨e0, e1, e2, e3⟩
  rw [e0, e1, e2, e3]
  exact am_iret hX hi rfl rfl (by decide +kernel) (pI_eq rfl)
end AMTC
