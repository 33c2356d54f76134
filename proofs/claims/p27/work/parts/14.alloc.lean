/-! cells that are made -/
def am_z {α : Type} (f : Nat → Nat → α) (a : Nat) (z : α) : Nat → Nat → α := fun b j => bif Nat.beq b a then z else f b j
theorem am_z_self {α : Type} (f : Nat → Nat → α) (a : Nat) (z : α) : am_z f a z a = fun _ => z := by funext j; simp [am_z]
theorem am_z_ne {α : Type} (f : Nat → Nat → α) {a b : Nat} (z : α) (h : b ≠ a) : am_z f a z b = f b := by
  have h9 := beq_eq_false_iff_ne.mpr h
  funext j; simp [am_z, am_beq, h9]
/-- no reference to a number -/
def am_noV (n : Nat) (v : Value) : Bool := match v with
  | .ref k => !(Nat.beq k n)
  | _ => true
def am_noP (n : Nat) (sh : List am_Sh) (P : am_P) : Bool := (List.range sh.length).all (fun b => match sh[b]? with
  | some (.inl c) => (List.range (am_ks c).length).all (fun j => am_noV n (P b j))
  | some (.inr (3, m)) => (List.range m).all (fun j => am_noV n (P b j))
  | _ => true)
/-- the same, said of every cell -/
def am_noR (n : Nat) (sh : List am_Sh) (P : am_P) : Prop := (∀ b c j : Nat, sh[b]? = some (.inl c) → j < (am_ks c).length → am_noV n (P b j) = true) ∧ ∀ b m j : Nat, sh[b]? = some (.inr (3, m)) → j < m → am_noV n (P b j) = true
theorem am_noP_R {n : Nat} {sh : List am_Sh} {P : am_P} (h : am_noP n sh P = true) : am_noR n sh P := by
  refine ⟨fun b c j hs hj => ?_, fun b m j hs hj => ?_⟩
  · have h1 := List.all_eq_true.mp h b (List.mem_range.mpr (List.getElem?_eq_some_iff.mp hs).1)
    rw [hs] at h1
    exact List.all_eq_true.mp h1 j (List.mem_range.mpr hj)
  · have h1 := List.all_eq_true.mp h b (List.mem_range.mpr (List.getElem?_eq_some_iff.mp hs).1)
    rw [hs] at h1
    exact List.all_eq_true.mp h1 j (List.mem_range.mpr hj)
def am_noL (n : Nat) (L : am_L) (st : List Value) : Bool := L.all (fun q => am_noV n q.2) && st.all (am_noV n)
theorem am_noV_tv {n : Nat} {v : Value} {ad ad' : Nat → Nat} (h : am_noV n v = true) (ha : ∀ j, j ≠ n → ad' j = ad j) : am_tv ad' v = am_tv ad v := by
  cases v with
  | ref k =>
    simp only [am_noV, Bool.not_eq_true'] at h
    simp only [am_tv]
    rw [ha k (Nat.ne_of_beq_eq_false h)]
  | _ => rfl
theorem am_noV_ov {n : Nat} {v : Value} {ad ad' : Nat → Nat} (h : am_noV n v = true) (ha : ∀ j, j ≠ n → ad' j = ad j) : am_ov ad' v = am_ov ad v := by
  cases v with
  | ref k =>
    simp only [am_noV, Bool.not_eq_true'] at h
    simp only [am_ov]
    rw [ha k (Nat.ne_of_beq_eq_false h)]
  | _ => rfl
theorem am_rw_no {n m : Nat} {w : Nat → Value} {ad ad' : Nat → Nat} (h : ∀ j, j < m → am_noV n (w j) = true) (ha : ∀ j, j ≠ n → ad' j = ad j) : am_rw ad' m w = am_rw ad m w := by
  funext j
  unfold am_rw
  cases hb : Nat.blt j m with
  | false => rfl
  | true => exact am_noV_ov (h j (by rw [Nat.blt_eq] at hb; exact hb)) ha
theorem am_ws_new {cys : am_C3} {ad ad' : Nat → Nat} {sh : List am_Sh} {I : am_I} {G : am_G} {P : am_P} {s : am_Sh} (hP : am_noR sh.length sh P) (ha : ∀ j, j ≠ sh.length → ad' j = ad j) :
    am_ws cys ad' (sh ++ [s]) (am_z I sh.length 0) (am_z G sh.length 0) (am_z P sh.length .null) = am_ws cys ad sh I G P ++ [(ad' sh.length, am_E cys ad' s (fun _ => 0) (fun _ => 0) (fun _ => .null))] := by
  apply List.ext_getElem?
  intro j
  by_cases hj : j < sh.length
  · rw [List.getElem?_append_left (by simpa [am_ws] using hj)]
    simp only [am_ws, List.getElem?_mapIdx]
    rw [List.getElem?_append_left hj]
    have hne : j ≠ sh.length := by omega
    rw [am_z_ne _ _ hne, am_z_ne _ _ hne, am_z_ne _ _ hne, ha j hne]
    cases hs : sh[j]? with
    | none => rfl
    | some x =>
      simp only [Option.map_some]
      cases x with
      | inr y => rcases y with ⟨t, n⟩; match t with
        | 0 => rfl
        | 1 => rfl
        | 2 => rfl
        | 3 => simp only [am_E, am_rw_no (fun k hk => hP.2 j n k hs hk) ha]
        | 4 => rfl
        | t + 5 => rfl
      | inl c =>
        have : am_fs ad' (am_ks c) (I j) (G j) (P j) = am_fs ad (am_ks c) (I j) (G j) (P j) := by
          apply List.ext_getElem?
          intro k
          simp only [am_fs, List.getElem?_mapIdx]
          cases hk : (am_ks c)[k]? with
          | none => rfl
          | some t =>
            have hkl := (List.getElem?_eq_some_iff.mp hk).1
            have h2 := hP.1 j c k hs hkl
            simp only [Option.map_some, am_fv]
            split <;> first | rfl | rw [am_noV_tv h2 ha]
        simp only [am_E, this]
  · by_cases hj2 : j = sh.length
    · subst hj2
      rw [List.getElem?_append_right (by simp [am_ws])]
      simp only [am_ws, List.getElem?_mapIdx, List.getElem?_append_right (Nat.le_refl _), List.length_mapIdx, Nat.sub_self, am_z_self]
      rfl
    · have h1 : (am_ws cys ad' (sh ++ [s]) (am_z I sh.length 0) (am_z G sh.length 0) (am_z P sh.length .null)).length ≤ j := by simp [am_ws]; omega
      have h2 : (am_ws cys ad sh I G P ++ [(ad' sh.length, am_E cys ad' s (fun _ => 0) (fun _ => 0) (fun _ => .null))]).length ≤ j := by simp [am_ws]; omega
      rw [List.getElem?_eq_none h1, List.getElem?_eq_none h2]
def am_mem (X : am_X) (mc ms : Nat) : Prop := match X with
  | (_, _, _, R, _, _, _, _, _, _, _, _, _, _, _, _, _) => R.cells = mc ∧ R.slots = ms
set_option maxRecDepth 100000 in
theorem am_w_oi1 : Cond.instanceMethod Lib.objectInit ∈ am_all := am_good (by decide +kernel) rfl
set_option maxRecDepth 100000 in
theorem am_w_oi2 : Cond.code Lib.objectInit ⟨#[0xb1]⟩ 1 none ∈ am_all := am_good (by decide +kernel) rfl
section AMA
variable {X : am_X} {o : Nat} {cc : ByteArray} {nL : Nat} {ini : Bool} {ret : Option FieldType} {d : Nat}
variable {cells slots mc ms : Nat} {Q : State → Prop} {sh : List am_Sh} {ad : Nat → Nat} {pc : Nat} {L : am_L} {st : List Value} {I : am_I} {G : am_G} {P : am_P}
theorem am_map_tl {n : Nat} {ad ad' : Nat → Nat} {L : am_L} {st : List Value} (h : am_noL n L st = true) (ha : ∀ j, j ≠ n → ad' j = ad j) : L.map (am_tl ad') = L.map (am_tl ad) ∧ st.map (am_tv ad') = st.map (am_tv ad) := by
  simp only [am_noL, Bool.and_eq_true] at h
  refine ⟨List.map_congr_left fun q hq => ?_, List.map_congr_left fun v hv => ?_⟩
  · show (q.1, am_tv ad' q.2) = (q.1, am_tv ad q.2)
    rw [am_noV_tv (List.all_eq_true.mp h.1 q hq) ha]
  · exact am_noV_tv (List.all_eq_true.mp h.2 v hv) ha
/-- new -/
theorem am_newR (hX : am_okz X ad) (hi : am_info X o cc nL ini ret d) (hm : am_mem X mc ms) {ci idx : Nat} {r : vw_C} (hr : vwCl[ci]? = some r) (hc1 : Cond.classLink (am_own o) idx r.1 ∈ lw_tbl) (hc2 : Cond.instantiable r.1 r.2.2 ∈ lw_tbl) (hc3 : Cond.initialized r.1 ∈ lw_tbl) (hd : decode cc pc = .ok (.new idx, 3)) (hroom : cells + 1 ≤ mc ∧ slots + r.2.2 ≤ ms)
    (hnP : am_noR sh.length sh P) (hnL : am_noL sh.length L st = true)
    (k : ∀ ad' : Nat → Nat, (∀ j, j ≠ sh.length → ad' j = ad j) → am_V X (cells + 1) (slots + r.2.2) Q (sh ++ [.inl ci]) ad' (pc + 3, L, .ref sh.length :: st, am_z I sh.length 0, am_z G sh.length 0, am_z P sh.length .null)) : am_V X cells slots Q sh ad (pc, L, st, I, G, P) := by
  obtain ⟨p, l, e, R, s, m, args, below, meth, c, A, D, cys, o', cc', nL', ini'⟩ := X
  obtain ⟨rfl, rfl, rfl, rfl, -, -, -⟩ := hi
  obtain ⟨rfl, rfl⟩ := hm
  obtain ⟨⟨hx, hb, hml, hown, hts, hlk, hK, hN, hA, -⟩, hZ⟩ := hX
  intro h1 h2 H locs ls hP hD hS hlo
  obtain ⟨C, T, N⟩ := r
  obtain ⟨hin, hnm, ty, hty⟩ := am_cls ci _ hr
  have hlen : N = (am_ks ci).length := by
    have hc : ci < 13 := by
      have := (List.getElem?_eq_some_iff.mp hr).1
      simpa [vwCl] using this
    have h9 := of_decide_eq_true (List.all_eq_true.mp am_ks_len ci (List.mem_range.mpr hc))
    rw [hr] at h9
    exact Option.some.inj h9
  refine va_new (ci := ci) (fs := am_fs ad (am_ks ci) (fun _ => 0) (fun _ => 0) (fun _ => .null)) hx hb hts hin ty hty hown (hts _ (am_good hc1 rfl)) (hts _ (am_good hc2 rfl)) (hts _ (am_good hc3 rfl)) hK hP hD hS hA hr ?_ hroom.1 hroom.2 hd (fun q H1 hP1 hD1 hS1 => ?_)
  · intro j hj
    have hj' : j < (am_ks ci).length := by rw [← hlen]; exact hj
    obtain ⟨t, ht⟩ : ∃ t, (am_ks ci)[j]? = some t := ⟨_, List.getElem?_eq_getElem hj'⟩
    obtain ⟨C', T', N', hr', hj2, ty', hty', htt⟩ := am_okf_sp (am_okf_of ht).1
    rw [hr] at hr'
    cases hr'
    have he : ty j = ty' := Option.some.inj ((hty j hj).symm.trans hty')
    rw [he]
    show defaultValue ty' = (am_fs ad (am_ks ci) (fun _ => 0) (fun _ => 0) (fun _ => .null)).getD j .null
    rw [List.getD_eq_getElem?_getD, am_fs_at ht]
    rcases htt with ⟨rfl, rfl⟩ | ⟨rfl, rfl⟩ | ⟨rfl, rfl | rfl⟩ | ⟨rfl, ⟨n, rfl⟩ | ⟨u, rfl⟩⟩ <;> rfl
  · have ha : ∀ j, j ≠ sh.length → (fun k => if k = sh.length then q else ad k) j = ad j := fun j hj => if_neg hj
    obtain ⟨e1, e2⟩ := am_map_tl hnL ha
    have e3 := am_ws_new (cys := cys) (s := .inl ci) (I := I) (G := G) hnP ha
    have e4 : am_fs (fun k => if k = sh.length then q else ad k) (am_ks ci) (fun _ => 0) (fun _ => 0) (fun _ => .null) = am_fs ad (am_ks ci) (fun _ => 0) (fun _ => 0) (fun _ => .null) := by
      unfold am_fs
      congr 1
    have e5 : am_ws cys (fun k => if k = sh.length then q else ad k) (sh ++ [.inl ci]) (am_z I sh.length 0) (am_z G sh.length 0) (am_z P sh.length .null) = am_ws cys ad sh I G P ++ [(q, .inr (ci, am_fs ad (am_ks ci) (fun _ => 0) (fun _ => 0) (fun _ => .null)))] := by
      rw [e3]
      simp only [am_E, e4, if_pos]
    have kk := k (fun k => if k = sh.length then q else ad k) ha hroom.1 hroom.2 H1 locs ls (by rw [e5]; exact hP1) (by rw [e5]; exact hD1) hS1 (by rw [e1]; exact hlo)
    have e6 : (Value.ref sh.length :: st).map (am_tv (fun k => if k = sh.length then q else ad k)) = .ref q :: st.map (am_tv ad) := by
      rw [List.map_cons, e2]
      simp [am_tv]
    rw [e6] at kk
    exact kk
/-- newarray of ints, longs, booleans -/
theorem am_newaR (hX : am_okz X ad) (hi : am_info X o cc nL ini ret d) (hm : am_mem X mc ms) {t N : Nat} {at' : ArrayType} {n : Int32} (ht : (t = 0 ∧ at' = .int) ∨ (t = 1 ∧ at' = .boolean) ∨ (t = 2 ∧ at' = .long) ∨ (t = 4 ∧ at' = .byte)) (hc1 : Cond.arrayClass (newarray.typeOf at') ∈ lw_tbl) (hd : decode cc pc = .ok (.newarray at', 2)) (hn : ¬ n < 0) (hN : n.toNatClampNeg = N) (hsz : N ≤ 1000000) (hroom : cells + 1 ≤ mc ∧ slots + N ≤ ms)
    (hnP : am_noR sh.length sh P) (hnL : am_noL sh.length L st = true)
    (k : ∀ ad' : Nat → Nat, (∀ j, j ≠ sh.length → ad' j = ad j) → am_V X (cells + 1) (slots + N) Q (sh ++ [.inr (t, N)]) ad' (pc + 2, L, .ref sh.length :: st, am_z I sh.length 0, am_z G sh.length 0, am_z P sh.length .null)) : am_V X cells slots Q sh ad (pc, L, .int n :: st, I, G, P) := by
  obtain ⟨p, l, e, R, s, m, args, below, meth, c, A, D, cys, o', cc', nL', ini'⟩ := X
  obtain ⟨rfl, rfl, rfl, rfl, -, -, -⟩ := hi
  obtain ⟨rfl, rfl⟩ := hm
  obtain ⟨⟨hx, hb, hml, hown, hts, hlk, hK, hN2, hA, -⟩, hZ⟩ := hX
  intro h1 h2 H locs ls hP hD hS hlo
  rcases ht with ⟨rfl, rfl⟩ | ⟨rfl, rfl⟩ | ⟨rfl, rfl⟩ | ⟨rfl, rfl⟩
  · refine va_newa (atype := .int) (ty := .int) hx hb (hts _ (am_good hc1 rfl)) rfl hK hP hD hS hA (a0 := (N, .inl (fun _ => 0))) (fun cA => rfl) hn hN (by show N * 4 ≤ _; omega) hroom.1 hroom.2 hd (fun q cA H1 hK1 hP1 hD1 hS1 => ?_)
    have hcA : cA = cys.1 := Option.some.inj ((hK1.2 5 _ rfl).2.symm.trans (hK.2 0 _ rfl).2)
    rw [hcA] at hP1 hD1
    have ha : ∀ j, j ≠ sh.length → (fun k => if k = sh.length then q else ad k) j = ad j := fun j hj => if_neg hj
    obtain ⟨e1, e2⟩ := am_map_tl hnL ha
    have e3 := am_ws_new (cys := cys) (s := .inr (0, N)) (I := I) (G := G) hnP ha
    simp only [am_E, if_pos] at e3
    have kk := k (fun k => if k = sh.length then q else ad k) ha hroom.1 hroom.2 H1 locs ls (by rw [e3]; exact hP1) (by rw [e3]; exact hD1) hS1 (by rw [e1]; exact hlo)
    have e6 : (Value.ref sh.length :: st).map (am_tv (fun k => if k = sh.length then q else ad k)) = .ref q :: st.map (am_tv ad) := by
      rw [List.map_cons, e2]
      simp [am_tv]
    rw [e6] at kk
    exact kk
  · refine va_newa (atype := .boolean) (ty := .boolean) hx hb (hts _ (am_good hc1 rfl)) rfl hK hP hD hS hA (a0 := (N, .inl (fun _ => 0))) (fun cA => rfl) hn hN (by show N * 1 ≤ _; omega) hroom.1 hroom.2 hd (fun q cA H1 hK1 hP1 hD1 hS1 => ?_)
    have hcA : cA = cys.2.1 := Option.some.inj ((hK1.2 5 _ rfl).2.symm.trans (hK.2 1 _ rfl).2)
    rw [hcA] at hP1 hD1
    have ha : ∀ j, j ≠ sh.length → (fun k => if k = sh.length then q else ad k) j = ad j := fun j hj => if_neg hj
    obtain ⟨e1, e2⟩ := am_map_tl hnL ha
    have e3 := am_ws_new (cys := cys) (s := .inr (1, N)) (I := I) (G := G) hnP ha
    simp only [am_E, if_pos] at e3
    have kk := k (fun k => if k = sh.length then q else ad k) ha hroom.1 hroom.2 H1 locs ls (by rw [e3]; exact hP1) (by rw [e3]; exact hD1) hS1 (by rw [e1]; exact hlo)
    have e6 : (Value.ref sh.length :: st).map (am_tv (fun k => if k = sh.length then q else ad k)) = .ref q :: st.map (am_tv ad) := by
      rw [List.map_cons, e2]
      simp [am_tv]
    rw [e6] at kk
    exact kk
  · refine va_newa (atype := .long) (ty := .long) hx hb (hts _ (am_good hc1 rfl)) rfl hK hP hD hS hA (a0 := (N, .inr (.inl (fun _ => 0)))) (fun cA => rfl) hn hN (by show N * 8 ≤ _; omega) hroom.1 hroom.2 hd (fun q cA H1 hK1 hP1 hD1 hS1 => ?_)
    have hcA : cA = cys.2.2.1 := Option.some.inj ((hK1.2 5 _ rfl).2.symm.trans (hK.2 2 _ rfl).2)
    rw [hcA] at hP1 hD1
    have ha : ∀ j, j ≠ sh.length → (fun k => if k = sh.length then q else ad k) j = ad j := fun j hj => if_neg hj
    obtain ⟨e1, e2⟩ := am_map_tl hnL ha
    have e3 := am_ws_new (cys := cys) (s := .inr (2, N)) (I := I) (G := G) hnP ha
    simp only [am_E, if_pos] at e3
    have kk := k (fun k => if k = sh.length then q else ad k) ha hroom.1 hroom.2 H1 locs ls (by rw [e3]; exact hP1) (by rw [e3]; exact hD1) hS1 (by rw [e1]; exact hlo)
    have e6 : (Value.ref sh.length :: st).map (am_tv (fun k => if k = sh.length then q else ad k)) = .ref q :: st.map (am_tv ad) := by
      rw [List.map_cons, e2]
      simp [am_tv]
    rw [e6] at kk
    exact kk
  · refine va_newa (atype := .byte) (ty := .byte) hx hb (hts _ (am_good hc1 rfl)) rfl hK hP hD hS hA (a0 := (N, .inl (fun _ => 0))) (fun cA => rfl) hn hN (by show N * 1 ≤ _; omega) hroom.1 hroom.2 hd (fun q cA H1 hK1 hP1 hD1 hS1 => ?_)
    have hcA : cA = cys.2.2.2.2 := Option.some.inj ((hK1.2 5 _ rfl).2.symm.trans (hK.2 4 _ rfl).2)
    rw [hcA] at hP1 hD1
    have ha : ∀ j, j ≠ sh.length → (fun k => if k = sh.length then q else ad k) j = ad j := fun j hj => if_neg hj
    obtain ⟨e1, e2⟩ := am_map_tl hnL ha
    have e3 := am_ws_new (cys := cys) (s := .inr (4, N)) (I := I) (G := G) hnP ha
    simp only [am_E, if_pos] at e3
    have kk := k (fun k => if k = sh.length then q else ad k) ha hroom.1 hroom.2 H1 locs ls (by rw [e3]; exact hP1) (by rw [e3]; exact hD1) hS1 (by rw [e1]; exact hlo)
    have e6 : (Value.ref sh.length :: st).map (am_tv (fun k => if k = sh.length then q else ad k)) = .ref q :: st.map (am_tv ad) := by
      rw [List.map_cons, e2]
      simp [am_tv]
    rw [e6] at kk
    exact kk
theorem am_new (hX : am_okz X ad) (hi : am_info X o cc nL ini ret d) (hm : am_mem X mc ms) {ci idx : Nat} {r : vw_C} (hr : vwCl[ci]? = some r) (hc1 : Cond.classLink (am_own o) idx r.1 ∈ lw_tbl) (hc2 : Cond.instantiable r.1 r.2.2 ∈ lw_tbl) (hc3 : Cond.initialized r.1 ∈ lw_tbl) (hd : decode cc pc = .ok (.new idx, 3)) (hroom : cells + 1 ≤ mc ∧ slots + r.2.2 ≤ ms)
    (hnP : am_noP sh.length sh P = true) (hnL : am_noL sh.length L st = true)
    (k : ∀ ad' : Nat → Nat, (∀ j, j ≠ sh.length → ad' j = ad j) → am_V X (cells + 1) (slots + r.2.2) Q (sh ++ [.inl ci]) ad' (pc + 3, L, .ref sh.length :: st, am_z I sh.length 0, am_z G sh.length 0, am_z P sh.length .null)) : am_V X cells slots Q sh ad (pc, L, st, I, G, P) := am_newR hX hi hm hr hc1 hc2 hc3 hd hroom (am_noP_R hnP) hnL k
theorem am_newa (hX : am_okz X ad) (hi : am_info X o cc nL ini ret d) (hm : am_mem X mc ms) {t N : Nat} {at' : ArrayType} {n : Int32} (ht : (t = 0 ∧ at' = .int) ∨ (t = 1 ∧ at' = .boolean) ∨ (t = 2 ∧ at' = .long) ∨ (t = 4 ∧ at' = .byte)) (hc1 : Cond.arrayClass (newarray.typeOf at') ∈ lw_tbl) (hd : decode cc pc = .ok (.newarray at', 2)) (hn : ¬ n < 0) (hN : n.toNatClampNeg = N) (hsz : N ≤ 1000000) (hroom : cells + 1 ≤ mc ∧ slots + N ≤ ms)
    (hnP : am_noP sh.length sh P = true) (hnL : am_noL sh.length L st = true)
    (k : ∀ ad' : Nat → Nat, (∀ j, j ≠ sh.length → ad' j = ad j) → am_V X (cells + 1) (slots + N) Q (sh ++ [.inr (t, N)]) ad' (pc + 2, L, .ref sh.length :: st, am_z I sh.length 0, am_z G sh.length 0, am_z P sh.length .null)) : am_V X cells slots Q sh ad (pc, L, .int n :: st, I, G, P) := am_newaR hX hi hm ht hc1 hd hn hN hsz hroom (am_noP_R hnP) hnL k
theorem am_okz.adr {ad' : Nat → Nat} (hX : am_okz X ad) (h : ∀ j, 1000 ≤ j → ad' j = ad j) : am_okz X ad' := by
  obtain ⟨p, l, e, R, s, m, args, below, meth, c, A, D, cys, o', cc', nL', ini'⟩ := X
  exact ⟨hX.1, hX.2.adr h⟩
/-- java.lang.Object's constructor -/
theorem am_obj (hX : am_okz X ad) (hi : am_info X o cc nL ini ret d) {idx a : Nat} (hl : Cond.methodLink (am_own o) idx Lib.objectInit ∈ lw_tbl) (hd : decode cc pc = .ok (.invokespecial idx, 3)) (hst : (st.map fun v => v.category).sum ≤ 8) (k : am_V X cells slots Q sh ad (pc + 3, L, st, I, G, P)) : am_V X cells slots Q sh ad (pc, L, .ref a :: st, I, G, P) := by
  obtain ⟨p, l, e, R, s, m, args, below, meth, c, A, D, cys, o', cc', nL', ini'⟩ := X
  obtain ⟨rfl, rfl, rfl, rfl, -, -, -⟩ := hi
  obtain ⟨⟨hx, hb, hml, hown, hts, hlk, hK, hN, hA, hini, hR1, hR2⟩, hZ⟩ := hX
  intro h1 h2 H locs ls hP hD hS hlo
  exact W.objInit hx hb hown (hts _ (am_good hl rfl)) (hts _ am_w_oi1) (hts _ am_w_oi2) rfl (hlo.1.trans hml.symm) rfl hd hR1 (by
    have h9 := lv_room (m := m) (pc := pc) (ls := ls) (rest := (Value.ref a :: st).map (am_tv ad)) (st := st.map (am_tv ad)) (by rw [am_cats]; exact hst)
    have e9 : ((st.map (am_tv ad)).map fun v => v.category).sum ≤ 8 := by rw [am_cats]; exact hst
    omega) (k h1 h2 H locs ls hP hD hS hlo)
end AMA
/-! contracts of methods that make cells -/
abbrev am_PoA : Type := Option Value → List am_Sh → am_I → am_G → am_P → Prop
def am_QcA (D : va_G) (cys : am_C3) (ad : Nat → Nat) (keep : Nat) (A : Nat → Prop) (post : am_PoA) : Array Value → State → Outcome → State → Prop :=
  fun _ st oc t => (∃ (r : Option Value) (sh' : List am_Sh) (ad' : Nat → Nat) (I' : am_I) (G' : am_G) (P' : am_P), post r sh' I' G' P' ∧ (∀ j, j < keep ∨ 1000 ≤ j → ad' j = ad j) ∧ oc = .returned (r.map (am_tv ad')) ∧ va_P D vwCl (am_ws cys ad' sh' I' G' P') t.heap ∧ va_D A (am_ws cys ad' sh' I' G' P')) ∧ va_F A st t
/-- mc cells of ms places are made at most; keep: below this number addresses stay -/
def am_CtA (M : am_M) (d mc ms keep : Nat) (sh : List am_Sh) (args : List Value) (I : am_I) (G : am_G) (P : am_P) (post : am_PoA) : Prop :=
  ∀ (l : Launch) (D : va_G) (cys : am_C3) (ad : Nat → Nat) (sz : Nat), Met l M.1 (am_wl M.1 M.2.1 M.2.2.1 M.2.2.2.1) (am_rm d mc ms) (va_Pc (args.map (am_tv ad)) (am_Pr D cys ad sh I G P sz)) (am_QcA D cys ad keep (va_A (am_ws cys ad sh I G P) sz) post) mc ms (va_A (am_ws cys ad sh I G P) sz)
def am_RtA (X : am_X) (keep : Nat) (ad : Nat → Nat) (post : am_PoA) (mc ms : Nat) : State → Prop := match X with
  | (_, _, _, _, s, _, args, below, _, _, A, D, cys, _, _, _, _) => MQ below (am_QcA D cys ad keep A post) args s mc ms A
theorem am_ofA {M : am_M} {d mc ms keep : Nat} {sh : List am_Sh} {args : List Value} {I : am_I} {G : am_G} {P : am_P} {post : am_PoA} (hy : plainFor M.1 = true) (hcls : M.1.cls = am_own M.2.2.2.2.1) (hini : M.2.2.2.2.2.2 = true → M.1.name = "<init>") (hd : 1 ≤ d) (hargs : (lg_sl args).length ≤ M.2.2.1)
    (body : ∀ (X : am_X) (ad : Nat → Nat), am_okz X ad → am_info X M.2.2.2.2.1 M.2.1 M.2.2.1 M.2.2.2.2.2.2 M.2.2.2.1 d → am_mem X mc ms → am_V X 0 0 (am_RtA X keep ad post mc ms) sh ad (0, lv_args 0 args, [], I, G, P)) : am_CtA M d mc ms keep sh args I G P post := by
  obtain ⟨y, cc, nL, ret, o, n, ini⟩ := M
  intro l D cys ad sz
  refine va_MetF (cc := cc) (maxL := nL) (ret := ret) hy rfl ?_
  intro p e s m a below meth c s₁ B hml hv
  obtain ⟨rfl, hsz, hP, hK, hD0, hN, hZ⟩ := hv
  have hts : ∀ w ∈ am_wl y cc nL ret, w.before _ s = true := atoms_spec (ws := am_wl y cc nL ret) B.pre
  have hown : s.vm.findClass y.cls = some m.cls := findClass_of_methodNamed B.named
  have hin : meth.name = y.name := (name_of_methodNamed B.named B.method).1
  subst hsz
  have hD := hD0.self (sz := s.heap.size)
  have hb := body (p, l, e, (headSpec (am_wl y cc nL ret) (am_rm d mc ms)).room, s, m, (args.map (am_tv ad)).toArray, below, meth, c, va_A (am_ws cys ad sh I G P) s.heap.size, D, cys, o, cc, nL, ini) ad
    ⟨⟨B.exec, B.bytes, hml, by rw [← hcls]; exact hown, fun w hw => hts w (List.mem_cons_of_mem _ hw), B.notSynchronized, hK, hN, fun q h => Or.inr h, fun h => by rw [hin]; exact hini h, hd, by show 30 ≤ 30 * d; omega⟩, hZ⟩
    ⟨rfl, rfl, rfl, rfl, B.returns, Nat.le_refl _, Nat.le_refl _⟩ ⟨rfl, rfl⟩
  have hl := lv_entry (args.map (am_tv ad)) (n := nL) (by rw [am_sl_len]; exact hargs)
  rw [lg_entry_eq]
  rw [am_args] at hl
  exact hb (Nat.zero_le _) (Nat.zero_le _) s.heap [] _ hP hD va_S.rf hl
theorem am_vretA {X : am_X} {o : Nat} {cc : ByteArray} {nL : Nat} {ini : Bool} {ret : Option FieldType} {d cells slots mc ms keep pc : Nat} {sh : List am_Sh} {ad ad' : Nat → Nat} {L : am_L} {I : am_I} {G : am_G} {P : am_P} {post : am_PoA} (hX : am_okz X ad') (hi : am_info X o cc nL ini ret d) (hr : ret = none) (hd : decode cc pc = .ok (.return_, 1)) (had : ∀ j, j < keep ∨ 1000 ≤ j → ad' j = ad j) (hp : post none sh I G P) (hc : cells ≤ mc ∧ slots ≤ ms) : am_V X cells slots (am_RtA X keep ad post mc ms) sh ad' (pc, L, [], I, G, P) := by
  obtain ⟨p, l, e, R, s, m, args, below, meth, c, A, D, cys, o', cc', nL', ini'⟩ := X
  obtain ⟨rfl, rfl, rfl, rfl, hret, -, -⟩ := hi
  obtain ⟨⟨hx, hb, -, -, -, hlocks, -⟩, -⟩ := hX
  intro h1 h2 H locs ls hP hD hS hl
  refine W.widen (k := mc) (n := ms) hc.1 hc.2 ?_
  exact W.vret hx hb (hret.trans hr) (fun t ht _ => ⟨⟨none, sh, ad', I, G, P, hp, had, rfl, by rw [ht]; exact hP, hD⟩, hS.F ht⟩) hS.2.2 hd hlocks
/-! calls of such methods: constructors -/
def am_kpV (keep : Nat) (v : Value) : Bool := match v with
  | .ref k => Nat.blt k keep || Nat.ble 1000 k
  | _ => true
def am_kpL (keep : Nat) (L : am_L) (st : List Value) : Bool := L.all (fun q => am_kpV keep q.2) && st.all (am_kpV keep)
theorem am_kpV_tv {keep : Nat} {v : Value} {ad ad' : Nat → Nat} (h : am_kpV keep v = true) (ha : ∀ j, j < keep ∨ 1000 ≤ j → ad' j = ad j) : am_tv ad' v = am_tv ad v := by
  cases v with
  | ref k =>
    simp only [am_kpV, Bool.or_eq_true] at h
    simp only [am_tv]
    rw [ha k (h.imp (fun z => Nat.blt_eq ▸ z) Nat.le_of_ble_eq_true)]
  | _ => rfl
theorem am_kp_map {keep : Nat} {ad ad' : Nat → Nat} {L : am_L} {st : List Value} (h : am_kpL keep L st = true) (ha : ∀ j, j < keep ∨ 1000 ≤ j → ad' j = ad j) : L.map (am_tl ad') = L.map (am_tl ad) ∧ st.map (am_tv ad') = st.map (am_tv ad) := by
  simp only [am_kpL, Bool.and_eq_true] at h
  refine ⟨List.map_congr_left fun q hq => ?_, List.map_congr_left fun v hv => ?_⟩
  · show (q.1, am_tv ad' q.2) = (q.1, am_tv ad q.2)
    rw [am_kpV_tv (List.all_eq_true.mp h.1 q hq) ha]
  · exact am_kpV_tv (List.all_eq_true.mp h.2 v hv) ha
section AMF
variable {p : Program} {l : Launch} {e : Env} {R : Room} {s : State} {m : MethodId} {args : Array Value} {below : List Frame} {meth : Method} {c : Code} {A : Nat → Prop} {D : va_G} {cys : am_C3} {nL : Nat} {cc : ByteArray}
variable {cells slots mc ms keep : Nat} {Q : State → Prop} {sh : List am_Sh} {ad : Nat → Nat} {pc : Nat} {I : am_I} {G : am_G} {P : am_P} {H : Heap} {locs : List Loc} {ls : Array Slot}
theorem am_goesA {st0 rest : List Value} {A1 : Nat → Prop} {post : am_PoA} {a : Array Value} (hr : va_Run p l e R s m args below meth c H locs cells slots mc ms (F0 m pc ls st0) rest (am_QcA D cys ad keep A1 post a) A1) (hS : va_S A s.heap H locs) (hA : ∀ q, A1 q → A q)
    (kk : ∀ r sh' ad' I' G' P', post r sh' I' G' P' → (∀ j, j < keep ∨ 1000 ≤ j → ad' j = ad j) → ∀ (H1 : Heap) (locs1 : List Loc), va_P D vwCl (am_ws cys ad' sh' I' G' P') H1 → va_D A (am_ws cys ad' sh' I' G' P') → va_S A s.heap H1 locs1 → W p l e R s m args below meth c H1 locs1 (cells + mc) (slots + ms) Q (F0 m (pc + 3) ls ((r.map (am_tv ad')).toList ++ rest))) : W p l e R s m args below meth c H locs cells slots Q (F0 m pc ls st0) := by
  intro T hT X
  obtain ⟨v, st₀, t, T', L, h0, X', hL, e1, e2, ⟨⟨r, sh', ad', I', G', P', hp, had, hv, hP, hD'⟩, hz, hk⟩, st⟩ := hr T hT X
  cases hv
  rw [h0] at hz hk
  have hS1 : va_S A s.heap T'.heap (locs ++ L) := ⟨Nat.le_trans hS.1 (by rw [e1]; exact hz), fun q h1 h2 => by rw [e1, hk q (Nat.lt_of_lt_of_le h1 hS.1) (fun z => h2 (hA q z))]; exact hS.2.1 q h1 h2, fun q hq => by
      rcases List.mem_append.mp hq with h | h
      · exact hS.2.2 q h
      · exact hA _ (hL q h)⟩
  obtain ⟨t2, a1, b1⟩ := kk r sh' ad' I' G' P' hp had T'.heap (locs ++ L) (by rw [e1]; exact hP) (hD'.weaken (fun _ _ _ z => hA _ z)) hS1 T' rfl X'
  exact ⟨t2, st t2 a1, b1⟩
end AMF
section AMG
variable {X : am_X} {o : Nat} {cc : ByteArray} {nL : Nat} {ini : Bool} {ret : Option FieldType} {d : Nat}
variable {cells slots mc ms MC MS keep : Nat} {Q : State → Prop} {sh : List am_Sh} {ad : Nat → Nat} {pc : Nat} {L : am_L} {st : List Value} {I : am_I} {G : am_G} {P : am_P} {post : am_PoA}
/-- invokespecial of a constructor -/
theorem am_callI (hX : am_okz X ad) (hi : am_info X o cc nL ini ret d) (hm : am_mem X MC MS) {M : am_M} {d' idx b : Nat} {As rest : List Value} (hM : am_Mok M) (hin : Cond.instanceMethod M.1 ∈ lw_tbl) (hnm : M.1.name = "<init>") (hret : M.2.2.2.1 = none) (hl : am_lnk o idx M.1 false = true) (hd : decode cc pc = .ok (.invokespecial idx, 3))
    (hn : As.length = M.2.2.2.2.2.1) (hdd : d' + 1 ≤ d ∧ M.2.2.1 ≤ 11 ∧ (rest.map fun v => v.category).sum ≤ 8) (hst : st = As.reverse ++ .ref b :: rest) (hroom : cells + mc ≤ MC ∧ slots + ms ≤ MS) (hkp : am_kpL keep L rest = true) (hC : am_CtA M d' mc ms keep sh (.ref b :: As) I G P post)
    (kk : ∀ r sh' ad' I' G' P', post r sh' I' G' P' → (∀ j, j < keep ∨ 1000 ≤ j → ad' j = ad j) → am_V X (cells + mc) (slots + ms) Q sh' ad' (pc + 3, L, r.toList ++ rest, I', G', P')) : am_V X cells slots Q sh ad (pc, L, st, I, G, P) := by
  subst hst
  obtain ⟨y, cb, mL, rt, oM, nA, iniM⟩ := M
  simp only at hret hnm hn hdd hin hl
  subst hret
  obtain ⟨p, l, e, R, s, m, args, below, meth, c, A, D, cys, o', cc', nL', ini'⟩ := X
  obtain ⟨rfl, rfl, rfl, rfl, -, hR1, hR2⟩ := hi
  obtain ⟨rfl, rfl⟩ := hm
  obtain ⟨⟨hx, hb, hml, hown, hts, hlk, hK, hN, hA, hini, hR3, hR4⟩, hZ⟩ := hX
  intro h1 h2 H locs ls hP hD hS hlo
  obtain ⟨q1, q2, q3, q4, q5⟩ := hM
  have hlw : Cond.methodLink (am_own o') idx y ∈ lw_tbl := by
    have := am_lnk_ok hl
    simpa using this
  have cw : CallB R s args (am_own o') idx y cb mL none (am_wl y cb mL none) (am_rm d' mc ms) mc ms nA ∧ y.name = "<init>" ∧ (Cond.instanceMethod y).before args s = true :=
    ⟨callB_of _ hts (am_goodIn (M := (y, cb, mL, none, oM, nA, iniM)) ⟨q1, q2, q3, q4, q5⟩) rfl rfl rfl (hts _ (am_good q2 rfl)) (hts _ (am_good hlw rfl)) ⟨q3, q4, q5⟩ ⟨by show d' + 1 ≤ R.frames; omega, by show 8 + (mL + 11) + 30 * d' ≤ R.locals; omega⟩, hnm, hts _ (am_good hin rfl)⟩
  have hA1 := am_A1 hD hS hA
  refine am_goesA (A1 := va_A (am_ws cys ad sh I G P) H.size) (va_runI (As := As.map (am_tv ad)) (b := ad b) (rest := rest.map (am_tv ad)) ⟨hx, hb, hml, hown, hts⟩ (hC l D cys ad H.size) cw ⟨am_blind, ?_⟩ rfl (by rw [List.length_map]; exact hn) hlo.1 ?_ ?_ hd hroom) hS hA1 ?_
  · intro U hU hW
    exact ⟨rfl, by rw [hU], by rw [hU]; exact hP, va_K.moved hW.alike hK, hD.weaken (fun _ _ _ _ => trivial), am_nst.warm hW hN, by rw [hU]; exact (am_Zs.warm hW (hZ.kept hS.2.1)).narrow hA1⟩
  · simp [am_tv]
  · exact lv_room (by rw [am_cats]; exact hdd.2.2)
  · intro r sh' ad' I' G' P' hp had H1 locs1 hP1 hD1 hS1
    obtain ⟨e1, e2⟩ := am_kp_map hkp had
    rw [← e2, am_out]
    exact kk r sh' ad' I' G' P' hp had hroom.1 hroom.2 H1 locs1 ls hP1 hD1 hS1 (by rw [e1]; exact hlo)
end AMG
