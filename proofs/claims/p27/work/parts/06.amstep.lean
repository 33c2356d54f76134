/-! one step of the abstract machine is one of the machine -/
theorem am_ld_of {o j : Nat} {v : Value} (h : am_ldT.any (fun q => Nat.beq q.1 o && Nat.beq q.2.1 j && decide (v = .long q.2.2.1)) = true) : ∃ w : Int64, v = .long w ∧ Cond.constantLong (am_own o) j w ∈ lw_tbl := by
  obtain ⟨q, hq, h2⟩ := List.any_eq_true.mp h
  have h1 := of_decide_eq_true (List.all_eq_true.mp am_ld_ok q hq)
  simp only [Bool.and_eq_true, decide_eq_true_eq] at h2
  obtain ⟨⟨e1, e2⟩, e3⟩ := h2
  rw [Nat.eq_of_beq_eq_true e1, Nat.eq_of_beq_eq_true e2] at h1
  exact ⟨_, e3, List.mem_of_getElem? h1⟩
theorem am_mm_of {o j a : Nat} (h : am_mmT.any (fun q => Nat.beq q.1 o && Nat.beq q.2.1 j && Nat.beq q.2.2.1 a) = true) : (a = 1 → Cond.methodLink (am_own o) j Lib.Math.min.name ∈ am_all) ∧ (a = 2 → Cond.methodLink (am_own o) j Lib.Math.max.name ∈ am_all) := by
  obtain ⟨q, hq, h2⟩ := List.any_eq_true.mp h
  have h1 := of_decide_eq_true (List.all_eq_true.mp am_mm_ok q hq)
  simp only [Bool.and_eq_true] at h2
  obtain ⟨⟨e1, e2⟩, e3⟩ := h2
  rw [Nat.eq_of_beq_eq_true e1, Nat.eq_of_beq_eq_true e2, Nat.eq_of_beq_eq_true e3] at h1
  constructor
  · intro ha
    rw [if_pos ha] at h1
    exact am_good (List.mem_of_getElem? h1) rfl
  · intro ha
    rw [if_neg (by omega)] at h1
    exact am_good (List.mem_of_getElem? h1) rfl
set_option maxRecDepth 100000 in
theorem am_w_math : Cond.initialized "java/lang/Math" ∈ am_all := am_good (by decide +kernel) rfl
set_option maxRecDepth 100000 in
theorem am_w_min1 : Cond.static Lib.Math.min.name ∈ am_all := am_good (by decide +kernel) rfl
set_option maxRecDepth 100000 in
theorem am_w_min2 : Cond.code Lib.Math.min.name Lib.Math.min.code 2 (some .int) ∈ am_all := am_good (by decide +kernel) rfl
set_option maxRecDepth 100000 in
theorem am_w_max1 : Cond.static Lib.Math.max.name ∈ am_all := am_good (by decide +kernel) rfl
set_option maxRecDepth 100000 in
theorem am_w_max2 : Cond.code Lib.Math.max.name Lib.Math.max.code 2 (some .int) ∈ am_all := am_good (by decide +kernel) rfl
theorem am_E_i (cys : am_C3) (ad : Nat → Nat) (m q j : Nat) (I : am_I) (G : am_G) (P : am_P) {x : Int32} : am_E cys ad (.inr (0, m)) (am_up I q j x q) (G q) (P q) = .inl (cys.1, m, .inl (upd (I q) j x)) := by
  have h : am_up I q j x q = upd (I q) j x := by
    rw [am_up_row]; rfl
  rw [h]; rfl
theorem am_E_l (cys : am_C3) (ad : Nat → Nat) (m q j : Nat) (I : am_I) (G : am_G) (P : am_P) {x : Int64} : am_E cys ad (.inr (2, m)) (I q) (am_up G q j x q) (P q) = .inl (cys.2.2.1, m, .inr (.inl (vp_updL (G q) j x))) := by
  have h : am_up G q j x q = vp_updL (G q) j x := by
    rw [am_up_row]; rfl
  rw [h]; rfl
theorem am_E_z (cys : am_C3) (ad : Nat → Nat) (m q j : Nat) (I : am_I) (G : am_G) (P : am_P) {x : Int32} (hx : x = 0 ∨ x = 1) : am_E cys ad (.inr (1, m)) (am_up I q j x q) (G q) (P q) = .inl (cys.2.1, m, .inl (upd (I q) j (vp_nar .boolean x))) := by
  have h : am_up I q j x q = upd (I q) j (vp_nar .boolean x) := by
    rw [show vp_nar .boolean x = x by rcases hx with rfl | rfl <;> decide, am_up_row]; rfl
  rw [h]; rfl
theorem am_ws_si {cys : am_C3} {ad : Nat → Nat} {sh : List am_Sh} {I : am_I} {G : am_G} {P : am_P} {q m j : Nat} {x : Int32} (hs : sh[q]? = some (.inr (0, m))) : (am_ws cys ad sh I G P).set q (ad q, .inl (cys.1, m, .inl (upd (I q) j x))) = am_ws cys ad sh (am_up I q j x) G P :=
  am_ws_set hs (fun z hz => ⟨am_up_rowb _ _ _ hz, rfl, rfl⟩) (am_E_i cys ad m q j I G P)
theorem am_ws_sz {cys : am_C3} {ad : Nat → Nat} {sh : List am_Sh} {I : am_I} {G : am_G} {P : am_P} {q m j : Nat} {x : Int32} (hs : sh[q]? = some (.inr (1, m))) (hx : x = 0 ∨ x = 1) : (am_ws cys ad sh I G P).set q (ad q, .inl (cys.2.1, m, .inl (upd (I q) j (vp_nar .boolean x)))) = am_ws cys ad sh (am_up I q j x) G P :=
  am_ws_set hs (fun z hz => ⟨am_up_rowb _ _ _ hz, rfl, rfl⟩) (am_E_z cys ad m q j I G P hx)
theorem am_ws_sl {cys : am_C3} {ad : Nat → Nat} {sh : List am_Sh} {I : am_I} {G : am_G} {P : am_P} {q m j : Nat} {x : Int64} (hs : sh[q]? = some (.inr (2, m))) : (am_ws cys ad sh I G P).set q (ad q, .inl (cys.2.2.1, m, .inr (.inl (vp_updL (G q) j x)))) = am_ws cys ad sh I (am_up G q j x) P :=
  am_ws_set hs (fun z hz => ⟨rfl, am_up_rowb _ _ _ hz, rfl⟩) (am_E_l cys ad m q j I G P)
theorem am_E_b (cys : am_C3) (ad : Nat → Nat) (m q j : Nat) (I : am_I) (G : am_G) (P : am_P) {x : Int32} (hx : x.toInt8.toInt32 = x) : am_E cys ad (.inr (4, m)) (am_up I q j x q) (G q) (P q) = .inl (cys.2.2.2.2, m, .inl (upd (I q) j (vp_nar .byte x))) := by
  have h : am_up I q j x q = upd (I q) j (vp_nar .byte x) := by
    rw [show vp_nar .byte x = x from hx, am_up_row]; rfl
  rw [h]; rfl
theorem am_ws_sb {cys : am_C3} {ad : Nat → Nat} {sh : List am_Sh} {I : am_I} {G : am_G} {P : am_P} {q m j : Nat} {x : Int32} (hs : sh[q]? = some (.inr (4, m))) (hx : x.toInt8.toInt32 = x) : (am_ws cys ad sh I G P).set q (ad q, .inl (cys.2.2.2.2, m, .inl (upd (I q) j (vp_nar .byte x)))) = am_ws cys ad sh (am_up I q j x) G P :=
  am_ws_set hs (fun z hz => ⟨am_up_rowb _ _ _ hz, rfl, rfl⟩) (am_E_b cys ad m q j I G P hx)
theorem am_rw_at {ad : Nat → Nat} {m z : Nat} {w : Nat → Value} {i : Int32} (hin : vp_in i m) (h : w i.toNatClampNeg = .ref z) : va_rf (am_rw ad m w i.toNatClampNeg) = .ref (ad z) := by
  have hlt : i.toNatClampNeg < m := Nat.not_le.mp fun q => hin (Or.inr q)
  have h9 : Nat.blt i.toNatClampNeg m = true := by rw [Nat.blt_eq]; exact hlt
  unfold am_rw
  rw [h9, h]; rfl
section VAA
variable {p : Program} {l : Launch} {e : Env} {R : Room} {s : State} {m : MethodId} {args : Array Value} {below : List Frame} {meth : Method} {c : Code} {H : Heap} {locs : List Loc} {cells slots : Nat} {Q : State → Prop}
variable {cc : ByteArray} {pc : Nat} {ls : Array Slot} {rest : List Value} {D : va_G} {cl : List vw_C} {A : Nat → Prop} {a : Nat} {tys : List (ClassId × FieldType)} {ws : va_W} {H0 : Heap}
theorem va_aldA (hexec : p.tables.exec = Jvm.exec) (hb : c.code = cc) (hK : va_K D cl tys s) (hP : va_P D cl ws H) (q0 t0 : Nat) {cA : ClassId} {C : FieldType} {n : Nat} {f : Nat → Option Nat} (ha : ws[q0]? = some (a, .inl (cA, n, .inr (.inr (.inr (.inr f)))))) (ht : tys[t0]? = some (cA, .array C)) {i : Int32} (hin : vp_in i n) (hdg : decode cc pc = .ok (.aaload, 1))
    (kk : W p l e R s m args below meth c H locs cells slots Q (F0 m (pc + 1) ls (va_rf (f i.toNatClampNeg) :: rest))) : W p l e R s m args below meth c H locs cells slots Q (F0 m pc ls (.int i :: .ref a :: rest)) := by
  have hlt : i.toNatClampNeg < n := Nat.not_le.mp fun q => hin (Or.inr q)
  exact W.aald (v := va_rf (f i.toNatClampNeg)) (ty := .array C) hexec hb (hP q0 _ ha) ((hK.2 t0 _ ht).1 n (fun j => va_rf (f j))) rfl (fun q => by cases q) (by show ¬ (i < 0 ∨ (arrV _ _ _).slots.size ≤ _); rw [arrV_size]; exact hin) (by show (arrV _ _ _).slots[_]? = _; rw [arrV_read _ _ hlt]) rfl rfl hdg kk
end VAA
def am_gd (g : Option Prop) : Prop := match g with
  | none => True
  | some p => p
section AMT
variable {p : Program} {l : Launch} {e : Env} {R : Room} {s : State} {m : MethodId} {args : Array Value} {below : List Frame} {meth : Method} {c : Code} {A : Nat → Prop} {D : va_G} {cys : am_C3} {o : Nat} {cc : ByteArray} {nL : Nat} {ini : Bool}
variable {cells slots : Nat} {Q : State → Prop} {sh : List am_Sh} {ad : Nat → Nat} {pc : Nat} {L : am_L} {st : List Value} {I : am_I} {G : am_G} {P : am_P}
set_option maxHeartbeats 8000000 in
theorem am_step (hX : am_ok (p, l, e, R, s, m, args, below, meth, c, A, D, cys, o, cc, nL, ini)) {it : am_It} {S1 : am_S} {g : Option Prop} (hck : am_ck o cc nL ini pc it = true) (hst : am_st sh it (pc, L, st, I, G, P) = some (S1, g)) (hg : am_gd g) (k : am_V (p, l, e, R, s, m, args, below, meth, c, A, D, cys, o, cc, nL, ini) cells slots Q sh ad S1) : am_V (p, l, e, R, s, m, args, below, meth, c, A, D, cys, o, cc, nL, ini) cells slots Q sh ad (pc, L, st, I, G, P) := by
  obtain ⟨hx, hb, hml, hown, hts, hlk, hK, hN, hA, hini, hR1, hR2⟩ := id hX
  obtain ⟨i, n, a, b, v⟩ := it
  match i, hck, hst with
  | .iadd, hck, hst =>
    simp only [am_ck, Bool.and_eq_true, decide_eq_true_eq] at hck
    obtain ⟨hd, rfl⟩ := hck
    simp only [am_st] at hst
    split at hst
    · cases hst
      intro h1 h2 H locs ls hP hD hS hl
      exact lv_iadd hx hb hd (k h1 h2 H locs ls hP hD hS hl)
    · cases hst
  | .isub, hck, hst =>
    simp only [am_ck, Bool.and_eq_true, decide_eq_true_eq] at hck
    obtain ⟨hd, rfl⟩ := hck
    simp only [am_st] at hst
    split at hst
    · cases hst
      intro h1 h2 H locs ls hP hD hS hl
      exact lv_isub hx hb hd (k h1 h2 H locs ls hP hD hS hl)
    · cases hst
  | .imul, hck, hst =>
    simp only [am_ck, Bool.and_eq_true, decide_eq_true_eq] at hck
    obtain ⟨hd, rfl⟩ := hck
    simp only [am_st] at hst
    split at hst
    · cases hst
      intro h1 h2 H locs ls hP hD hS hl
      exact lv_imul hx hb hd (k h1 h2 H locs ls hP hD hS hl)
    · cases hst
  | .iand, hck, hst =>
    simp only [am_ck, Bool.and_eq_true, decide_eq_true_eq] at hck
    obtain ⟨hd, rfl⟩ := hck
    simp only [am_st] at hst
    split at hst
    · cases hst
      intro h1 h2 H locs ls hP hD hS hl
      exact lv_iand hx hb hd (k h1 h2 H locs ls hP hD hS hl)
    · cases hst
  | .ior, hck, hst =>
    simp only [am_ck, Bool.and_eq_true, decide_eq_true_eq] at hck
    obtain ⟨hd, rfl⟩ := hck
    simp only [am_st] at hst
    split at hst
    · cases hst
      intro h1 h2 H locs ls hP hD hS hl
      exact lv_ior hx hb hd (k h1 h2 H locs ls hP hD hS hl)
    · cases hst
  | .ixor, hck, hst =>
    simp only [am_ck, Bool.and_eq_true, decide_eq_true_eq] at hck
    obtain ⟨hd, rfl⟩ := hck
    simp only [am_st] at hst
    split at hst
    · cases hst
      intro h1 h2 H locs ls hP hD hS hl
      exact lv_ixor hx hb hd (k h1 h2 H locs ls hP hD hS hl)
    · cases hst
  | .ishr, hck, hst =>
    simp only [am_ck, Bool.and_eq_true, decide_eq_true_eq] at hck
    obtain ⟨hd, rfl⟩ := hck
    simp only [am_st] at hst
    split at hst
    · cases hst
      intro h1 h2 H locs ls hP hD hS hl
      exact lv_ishr hx hb hd (k h1 h2 H locs ls hP hD hS hl)
    · cases hst
  | .ineg, hck, hst =>
    simp only [am_ck, Bool.and_eq_true, decide_eq_true_eq] at hck
    obtain ⟨hd, rfl⟩ := hck
    simp only [am_st] at hst
    split at hst
    · cases hst
      intro h1 h2 H locs ls hP hD hS hl
      exact lv_ineg hx hb hd (k h1 h2 H locs ls hP hD hS hl)
    · cases hst
  | .ladd, hck, hst =>
    simp only [am_ck, Bool.and_eq_true, decide_eq_true_eq] at hck
    obtain ⟨hd, rfl⟩ := hck
    simp only [am_st] at hst
    split at hst
    · cases hst
      intro h1 h2 H locs ls hP hD hS hl
      exact lv_ladd hx hb hd (k h1 h2 H locs ls hP hD hS hl)
    · cases hst
  | .lmul, hck, hst =>
    simp only [am_ck, Bool.and_eq_true, decide_eq_true_eq] at hck
    obtain ⟨hd, rfl⟩ := hck
    simp only [am_st] at hst
    split at hst
    · cases hst
      intro h1 h2 H locs ls hP hD hS hl
      exact lv_lmul hx hb hd (k h1 h2 H locs ls hP hD hS hl)
    · cases hst
  | .lxor, hck, hst =>
    simp only [am_ck, Bool.and_eq_true, decide_eq_true_eq] at hck
    obtain ⟨hd, rfl⟩ := hck
    simp only [am_st] at hst
    split at hst
    · cases hst
      intro h1 h2 H locs ls hP hD hS hl
      exact lv_lxor hx hb hd (k h1 h2 H locs ls hP hD hS hl)
    · cases hst
  | .idiv, hck, hst =>
    simp only [am_ck, Bool.and_eq_true, decide_eq_true_eq] at hck
    obtain ⟨hd, rfl⟩ := hck
    simp only [am_st] at hst
    split at hst
    · cases hst
      intro h1 h2 H locs ls hP hD hS hl
      exact lv_idiv hx hb hd hg (k h1 h2 H locs ls hP hD hS hl)
    · cases hst
  | .irem, hck, hst =>
    simp only [am_ck, Bool.and_eq_true, decide_eq_true_eq] at hck
    obtain ⟨hd, rfl⟩ := hck
    simp only [am_st] at hst
    split at hst
    · cases hst
      intro h1 h2 H locs ls hP hD hS hl
      exact lv_irem hx hb hd hg (k h1 h2 H locs ls hP hD hS hl)
    · cases hst
  | .lrem, hck, hst =>
    simp only [am_ck, Bool.and_eq_true, decide_eq_true_eq] at hck
    obtain ⟨hd, rfl⟩ := hck
    simp only [am_st] at hst
    split at hst
    · cases hst
      intro h1 h2 H locs ls hP hD hS hl
      exact lv_lrem hx hb hd hg (k h1 h2 H locs ls hP hD hS hl)
    · cases hst
  | .lcmp, hck, hst =>
    simp only [am_ck, Bool.and_eq_true, decide_eq_true_eq] at hck
    obtain ⟨hd, rfl⟩ := hck
    simp only [am_st] at hst
    split at hst
    · cases hst
      intro h1 h2 H locs ls hP hD hS hl
      exact W.lcmp hx hb hd (k h1 h2 H locs ls hP hD hS hl)
    · cases hst
  | .i2l, hck, hst =>
    simp only [am_ck, Bool.and_eq_true, decide_eq_true_eq] at hck
    obtain ⟨hd, rfl⟩ := hck
    simp only [am_st] at hst
    split at hst
    · cases hst
      intro h1 h2 H locs ls hP hD hS hl
      exact lv_i2l hx hb hd rfl (k h1 h2 H locs ls hP hD hS hl)
    · cases hst
  | .l2i, hck, hst =>
    simp only [am_ck, Bool.and_eq_true, decide_eq_true_eq] at hck
    obtain ⟨hd, rfl⟩ := hck
    simp only [am_st] at hst
    split at hst
    · cases hst
      intro h1 h2 H locs ls hP hD hS hl
      exact lv_l2i hx hb hd rfl (k h1 h2 H locs ls hP hD hS hl)
    · cases hst
  | .i2c, hck, hst =>
    simp only [am_ck, Bool.and_eq_true, decide_eq_true_eq] at hck
    obtain ⟨hd, rfl⟩ := hck
    simp only [am_st] at hst
    split at hst
    · cases hst
      intro h1 h2 H locs ls hP hD hS hl
      exact lv_i2c hx hb hd rfl (k h1 h2 H locs ls hP hD hS hl)
    · cases hst
  | .iconst j, hck, hst =>
    simp only [am_ck, Bool.and_eq_true, decide_eq_true_eq] at hck
    obtain ⟨hd, rfl, rfl⟩ := hck
    simp only [am_st] at hst
    cases hst
    intro h1 h2 H locs ls hP hD hS hl
    exact lv_iconst hx hb hd rfl (k h1 h2 H locs ls hP hD hS hl)
  | .bipush j, hck, hst =>
    simp only [am_ck, Bool.and_eq_true, decide_eq_true_eq] at hck
    obtain ⟨hd, rfl, rfl⟩ := hck
    simp only [am_st] at hst
    cases hst
    intro h1 h2 H locs ls hP hD hS hl
    exact lv_bipush hx hb hd rfl (k h1 h2 H locs ls hP hD hS hl)
  | .sipush j, hck, hst =>
    simp only [am_ck, Bool.and_eq_true, decide_eq_true_eq] at hck
    obtain ⟨hd, rfl, rfl⟩ := hck
    simp only [am_st] at hst
    cases hst
    intro h1 h2 H locs ls hP hD hS hl
    exact lv_sipush hx hb hd rfl (k h1 h2 H locs ls hP hD hS hl)
  | .lconst j, hck, hst =>
    simp only [am_ck, Bool.and_eq_true, decide_eq_true_eq] at hck
    obtain ⟨hd, rfl, rfl⟩ := hck
    simp only [am_st] at hst
    cases hst
    intro h1 h2 H locs ls hP hD hS hl
    exact lv_lconst hx hb hd rfl (k h1 h2 H locs ls hP hD hS hl)
  | .ldc2_w j, hck, hst =>
    simp only [am_ck, Bool.and_eq_true, decide_eq_true_eq] at hck
    obtain ⟨hd, rfl, hq⟩ := hck
    obtain ⟨w, hw⟩ := am_ld_of hq
    obtain ⟨rfl, hw⟩ := hw
    simp only [am_st] at hst
    cases hst
    intro h1 h2 H locs ls hP hD hS hl
    exact lv_ldc2 hx hb hown (hts _ (am_good hw rfl)) hd (k h1 h2 H locs ls hP hD hS hl)
  | .iload_n j, hck, hst =>
    simp only [am_ck, Bool.and_eq_true, decide_eq_true_eq] at hck
    obtain ⟨hd, rfl, rfl⟩ := hck
    simp only [am_st] at hst
    split at hst
    · cases hst
      intro h1 h2 H locs ls hP hD hS hl
      exact lv_iload_n hx hb hd rfl (am_lk_has hl (by assumption)) (k h1 h2 H locs ls hP hD hS hl)
    · cases hst
  | .iload j, hck, hst =>
    simp only [am_ck, Bool.and_eq_true, decide_eq_true_eq] at hck
    obtain ⟨hd, rfl, rfl⟩ := hck
    simp only [am_st] at hst
    split at hst
    · cases hst
      intro h1 h2 H locs ls hP hD hS hl
      exact lv_iload hx hb hd (am_lk_has hl (by assumption)) (k h1 h2 H locs ls hP hD hS hl)
    · cases hst
  | .lload_n j, hck, hst =>
    simp only [am_ck, Bool.and_eq_true, decide_eq_true_eq] at hck
    obtain ⟨hd, rfl, rfl⟩ := hck
    simp only [am_st] at hst
    split at hst
    · cases hst
      intro h1 h2 H locs ls hP hD hS hl
      exact lv_lload_n hx hb hd rfl (am_lk_has hl (by assumption)) (k h1 h2 H locs ls hP hD hS hl)
    · cases hst
  | .lload j, hck, hst =>
    simp only [am_ck, Bool.and_eq_true, decide_eq_true_eq] at hck
    obtain ⟨hd, rfl, rfl⟩ := hck
    simp only [am_st] at hst
    split at hst
    · cases hst
      intro h1 h2 H locs ls hP hD hS hl
      exact lv_lload hx hb hd (am_lk_has hl (by assumption)) (k h1 h2 H locs ls hP hD hS hl)
    · cases hst
  | .aload_n j, hck, hst =>
    simp only [am_ck, Bool.and_eq_true, decide_eq_true_eq] at hck
    obtain ⟨hd, rfl, rfl⟩ := hck
    simp only [am_st] at hst
    split at hst
    · cases hst
      intro h1 h2 H locs ls hP hD hS hl
      exact lv_aload_n hx hb hd rfl (am_lk_has hl (by assumption)) (k h1 h2 H locs ls hP hD hS hl)
    · cases hst
  | .aload j, hck, hst =>
    simp only [am_ck, Bool.and_eq_true, decide_eq_true_eq] at hck
    obtain ⟨hd, rfl, rfl⟩ := hck
    simp only [am_st] at hst
    split at hst
    · cases hst
      intro h1 h2 H locs ls hP hD hS hl
      exact lv_aload hx hb hd (am_lk_has hl (by assumption)) (k h1 h2 H locs ls hP hD hS hl)
    · cases hst
  | .istore_n j, hck, hst =>
    simp only [am_ck, Bool.and_eq_true, decide_eq_true_eq] at hck
    obtain ⟨hd, ⟨rfl, rfl⟩, hlt⟩ := hck
    simp only [am_st] at hst
    split at hst
    · cases hst
      intro h1 h2 H locs ls hP hD hS hl
      exact lv_istore_n hx hb hd rfl hl hlt rfl (fun ls' hl' => k h1 h2 H locs ls' hP hD hS (am_has1 hl'))
    · cases hst
  | .istore j, hck, hst =>
    simp only [am_ck, Bool.and_eq_true, decide_eq_true_eq] at hck
    obtain ⟨hd, ⟨rfl, rfl⟩, hlt⟩ := hck
    simp only [am_st] at hst
    split at hst
    · cases hst
      intro h1 h2 H locs ls hP hD hS hl
      exact lv_istore hx hb hd  hl hlt rfl (fun ls' hl' => k h1 h2 H locs ls' hP hD hS (am_has1 hl'))
    · cases hst
  | .astore_n j, hck, hst =>
    simp only [am_ck, Bool.and_eq_true, decide_eq_true_eq] at hck
    obtain ⟨hd, ⟨rfl, rfl⟩, hlt⟩ := hck
    simp only [am_st] at hst
    split at hst
    · cases hst
      intro h1 h2 H locs ls hP hD hS hl
      exact lv_astore_n hx hb hd rfl hl hlt rfl (fun ls' hl' => k h1 h2 H locs ls' hP hD hS (am_has1 hl'))
    · cases hst
  | .astore j, hck, hst =>
    simp only [am_ck, Bool.and_eq_true, decide_eq_true_eq] at hck
    obtain ⟨hd, ⟨rfl, rfl⟩, hlt⟩ := hck
    simp only [am_st] at hst
    split at hst
    · cases hst
      intro h1 h2 H locs ls hP hD hS hl
      exact lv_astore hx hb hd  hl hlt rfl (fun ls' hl' => k h1 h2 H locs ls' hP hD hS (am_has1 hl'))
    · cases hst
  | .lstore_n j, hck, hst =>
    simp only [am_ck, Bool.and_eq_true, decide_eq_true_eq] at hck
    obtain ⟨hd, ⟨rfl, rfl⟩, hlt⟩ := hck
    simp only [am_st] at hst
    split at hst
    · cases hst
      intro h1 h2 H locs ls hP hD hS hl
      exact lv_lstore_n hx hb hd rfl hl hlt rfl (fun ls' hl' => k h1 h2 H locs ls' hP hD hS (am_has2 hl'))
    · cases hst
  | .lstore j, hck, hst =>
    simp only [am_ck, Bool.and_eq_true, decide_eq_true_eq] at hck
    obtain ⟨hd, ⟨rfl, rfl⟩, hlt⟩ := hck
    simp only [am_st] at hst
    split at hst
    · cases hst
      intro h1 h2 H locs ls hP hD hS hl
      exact lv_lstore hx hb hd  hl hlt rfl (fun ls' hl' => k h1 h2 H locs ls' hP hD hS (am_has2 hl'))
    · cases hst
  | .iinc j j2, hck, hst =>
    simp only [am_ck, Bool.and_eq_true, decide_eq_true_eq] at hck
    obtain ⟨hd, ⟨⟨rfl, rfl⟩, hlt⟩, rfl⟩ := hck
    simp only [am_st] at hst
    split at hst
    · rename_i hlk1 hlk2
      cases hlk2
      cases hst
      intro h1 h2 H locs ls hP hD hS hl
      obtain ⟨i9, hi9⟩ := List.getElem?_of_mem (List.mem_map_of_mem (f := am_tl ad) (am_lk_mem hlk1))
      exact lv_iinc hx hb hd hl hi9 rfl hlt rfl (fun ls' hl' => k h1 h2 H locs ls' hP hD hS (am_has1 hl'))
    · cases hst
  | .dup, hck, hst =>
    simp only [am_ck, Bool.and_eq_true, decide_eq_true_eq] at hck
    obtain ⟨hd, rfl⟩ := hck
    simp only [am_st] at hst
    split at hst
    · cases hst
      intro h1 h2 H locs ls hP hD hS hl
      exact lv_dup hx hb hd rfl (k h1 h2 H locs ls hP hD hS hl)
    · cases hst
      intro h1 h2 H locs ls hP hD hS hl
      exact lv_dup hx hb hd rfl (k h1 h2 H locs ls hP hD hS hl)
    · cases hst
  | .dup2, hck, hst =>
    simp only [am_ck, Bool.and_eq_true, decide_eq_true_eq] at hck
    obtain ⟨hd, rfl⟩ := hck
    simp only [am_st] at hst
    split at hst
    · cases hst
      intro h1 h2 H locs ls hP hD hS hl
      exact lv_dup2_11 hx hb hd rfl rfl (k h1 h2 H locs ls hP hD hS hl)
    · cases hst
  | .pop, hck, hst =>
    simp only [am_ck, Bool.and_eq_true, decide_eq_true_eq] at hck
    obtain ⟨hd, rfl⟩ := hck
    simp only [am_st] at hst
    split at hst
    · cases hst
      intro h1 h2 H locs ls hP hD hS hl
      exact lv_pop hx hb hd rfl (k h1 h2 H locs ls hP hD hS hl)
    · cases hst
      intro h1 h2 H locs ls hP hD hS hl
      exact lv_pop hx hb hd rfl (k h1 h2 H locs ls hP hD hS hl)
    · cases hst
  | .goto off, hck, hst =>
    simp only [am_ck, Bool.and_eq_true, decide_eq_true_eq] at hck
    obtain ⟨hd, rfl, ht⟩ := hck
    simp only [am_st] at hst
    cases hst
    intro h1 h2 H locs ls hP hD hS hl
    exact lv_goto hx hb hd ht (k h1 h2 H locs ls hP hD hS hl)
  | .getfield j, hck, hst =>
    simp only [am_ck, Bool.and_eq_true, decide_eq_true_eq] at hck
    obtain ⟨hd, rfl, hf⟩ := hck
    simp only [am_st] at hst
    split at hst
    · split at hst
      · rename_i hs
        rename_i ci
        cases hbq : Nat.beq ci a with
        | false => rw [hbq] at hst; cases hst
        | true =>
          rw [hbq] at hst
          rw [Nat.eq_of_beq_eq_true hbq] at hs hst
          try simp only [cond_true] at hst
          split at hst
          · cases hst
            intro h1 h2 H locs ls hP hD hS hl
            exact am_getf (t := 0) hX hP hs (by assumption) hf hd (k h1 h2 H locs ls hP hD hS hl)
          · cases hst
            intro h1 h2 H locs ls hP hD hS hl
            exact am_getf (t := 1) hX hP hs (by assumption) hf hd (k h1 h2 H locs ls hP hD hS hl)
          · cases hst
            intro h1 h2 H locs ls hP hD hS hl
            exact am_getf (t := 2) hX hP hs (by assumption) hf hd (k h1 h2 H locs ls hP hD hS hl)
          · cases hst
            intro h1 h2 H locs ls hP hD hS hl
            exact am_getf (t := 3) hX hP hs (by assumption) hf hd (k h1 h2 H locs ls hP hD hS hl)
          · cases hst
      · cases hst
    · cases hst
  | .putfield j, hck, hst =>
    simp only [am_ck, Bool.and_eq_true, decide_eq_true_eq] at hck
    obtain ⟨hd, rfl, hf⟩ := hck
    simp only [am_st] at hst
    split at hst
    · split at hst
      · rename_i hs
        rename_i ci
        cases hbq : Nat.beq ci a with
        | false => rw [hbq] at hst; cases hst
        | true =>
          rw [hbq] at hst
          rw [Nat.eq_of_beq_eq_true hbq] at hs hst
          try simp only [cond_true] at hst
          split at hst
          · cases hst
            intro h1 h2 H locs ls hP hD hS hl
            refine am_putf (t := 0) hX hP hD hS hs (by assumption) hf hd (Or.inl ⟨rfl, _, rfl⟩) (fun z hz => ⟨am_up_rowb _ _ _ hz, rfl, rfl⟩) (fun z hz => ⟨am_up_k _ _ hz, rfl, rfl⟩) ?_ (fun H1 locs1 hP1 hD1 hS1 => k h1 h2 H1 locs1 ls hP1 hD1 hS1 hl)
            rw [am_up_self]; rfl
          · cases hst
            intro h1 h2 H locs ls hP hD hS hl
            refine am_putf (t := 1) hX hP hD hS hs (by assumption) hf hd (Or.inr (Or.inl ⟨rfl, _, rfl⟩)) (fun z hz => ⟨rfl, am_up_rowb _ _ _ hz, rfl⟩) (fun z hz => ⟨rfl, am_up_k _ _ hz, rfl⟩) ?_ (fun H1 locs1 hP1 hD1 hS1 => k h1 h2 H1 locs1 ls hP1 hD1 hS1 hl)
            rw [am_up_self]; rfl
          · cases hst
            intro h1 h2 H locs ls hP hD hS hl
            refine am_putf (t := 2) hX hP hD hS hs (by assumption) hf hd (Or.inr (Or.inr (Or.inl ⟨rfl, _, rfl⟩))) (fun z hz => ⟨rfl, rfl, am_up_rowb _ _ _ hz⟩) (fun z hz => ⟨rfl, rfl, am_up_k _ _ hz⟩) ?_ (fun H1 locs1 hP1 hD1 hS1 => k h1 h2 H1 locs1 ls hP1 hD1 hS1 hl)
            rw [am_up_self]; rfl
          · cases hst
            intro h1 h2 H locs ls hP hD hS hl
            refine am_putf (t := 3) hX hP hD hS hs (by assumption) hf hd (Or.inr (Or.inr (Or.inr ⟨rfl, ?_⟩))) (fun z hz => ⟨am_up_rowb _ _ _ hz, rfl, rfl⟩) (fun z hz => ⟨am_up_k _ _ hz, rfl, rfl⟩) ?_ (fun H1 locs1 hP1 hD1 hS1 => k h1 h2 H1 locs1 ls hP1 hD1 hS1 hl)
            · rcases hg with hg | hg
              · rw [hg]; exact Or.inl rfl
              · rw [hg]; exact Or.inr rfl
            · rw [am_up_self]; rfl
          · cases hst
      · cases hst
    · cases hst
  | .arraylength, hck, hst =>
    simp only [am_ck, Bool.and_eq_true, decide_eq_true_eq] at hck
    obtain ⟨hd, rfl⟩ := hck
    simp only [am_st] at hst
    split at hst
    · split at hst
      · rename_i hs
        rename_i t0 m0
        cases hst
        intro h1 h2 H locs ls hP hD hS hl
        have he := am_ws_at (cys := cys) (ad := ad) (I := I) (G := G) (P := P) hs
        match t0, he with
        | 0, he => exact va_alen hx hb hK hP _ 0 he rfl rfl hd (k h1 h2 H locs ls hP hD hS hl)
        | 1, he => exact va_alen hx hb hK hP _ 1 he rfl rfl hd (k h1 h2 H locs ls hP hD hS hl)
        | 2, he => exact va_alen hx hb hK hP _ 2 he rfl rfl hd (k h1 h2 H locs ls hP hD hS hl)
        | 3, he => exact va_alen hx hb hK hP _ 3 he rfl rfl hd (k h1 h2 H locs ls hP hD hS hl)
        | 4, he => exact va_alen hx hb hK hP _ 4 he rfl rfl hd (k h1 h2 H locs ls hP hD hS hl)
        | t0 + 5, he => exact va_alen hx hb hK hP _ 2 he rfl rfl hd (k h1 h2 H locs ls hP hD hS hl)
      · cases hst
    · cases hst
  | .iaload, hck, hst =>
    simp only [am_ck, Bool.and_eq_true, decide_eq_true_eq] at hck
    obtain ⟨hd, rfl⟩ := hck
    simp only [am_st] at hst
    split at hst
    · split at hst
      · rename_i hs
        cases hst
        intro h1 h2 H locs ls hP hD hS hl
        have he := am_ws_at (cys := cys) (ad := ad) (I := I) (G := G) (P := P) hs
        exact va_iald hx hb hK hP _ 0 he rfl hg hd (k h1 h2 H locs ls hP hD hS hl)
      · cases hst
    · cases hst
  | .baload, hck, hst =>
    simp only [am_ck, Bool.and_eq_true, decide_eq_true_eq] at hck
    obtain ⟨hd, rfl⟩ := hck
    simp only [am_st] at hst
    split at hst
    · split at hst
      · rename_i hs
        cases hst
        intro h1 h2 H locs ls hP hD hS hl
        have he := am_ws_at (cys := cys) (ad := ad) (I := I) (G := G) (P := P) hs
        exact va_zald hx hb hK hP _ 1 he rfl hg hd (k h1 h2 H locs ls hP hD hS hl)
      · rename_i hs
        cases hst
        intro h1 h2 H locs ls hP hD hS hl
        have he := am_ws_at (cys := cys) (ad := ad) (I := I) (G := G) (P := P) hs
        exact va_bald hx hb hK hP _ 4 he rfl hg hd (k h1 h2 H locs ls hP hD hS hl)
      · cases hst
    · cases hst
  | .laload, hck, hst =>
    simp only [am_ck, Bool.and_eq_true, decide_eq_true_eq] at hck
    obtain ⟨hd, rfl⟩ := hck
    simp only [am_st] at hst
    split at hst
    · split at hst
      · rename_i hs
        cases hst
        intro h1 h2 H locs ls hP hD hS hl
        have he := am_ws_at (cys := cys) (ad := ad) (I := I) (G := G) (P := P) hs
        exact va_lald hx hb hK hP _ 2 he rfl hg hd (k h1 h2 H locs ls hP hD hS hl)
      · cases hst
    · cases hst
  | .iastore, hck, hst =>
    simp only [am_ck, Bool.and_eq_true, decide_eq_true_eq] at hck
    obtain ⟨hd, rfl⟩ := hck
    simp only [am_st] at hst
    split at hst
    · split at hst
      · rename_i hs
        cases hst
        intro h1 h2 H locs ls hP hD hS hl
        have he := am_ws_at (cys := cys) (ad := ad) (I := I) (G := G) (P := P) hs
        refine va_iast hx hb hK hP hD hS _ 0 he rfl hg hd (fun H1 locs1 hP1 hD1 hS1 => ?_)
        rw [am_ws_si hs] at hP1 hD1
        exact k h1 h2 H1 locs1 ls hP1 hD1 hS1 hl
      · cases hst
    · cases hst
  | .bastore, hck, hst =>
    simp only [am_ck, Bool.and_eq_true, decide_eq_true_eq] at hck
    obtain ⟨hd, rfl⟩ := hck
    simp only [am_st] at hst
    split at hst
    · split at hst
      · rename_i hs
        cases hst
        intro h1 h2 H locs ls hP hD hS hl
        have he := am_ws_at (cys := cys) (ad := ad) (I := I) (G := G) (P := P) hs
        refine va_zast hx hb hK hP hD hS _ 1 he rfl hg.1 hd (fun H1 locs1 hP1 hD1 hS1 => ?_)
        rw [am_ws_sz hs hg.2] at hP1 hD1
        exact k h1 h2 H1 locs1 ls hP1 hD1 hS1 hl
      · rename_i hs
        cases hst
        intro h1 h2 H locs ls hP hD hS hl
        have he := am_ws_at (cys := cys) (ad := ad) (I := I) (G := G) (P := P) hs
        refine va_bast hx hb hK hP hD hS _ 4 he rfl hg.1 hd (fun H1 locs1 hP1 hD1 hS1 => ?_)
        rw [am_ws_sb hs hg.2] at hP1 hD1
        exact k h1 h2 H1 locs1 ls hP1 hD1 hS1 hl
      · cases hst
    · cases hst
  | .lastore, hck, hst =>
    simp only [am_ck, Bool.and_eq_true, decide_eq_true_eq] at hck
    obtain ⟨hd, rfl⟩ := hck
    simp only [am_st] at hst
    split at hst
    · split at hst
      · rename_i hs
        cases hst
        intro h1 h2 H locs ls hP hD hS hl
        have he := am_ws_at (cys := cys) (ad := ad) (I := I) (G := G) (P := P) hs
        refine va_last hx hb hK hP hD hS _ 2 he rfl hg hd (fun H1 locs1 hP1 hD1 hS1 => ?_)
        rw [am_ws_sl hs] at hP1 hD1
        exact k h1 h2 H1 locs1 ls hP1 hD1 hS1 hl
      · cases hst
    · cases hst
  | .invokestatic j, hck, hst =>
    simp only [am_ck, Bool.and_eq_true, decide_eq_true_eq] at hck
    obtain ⟨hd, rfl, hq⟩ := hck
    simp only [am_st] at hst
    split at hst
    · rename_i y x r hst1
      cases hbq : Nat.ble (r.map fun v => v.category).sum 8 with
      | false => rw [hbq] at hst; cases hst
      | true =>
        rw [hbq] at hst
        have hle : (r.map fun v => v.category).sum ≤ 8 := Nat.le_of_ble_eq_true hbq
        have hle2 : ((r.map (am_tv ad)).map fun v => v.category).sum ≤ 8 := by
          rw [List.map_map, show ((fun v => v.category) ∘ am_tv ad) = (fun v => v.category) from funext (am_tv_cat ad)]
          exact hle
        try simp only [cond_true] at hst
        obtain ⟨hl1, hl2⟩ := am_mm_of hq
        split at hst
        · cases hst
          intro h1 h2 H locs ls hP hD hS hl
          exact va_mmin hx hb (hml.trans hl.1.symm) hown (hts _ (hl1 rfl)) (hts _ am_w_min1) (hts _ am_w_math) (hts _ am_w_min2) hR1 (by omega) h1 h2 hd (k h1 h2 H locs ls hP hD hS hl)
        · cases hst
          intro h1 h2 H locs ls hP hD hS hl
          exact va_mmax hx hb (hml.trans hl.1.symm) hown (hts _ (hl2 rfl)) (hts _ am_w_max1) (hts _ am_w_math) (hts _ am_w_max2) hR1 (by omega) h1 h2 hd (k h1 h2 H locs ls hP hD hS hl)
        · cases hst
    · cases hst
  | .aaload, hck, hst =>
    simp only [am_ck, Bool.and_eq_true, decide_eq_true_eq] at hck
    obtain ⟨hd, rfl⟩ := hck
    simp only [am_st] at hst
    split at hst
    · split at hst
      · rename_i hs hpz
        cases hst
        intro h1 h2 H locs ls hP hD hS hl
        have he := am_ws_at (cys := cys) (ad := ad) (I := I) (G := G) (P := P) hs
        refine va_aldA hx hb hK hP _ 3 he rfl hg hd ?_
        rw [am_rw_at hg hpz]
        exact k h1 h2 H locs ls hP hD hS hl
      · cases hst
    · cases hst
  | .aastore, hck, hst => simp [am_st] at hst
  | .aconst_null, hck, hst => simp [am_st] at hst
  | .anewarray _, hck, hst => simp [am_st] at hst
  | .areturn, hck, hst => simp [am_st] at hst
  | .athrow, hck, hst => simp [am_st] at hst
  | .caload, hck, hst => simp [am_st] at hst
  | .castore, hck, hst => simp [am_st] at hst
  | .checkcast _, hck, hst => simp [am_st] at hst
  | .d2f, hck, hst => simp [am_st] at hst
  | .d2i, hck, hst => simp [am_st] at hst
  | .d2l, hck, hst => simp [am_st] at hst
  | .dadd, hck, hst => simp [am_st] at hst
  | .daload, hck, hst => simp [am_st] at hst
  | .dastore, hck, hst => simp [am_st] at hst
  | .dcmp _, hck, hst => simp [am_st] at hst
  | .dconst _, hck, hst => simp [am_st] at hst
  | .ddiv, hck, hst => simp [am_st] at hst
  | .dload _, hck, hst => simp [am_st] at hst
  | .dload_n _, hck, hst => simp [am_st] at hst
  | .dmul, hck, hst => simp [am_st] at hst
  | .dneg, hck, hst => simp [am_st] at hst
  | .drem, hck, hst => simp [am_st] at hst
  | .dreturn, hck, hst => simp [am_st] at hst
  | .dstore _, hck, hst => simp [am_st] at hst
  | .dstore_n _, hck, hst => simp [am_st] at hst
  | .dsub, hck, hst => simp [am_st] at hst
  | .dup_x1, hck, hst => simp [am_st] at hst
  | .dup_x2, hck, hst => simp [am_st] at hst
  | .dup2_x1, hck, hst => simp [am_st] at hst
  | .dup2_x2, hck, hst => simp [am_st] at hst
  | .f2d, hck, hst => simp [am_st] at hst
  | .f2i, hck, hst => simp [am_st] at hst
  | .f2l, hck, hst => simp [am_st] at hst
  | .fadd, hck, hst => simp [am_st] at hst
  | .faload, hck, hst => simp [am_st] at hst
  | .fastore, hck, hst => simp [am_st] at hst
  | .fcmp _, hck, hst => simp [am_st] at hst
  | .fconst _, hck, hst => simp [am_st] at hst
  | .fdiv, hck, hst => simp [am_st] at hst
  | .fload _, hck, hst => simp [am_st] at hst
  | .fload_n _, hck, hst => simp [am_st] at hst
  | .fmul, hck, hst => simp [am_st] at hst
  | .fneg, hck, hst => simp [am_st] at hst
  | .frem, hck, hst => simp [am_st] at hst
  | .freturn, hck, hst => simp [am_st] at hst
  | .fstore _, hck, hst => simp [am_st] at hst
  | .fstore_n _, hck, hst => simp [am_st] at hst
  | .fsub, hck, hst => simp [am_st] at hst
  | .getstatic _, hck, hst => simp [am_st] at hst
  | .goto_w _, hck, hst => simp [am_st] at hst
  | .i2b, hck, hst =>
    simp only [am_ck, Bool.and_eq_true, decide_eq_true_eq] at hck
    obtain ⟨hd, rfl⟩ := hck
    simp only [am_st] at hst
    split at hst
    · cases hst
      intro h1 h2 H locs ls hP hD hS hl
      exact lv_i2b hx hb hd rfl (k h1 h2 H locs ls hP hD hS hl)
    · cases hst
  | .i2d, hck, hst => simp [am_st] at hst
  | .i2f, hck, hst => simp [am_st] at hst
  | .i2s, hck, hst => simp [am_st] at hst
  | .if_acmp _ _, hck, hst => simp [am_st] at hst
  | .if_icmp _ _, hck, hst => simp [am_st] at hst
  | .ifCond _ _, hck, hst => simp [am_st] at hst
  | .ifnonnull _, hck, hst => simp [am_st] at hst
  | .ifnull _, hck, hst => simp [am_st] at hst
  | .instanceof _, hck, hst => simp [am_st] at hst
  | .invokedynamic _, hck, hst => simp [am_st] at hst
  | .invokeinterface _ _, hck, hst => simp [am_st] at hst
  | .invokespecial _, hck, hst => simp [am_st] at hst
  | .invokevirtual _, hck, hst => simp [am_st] at hst
  | .ireturn, hck, hst => simp [am_st] at hst
  | .ishl, hck, hst =>
    simp only [am_ck, Bool.and_eq_true, decide_eq_true_eq] at hck
    obtain ⟨hd, rfl⟩ := hck
    simp only [am_st] at hst
    split at hst
    · cases hst
      intro h1 h2 H locs ls hP hD hS hl
      exact lv_ishl hx hb hd (k h1 h2 H locs ls hP hD hS hl)
    · cases hst
  | .iushr, hck, hst => simp [am_st] at hst
  | .jsr _, hck, hst => simp [am_st] at hst
  | .jsr_w _, hck, hst => simp [am_st] at hst
  | .l2d, hck, hst => simp [am_st] at hst
  | .l2f, hck, hst => simp [am_st] at hst
  | .land, hck, hst => simp [am_st] at hst
  | .ldc _, hck, hst => simp [am_st] at hst
  | .ldc_w _, hck, hst => simp [am_st] at hst
  | .ldiv, hck, hst => simp [am_st] at hst
  | .lneg, hck, hst => simp [am_st] at hst
  | .lookupswitch _ _, hck, hst => simp [am_st] at hst
  | .lor, hck, hst => simp [am_st] at hst
  | .lreturn, hck, hst => simp [am_st] at hst
  | .lshl, hck, hst => simp [am_st] at hst
  | .lshr, hck, hst => simp [am_st] at hst
  | .lsub, hck, hst => simp [am_st] at hst
  | .lushr, hck, hst => simp [am_st] at hst
  | .monitorenter, hck, hst => simp [am_st] at hst
  | .monitorexit, hck, hst => simp [am_st] at hst
  | .multianewarray _ _, hck, hst => simp [am_st] at hst
  | .new _, hck, hst => simp [am_st] at hst
  | .newarray _, hck, hst => simp [am_st] at hst
  | .nop, hck, hst => simp [am_st] at hst
  | .pop2, hck, hst => simp [am_st] at hst
  | .putstatic _, hck, hst => simp [am_st] at hst
  | .ret _, hck, hst => simp [am_st] at hst
  | .return_, hck, hst => simp [am_st] at hst
  | .saload, hck, hst => simp [am_st] at hst
  | .sastore, hck, hst => simp [am_st] at hst
  | .swap, hck, hst => simp [am_st] at hst
  | .tableswitch _ _ _ _, hck, hst => simp [am_st] at hst
end AMT
