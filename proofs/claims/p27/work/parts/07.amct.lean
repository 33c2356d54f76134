/-- static rows of numbers: class, field, contents -/
def am_sT : List (String × String × List Int32) := [("MarbledPaper$Waves", "ACROSS", [3, 2, 0, -2, -3, -2, 0, 2]), ("MarbledPaper$Waves", "DOWN", [0, 2, 3, 2, 0, -2, -3, -2])]
/-- the rows of the law's own table of gradients -/
def am_gT : List (List Int32) := [[3, 0], [2, 2], [0, 3], [-2, 2], [-3, 0], [-2, -2], [0, -3], [2, -2]]
/-- static rows of bytes -/
def am_bT : List (String × String × List Int32) := [("java/lang/Integer", "DigitTens", [48, 48, 48, 48, 48, 48, 48, 48, 48, 48, 49, 49, 49, 49, 49, 49, 49, 49, 49, 49, 50, 50, 50, 50, 50, 50, 50, 50, 50, 50, 51, 51, 51, 51, 51, 51, 51, 51, 51, 51, 52, 52, 52, 52, 52, 52, 52, 52, 52, 52, 53, 53, 53, 53, 53, 53, 53, 53, 53, 53, 54, 54, 54, 54, 54, 54, 54, 54, 54, 54, 55, 55, 55, 55, 55, 55, 55, 55, 55, 55, 56, 56, 56, 56, 56, 56, 56, 56, 56, 56, 57, 57, 57, 57, 57, 57, 57, 57, 57, 57]), ("java/lang/Integer", "DigitOnes", [48, 49, 50, 51, 52, 53, 54, 55, 56, 57, 48, 49, 50, 51, 52, 53, 54, 55, 56, 57, 48, 49, 50, 51, 52, 53, 54, 55, 56, 57, 48, 49, 50, 51, 52, 53, 54, 55, 56, 57, 48, 49, 50, 51, 52, 53, 54, 55, 56, 57, 48, 49, 50, 51, 52, 53, 54, 55, 56, 57, 48, 49, 50, 51, 52, 53, 54, 55, 56, 57, 48, 49, 50, 51, 52, 53, 54, 55, 56, 57, 48, 49, 50, 51, 52, 53, 54, 55, 56, 57, 48, 49, 50, 51, 52, 53, 54, 55, 56, 57])]
/-- texts: class, entry, text -/
def am_tT : List (String × Nat × String) := [("MarbledPaper$Tape", 30, "paper by octave across down strength seed comb teeth pull ink from drift to when dip share height edge not and or min max "), ("MarbledPaper", 95, "nothing is counted so"), ("MarbledPaper", 139, "no such ink"), ("MarbledPaper", 179, "no such comb, or nothing that it has"), ("MarbledPaper", 184, "no such comb"), ("MarbledPaper", 217, "not so many dips"), ("MarbledPaper", 225, "nothing is foreseen so"), ("MarbledPaper", 147, "no such octave, or nothing that it has"), ("MarbledPaper", 73, "the tape is shorter"), ("MarbledPaper", 62, "the tape is full"), ("MarbledPaper$Tape", 85, "()[];,+-*/<>="), ("MarbledPaperLaw", 104, "paper "), ("MarbledPaperLaw", 106, " by "), ("MarbledPaperLaw", 108, ";"), ("MarbledPaperLaw", 118, "octave o"), ("MarbledPaperLaw", 120, " across "), ("MarbledPaperLaw", 122, " down "), ("MarbledPaperLaw", 124, " strength "), ("MarbledPaperLaw", 126, " seed "), ("MarbledPaperLaw", 128, ";\n"), ("MarbledPaperLaw", 130, "comb c"), ("MarbledPaperLaw", 135, " down"), ("MarbledPaperLaw", 137, " across"), ("MarbledPaperLaw", 139, " teeth "), ("MarbledPaperLaw", 141, " pull "), ("MarbledPaperLaw", 143, "ink i"), ("MarbledPaperLaw", 145, " from "), ("MarbledPaperLaw", 147, "pull c"), ("MarbledPaperLaw", 149, " to "), ("MarbledPaperLaw", 151, "seed o"), ("MarbledPaperLaw", 153, "drift across by "), ("MarbledPaperLaw", 155, "drift down by "), ("MarbledPaperLaw", 35, ""), ("MarbledPaperLaw", 48, "dip*"), ("MarbledPaperLaw", 50, "-3"), ("MarbledPaperLaw", 52, "share i"), ("MarbledPaperLaw", 60, "/"), ("MarbledPaperLaw", 62, "seed o0+"), ("MarbledPaperLaw", 64, "-8"), ("MarbledPaperLaw", 66, "height("), ("MarbledPaperLaw", 68, ",dip)/50"), ("MarbledPaperLaw", 70, "i"), ("MarbledPaperLaw", 72, " when dip-dip/3*3="), ("MarbledPaperLaw", 74, " when height(0,0)>="), ("MarbledPaperLaw", 76, " when share "), ("MarbledPaperLaw", 78, "<="), ("MarbledPaperLaw", 80, " or dip=2"), ("MarbledPaperLaw", 82, " when not edge "), ("MarbledPaperLaw", 84, " and seed o0<900"), ("MarbledPaper", 192, "no such pull"), ("MarbledPaper", 152, "no such octave"), ("MarbledPaper", 201, "no such seed"), ("MarbledPaper", 206, "too far")]
/-- the bytes of texts that methods read -/
def am_tB : List (Nat × List Int32) := [(0, [112, 97, 112, 101, 114, 32, 98, 121, 32, 111, 99, 116, 97, 118, 101, 32, 97, 99, 114, 111, 115, 115, 32, 100, 111, 119, 110, 32, 115, 116, 114, 101, 110, 103, 116, 104, 32, 115, 101, 101, 100, 32, 99, 111, 109, 98, 32, 116, 101, 101, 116, 104, 32, 112, 117, 108, 108, 32, 105, 110, 107, 32, 102, 114, 111, 109, 32, 100, 114, 105, 102, 116, 32, 116, 111, 32, 119, 104, 101, 110, 32, 100, 105, 112, 32, 115, 104, 97, 114, 101, 32, 104, 101, 105, 103, 104, 116, 32, 101, 100, 103, 101, 32, 110, 111, 116, 32, 97, 110, 100, 32, 111, 114, 32, 109, 105, 110, 32, 109, 97, 120, 32]), (10, [40, 41, 91, 93, 59, 44, 43, 45, 42, 47, 60, 62, 61]), (11, [112, 97, 112, 101, 114, 32]), (12, [32, 98, 121, 32]), (13, [59]), (14, [111, 99, 116, 97, 118, 101, 32, 111]), (15, [32, 97, 99, 114, 111, 115, 115, 32]), (16, [32, 100, 111, 119, 110, 32]), (17, [32, 115, 116, 114, 101, 110, 103, 116, 104, 32]), (18, [32, 115, 101, 101, 100, 32]), (19, [59, 10]), (20, [99, 111, 109, 98, 32, 99]), (21, [32, 100, 111, 119, 110]), (22, [32, 97, 99, 114, 111, 115, 115]), (23, [32, 116, 101, 101, 116, 104, 32]), (24, [32, 112, 117, 108, 108, 32]), (25, [105, 110, 107, 32, 105]), (26, [32, 102, 114, 111, 109, 32]), (27, [112, 117, 108, 108, 32, 99]), (28, [32, 116, 111, 32]), (29, [115, 101, 101, 100, 32, 111]), (30, [100, 114, 105, 102, 116, 32, 97, 99, 114, 111, 115, 115, 32, 98, 121, 32]), (31, [100, 114, 105, 102, 116, 32, 100, 111, 119, 110, 32, 98, 121, 32]), (32, []), (33, [100, 105, 112, 42]), (34, [45, 51]), (35, [115, 104, 97, 114, 101, 32, 105]), (36, [47]), (37, [115, 101, 101, 100, 32, 111, 48, 43]), (38, [45, 56]), (39, [104, 101, 105, 103, 104, 116, 40]), (40, [44, 100, 105, 112, 41, 47, 53, 48]), (41, [105]), (42, [32, 119, 104, 101, 110, 32, 100, 105, 112, 45, 100, 105, 112, 47, 51, 42, 51, 61]), (43, [32, 119, 104, 101, 110, 32, 104, 101, 105, 103, 104, 116, 40, 48, 44, 48, 41, 62, 61]), (44, [32, 119, 104, 101, 110, 32, 115, 104, 97, 114, 101, 32]), (45, [60, 61]), (46, [32, 111, 114, 32, 100, 105, 112, 61, 50]), (47, [32, 119, 104, 101, 110, 32, 110, 111, 116, 32, 101, 100, 103, 101, 32]), (48, [32, 97, 110, 100, 32, 115, 101, 101, 100, 32, 111, 48, 60, 57, 48, 48])]
def am_Zs (ad : Nat → Nat) (A : Nat → Prop) (U : State) (H : Heap) : Prop :=
  (∀ (i : Nat) (q : String × String × List Int32), am_sT[i]? = some q → va_Z q.1 q.2.1 "[I" (.ref (ad (1000 + i))) A U H ∧ va_T .int (ad (1000 + i)) q.2.2.length (fun j => .int (q.2.2.getD j 0)) A U H) ∧
  (∀ (i : Nat) (q : String × Nat × String), am_tT[i]? = some q → vk_R q.1 q.2.1 q.2.2 (ad (2000 + i)) U) ∧
  (∀ (k : Nat) (q : Nat × List Int32), am_tB[k]? = some q → va_O "java/lang/String" (ad (2000 + q.1)) A U H ∧ va_OF "java/lang/String" "coder" "B" (.int 0) (ad (2000 + q.1)) A U H ∧ va_OF "java/lang/String" "value" "[B" (.ref (ad (3000 + q.1))) (ad (2000 + q.1)) A U H ∧ va_T .byte (ad (3000 + q.1)) q.2.length (fun j => .int (q.2.getD j 0)) A U H) ∧
  va_Z "MarbledPaperLaw$Sim" "GRADIENTS" "[[I" (.ref (ad 1006)) A U H ∧ va_T (.array .int) (ad 1006) 8 (fun j => .ref (ad (1010 + j))) A U H ∧
  (∀ (i : Nat) (q : List Int32), am_gT[i]? = some q → va_T .int (ad (1010 + i)) 2 (fun j => .int (q.getD j 0)) A U H) ∧
  (∀ (i : Nat) (q : String × String × List Int32), am_bT[i]? = some q → va_Z q.1 q.2.1 "[B" (.ref (ad (1020 + i))) A U H ∧ va_T .byte (ad (1020 + i)) q.2.2.length (fun j => .int (q.2.2.getD j 0)) A U H) ∧
  va_Z "java/lang/String" "COMPACT_STRINGS" "Z" (.int 1) A U H ∧ va_Zq "jdk/internal/util/Preconditions" "SIOOBE_FORMATTER" "Ljava/util/function/BiFunction;" A U H
theorem am_Zs.warm {ad : Nat → Nat} {A : Nat → Prop} {s U : State} {H : Heap} (hW : s.WarmedH U.vm) (h : am_Zs ad A s H) : am_Zs ad A U H := by
  obtain ⟨h1, h2, h3, h4, h5, h6, h7, h8, h9⟩ := h
  have hv := hW.alike
  exact ⟨fun i q hq => ⟨(h1 i q hq).1.moved hv, (h1 i q hq).2.moved hv⟩, fun i q hq => vk_R.warm hW (h2 i q hq), fun k q hq => ⟨va_O.moved hv (h3 k q hq).1, va_OF.moved hv (h3 k q hq).2.1, va_OF.moved hv (h3 k q hq).2.2.1, va_T.moved hv (h3 k q hq).2.2.2⟩, h4.moved hv, h5.moved hv, fun i q hq => (h6 i q hq).moved hv, fun i q hq => ⟨(h7 i q hq).1.moved hv, (h7 i q hq).2.moved hv⟩, h8.moved hv, va_Zq.moved hv h9⟩
theorem am_Zs.kept {ad : Nat → Nat} {A : Nat → Prop} {U : State} {H H1 : Heap} (h : am_Zs ad A U H) (hq : ∀ a : Nat, a < H.size → ¬ A a → H1[a]? = H[a]?) : am_Zs ad A U H1 := by
  obtain ⟨h1, h2, h3, h4, h5, h6, h7, h8, h9⟩ := h
  exact ⟨fun i q hi => ⟨(h1 i q hi).1.kept hq, (h1 i q hi).2.kept hq⟩, h2, fun k q hk => ⟨(h3 k q hk).1.kept hq, (h3 k q hk).2.1.kept hq, (h3 k q hk).2.2.1.kept hq, (h3 k q hk).2.2.2.kept hq⟩, h4.kept hq, h5.kept hq, fun i q hi => (h6 i q hi).kept hq, fun i q hi => ⟨(h7 i q hi).1.kept hq, (h7 i q hi).2.kept hq⟩, h8.kept hq, va_Zq.kept h9 hq⟩
theorem am_Zs.narrow {ad : Nat → Nat} {A B : Nat → Prop} {U : State} {H : Heap} (h : am_Zs ad A U H) (hAB : ∀ q, B q → A q) : am_Zs ad B U H := by
  obtain ⟨h1, h2, h3, h4, h5, h6, h7, h8, h9⟩ := h
  exact ⟨fun i q hi => ⟨(h1 i q hi).1.narrow hAB, (h1 i q hi).2.narrow hAB⟩, h2, fun k q hk => ⟨(h3 k q hk).1.narrow hAB, (h3 k q hk).2.1.narrow hAB, (h3 k q hk).2.2.1.narrow hAB, (h3 k q hk).2.2.2.narrow hAB⟩, h4.narrow hAB, h5.narrow hAB, fun i q hi => (h6 i q hi).narrow hAB, fun i q hi => ⟨(h7 i q hi).1.narrow hAB, (h7 i q hi).2.narrow hAB⟩, h8.narrow hAB, va_Zq.narrow h9 hAB⟩
theorem am_Zs.adr {ad ad' : Nat → Nat} {A : Nat → Prop} {U : State} {H : Heap} (h : am_Zs ad A U H) (he : ∀ i, 1000 ≤ i → ad' i = ad i) : am_Zs ad' A U H := by
  obtain ⟨h1, h2, h3, h4, h5, h6, h7, h8, h9⟩ := h
  refine ⟨fun i q hi => ?_, fun i q hi => ?_, fun k q hk => ?_, ?_, ?_, fun i q hi => ?_, fun i q hi => ?_, h8, h9⟩
  · rw [he (1000 + i) (by omega)]; exact h1 i q hi
  · rw [he (2000 + i) (by omega)]; exact h2 i q hi
  · rw [he (2000 + q.1) (by omega), he (3000 + q.1) (by omega)]; exact h3 k q hk
  · rw [he 1006 (by omega)]; exact h4
  · rw [he 1006 (by omega), show (fun j => Value.ref (ad' (1010 + j))) = (fun j => Value.ref (ad (1010 + j))) from funext fun j => by rw [he _ (by omega)]]; exact h5
  · rw [he (1010 + i) (by omega)]; exact h6 i q hi
  · rw [he (1020 + i) (by omega)]; exact h7 i q hi
theorem am_Zs.same {ad : Nat → Nat} {A : Nat → Prop} {u U : State} {H : Heap} (hv : u.vm = U.vm) (h : am_Zs ad A u H) : am_Zs ad A U H := am_Zs.warm (by rw [← hv]; exact State.WarmedH.refl u) h
/-! contracts -/
def am_wl (y : MethodName) (cc : ByteArray) (nL : Nat) (ret : Option FieldType) : List Cond := .code y cc nL ret :: am_all
def am_rm (d mc ms : Nat) : Room := { frames := d, cells := mc, slots := ms, locals := 30 * d }
def am_nst (U : State) : Prop := ∀ w ∈ lw_tbl, am_nestW w = true → va_Nw w U
theorem ao_warm {s U : State} (hW : s.WarmedH U.vm) (h : va_Nw (.arrayOver (.array .int)) s) : va_Nw (.arrayOver (.array .int)) U := by
  have hvm := hW.alike
  obtain ⟨comp, c, k, h1, h2, h3, h4, h5⟩ := arrayOverA_spec (show (Cond.arrayOver (.array .int)).holds #[] s none s [] = true from h)
  obtain ⟨k', hk', he⟩ := hvm.2.2 _ _ h3
  have hi : (U.vm.classes.findIdx? fun (x : Class) => match x.kind with | .array component _ => component == comp | _ => false) = some c := by
    rw [hvm.findIdx?_eq _ (fun _ => rfl)]
    exact h2
  have hkind : k'.kind = .array comp (.array .int) := by rw [he]; exact h4
  have f1 : U.vm.findClass (FieldType.array .int).toString = some comp := by rw [hvm.findClass]; exact h1
  have f2 : U.vm.findClass ("[" ++ (FieldType.array .int).toString) = some c := by rw [hvm.findClass]; exact h5
  unfold va_Nw Cond.before Cond.holds
  simp only [Cond.value]
  rw [f1, Option.bind_some]
  refine (congrArg (fun o : Option Nat => (o.bind (fun c => (U.vm.classes[c]?).map fun (k : Class) => match k.kind with | .array _ ty => decide (ty = FieldType.array .int) && decide (U.vm.findClass ("[" ++ (FieldType.array .int).toString) = some c) | _ => false) == some true)) hi).trans ?_
  simp [hk', hkind, f2]
theorem ao_warmN {t : FieldType} {s U : State} (hW : s.WarmedH U.vm) (hn : am_nestW (.arrayOver t) = true) (h : va_Nw (.arrayOver t) s) : va_Nw (.arrayOver t) U := by
  cases t with
  | array t2 =>
    cases t2 with
    | int => exact ao_warm hW h
    | _ => cases hn
  | _ => cases hn
theorem am_nst.warm {s U : State} (hW : s.WarmedH U.vm) (h : am_nst s) : am_nst U := by
  intro w hw hn
  have h1 := h w hw hn
  cases w <;> first | (cases hn; done) | exact va_Nw.warmF hW h1 | exact va_Nw.warmM hW h1 | exact va_Nw.warmC hW h1 | exact va_tabs rfl (rfl : (s.setVm U.vm).vm = U.vm) (by rw [Cond.privateMethod_setVm hW.alike]; exact h1) | exact ao_warmN hW hn h1
/-- where a method begins -/
def am_Pr (D : va_G) (cys : am_C3) (ad : Nat → Nat) (sh : List am_Sh) (I : am_I) (G : am_G) (P : am_P) (sz : Nat) (U : State) : Prop :=
  U.heap.size = sz ∧ va_P D vwCl (am_ws cys ad sh I G P) U.heap ∧ va_K D vwCl (am_tys cys) U ∧ va_D (fun _ => True) (am_ws cys ad sh I G P) ∧ am_nst U ∧ am_Zs ad (va_A (am_ws cys ad sh I G P) sz) U U.heap
abbrev am_Po : Type := Option Value → am_I → am_G → am_P → Prop
def am_Qc (D : va_G) (cys : am_C3) (ad : Nat → Nat) (sh : List am_Sh) (A : Nat → Prop) (post : am_Po) : Array Value → State → Outcome → State → Prop :=
  fun _ st oc t => (∃ (r : Option Value) (I' : am_I) (G' : am_G) (P' : am_P), post r I' G' P' ∧ oc = .returned (r.map (am_tv ad)) ∧ va_P D vwCl (am_ws cys ad sh I' G' P') t.heap) ∧ va_F A st t
/-- from the cells I, G, P of the shapes sh the method returns, and leaves what post says; it makes no cell; d: how deep its calls go -/
def am_Ct (M : am_M) (d : Nat) (sh : List am_Sh) (args : List Value) (I : am_I) (G : am_G) (P : am_P) (post : am_Po) : Prop :=
  ∀ (l : Launch) (D : va_G) (cys : am_C3) (ad : Nat → Nat) (sz : Nat), Met l M.1 (am_wl M.1 M.2.1 M.2.2.1 M.2.2.2.1) (am_rm d 0 0) (va_Pc (args.map (am_tv ad)) (am_Pr D cys ad sh I G P sz)) (am_Qc D cys ad sh (va_A (am_ws cys ad sh I G P) sz) post) 0 0 (va_A (am_ws cys ad sh I G P) sz)
theorem am_Ct.mono {M : am_M} {d : Nat} {sh : List am_Sh} {args : List Value} {I : am_I} {G : am_G} {P : am_P} {post post' : am_Po} (h : am_Ct M d sh args I G P post) (hp : ∀ r I' G' P', post r I' G' P' → post' r I' G' P') : am_Ct M d sh args I G P post' := by
  intro l D cys ad sz p e ha hc hk s m a below hf happ hpre hpost
  obtain ⟨k, o, h1, h2, h3, h4⟩ := h l D cys ad sz p e ha hc hk s m a below hf happ hpre hpost
  refine ⟨k, o, h1, h2, h3, ?_⟩
  obtain ⟨⟨⟨r, I', G', P', q1, q2⟩, q3⟩, q4⟩ := h4
  exact ⟨⟨⟨r, I', G', P', hp _ _ _ _ q1, q2⟩, q3⟩, q4⟩
def am_okz (X : am_X) (ad : Nat → Nat) : Prop := am_ok X ∧ match X with
  | (_, _, _, _, s, _, _, _, _, _, A, _, _, _, _, _, _) => am_Zs ad A s s.heap
/-- own class, code, locals, constructor; what is returned; how deep -/
def am_info (X : am_X) (o : Nat) (cc : ByteArray) (nL : Nat) (ini : Bool) (ret : Option FieldType) (d : Nat) : Prop := match X with
  | (_, _, _, R, _, _, _, _, meth, _, _, _, _, o', cc', nL', ini') => o' = o ∧ cc' = cc ∧ nL' = nL ∧ ini' = ini ∧ meth.sig.returnType = ret ∧ d ≤ R.frames ∧ 30 * d ≤ R.locals
def am_Rt (X : am_X) (sh : List am_Sh) (ad : Nat → Nat) (post : am_Po) : State → Prop := match X with
  | (_, _, _, _, s, _, args, below, _, _, A, D, cys, _, _, _, _) => MQ below (am_Qc D cys ad sh A post) args s 0 0 A
theorem am_D_adr {A : Nat → Prop} {cys : am_C3} {ad : Nat → Nat} {sh : List am_Sh} {I I' : am_I} {G G' : am_G} {P P' : am_P} (h : va_D A (am_ws cys ad sh I G P)) : va_D A (am_ws cys ad sh I' G' P') := by
  have key : ∀ (k : Nat) (q : Nat × va_E), (am_ws cys ad sh I' G' P')[k]? = some q → ∃ e, (am_ws cys ad sh I G P)[k]? = some (q.1, e) := by
    intro k q hq
    simp only [am_ws, List.getElem?_mapIdx] at hq ⊢
    cases hs : sh[k]? with
    | none => rw [hs] at hq; cases hq
    | some z => rw [hs] at hq; cases hq; exact ⟨_, rfl⟩
  refine ⟨fun i j p q hi hj hpq => ?_, fun k q hk => ?_⟩
  · obtain ⟨e1, h1⟩ := key i p hi
    obtain ⟨e2, h2⟩ := key j q hj
    exact h.1 i j _ _ h1 h2 hpq
  · obtain ⟨e1, h1⟩ := key k q hk
    exact h.2 k (q.1, e1) h1
theorem am_args : ∀ (i : Nat) (vs : List Value) (ad : Nat → Nat), lv_args i (vs.map (am_tv ad)) = (lv_args i vs).map (am_tl ad)
  | _, [], _ => rfl
  | i, v :: vs, ad => by
    show (i, am_tv ad v) :: lv_args (if (am_tv ad v).category = 2 then i + 2 else i + 1) (vs.map (am_tv ad)) = _
    rw [am_tv_cat, am_args]
    rfl
theorem am_sl_len (ad : Nat → Nat) : ∀ vs : List Value, (lg_sl (vs.map (am_tv ad))).length = (lg_sl vs).length
  | [] => rfl
  | v :: vs => by
    have h := am_sl_len ad vs
    unfold lg_sl at h ⊢
    simp only [List.map_cons, List.flatMap_cons, List.length_append, am_tv_cat, h]
    split <;> rfl
/-- a method's contract out of the walk of its body -/
theorem am_of {M : am_M} {d : Nat} {sh : List am_Sh} {args : List Value} {I : am_I} {G : am_G} {P : am_P} {post : am_Po} (hy : plainName M.1.cls = true) (hcls : M.1.cls = am_own M.2.2.2.2.1) (hini : M.2.2.2.2.2.2 = true → M.1.name = "<init>") (hd : 1 ≤ d) (hargs : (lg_sl args).length ≤ M.2.2.1)
    (body : ∀ (X : am_X) (ad : Nat → Nat), am_okz X ad → am_info X M.2.2.2.2.1 M.2.1 M.2.2.1 M.2.2.2.2.2.2 M.2.2.2.1 d → am_V X 0 0 (am_Rt X sh ad post) sh ad (0, lv_args 0 args, [], I, G, P)) : am_Ct M d sh args I G P post := by
  obtain ⟨y, cc, nL, ret, o, n, ini⟩ := M
  intro l D cys ad sz
  refine Met.ofW (cc := cc) (maxL := nL) (ret := ret) hy rfl ?_
  intro p e s m a below meth c s₁ B hml hv
  obtain ⟨rfl, hsz, hP, hK, hD0, hN, hZ⟩ := hv
  have hts : ∀ w ∈ am_wl y cc nL ret, w.before _ s = true := atoms_spec (ws := am_wl y cc nL ret) B.pre
  have hown : s.vm.findClass y.cls = some m.cls := findClass_of_methodNamed B.named
  have hin : meth.name = y.name := (name_of_methodNamed B.named B.method).1
  subst hsz
  have hD := hD0.self (sz := s.heap.size)
  have hb := body (p, l, e, (headSpec (am_wl y cc nL ret) (am_rm d 0 0)).room, s, m, (args.map (am_tv ad)).toArray, below, meth, c, va_A (am_ws cys ad sh I G P) s.heap.size, D, cys, o, cc, nL, ini) ad
    ⟨⟨B.exec, B.bytes, hml, by rw [← hcls]; exact hown, fun w hw => hts w (List.mem_cons_of_mem _ hw), B.notSynchronized, hK, hN, fun q h => Or.inr h, fun h => by rw [hin]; exact hini h, hd, by show 30 ≤ 30 * d; omega⟩, hZ⟩
    ⟨rfl, rfl, rfl, rfl, B.returns, Nat.le_refl _, Nat.le_refl _⟩
  have hl := lv_entry (args.map (am_tv ad)) (n := nL) (by rw [am_sl_len]; exact hargs)
  rw [lg_entry_eq]
  rw [am_args] at hl
  exact hb (Nat.zero_le _) (Nat.zero_le _) s.heap [] _ hP hD va_S.rf hl
theorem am_st_pc {sh : List am_Sh} {it : am_It} {pc : Nat} {L : am_L} {st : List Value} {I : am_I} {G : am_G} {P : am_P} {S1 : am_S} {g : Option Prop} (h : am_st sh it (pc, L, st, I, G, P) = some (S1, g)) : S1.1 = am_nx pc it := by
  obtain ⟨i, n, a, b, v⟩ := it
  cases i <;> simp only [am_st] at h <;> first
    | (cases h; done)
    | (cases h; rfl)
    | (split at h <;> first | (cases h; rfl) | (cases h; done) | (split at h <;> first | (cases h; rfl) | (cases h; done) | (cases hb : Nat.beq _ a <;> rw [hb] at h <;> first | (cases h; done) | (simp only [cond_true] at h; split at h <;> first | (cases h; rfl) | (cases h; done)))) | (cases hb : Nat.ble _ 8 <;> rw [hb] at h <;> first | (cases h; done) | (simp only [cond_true] at h; split at h <;> first | (cases h; rfl) | (cases h; done))))
section AMB
variable {X : am_X} {o : Nat} {cc : ByteArray} {nL : Nat} {ini : Bool} {ret : Option FieldType} {d : Nat}
variable {cells slots : Nat} {Q : State → Prop} {sh : List am_Sh} {ad : Nat → Nat} {pc : Nat} {L : am_L} {st : List Value} {I : am_I} {G : am_G} {P : am_P} {post : am_Po}
/-- a block of instructions -/
theorem am_block (hX : am_okz X ad) (hi : am_info X o cc nL ini ret d) : ∀ (its : List am_It) {S S' : am_S} {g : Prop}, am_at o cc nL ini S.1 its = true → am_run sh its S = some (S', g) → g → am_V X cells slots Q sh ad S' → am_V X cells slots Q sh ad S := by
  obtain ⟨p, l, e, R, s, m, args, below, meth, c, A, D, cys, o', cc', nL', ini'⟩ := X
  obtain ⟨rfl, rfl, rfl, rfl, -, -, -⟩ := hi
  intro its
  induction its with
  | nil =>
    intro S S' g _ hr _ k
    cases hr
    exact k
  | cons it r ih =>
    intro S S' g hat hr hg k
    obtain ⟨pc, L, st, I, G, P⟩ := S
    simp only [am_at, Bool.and_eq_true] at hat
    unfold am_run at hr
    cases hs : am_st sh it (pc, L, st, I, G, P) with
    | none => rw [hs] at hr; cases hr
    | some z =>
      obtain ⟨S1, g1⟩ := z
      rw [hs] at hr
      dsimp only at hr
      cases hr2 : am_run sh r S1 with
      | none => rw [hr2] at hr; cases hr
      | some z2 =>
        obtain ⟨S2, g2⟩ := z2
        rw [hr2] at hr
        dsimp only at hr
        cases hr
        have hpc : S1.1 = am_nx pc it := am_st_pc hs
        cases g1 with
        | none => exact am_step hX.1 hat.1 hs trivial (ih (by rw [hpc]; exact hat.2) hr2 hg k)
        | some q => exact am_step hX.1 hat.1 hs hg.1 (ih (by rw [hpc]; exact hat.2) hr2 hg.2 k)

theorem am_if_eq (hX : am_okz X ad) (hi : am_info X o cc nL ini ret d) {x : Int32} {off : Int} {tgt : Nat} (hd : decode cc pc = .ok (.ifCond .eq off, 3)) (ht : (pc : Int) + off = (tgt : Int)) (kt : x = 0 → am_V X cells slots Q sh ad (tgt, L, st, I, G, P)) (kf : ¬ x = 0 → am_V X cells slots Q sh ad (pc + 3, L, st, I, G, P)) : am_V X cells slots Q sh ad (pc, L, .int x :: st, I, G, P) := by
  obtain ⟨p, l, e, R, s, m, args, below, meth, c, A, D, cys, o', cc', nL', ini'⟩ := X
  obtain ⟨rfl, rfl, rfl, rfl, -, -, -⟩ := hi
  obtain ⟨⟨hx, hb, -⟩, -⟩ := hX
  intro h1 h2 H locs ls hP hD hS hl
  exact lv_if_eq hx hb hd ht (fun q => kt q h1 h2 H locs ls hP hD hS hl) (fun q => kf q h1 h2 H locs ls hP hD hS hl)
theorem am_icmp_eq (hX : am_okz X ad) (hi : am_info X o cc nL ini ret d) {x y : Int32} {off : Int} {tgt : Nat} (hd : decode cc pc = .ok (.if_icmp .eq off, 3)) (ht : (pc : Int) + off = (tgt : Int)) (kt : x = y → am_V X cells slots Q sh ad (tgt, L, st, I, G, P)) (kf : ¬ x = y → am_V X cells slots Q sh ad (pc + 3, L, st, I, G, P)) : am_V X cells slots Q sh ad (pc, L, .int y :: .int x :: st, I, G, P) := by
  obtain ⟨p, l, e, R, s, m, args, below, meth, c, A, D, cys, o', cc', nL', ini'⟩ := X
  obtain ⟨rfl, rfl, rfl, rfl, -, -, -⟩ := hi
  obtain ⟨⟨hx, hb, -⟩, -⟩ := hX
  intro h1 h2 H locs ls hP hD hS hl
  exact lv_icmp_eq hx hb hd ht (fun q => kt q h1 h2 H locs ls hP hD hS hl) (fun q => kf q h1 h2 H locs ls hP hD hS hl)
theorem am_if_ne (hX : am_okz X ad) (hi : am_info X o cc nL ini ret d) {x : Int32} {off : Int} {tgt : Nat} (hd : decode cc pc = .ok (.ifCond .ne off, 3)) (ht : (pc : Int) + off = (tgt : Int)) (kt : ¬ x = 0 → am_V X cells slots Q sh ad (tgt, L, st, I, G, P)) (kf : x = 0 → am_V X cells slots Q sh ad (pc + 3, L, st, I, G, P)) : am_V X cells slots Q sh ad (pc, L, .int x :: st, I, G, P) := by
  obtain ⟨p, l, e, R, s, m, args, below, meth, c, A, D, cys, o', cc', nL', ini'⟩ := X
  obtain ⟨rfl, rfl, rfl, rfl, -, -, -⟩ := hi
  obtain ⟨⟨hx, hb, -⟩, -⟩ := hX
  intro h1 h2 H locs ls hP hD hS hl
  exact lv_if_ne hx hb hd ht (fun q => kt q h1 h2 H locs ls hP hD hS hl) (fun q => kf q h1 h2 H locs ls hP hD hS hl)
theorem am_icmp_ne (hX : am_okz X ad) (hi : am_info X o cc nL ini ret d) {x y : Int32} {off : Int} {tgt : Nat} (hd : decode cc pc = .ok (.if_icmp .ne off, 3)) (ht : (pc : Int) + off = (tgt : Int)) (kt : ¬ x = y → am_V X cells slots Q sh ad (tgt, L, st, I, G, P)) (kf : x = y → am_V X cells slots Q sh ad (pc + 3, L, st, I, G, P)) : am_V X cells slots Q sh ad (pc, L, .int y :: .int x :: st, I, G, P) := by
  obtain ⟨p, l, e, R, s, m, args, below, meth, c, A, D, cys, o', cc', nL', ini'⟩ := X
  obtain ⟨rfl, rfl, rfl, rfl, -, -, -⟩ := hi
  obtain ⟨⟨hx, hb, -⟩, -⟩ := hX
  intro h1 h2 H locs ls hP hD hS hl
  exact lv_icmp_ne hx hb hd ht (fun q => kt q h1 h2 H locs ls hP hD hS hl) (fun q => kf q h1 h2 H locs ls hP hD hS hl)
theorem am_if_lt (hX : am_okz X ad) (hi : am_info X o cc nL ini ret d) {x : Int32} {off : Int} {tgt : Nat} (hd : decode cc pc = .ok (.ifCond .lt off, 3)) (ht : (pc : Int) + off = (tgt : Int)) (kt : x < 0 → am_V X cells slots Q sh ad (tgt, L, st, I, G, P)) (kf : ¬ x < 0 → am_V X cells slots Q sh ad (pc + 3, L, st, I, G, P)) : am_V X cells slots Q sh ad (pc, L, .int x :: st, I, G, P) := by
  obtain ⟨p, l, e, R, s, m, args, below, meth, c, A, D, cys, o', cc', nL', ini'⟩ := X
  obtain ⟨rfl, rfl, rfl, rfl, -, -, -⟩ := hi
  obtain ⟨⟨hx, hb, -⟩, -⟩ := hX
  intro h1 h2 H locs ls hP hD hS hl
  exact lv_if_lt hx hb hd ht (fun q => kt q h1 h2 H locs ls hP hD hS hl) (fun q => kf q h1 h2 H locs ls hP hD hS hl)
theorem am_icmp_lt (hX : am_okz X ad) (hi : am_info X o cc nL ini ret d) {x y : Int32} {off : Int} {tgt : Nat} (hd : decode cc pc = .ok (.if_icmp .lt off, 3)) (ht : (pc : Int) + off = (tgt : Int)) (kt : x < y → am_V X cells slots Q sh ad (tgt, L, st, I, G, P)) (kf : ¬ x < y → am_V X cells slots Q sh ad (pc + 3, L, st, I, G, P)) : am_V X cells slots Q sh ad (pc, L, .int y :: .int x :: st, I, G, P) := by
  obtain ⟨p, l, e, R, s, m, args, below, meth, c, A, D, cys, o', cc', nL', ini'⟩ := X
  obtain ⟨rfl, rfl, rfl, rfl, -, -, -⟩ := hi
  obtain ⟨⟨hx, hb, -⟩, -⟩ := hX
  intro h1 h2 H locs ls hP hD hS hl
  exact lv_icmp_lt hx hb hd ht (fun q => kt q h1 h2 H locs ls hP hD hS hl) (fun q => kf q h1 h2 H locs ls hP hD hS hl)
theorem am_if_ge (hX : am_okz X ad) (hi : am_info X o cc nL ini ret d) {x : Int32} {off : Int} {tgt : Nat} (hd : decode cc pc = .ok (.ifCond .ge off, 3)) (ht : (pc : Int) + off = (tgt : Int)) (kt : 0 ≤ x → am_V X cells slots Q sh ad (tgt, L, st, I, G, P)) (kf : ¬ 0 ≤ x → am_V X cells slots Q sh ad (pc + 3, L, st, I, G, P)) : am_V X cells slots Q sh ad (pc, L, .int x :: st, I, G, P) := by
  obtain ⟨p, l, e, R, s, m, args, below, meth, c, A, D, cys, o', cc', nL', ini'⟩ := X
  obtain ⟨rfl, rfl, rfl, rfl, -, -, -⟩ := hi
  obtain ⟨⟨hx, hb, -⟩, -⟩ := hX
  intro h1 h2 H locs ls hP hD hS hl
  exact lv_if_ge hx hb hd ht (fun q => kt q h1 h2 H locs ls hP hD hS hl) (fun q => kf q h1 h2 H locs ls hP hD hS hl)
theorem am_icmp_ge (hX : am_okz X ad) (hi : am_info X o cc nL ini ret d) {x y : Int32} {off : Int} {tgt : Nat} (hd : decode cc pc = .ok (.if_icmp .ge off, 3)) (ht : (pc : Int) + off = (tgt : Int)) (kt : y ≤ x → am_V X cells slots Q sh ad (tgt, L, st, I, G, P)) (kf : ¬ y ≤ x → am_V X cells slots Q sh ad (pc + 3, L, st, I, G, P)) : am_V X cells slots Q sh ad (pc, L, .int y :: .int x :: st, I, G, P) := by
  obtain ⟨p, l, e, R, s, m, args, below, meth, c, A, D, cys, o', cc', nL', ini'⟩ := X
  obtain ⟨rfl, rfl, rfl, rfl, -, -, -⟩ := hi
  obtain ⟨⟨hx, hb, -⟩, -⟩ := hX
  intro h1 h2 H locs ls hP hD hS hl
  exact lv_icmp_ge hx hb hd ht (fun q => kt q h1 h2 H locs ls hP hD hS hl) (fun q => kf q h1 h2 H locs ls hP hD hS hl)
theorem am_if_gt (hX : am_okz X ad) (hi : am_info X o cc nL ini ret d) {x : Int32} {off : Int} {tgt : Nat} (hd : decode cc pc = .ok (.ifCond .gt off, 3)) (ht : (pc : Int) + off = (tgt : Int)) (kt : 0 < x → am_V X cells slots Q sh ad (tgt, L, st, I, G, P)) (kf : ¬ 0 < x → am_V X cells slots Q sh ad (pc + 3, L, st, I, G, P)) : am_V X cells slots Q sh ad (pc, L, .int x :: st, I, G, P) := by
  obtain ⟨p, l, e, R, s, m, args, below, meth, c, A, D, cys, o', cc', nL', ini'⟩ := X
  obtain ⟨rfl, rfl, rfl, rfl, -, -, -⟩ := hi
  obtain ⟨⟨hx, hb, -⟩, -⟩ := hX
  intro h1 h2 H locs ls hP hD hS hl
  exact lv_if_gt hx hb hd ht (fun q => kt q h1 h2 H locs ls hP hD hS hl) (fun q => kf q h1 h2 H locs ls hP hD hS hl)
theorem am_icmp_gt (hX : am_okz X ad) (hi : am_info X o cc nL ini ret d) {x y : Int32} {off : Int} {tgt : Nat} (hd : decode cc pc = .ok (.if_icmp .gt off, 3)) (ht : (pc : Int) + off = (tgt : Int)) (kt : y < x → am_V X cells slots Q sh ad (tgt, L, st, I, G, P)) (kf : ¬ y < x → am_V X cells slots Q sh ad (pc + 3, L, st, I, G, P)) : am_V X cells slots Q sh ad (pc, L, .int y :: .int x :: st, I, G, P) := by
  obtain ⟨p, l, e, R, s, m, args, below, meth, c, A, D, cys, o', cc', nL', ini'⟩ := X
  obtain ⟨rfl, rfl, rfl, rfl, -, -, -⟩ := hi
  obtain ⟨⟨hx, hb, -⟩, -⟩ := hX
  intro h1 h2 H locs ls hP hD hS hl
  exact lv_icmp_gt hx hb hd ht (fun q => kt q h1 h2 H locs ls hP hD hS hl) (fun q => kf q h1 h2 H locs ls hP hD hS hl)
theorem am_if_le (hX : am_okz X ad) (hi : am_info X o cc nL ini ret d) {x : Int32} {off : Int} {tgt : Nat} (hd : decode cc pc = .ok (.ifCond .le off, 3)) (ht : (pc : Int) + off = (tgt : Int)) (kt : x ≤ 0 → am_V X cells slots Q sh ad (tgt, L, st, I, G, P)) (kf : ¬ x ≤ 0 → am_V X cells slots Q sh ad (pc + 3, L, st, I, G, P)) : am_V X cells slots Q sh ad (pc, L, .int x :: st, I, G, P) := by
  obtain ⟨p, l, e, R, s, m, args, below, meth, c, A, D, cys, o', cc', nL', ini'⟩ := X
  obtain ⟨rfl, rfl, rfl, rfl, -, -, -⟩ := hi
  obtain ⟨⟨hx, hb, -⟩, -⟩ := hX
  intro h1 h2 H locs ls hP hD hS hl
  exact lv_if_le hx hb hd ht (fun q => kt q h1 h2 H locs ls hP hD hS hl) (fun q => kf q h1 h2 H locs ls hP hD hS hl)
theorem am_icmp_le (hX : am_okz X ad) (hi : am_info X o cc nL ini ret d) {x y : Int32} {off : Int} {tgt : Nat} (hd : decode cc pc = .ok (.if_icmp .le off, 3)) (ht : (pc : Int) + off = (tgt : Int)) (kt : x ≤ y → am_V X cells slots Q sh ad (tgt, L, st, I, G, P)) (kf : ¬ x ≤ y → am_V X cells slots Q sh ad (pc + 3, L, st, I, G, P)) : am_V X cells slots Q sh ad (pc, L, .int y :: .int x :: st, I, G, P) := by
  obtain ⟨p, l, e, R, s, m, args, below, meth, c, A, D, cys, o', cc', nL', ini'⟩ := X
  obtain ⟨rfl, rfl, rfl, rfl, -, -, -⟩ := hi
  obtain ⟨⟨hx, hb, -⟩, -⟩ := hX
  intro h1 h2 H locs ls hP hD hS hl
  exact lv_icmp_le hx hb hd ht (fun q => kt q h1 h2 H locs ls hP hD hS hl) (fun q => kf q h1 h2 H locs ls hP hD hS hl)
/-- the end -/
theorem am_iret (hX : am_okz X ad) (hi : am_info X o cc nL ini ret d) {v : Int32} {ty : FieldType} (hr : ret = some ty) (hn : narrow ty (.int v) = .int v) (hd : decode cc pc = .ok (.ireturn, 1)) (hp : post (some (.int v)) I G P) : am_V X 0 0 (am_Rt X sh ad post) sh ad (pc, L, [.int v], I, G, P) := by
  obtain ⟨p, l, e, R, s, m, args, below, meth, c, A, D, cys, o', cc', nL', ini'⟩ := X
  obtain ⟨rfl, rfl, rfl, rfl, hret, -, -⟩ := hi
  obtain ⟨⟨hx, hb, -, -, -, hlocks, -⟩, -⟩ := hX
  intro h1 h2 H locs ls hP hD hS hl
  exact W.zret hx hb (hret.trans hr) hn (fun t ht _ => ⟨⟨_, I, G, P, hp, rfl, by rw [ht]; exact hP⟩, hS.F ht⟩) hS.2.2 hd hlocks
theorem am_lret (hX : am_okz X ad) (hi : am_info X o cc nL ini ret d) {v : Int64} (hr : ret = some .long) (hd : decode cc pc = .ok (.lreturn, 1)) (hp : post (some (.long v)) I G P) : am_V X 0 0 (am_Rt X sh ad post) sh ad (pc, L, [.long v], I, G, P) := by
  obtain ⟨p, l, e, R, s, m, args, below, meth, c, A, D, cys, o', cc', nL', ini'⟩ := X
  obtain ⟨rfl, rfl, rfl, rfl, hret, -, -⟩ := hi
  obtain ⟨⟨hx, hb, -, -, -, hlocks, -⟩, -⟩ := hX
  intro h1 h2 H locs ls hP hD hS hl
  exact W.lret hx hb (hret.trans hr) (fun t ht _ => ⟨⟨_, I, G, P, hp, rfl, by rw [ht]; exact hP⟩, hS.F ht⟩) hS.2.2 hd hlocks
theorem am_aret (hX : am_okz X ad) (hi : am_info X o cc nL ini ret d) {a : Nat} {C : String} (hr : ret = some (.object C)) (hd : decode cc pc = .ok (.areturn, 1)) (hp : post (some (.ref a)) I G P) : am_V X 0 0 (am_Rt X sh ad post) sh ad (pc, L, [.ref a], I, G, P) := by
  obtain ⟨p, l, e, R, s, m, args, below, meth, c, A, D, cys, o', cc', nL', ini'⟩ := X
  obtain ⟨rfl, rfl, rfl, rfl, hret, -, -⟩ := hi
  obtain ⟨⟨hx, hb, -, -, -, hlocks, -⟩, -⟩ := hX
  intro h1 h2 H locs ls hP hD hS hl
  exact W.aret hx hb (hret.trans hr) (Or.inl ⟨C, rfl⟩) (Or.inr ⟨_, rfl⟩) (fun t ht _ => ⟨⟨some (.ref a), I, G, P, hp, rfl, by rw [ht]; exact hP⟩, hS.F ht⟩) hS.2.2 hd hlocks
theorem am_vret (hX : am_okz X ad) (hi : am_info X o cc nL ini ret d) (hr : ret = none) (hd : decode cc pc = .ok (.return_, 1)) (hp : post none I G P) : am_V X 0 0 (am_Rt X sh ad post) sh ad (pc, L, [], I, G, P) := by
  obtain ⟨p, l, e, R, s, m, args, below, meth, c, A, D, cys, o', cc', nL', ini'⟩ := X
  obtain ⟨rfl, rfl, rfl, rfl, hret, -, -⟩ := hi
  obtain ⟨⟨hx, hb, -, -, -, hlocks, -⟩, -⟩ := hX
  intro h1 h2 H locs ls hP hD hS hl
  exact W.vret hx hb (hret.trans hr) (fun t ht _ => ⟨⟨none, I, G, P, hp, rfl, by rw [ht]; exact hP⟩, hS.F ht⟩) hS.2.2 hd hlocks
/-- fewer known locals -/
theorem am_sub {L' : am_L} (h : ∀ q ∈ L', q ∈ L) (k : am_V X cells slots Q sh ad (pc, L', st, I, G, P)) : am_V X cells slots Q sh ad (pc, L, st, I, G, P) := by
  obtain ⟨p, l, e, R, s, m, args, below, meth, c, A, D, cys, o', cc', nL', ini'⟩ := X
  intro h1 h2 H locs ls hP hD hS hl
  refine k h1 h2 H locs ls hP hD hS (am_has_sub hl fun q hq => ?_)
  obtain ⟨q0, h0, rfl⟩ := List.mem_map.mp hq
  exact List.mem_map_of_mem (h q0 h0)

end AMB
