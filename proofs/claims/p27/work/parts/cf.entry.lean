/-! the law's entry: what is given of classes, static rows, texts -/
def gv_T : List Cond := flatC (Jvm.Cond.and given_1 narrow_1)
theorem gv_in {k n : Nat} {cs : List Cond} (h : (gv_T.drop k).take n = cs) : ∀ c ∈ cs, c ∈ gv_T := fun c hc => List.mem_of_mem_drop (List.mem_of_mem_take (h ▸ hc))
def tx_v (q : String × Nat × String) : Term := .field (.string q.1 q.2.1) "java/lang/String" "value" "[B"
def tx_by (q : String × Nat × String) (bs : List Int32) : List Cond := [.exactly (.string q.1 q.2.1) "java/lang/String", .eq (.field (.string q.1 q.2.1) "java/lang/String" "coder" "B") (.int 0), .arrayOf (tx_v q) .byte, .eq (.length (tx_v q)) (.int (Int32.ofNat bs.length))] ++ (List.range bs.length).map (fun j => .eq (.elem (tx_v q) (.int (Int32.ofNat j))) (.int (bs.getD j 0)))
def tx_p : List Nat := [310, 436, 461, 476, 516, 532, 552, 578, 620, 643, 663, 680, 690, 698, 703, 715, 727, 737, 751, 761, 767, 777, 786, 797, 808, 818, 827, 837, 847, 855, 865, 885, 903, 907, 915, 921, 932, 937, 949, 955, 966, 978, 983, 1005, 1028, 1044, 1050, 1063, 1082, 1102, 1118, 1136, 1152]
def tx_w : List Nat := [90, 535, 717, 722, 731, 751, 832, 971, 989, 1005, 1059, 1344, 1465, 1466, 1470, 1471, 1472, 1473, 1474, 1475, 1476, 1477, 1478, 1479, 1480, 1481, 1482, 1504, 1505, 1563, 1564, 1565, 1569, 1570, 1571, 1572, 1573, 1574, 1575, 1576, 1577, 1581, 1582, 1583, 1584, 1585, 1586, 1587, 1588, 1596, 1601, 1602, 1608]
set_option maxRecDepth 100000 in
theorem tx_ok1 : (List.range 53).all (fun i => match am_tT[i]?, tx_p[i]?, tx_w[i]? with
  | some q, some p, some w => decide (gv_T[p]? = some (.exactly (.string q.1 q.2.1) "java/lang/String")) && decide (lw_tbl[w]? = some (Cond.stringRef q.1 q.2.1 q.2.2))
  | _, _, _ => false) = true := by decide +kernel
set_option maxRecDepth 100000 in
theorem tx_ok2 : (List.range 40).all (fun k => match am_tB[k]? with
  | none => false
  | some q => Nat.blt q.2.length 1000 && Nat.beq (if q.1 < 1 then q.1 else q.1 - 9) k && match am_tT[q.1]?, tx_p[q.1]? with
    | some t, some p => decide ((gv_T.drop p).take (4 + q.2.length) = tx_by t q.2)
    | _, _ => false) = true := by decide +kernel
def sr_p : List Nat := [12, 23]
def sr_w : List Nat := [605, 607]
def sr_i : List Nat := [62, 62]
def sr_by (q : String × String × List Int32) : List Cond := [.arrayOf (.static q.1 q.2.1 "[I") .int, .eq (.length (.static q.1 q.2.1 "[I")) (.int (Int32.ofNat q.2.2.length))] ++ (List.range q.2.2.length).map (fun j => .eq (.elem (.static q.1 q.2.1 "[I") (.int (Int32.ofNat j))) (.int (q.2.2.getD j 0)))
set_option maxRecDepth 100000 in
theorem sr_ok : (List.range 2).all (fun i => match am_sT[i]?, sr_p[i]?, sr_w[i]?, sr_i[i]? with
  | some q, some p, some w, some n => Nat.blt q.2.2.length 1000 && decide ((gv_T.drop p).take (2 + q.2.2.length) = sr_by q) && decide (lw_tbl[w]? = some (Cond.laysStatic q.1 q.2.1 "[I")) && decide (lw_tbl[n]? = some (Cond.initialized q.1))
  | _, _, _, _ => false) = true := by decide +kernel
def br_p : List Nat := [208, 105]
def br_w : List Nat := [1456, 1454]
def br_i : List Nat := [57, 57]
def br_by (q : String × String × List Int32) : List Cond := [.arrayOf (.static q.1 q.2.1 "[B") .byte, .eq (.length (.static q.1 q.2.1 "[B")) (.int (Int32.ofNat q.2.2.length))] ++ (List.range q.2.2.length).map (fun j => .eq (.elem (.static q.1 q.2.1 "[B") (.int (Int32.ofNat j))) (.int (q.2.2.getD j 0)))
set_option maxRecDepth 100000 in
theorem br_ok : (List.range 2).all (fun i => match am_bT[i]?, br_p[i]?, br_w[i]?, br_i[i]? with
  | some q, some p, some w, some n => Nat.blt q.2.2.length 1000 && decide ((gv_T.drop p).take (2 + q.2.2.length) = br_by q) && decide (lw_tbl[w]? = some (Cond.laysStatic q.1 q.2.1 "[B")) && decide (lw_tbl[n]? = some (Cond.initialized q.1))
  | _, _, _, _ => false) = true := by decide +kernel
def gr_s : Term := .static "MarbledPaperLaw$Sim" "GRADIENTS" "[[I"
def gr_t (i : Nat) : Term := .elem gr_s (.int (Int32.ofNat i))
def gr_p : List Nat := [37, 42, 48, 55, 63, 72, 82, 93]
set_option maxRecDepth 100000 in
theorem grd_ok : (List.range 8).all (fun i => match am_gT[i]?, gr_p[i]? with
  | some q, some p => decide ((gv_T.drop p).take 4 = [.arrayOf (gr_t i) .int, .eq (.length (gr_t i)) (.int (Int32.ofNat 2)), .eq (.elem (gr_t i) (.int (Int32.ofNat 0))) (.int (q.getD 0 0)), .eq (.elem (gr_t i) (.int (Int32.ofNat 1))) (.int (q.getD 1 0))])
  | _, _ => false) = true := by decide +kernel
set_option maxRecDepth 100000 in
theorem am_inst : (List.range 13).all (fun c => match vwCl[c]? with
  | some r => decide (Cond.instantiable r.1 r.2.2 ∈ lw_tbl)
  | none => false) = true := by decide +kernel
theorem va_T.cg8 {ty : FieldType} {t N : Nat} {f g : Nat → Value} {A : Nat → Prop} {U : State} {H : Heap} (h : va_T ty t N f A U H) (hf : ∀ j, j < N → g j = f j) : va_T ty t N g A U H := by
  obtain ⟨cell, h1, h2, h3, h4, h5, h6, h7⟩ := h
  exact ⟨cell, h1, h2, h3, h4, h5, fun j hj => by rw [hf j hj]; exact h6 j hj, h7⟩
section ENT2
variable {args : Array Value} {s : State}
theorem am_arrK {ty : FieldType} (hne : ty = .int ∨ ty = .boolean ∨ ty = .long ∨ ty = .byte) (h : (Cond.arrayClass ty).before args s = true) : ∃ cA, ArrOfT s cA ty ∧ va_RA s cA ty := by
  obtain ⟨cA, kA, comp, h1, h2, h3⟩ := Cond.arrayClass_spec (idx := []) (o := none) (first := s) h
  refine ⟨cA, fun n z => ⟨(fun k h => by cases h), kA, h2, comp, h3⟩, ?_⟩
  rcases hne with rfl | rfl | rfl | rfl <;> exact h1
theorem am_arrA (h : (Cond.arrayOver (.array .int)).before args s = true) : ∃ cA, ArrOfT s cA (.array .int) ∧ va_RA s cA (.array .int) := by
  obtain ⟨comp, c, k, h1, h2, h3, h4, h5⟩ := arrayOverA_spec h
  exact ⟨c, fun n z => ⟨(fun k h => by cases h), k, h3, comp, h4⟩, h5⟩
theorem am_K_of (hts : ∀ w ∈ lw_tbl, w.before args s = true) : ∃ (D : va_G) (cys : am_C3), va_K D vwCl (am_tys cys) s := by
  have h0 : ∀ c : Nat, ∃ q : ClassId × (Nat → Nat), ∀ r, vwCl[c]? = some r → u_Kn s r.1 r.2.1 r.2.2 q.1 q.2 := by
    intro c
    cases hc : vwCl[c]? with
    | none => exact ⟨(0, fun _ => 0), fun r h => by cases h⟩
    | some r =>
      have hlt : c < 13 := (List.getElem?_eq_some_iff.mp hc).1
      have h1 := List.all_eq_true.mp am_inst c (List.mem_range.mpr hlt)
      rw [hc] at h1
      obtain ⟨cC, iS, h⟩ := u_known (C := r.1) (T := r.2.1) (N := r.2.2) (n := r.2.2) hts (fun w hw => (List.mem_filter.mp ((am_cls c r hc).1 w hw)).1) (hts _ (of_decide_eq_true h1))
      exact ⟨(cC, iS), fun r' h' => by cases h'; exact h⟩
  obtain ⟨f, hfc⟩ := Classical.axiomOfChoice h0
  obtain ⟨c1, a1, b1⟩ := am_arrK (Or.inl rfl) (hts _ (List.mem_of_getElem? (i := 170) (by decide +kernel)))
  obtain ⟨c2, a2, b2⟩ := am_arrK (Or.inr (Or.inl rfl)) (hts _ (List.mem_of_getElem? (i := 1612) (by decide +kernel)))
  obtain ⟨c3, a3, b3⟩ := am_arrK (Or.inr (Or.inr (Or.inl rfl))) (hts _ (List.mem_of_getElem? (i := 171) (by decide +kernel)))
  obtain ⟨c4, a4, b4⟩ := am_arrA (hts _ (List.mem_of_getElem? (i := 1303) (by decide +kernel)))
  obtain ⟨c5, a5, b5⟩ := am_arrK (Or.inr (Or.inr (Or.inr rfl))) (hts _ (List.mem_of_getElem? (i := 172) (by decide +kernel)))
  refine ⟨(fun c => (f c).1, fun c => (f c).2), (c1, c2, c3, c4, c5), fun c q h => hfc c q h, fun k q h => ?_⟩
  match k, h with
  | 0, h => cases h; exact ⟨a1, b1⟩
  | 1, h => cases h; exact ⟨a2, b2⟩
  | 2, h => cases h; exact ⟨a3, b3⟩
  | 3, h => cases h; exact ⟨a4, b4⟩
  | 4, h => cases h; exact ⟨a5, b5⟩
  | n + 5, h => simp [am_tys] at h
theorem am_nst_of (hts : ∀ w ∈ lw_tbl, w.before args s = true) : am_nst s := by
  intro w hw hn
  have h := hts w hw
  cases w <;> first | exact va_Nw.of rfl h | exact h | (cases hn; done)
theorem am_Zs_of (hts : ∀ w ∈ lw_tbl, w.before args s = true) (hg : (Jvm.Cond.and given_1 narrow_1).before args s = true) (b : Nat) : ∃ ad : Nat → Nat, ad 5000 = b ∧ am_Zs ad (fun q : Nat => s.heap.size ≤ q) s s.heap := by
  have hf : ∀ c ∈ gv_T, c.before args s = true := flat_of_before _ hg
  have hA : ∀ a : Nat, a < s.heap.size → ¬ (fun q : Nat => s.heap.size ≤ q) a := fun a h h2 => Nat.not_le.mpr h h2
  have hS : ∀ i : Nat, ∃ t : Nat, ∀ q, am_sT[i]? = some q → va_Z q.1 q.2.1 "[I" (.ref t) (fun q : Nat => s.heap.size ≤ q) s s.heap ∧ va_T .int t q.2.2.length (fun j => .int (q.2.2.getD j 0)) (fun q : Nat => s.heap.size ≤ q) s s.heap := by
    intro i
    cases hi : am_sT[i]? with
    | none => exact ⟨0, fun q h => by cases h⟩
    | some q =>
      have hlt : i < 2 := (List.getElem?_eq_some_iff.mp hi).1
      have h1 := List.all_eq_true.mp sr_ok i (List.mem_range.mpr hlt)
      rw [hi] at h1
      cases hp : sr_p[i]? with
      | none => rw [hp] at h1; cases h1
      | some p =>
        cases hw : sr_w[i]? with
        | none => rw [hp, hw] at h1; cases h1
        | some w =>
          cases hn : sr_i[i]? with
          | none => rw [hp, hw, hn] at h1; cases h1
          | some n =>
            rw [hp, hw, hn] at h1
            simp only [Bool.and_eq_true, decide_eq_true_eq] at h1
            obtain ⟨⟨⟨h2, h3⟩, h4⟩, h5⟩ := h1
            have hl : q.2.2.length < 1000 := by simpa using h2
            have hm := gv_in h3
            obtain ⟨t, ht, hT⟩ := va_Tof (f := fun j => .int (q.2.2.getD j 0)) (A := fun q : Nat => s.heap.size ≤ q) (N := q.2.2.length) (tm := .static q.1 q.2.1 "[I") (ty := .int) (by omega) (hf _ (hm _ (by simp [sr_by]))) (va_eqt (hf _ (hm _ (by simp [sr_by])))) (fun j hj => va_eqt (hf _ (hm _ (by
              unfold sr_by
              exact List.mem_append_right _ (List.mem_map.mpr ⟨j, List.mem_range.mpr hj, rfl⟩))))) hA
            exact ⟨t, fun q' h' => by cases h'; exact ⟨va_Zof (hts _ (List.mem_of_getElem? h4)) (hts _ (List.mem_of_getElem? h5)) ht hA, hT⟩⟩
  have hD : ∀ i : Nat, ∃ t : Nat, ∀ q, am_bT[i]? = some q → va_Z q.1 q.2.1 "[B" (.ref t) (fun q : Nat => s.heap.size ≤ q) s s.heap ∧ va_T .byte t q.2.2.length (fun j => .int (q.2.2.getD j 0)) (fun q : Nat => s.heap.size ≤ q) s s.heap := by
    intro i
    cases hi : am_bT[i]? with
    | none => exact ⟨0, fun q h => by cases h⟩
    | some q =>
      have hlt : i < 2 := (List.getElem?_eq_some_iff.mp hi).1
      have h1 := List.all_eq_true.mp br_ok i (List.mem_range.mpr hlt)
      rw [hi] at h1
      cases hp : br_p[i]? with
      | none => rw [hp] at h1; cases h1
      | some p =>
        cases hw : br_w[i]? with
        | none => rw [hp, hw] at h1; cases h1
        | some w =>
          cases hn : br_i[i]? with
          | none => rw [hp, hw, hn] at h1; cases h1
          | some n =>
            rw [hp, hw, hn] at h1
            simp only [Bool.and_eq_true, decide_eq_true_eq] at h1
            obtain ⟨⟨⟨h2, h3⟩, h4⟩, h5⟩ := h1
            have hl : q.2.2.length < 1000 := by simpa using h2
            have hm := gv_in h3
            obtain ⟨t, ht, hT⟩ := va_Tof (f := fun j => .int (q.2.2.getD j 0)) (A := fun q : Nat => s.heap.size ≤ q) (N := q.2.2.length) (tm := .static q.1 q.2.1 "[B") (ty := .byte) (by omega) (hf _ (hm _ (by simp [br_by]))) (va_eqt (hf _ (hm _ (by simp [br_by])))) (fun j hj => va_eqt (hf _ (hm _ (by
              unfold br_by
              exact List.mem_append_right _ (List.mem_map.mpr ⟨j, List.mem_range.mpr hj, rfl⟩))))) hA
            exact ⟨t, fun q' h' => by cases h'; exact ⟨va_Zof (hts _ (List.mem_of_getElem? h4)) (hts _ (List.mem_of_getElem? h5)) ht hA, hT⟩⟩
  have hG : ∀ i : Nat, ∃ t : Nat, ∀ q, am_gT[i]? = some q → (gr_t i).eval args s none [] s = some (.ref t) ∧ va_T .int t 2 (fun j => .int (q.getD j 0)) (fun q : Nat => s.heap.size ≤ q) s s.heap := by
    intro i
    cases hi : am_gT[i]? with
    | none => exact ⟨0, fun q h => by cases h⟩
    | some q =>
      have hlt : i < 8 := (List.getElem?_eq_some_iff.mp hi).1
      have h1 := List.all_eq_true.mp grd_ok i (List.mem_range.mpr hlt)
      rw [hi] at h1
      cases hp : gr_p[i]? with
      | none => rw [hp] at h1; cases h1
      | some p =>
        rw [hp] at h1
        have h2 := of_decide_eq_true h1
        have hm := gv_in h2
        obtain ⟨t, ht, hT⟩ := va_Tof (f := fun j => .int (q.getD j 0)) (A := fun q : Nat => s.heap.size ≤ q) (N := 2) (tm := gr_t i) (ty := .int) (by omega) (hf _ (hm _ (by simp))) (va_eqt (hf _ (hm _ (by simp)))) (fun j hj => by
          match j, hj with
          | 0, _ => exact va_eqt (hf _ (hm _ (by simp)))
          | 1, _ => exact va_eqt (hf _ (hm _ (by simp)))) hA
        exact ⟨t, fun q' h' => by cases h'; exact ⟨ht, hT⟩⟩
  have hT : ∀ i : Nat, ∃ a : Nat, ∀ q, am_tT[i]? = some q → (Term.string q.1 q.2.1).eval args s none [] s = some (.ref a) ∧ va_O "java/lang/String" a (fun q : Nat => s.heap.size ≤ q) s s.heap ∧ vk_R q.1 q.2.1 q.2.2 a s := by
    intro i
    cases hi : am_tT[i]? with
    | none => exact ⟨0, fun q h => by cases h⟩
    | some q =>
      have hlt : i < 53 := (List.getElem?_eq_some_iff.mp hi).1
      have h1 := List.all_eq_true.mp tx_ok1 i (List.mem_range.mpr hlt)
      rw [hi] at h1
      cases hp : tx_p[i]? with
      | none => rw [hp] at h1; cases h1
      | some p =>
        cases hw : tx_w[i]? with
        | none => rw [hp, hw] at h1; cases h1
        | some w =>
          rw [hp, hw] at h1
          simp only [Bool.and_eq_true, decide_eq_true_eq] at h1
          obtain ⟨h2, h3⟩ := h1
          have hex := hf _ (List.mem_of_getElem? h2)
          obtain ⟨a, c, cA, kA, q1, q2, q3, q4, q5, q6, -⟩ := Cond.exactly_spec (args := args) (first := s) (o := none) (s := s) (idx := []) (t := .string q.1 q.2.1) (cls := "java/lang/String") hex
          exact ⟨a, fun q' h' => by cases h'; exact ⟨q1, va_Oof hex q1 hA, vk_R.of (hts _ (List.mem_of_getElem? h3)) q1⟩⟩
  obtain ⟨fS, hS⟩ := Classical.axiomOfChoice hS
  obtain ⟨fD, hD⟩ := Classical.axiomOfChoice hD
  obtain ⟨fG, hG⟩ := Classical.axiomOfChoice hG
  obtain ⟨fT, hT⟩ := Classical.axiomOfChoice hT
  have hB : ∀ k : Nat, ∃ t : Nat, ∀ q, am_tB[k]? = some q → ((if q.1 < 1 then q.1 else q.1 - 9) = k ∧ q.1 < 1000) ∧ va_O "java/lang/String" (fT q.1) (fun q : Nat => s.heap.size ≤ q) s s.heap ∧ va_OF "java/lang/String" "coder" "B" (.int 0) (fT q.1) (fun q : Nat => s.heap.size ≤ q) s s.heap ∧ va_OF "java/lang/String" "value" "[B" (.ref t) (fT q.1) (fun q : Nat => s.heap.size ≤ q) s s.heap ∧ va_T .byte t q.2.length (fun j => .int (q.2.getD j 0)) (fun q : Nat => s.heap.size ≤ q) s s.heap := by
    intro k
    cases hk : am_tB[k]? with
    | none => exact ⟨0, fun q h => by cases h⟩
    | some q =>
      have hlt : k < 40 := (List.getElem?_eq_some_iff.mp hk).1
      have h1 := List.all_eq_true.mp tx_ok2 k (List.mem_range.mpr hlt)
      rw [hk] at h1
      cases ht : am_tT[q.1]? with
      | none => simp only [ht, Bool.and_false] at h1; cases h1
      | some t =>
        cases hp : tx_p[q.1]? with
        | none => simp only [ht, hp, Bool.and_false] at h1; cases h1
        | some p =>
          simp only [ht, hp, Bool.and_eq_true, decide_eq_true_eq] at h1
          obtain ⟨⟨h2, h3⟩, h4⟩ := h1
          have hl : q.2.length < 1000 := by simpa using h2
          have hm := gv_in h4
          have h9 : q.1 < 53 := (List.getElem?_eq_some_iff.mp ht).1
          obtain ⟨e1, e2, e3⟩ := hT q.1 t ht
          obtain ⟨v, hv, hV⟩ := va_Tof (f := fun j => .int (q.2.getD j 0)) (A := fun q : Nat => s.heap.size ≤ q) (N := q.2.length) (tm := tx_v t) (ty := .byte) (by omega) (hf _ (hm _ (by simp [tx_by]))) (va_eqt (hf _ (hm _ (by simp [tx_by])))) (fun j hj => va_eqt (hf _ (hm _ (by
            unfold tx_by
            exact List.mem_append_right _ (List.mem_map.mpr ⟨j, List.mem_range.mpr hj, rfl⟩))))) hA
          exact ⟨v, fun q' h' => by
            cases h'
            exact ⟨⟨Nat.eq_of_beq_eq_true h3, by omega⟩, e2, vk_OFof e1 (va_eqt (hf _ (hm _ (by simp [tx_by])))) hA, vk_OFof e1 hv hA, hV⟩⟩
  obtain ⟨fB, hB⟩ := Classical.axiomOfChoice hB
  obtain ⟨aW, hW1, hW2⟩ := va_Tof (f := fun j => .ref (fG j)) (A := fun q : Nat => s.heap.size ≤ q) (N := 8) (tm := gr_s) (ty := .array .int) (by omega) (hf _ (List.mem_of_getElem? (i := 34) (by decide +kernel))) (va_eqt (hf _ (List.mem_of_getElem? (i := 35) (by decide +kernel)))) (fun j hj => by
    cases hq : am_gT[j]? with
    | none => exact absurd (List.getElem?_eq_none_iff.mp hq) (Nat.not_le.mpr hj)
    | some q => exact (hG j q hq).1) hA
  obtain ⟨ad, had⟩ : ∃ ad : Nat → Nat, ad = fun j => if j = 5000 then b else if j = 1006 then aW else if j < 1006 then fS (j - 1000) else if j < 1020 then fG (j - 1010) else if j < 2000 then fD (j - 1020) else if j < 3000 then fT (j - 2000) else fB (if j - 3000 < 1 then j - 3000 else j - 3000 - 9) := ⟨_, rfl⟩
  have eS : ∀ i, i < 6 → ad (1000 + i) = fS i := fun i hi => by
    rw [had]
    show (if 1000 + i = 5000 then b else if 1000 + i = 1006 then aW else if 1000 + i < 1006 then fS (1000 + i - 1000) else _) = _
    rw [if_neg (by omega), if_neg (by omega), if_pos (by omega), Nat.add_sub_cancel_left]
  have eG : ∀ i, i < 8 → ad (1010 + i) = fG i := fun i hi => by
    rw [had]
    show (if 1010 + i = 5000 then b else if 1010 + i = 1006 then aW else if 1010 + i < 1006 then fS (1010 + i - 1000) else if 1010 + i < 1020 then fG (1010 + i - 1010) else _) = _
    rw [if_neg (by omega), if_neg (by omega), if_neg (by omega), if_pos (by omega), Nat.add_sub_cancel_left]
  have eD : ∀ i, i < 8 → ad (1020 + i) = fD i := fun i hi => by
    rw [had]
    show (if 1020 + i = 5000 then b else if 1020 + i = 1006 then aW else if 1020 + i < 1006 then fS (1020 + i - 1000) else if 1020 + i < 1020 then fG (1020 + i - 1010) else if 1020 + i < 2000 then fD (1020 + i - 1020) else _) = _
    rw [if_neg (by omega), if_neg (by omega), if_neg (by omega), if_neg (by omega), if_pos (by omega), Nat.add_sub_cancel_left]
  have eT : ∀ i, i < 1000 → ad (2000 + i) = fT i := fun i hi => by
    rw [had]
    show (if 2000 + i = 5000 then b else if 2000 + i = 1006 then aW else if 2000 + i < 1006 then fS (2000 + i - 1000) else if 2000 + i < 1020 then fG (2000 + i - 1010) else if 2000 + i < 2000 then fD (2000 + i - 1020) else if 2000 + i < 3000 then fT (2000 + i - 2000) else _) = _
    rw [if_neg (by omega), if_neg (by omega), if_neg (by omega), if_neg (by omega), if_neg (by omega), if_pos (by omega), Nat.add_sub_cancel_left]
  have eB : ∀ i, i < 1000 → ad (3000 + i) = fB (if i < 1 then i else i - 9) := fun i hi => by
    rw [had]
    show (if 3000 + i = 5000 then b else if 3000 + i = 1006 then aW else if 3000 + i < 1006 then fS (3000 + i - 1000) else if 3000 + i < 1020 then fG (3000 + i - 1010) else if 3000 + i < 2000 then fD (3000 + i - 1020) else if 3000 + i < 3000 then fT (3000 + i - 2000) else fB (if 3000 + i - 3000 < 1 then 3000 + i - 3000 else 3000 + i - 3000 - 9)) = _
    rw [if_neg (by omega), if_neg (by omega), if_neg (by omega), if_neg (by omega), if_neg (by omega), if_neg (by omega), Nat.add_sub_cancel_left]
  have eW : ad 1006 = aW := by rw [had]; rfl
  have e5 : ad 5000 = b := by rw [had]; rfl
  clear had
  refine ⟨ad, e5, fun i q hq => ?_, fun i q hq => ?_, fun k q hq => ?_, ?_, ?_, fun i q hq => ?_, fun i q hq => ?_, ?_, ?_⟩
  · rw [eS i (by have : i < 2 := (List.getElem?_eq_some_iff.mp hq).1; omega)]
    exact hS i q hq
  · rw [eT i (by have : i < 53 := (List.getElem?_eq_some_iff.mp hq).1; omega)]
    exact (hT i q hq).2.2
  · obtain ⟨⟨h1, h2⟩, h3, h4, h5, h6⟩ := hB k q hq
    rw [eT q.1 h2, eB q.1 h2, h1]
    exact ⟨h3, h4, h5, h6⟩
  · rw [eW]
    exact va_Zof (hts _ (List.mem_of_getElem? (i := 882) (by decide +kernel))) (hts _ (List.mem_of_getElem? (i := 50) (by decide +kernel))) hW1 hA
  · rw [eW]
    refine va_T.cg8 hW2 (fun j hj => ?_)
    rw [eG j hj]
  · rw [eG i (by have : i < 8 := (List.getElem?_eq_some_iff.mp hq).1; omega)]
    exact (hG i q hq).2
  · rw [eD i (by have : i < 2 := (List.getElem?_eq_some_iff.mp hq).1; omega)]
    exact hD i q hq
  · exact va_Zof (hts _ (List.mem_of_getElem? (i := 100) (by decide +kernel))) (hts _ (List.mem_of_getElem? (i := 48) (by decide +kernel))) (va_eqt (hf _ (List.mem_of_getElem? (i := 4) (by decide +kernel)))) hA
  · exact va_Zqof (hts _ (List.mem_of_getElem? (i := 116) (by decide +kernel))) (hts _ (List.mem_of_getElem? (i := 55) (by decide +kernel))) (hf _ (List.mem_of_getElem? (i := 5) (by decide +kernel))) hA
end ENT2
