/-! the law's entry: what is given of classes, static rows, texts -/
def gv_T : List Cond := flatC (Jvm.Cond.and given_1 narrow_1)
theorem gv_in {k n : Nat} {cs : List Cond} (h : (gv_T.drop k).take n = cs) : ∀ c ∈ cs, c ∈ gv_T := fun c hc => List.mem_of_mem_drop (List.mem_of_mem_take (h ▸ hc))
def tx_v (q : String × Nat × String) : Term := .field (.string q.1 q.2.1) "java/lang/String" "value" "[B"
def tx_by (q : String × Nat × String) (bs : List Int32) : List Cond := [.exactly (.string q.1 q.2.1) "java/lang/String", .eq (.field (.string q.1 q.2.1) "java/lang/String" "coder" "B") (.int 0), .arrayOf (tx_v q) .byte, .eq (.length (tx_v q)) (.int (Int32.ofNat bs.length))] ++ (List.range bs.length).map (fun j => .eq (.elem (tx_v q) (.int (Int32.ofNat j))) (.int (bs.getD j 0)))
def tx_p : List Nat := [141, 267, 284, 304, 327, 352, 367, 409, 427, 445, 485, 501, 517, 533, 544, 564, 590, 608, 617, 623, 633, 643, 651, 663, 671, 679, 688, 696, 703, 711, 720, 726, 734, 741, 750, 760, 768, 775, 782, 788, 795]
def tx_w : List Nat := [151, 594, 1075, 1122, 1146, 1160, 1168, 1176, 1177, 1195, 1203, 1213, 1225, 1237, 1249, 1308, 1612, 2060, 2061, 2062, 2063, 2064, 2065, 2066, 2067, 2068, 2069, 2070, 2071, 2072, 2073, 2074, 2075, 2076, 2077, 2078, 2079, 2080, 2081, 2082, 2083]
set_option maxRecDepth 100000 in
theorem tx_ok1 : (List.range 41).all (fun i => match am_tT[i]?, tx_p[i]?, tx_w[i]? with
  | some q, some p, some w => decide (gv_T[p]? = some (.exactly (.string q.1 q.2.1) "java/lang/String")) && decide (lw_tbl[w]? = some (Cond.stringRef q.1 q.2.1 q.2.2))
  | _, _, _ => false) = true := by decide +kernel
set_option maxRecDepth 100000 in
theorem tx_ok2 : (List.range 27).all (fun k => match am_tB[k]? with
  | none => false
  | some q => Nat.blt q.2.length 1000 && Nat.beq (if q.1 < 2 then q.1 else q.1 - 14) k && match am_tT[q.1]?, tx_p[q.1]? with
    | some t, some p => decide ((gv_T.drop p).take (4 + q.2.length) = tx_by t q.2)
    | _, _ => false) = true := by decide +kernel
def sr_p : List Nat := [10, 21, 75, 86, 61, 68]
def sr_w : List Nat := [909, 911, 1861, 1863, 1808, 1810]
def sr_i : List Nat := [118, 118, 125, 125, 127, 127]
def sr_by (q : String × String × List Int32) : List Cond := [.arrayOf (.static q.1 q.2.1 "[I") .int, .eq (.length (.static q.1 q.2.1 "[I")) (.int (Int32.ofNat q.2.2.length))] ++ (List.range q.2.2.length).map (fun j => .eq (.elem (.static q.1 q.2.1 "[I") (.int (Int32.ofNat j))) (.int (q.2.2.getD j 0)))
set_option maxRecDepth 100000 in
theorem sr_ok : (List.range 6).all (fun i => match am_sT[i]?, sr_p[i]?, sr_w[i]?, sr_i[i]? with
  | some q, some p, some w, some n => Nat.blt q.2.2.length 1000 && decide ((gv_T.drop p).take (2 + q.2.2.length) = sr_by q) && decide (lw_tbl[w]? = some (Cond.laysStatic q.1 q.2.1 "[I")) && decide (lw_tbl[n]? = some (Cond.initialized q.1))
  | _, _, _, _ => false) = true := by decide +kernel
def wd_s : Term := .static "MarbledPaperModel" "WORDS" "[Ljava/lang/String;"
def wd_t (j : Nat) : Term := match am_tT[am_wP.getD j 0]? with
  | some q => .string q.1 q.2.1
  | none => .int 0
set_option maxRecDepth 100000 in
theorem wd_ok : (gv_T.drop 34).take 26 = [.arrayOf wd_s (.object "java/lang/String"), .eq (.length wd_s) (.int (Int32.ofNat 24))] ++ (List.range 24).map (fun j => .eq (.elem wd_s (.int (Int32.ofNat j))) (wd_t j)) := by decide +kernel
theorem wd_lt (j : Nat) : am_wP.getD j 0 < 41 := by
  have h1 : am_wP.all (fun n => decide (n < 41)) = true := by decide
  rw [List.getD_eq_getElem?_getD]
  cases h : am_wP[j]? with
  | none => show 0 < 41; omega
  | some n => exact of_decide_eq_true (List.all_eq_true.mp h1 n (List.mem_of_getElem? h))
set_option maxRecDepth 100000 in
theorem am_inst : (List.range 13).all (fun c => match vwCl[c]? with
  | some r => decide (Cond.instantiable r.1 r.2.2 ∈ lw_tbl)
  | none => false) = true := by decide +kernel
section ENT2
variable {args : Array Value} {s : State}
theorem am_arrK {ty : FieldType} (hne : ty = .int ∨ ty = .boolean ∨ ty = .long) (h : (Cond.arrayClass ty).before args s = true) : ∃ cA, ArrOfT s cA ty ∧ va_RA s cA ty := by
  obtain ⟨cA, kA, comp, h1, h2, h3⟩ := Cond.arrayClass_spec (idx := []) (o := none) (first := s) h
  refine ⟨cA, fun n z => ⟨(fun k h => by cases h), kA, h2, comp, h3⟩, ?_⟩
  rcases hne with rfl | rfl | rfl <;> exact h1
theorem am_K_of (hts : ∀ w ∈ lw_tbl, w.before args s = true) : ∃ (D : va_G) (cys : am_C3), va_K D vwCl (am_tys cys) s := by
  have h0 : ∀ c : Nat, ∃ q : ClassId × (Nat → Nat), ∀ r, vwCl[c]? = some r → u_Kn s r.1 r.2.1 r.2.2 q.1 q.2 := by
    intro c
    cases hc : vwCl[c]? with
    | none => exact ⟨(0, fun _ => 0), fun r h => by cases h⟩
    | some r =>
      have hlt : c < 13 := (List.getElem?_eq_some_iff.mp hc).1
      have h1 := List.all_eq_true.mp am_inst c (List.mem_range.mpr hlt)
      rw [hc] at h1
      obtain ⟨cC, iS, h⟩ := u_known (C := r.1) (T := r.2.1) (N := r.2.2) (n := r.2.2) hts (fun w hw => (List.mem_filter.mp ((am_cls c r hc).1 w hw)).1) (hts _ (of_decide_eq_true h1))
      exact ⟨(cC, iS), fun r' h' => by cases h'; exact h⟩
  obtain ⟨f, hfc⟩ := Classical.axiomOfChoice h0
  obtain ⟨c1, a1, b1⟩ := am_arrK (Or.inl rfl) (hts _ (List.mem_of_getElem? (i := 231) (by decide +kernel)))
  obtain ⟨c2, a2, b2⟩ := am_arrK (Or.inr (Or.inl rfl)) (hts _ (List.mem_of_getElem? (i := 1507) (by decide +kernel)))
  obtain ⟨c3, a3, b3⟩ := am_arrK (Or.inr (Or.inr rfl)) (hts _ (List.mem_of_getElem? (i := 232) (by decide +kernel)))
  refine ⟨(fun c => (f c).1, fun c => (f c).2), (c1, c2, c3), fun c q h => hfc c q h, fun k q h => ?_⟩
  match k, h with
  | 0, h => cases h; exact ⟨a1, b1⟩
  | 1, h => cases h; exact ⟨a2, b2⟩
  | 2, h => cases h; exact ⟨a3, b3⟩
  | n + 3, h => simp [am_tys] at h
theorem am_nst_of (hts : ∀ w ∈ lw_tbl, w.before args s = true) : am_nst s := by
  intro w hw hn
  exact va_Nw.of (by cases w <;> first | rfl | (cases hn; done)) (hts w hw)
theorem am_Zs_of (hts : ∀ w ∈ lw_tbl, w.before args s = true) (hg : (Jvm.Cond.and given_1 narrow_1).before args s = true) (b : Nat) : ∃ ad : Nat → Nat, ad 5000 = b ∧ am_Zs ad (fun q : Nat => s.heap.size ≤ q) s s.heap := by
  have hf : ∀ c ∈ gv_T, c.before args s = true := flat_of_before _ hg
  have hA : ∀ a : Nat, a < s.heap.size → ¬ (fun q : Nat => s.heap.size ≤ q) a := fun a h h2 => Nat.not_le.mpr h h2
  have hS : ∀ i : Nat, ∃ t : Nat, ∀ q, am_sT[i]? = some q → va_Z q.1 q.2.1 "[I" (.ref t) (fun q : Nat => s.heap.size ≤ q) s s.heap ∧ va_T .int t q.2.2.length (fun j => .int (q.2.2.getD j 0)) (fun q : Nat => s.heap.size ≤ q) s s.heap := by
    intro i
    cases hi : am_sT[i]? with
    | none => exact ⟨0, fun q h => by cases h⟩
    | some q =>
      have hlt : i < 6 := (List.getElem?_eq_some_iff.mp hi).1
      have h1 := List.all_eq_true.mp sr_ok i (List.mem_range.mpr hlt)
      rw [hi] at h1
      cases hp : sr_p[i]? with
      | none => rw [hp] at h1; cases h1
      | some p =>
        cases hw : sr_w[i]? with
        | none => rw [hp, hw] at h1; cases h1
        | some w =>
          cases hn : sr_i[i]? with
          | none => rw [hp, hw, hn] at h1; cases h1
          | some n =>
            rw [hp, hw, hn] at h1
            simp only [Bool.and_eq_true, decide_eq_true_eq] at h1
            obtain ⟨⟨⟨h2, h3⟩, h4⟩, h5⟩ := h1
            have hl : q.2.2.length < 1000 := by simpa using h2
            have hm := gv_in h3
            obtain ⟨t, ht, hT⟩ := va_Tof (f := fun j => .int (q.2.2.getD j 0)) (A := fun q : Nat => s.heap.size ≤ q) (N := q.2.2.length) (tm := .static q.1 q.2.1 "[I") (ty := .int) (by omega) (hf _ (hm _ (by simp [sr_by]))) (va_eqt (hf _ (hm _ (by simp [sr_by])))) (fun j hj => va_eqt (hf _ (hm _ (by
              unfold sr_by
              exact List.mem_append_right _ (List.mem_map.mpr ⟨j, List.mem_range.mpr hj, rfl⟩))))) hA
            exact ⟨t, fun q' h' => by cases h'; exact ⟨va_Zof (hts _ (List.mem_of_getElem? h4)) (hts _ (List.mem_of_getElem? h5)) ht hA, hT⟩⟩
  have hT : ∀ i : Nat, ∃ a : Nat, ∀ q, am_tT[i]? = some q → (Term.string q.1 q.2.1).eval args s none [] s = some (.ref a) ∧ va_O "java/lang/String" a (fun q : Nat => s.heap.size ≤ q) s s.heap ∧ vk_R q.1 q.2.1 q.2.2 a s := by
    intro i
    cases hi : am_tT[i]? with
    | none => exact ⟨0, fun q h => by cases h⟩
    | some q =>
      have hlt : i < 41 := (List.getElem?_eq_some_iff.mp hi).1
      have h1 := List.all_eq_true.mp tx_ok1 i (List.mem_range.mpr hlt)
      rw [hi] at h1
      cases hp : tx_p[i]? with
      | none => rw [hp] at h1; cases h1
      | some p =>
        cases hw : tx_w[i]? with
        | none => rw [hp, hw] at h1; cases h1
        | some w =>
          rw [hp, hw] at h1
          simp only [Bool.and_eq_true, decide_eq_true_eq] at h1
          obtain ⟨h2, h3⟩ := h1
          have hex := hf _ (List.mem_of_getElem? h2)
          obtain ⟨a, c, cA, kA, q1, q2, q3, q4, q5, q6, -⟩ := Cond.exactly_spec (args := args) (first := s) (o := none) (s := s) (idx := []) (t := .string q.1 q.2.1) (cls := "java/lang/String") hex
          exact ⟨a, fun q' h' => by cases h'; exact ⟨q1, va_Oof hex q1 hA, vk_R.of (hts _ (List.mem_of_getElem? h3)) q1⟩⟩
  obtain ⟨fS, hS⟩ := Classical.axiomOfChoice hS
  obtain ⟨fT, hT⟩ := Classical.axiomOfChoice hT
  have hB : ∀ k : Nat, ∃ t : Nat, ∀ q, am_tB[k]? = some q → ((if q.1 < 2 then q.1 else q.1 - 14) = k ∧ q.1 < 1000) ∧ va_O "java/lang/String" (fT q.1) (fun q : Nat => s.heap.size ≤ q) s s.heap ∧ va_OF "java/lang/String" "coder" "B" (.int 0) (fT q.1) (fun q : Nat => s.heap.size ≤ q) s s.heap ∧ va_OF "java/lang/String" "value" "[B" (.ref t) (fT q.1) (fun q : Nat => s.heap.size ≤ q) s s.heap ∧ va_T .byte t q.2.length (fun j => .int (q.2.getD j 0)) (fun q : Nat => s.heap.size ≤ q) s s.heap := by
    intro k
    cases hk : am_tB[k]? with
    | none => exact ⟨0, fun q h => by cases h⟩
    | some q =>
      have hlt : k < 27 := (List.getElem?_eq_some_iff.mp hk).1
      have h1 := List.all_eq_true.mp tx_ok2 k (List.mem_range.mpr hlt)
      rw [hk] at h1
      cases ht : am_tT[q.1]? with
      | none => simp only [ht, Bool.and_false] at h1; cases h1
      | some t =>
        cases hp : tx_p[q.1]? with
        | none => simp only [ht, hp, Bool.and_false] at h1; cases h1
        | some p =>
          simp only [ht, hp, Bool.and_eq_true, decide_eq_true_eq] at h1
          obtain ⟨⟨h2, h3⟩, h4⟩ := h1
          have hl : q.2.length < 1000 := by simpa using h2
          have hm := gv_in h4
          have h9 : q.1 < 41 := (List.getElem?_eq_some_iff.mp ht).1
          obtain ⟨e1, e2, e3⟩ := hT q.1 t ht
          obtain ⟨v, hv, hV⟩ := va_Tof (f := fun j => .int (q.2.getD j 0)) (A := fun q : Nat => s.heap.size ≤ q) (N := q.2.length) (tm := tx_v t) (ty := .byte) (by omega) (hf _ (hm _ (by simp [tx_by]))) (va_eqt (hf _ (hm _ (by simp [tx_by])))) (fun j hj => va_eqt (hf _ (hm _ (by
            unfold tx_by
            exact List.mem_append_right _ (List.mem_map.mpr ⟨j, List.mem_range.mpr hj, rfl⟩))))) hA
          exact ⟨v, fun q' h' => by
            cases h'
            exact ⟨⟨Nat.eq_of_beq_eq_true h3, by omega⟩, e2, vk_OFof e1 (va_eqt (hf _ (hm _ (by simp [tx_by])))) hA, vk_OFof e1 hv hA, hV⟩⟩
  obtain ⟨fB, hB⟩ := Classical.axiomOfChoice hB
  have hm := gv_in wd_ok
  obtain ⟨aW, hW1, hW2⟩ := va_Tof (f := fun j => .ref (fT (am_wP.getD j 0))) (A := fun q : Nat => s.heap.size ≤ q) (N := 24) (tm := wd_s) (ty := .object "java/lang/String") (by omega) (hf _ (hm _ (by simp))) (va_eqt (hf _ (hm _ (by simp)))) (fun j hj => by
    have h1 := hf _ (hm (.eq (.elem wd_s (.int (Int32.ofNat j))) (wd_t j)) (List.mem_append_right _ (List.mem_map.mpr ⟨j, List.mem_range.mpr hj, rfl⟩)))
    refine va_eqv h1 ?_
    unfold wd_t
    cases hq : am_tT[am_wP.getD j 0]? with
    | none => exact absurd (List.getElem?_eq_none_iff.mp hq) (Nat.not_le.mpr (wd_lt j))
    | some q => exact (hT _ q hq).1) hA
  refine ⟨fun j => if j = 5000 then b else if j = 1006 then aW else if j < 2000 then fS (j - 1000) else if j < 3000 then fT (j - 2000) else fB (if j - 3000 < 2 then j - 3000 else j - 3000 - 14), if_pos rfl, ?_⟩
  have eS : ∀ i, i < 6 → (fun j => if j = 5000 then b else if j = 1006 then aW else if j < 2000 then fS (j - 1000) else if j < 3000 then fT (j - 2000) else fB (if j - 3000 < 2 then j - 3000 else j - 3000 - 14)) (1000 + i) = fS i := fun i hi => by
    show (if 1000 + i = 5000 then b else if 1000 + i = 1006 then aW else if 1000 + i < 2000 then fS (1000 + i - 1000) else _) = _
    rw [if_neg (by omega), if_neg (by omega), if_pos (by omega), Nat.add_sub_cancel_left]
  have eT : ∀ i, i < 1000 → (fun j => if j = 5000 then b else if j = 1006 then aW else if j < 2000 then fS (j - 1000) else if j < 3000 then fT (j - 2000) else fB (if j - 3000 < 2 then j - 3000 else j - 3000 - 14)) (2000 + i) = fT i := fun i hi => by
    show (if 2000 + i = 5000 then b else if 2000 + i = 1006 then aW else if 2000 + i < 2000 then fS (2000 + i - 1000) else if 2000 + i < 3000 then fT (2000 + i - 2000) else _) = _
    rw [if_neg (by omega), if_neg (by omega), if_neg (by omega), if_pos (by omega), Nat.add_sub_cancel_left]
  have eB : ∀ i, i < 1000 → (fun j => if j = 5000 then b else if j = 1006 then aW else if j < 2000 then fS (j - 1000) else if j < 3000 then fT (j - 2000) else fB (if j - 3000 < 2 then j - 3000 else j - 3000 - 14)) (3000 + i) = fB (if i < 2 then i else i - 14) := fun i hi => by
    show (if 3000 + i = 5000 then b else if 3000 + i = 1006 then aW else if 3000 + i < 2000 then fS (3000 + i - 1000) else if 3000 + i < 3000 then fT (3000 + i - 2000) else fB (if 3000 + i - 3000 < 2 then 3000 + i - 3000 else 3000 + i - 3000 - 14)) = _
    rw [if_neg (by omega), if_neg (by omega), if_neg (by omega), if_neg (by omega), Nat.add_sub_cancel_left]
  have eW : (fun j => if j = 5000 then b else if j = 1006 then aW else if j < 2000 then fS (j - 1000) else if j < 3000 then fT (j - 2000) else fB (if j - 3000 < 2 then j - 3000 else j - 3000 - 14)) 1006 = aW := rfl
  generalize (fun j => if j = 5000 then b else if j = 1006 then aW else if j < 2000 then fS (j - 1000) else if j < 3000 then fT (j - 2000) else fB (if j - 3000 < 2 then j - 3000 else j - 3000 - 14)) = ad at eS eT eB eW ⊢
  refine ⟨fun i q hq => ?_, fun i q hq => ?_, fun k q hq => ?_, ?_, ?_, ?_, ?_, ?_, ?_⟩
  · rw [eS i (List.getElem?_eq_some_iff.mp hq).1]
    exact hS i q hq
  · rw [eT i (by have : i < 41 := (List.getElem?_eq_some_iff.mp hq).1; omega)]
    exact (hT i q hq).2.2
  · obtain ⟨⟨h1, h2⟩, h3, h4, h5, h6⟩ := hB k q hq
    rw [eT q.1 h2, eB q.1 h2, h1]
    exact ⟨h3, h4, h5, h6⟩
  · rw [eW]
    exact va_Zof (hts _ (List.mem_of_getElem? (i := 1609) (by decide +kernel))) (hts _ (List.mem_of_getElem? (i := 125) (by decide +kernel))) hW1 hA
  · rw [eW]
    have hfun : (fun j => Value.ref (ad (2000 + am_wP.getD j 0))) = fun j => Value.ref (fT (am_wP.getD j 0)) := by
      funext j
      rw [eT _ (by have := wd_lt j; omega)]
    rw [hfun]
    exact hW2
  · exact va_Zof (hts _ (List.mem_of_getElem? (i := 161) (by decide +kernel))) (hts _ (List.mem_of_getElem? (i := 112) (by decide +kernel))) (va_eqt (hf _ (List.mem_of_getElem? (i := 4) (by decide +kernel)))) hA
  · exact va_Zqof (hts _ (List.mem_of_getElem? (i := 177) (by decide +kernel))) (hts _ (List.mem_of_getElem? (i := 114) (by decide +kernel))) (hf _ (List.mem_of_getElem? (i := 5) (by decide +kernel))) hA
  · exact vx_Zqof (hts _ (List.mem_of_getElem? (i := 1061) (by decide +kernel))) (hts _ (List.mem_of_getElem? (i := 128) (by decide +kernel))) (hf _ (List.mem_of_getElem? (i := 31) (by decide +kernel))) hA
  · exact vx_Zqof (hts _ (List.mem_of_getElem? (i := 1063) (by decide +kernel))) (hts _ (List.mem_of_getElem? (i := 128) (by decide +kernel))) (hf _ (List.mem_of_getElem? (i := 32) (by decide +kernel))) hA
end ENT2
