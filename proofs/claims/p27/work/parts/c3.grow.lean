/-! rows that grow in list's loops: own rows and outer rows behind a fixed part -/
theorem ref_ne {a b : Nat} (h : a ≠ b) : (Value.ref a : Value) ≠ .ref b := fun z => h (Value.ref.inj z)
/-- the fixed part (sh0, I0, P0), but for the text (0, 1) and the Sim's reference at place pl (2) -/
def gF (sh0 : List am_Sh) (I0 : am_I) (P0 : am_P) (pl : Nat) (sh : List am_Sh) (I : am_I) (P : am_P) : Prop :=
  (∀ k, k < sh0.length → k ≠ 1 → sh[k]? = sh0[k]?) ∧ (∀ k, k < sh0.length → k ≠ 0 → k ≠ 1 → I k = I0 k) ∧ (∀ k, k < sh0.length → k ≠ 2 → P k = P0 k) ∧ ∀ j, j ≠ pl → P 2 j = P0 2 j
/-- the number of the outer row after i turns -/
def gN (L out0 i : Nat) : Nat := if i = 0 then out0 else L + 2 * i - 1
/-- after i turns: rows of w numbers V k j, the text T -/
def gI (sh0 : List am_Sh) (I0 : am_I) (P0 : am_P) (pl out0 w : Nat) (V : Nat → Nat → Nat) (i m : Nat) (T : List Nat) (sh : List am_Sh) (I : am_I) (P : am_P) : Prop :=
  gF sh0 I0 P0 pl sh I P ∧ sh.length = sh0.length + 2 * i ∧ sh[2]? = some (.inl 12) ∧ sh[gN sh0.length out0 i]? = some (.inr (3, i)) ∧ P 2 pl = .ref (gN sh0.length out0 i) ∧
  (∀ k, k < i → sh[sh0.length + 2 * k]? = some (.inr (0, w)) ∧ P (gN sh0.length out0 i) k = .ref (sh0.length + 2 * k) ∧ ∀ j, j < w → I (sh0.length + 2 * k) j = Int32.ofNat (V k j)) ∧
  sB sh I P 0 1 m T ∧ lR sh.length sh P ∧ lV 1 0 sh P
/-- between: the own row is made, and stands last -/
def gJ (sh0 : List am_Sh) (I0 : am_I) (P0 : am_P) (pl out0 w : Nat) (V : Nat → Nat → Nat) (i m : Nat) (T : List Nat) (sh : List am_Sh) (I : am_I) (P : am_P) : Prop :=
  gF sh0 I0 P0 pl sh I P ∧ sh.length = sh0.length + 2 * i + 1 ∧ sh[2]? = some (.inl 12) ∧ sh[gN sh0.length out0 i]? = some (.inr (3, i)) ∧ P 2 pl = .ref (gN sh0.length out0 i) ∧
  (∀ k, k < i + 1 → sh[sh0.length + 2 * k]? = some (.inr (0, w)) ∧ (k < i → P (gN sh0.length out0 i) k = .ref (sh0.length + 2 * k)) ∧ ∀ j, j < w → I (sh0.length + 2 * k) j = Int32.ofNat (V k j)) ∧
  sB sh I P 0 1 m T ∧ lR sh.length sh P ∧ lV 1 0 sh P
section AMGR
variable {sh0 sh : List am_Sh} {I0 I : am_I} {P0 P : am_P} {pl out0 w i m m1 : Nat} {V : Nat → Nat → Nat} {T T1 : List Nat}
/-- an append changes the cells 0 and 1 alone -/
theorem gF.text {I1 : am_I} {x : am_Sh} (h : gF sh0 I0 P0 pl sh I P) (hI : ∀ k, k ≠ 0 → k ≠ 1 → I1 k = I k) : gF sh0 I0 P0 pl (sh.set 1 x) I1 P :=
  ⟨fun k hk h1 => (set_ne h1).trans (h.1 k hk h1), fun k hk h0 h1 => (hI k h0 h1).trans (h.2.1 k hk h0 h1), h.2.2⟩
theorem gJ.text {I1 : am_I} (h : gJ sh0 I0 P0 pl out0 w V i m T sh I P) (h7 : 7 ≤ sh0.length) (hI : ∀ k, k ≠ 0 → k ≠ 1 → I1 k = I k) (hB : sB (sh.set 1 (.inr (4, m1))) I1 P 0 1 m1 T1) (ho : out0 ≠ 1) : gJ sh0 I0 P0 pl out0 w V i m1 T1 (sh.set 1 (.inr (4, m1))) I1 P := by
  obtain ⟨a1, a2, a3, a4, a5, a6, a7, a8, a9⟩ := h
  have hv := a7.2.1
  have hg : gN sh0.length out0 i ≠ 1 := by unfold gN; split <;> omega
  refine ⟨a1.text hI, by rw [List.length_set]; exact a2, by rw [set_ne (by decide)]; exact a3, by rw [set_ne hg]; exact a4, a5, fun k hk => ?_, hB, by rw [List.length_set]; exact a8.set hv, a9.set hv⟩
  obtain ⟨b1, b2, b3⟩ := a6 k hk
  exact ⟨by rw [set_ne (by omega)]; exact b1, b2, fun j hj => by rw [hI _ (by omega) (by omega)]; exact b3 j hj⟩
/-- the own row is made -/
theorem gI.own {f : Nat → Int32} (h : gI sh0 I0 P0 pl out0 w V i m T sh I P) (h7 : 7 ≤ sh0.length) (hf : ∀ j, j < w → f j = Int32.ofNat (V i j)) : gJ sh0 I0 P0 pl out0 w V i m T (sh ++ [.inr (0, w)]) (am_row I sh.length f) P := by
  obtain ⟨⟨c1, c2, c3, c4⟩, a2, a3, a4, a5, a6, a7, a8, a9⟩ := h
  obtain ⟨s1, s2, s3, s4, s5, s6, s7, s8, s9, s10⟩ := a7
  refine ⟨⟨fun k hk h1 => ?_, fun k hk h0 h1 => ?_, c3, c4⟩, ?_, am_at_app a3, am_at_app a4, a5, fun k hk => ?_, ⟨am_at_app s1, am_at_app s2, s3, ?_, ?_, s6, s7, s8, ?_, ?_⟩, ?_, ?_⟩
  · rw [List.getElem?_append_left (by omega)]; exact c1 k hk h1
  · rw [am_row_ne _ _ (by omega)]; exact c2 k hk h0 h1
  · rw [len_a]; omega
  · by_cases e : k = i
    · subst e
      refine ⟨?_, fun z => absurd z (Nat.lt_irrefl _), fun j hj => ?_⟩
      · rw [← a2]; exact am_at_end
      · rw [← a2, am_row_self]; exact hf j hj
    · obtain ⟨b1, b2, b3⟩ := a6 k (by omega)
      exact ⟨am_at_app b1, fun _ => b2, fun j hj => by rw [am_row_ne _ _ (by omega)]; exact b3 j hj⟩
  · rw [am_row_ne _ _ (by omega)]; exact s4
  · rw [am_row_ne _ _ (by omega)]; exact s5
  · rw [am_row_ne _ _ (by omega)]; exact s9
  · rw [am_row_ne _ _ (by omega)]; exact s10
  · exact (a8.le (by rw [len_a]; omega)).row (by decide)
  · refine ⟨fun k c j h1 h2 h3 => ?_, fun k n j h1 h2 => ?_⟩
    · rcases am_snoc_at h1 with h4 | ⟨-, h4⟩
      · exact a9.1 k c j h4 h2 h3
      · cases h4
    · rcases am_snoc_at h1 with h4 | ⟨-, h4⟩
      · exact a9.2 k n j h4 h2
      · cases h4
/-- the outer row is made anew, and said by the Sim -/
theorem gJ.next {w9 : Nat → Value} (h : gJ sh0 I0 P0 pl out0 w V i m T sh I P) (h7 : 7 ≤ sh0.length) (ho : out0 < sh0.length ∧ out0 ≠ 1) (hpl : pl < 6 ∧ 2 ≤ pl) (hw : ∀ j, w9 j = if j = i then .ref (sh0.length + 2 * i) else if j < i then P (gN sh0.length out0 i) j else .null) : gI sh0 I0 P0 pl out0 w V (i + 1) m T (sh ++ [.inr (3, i + 1)]) I (am_up (rowP P sh.length w9) 2 pl (.ref sh.length)) := by
  obtain ⟨⟨c1, c2, c3, c4⟩, a2, a3, a4, a5, a6, a7, a8, a9⟩ := h
  obtain ⟨s1, s2, s3, s4, s5, s6, s7, s8, s9, s10⟩ := a7
  have hN : gN sh0.length out0 (i + 1) = sh.length := by unfold gN; rw [if_neg (by omega)]; omega
  have hPn : ∀ k, k ≠ 2 → k ≠ sh.length → am_up (rowP P sh.length w9) 2 pl (.ref sh.length) k = P k := fun k h1 h2 => by rw [am_up_rowb _ _ _ h1, rowP_ne _ _ h2]
  have hPs : am_up (rowP P sh.length w9) 2 pl (.ref sh.length) sh.length = w9 := by rw [am_up_rowb _ _ _ (by omega), rowP_self]
  have hP2 : ∀ j, j ≠ pl → am_up (rowP P sh.length w9) 2 pl (.ref sh.length) 2 j = P 2 j := fun j hj => by rw [am_up_k _ _ hj, rowP_ne _ _ (by omega)]
  have hw9 : ∀ j, am_kr sh.length (w9 j) ∧ w9 j ≠ .ref 1 := fun j => by
    rw [hw j]
    by_cases e : j = i
    · rw [if_pos e]; exact ⟨Or.inl (by omega), ref_ne (by omega)⟩
    · rw [if_neg e]
      by_cases e2 : j < i
      · rw [if_pos e2, (a6 j (by omega)).2.1 e2]; exact ⟨Or.inl (by omega), ref_ne (by omega)⟩
      · rw [if_neg e2]; exact ⟨trivial, fun z => by cases z⟩
  refine ⟨⟨fun k hk h1 => ?_, c2, fun k hk h2 => ?_, fun j hj => ?_⟩, ?_, am_at_app a3, ?_, ?_, fun k hk => ?_, ⟨am_at_app s1, am_at_app s2, ?_, s4, s5, s6, s7, s8, s9, s10⟩, ?_, ?_⟩
  · rw [List.getElem?_append_left (by omega)]; exact c1 k hk h1
  · rw [hPn k h2 (by omega)]; exact c3 k hk h2
  · rw [hP2 j hj]; exact c4 j hj
  · rw [len_a]; omega
  · rw [hN]; exact am_at_end
  · rw [hN]; exact am_up_self _ _ _ _
  · obtain ⟨b1, b2, b3⟩ := a6 k hk
    refine ⟨am_at_app b1, ?_, b3⟩
    rw [hN, hPs, hw k]
    by_cases e : k = i
    · rw [if_pos e, e]
    · rw [if_neg e, if_pos (by omega)]; exact b2 (by omega)
  · rw [hPn 0 (by decide) (by omega)]; exact s3
  · refine ⟨fun b c j h1 h2 => ?_, fun b n j h1 h2 => ?_⟩
    · rcases am_snoc_at h1 with h4 | ⟨-, h4⟩
      · have hb := am_at_lt h4
        by_cases e : b = 2
        · subst e
          by_cases e2 : j = pl
          · subst e2; rw [am_up_self]; exact Or.inl (by rw [len_a]; omega)
          · rw [hP2 j e2]; exact (a8.1 2 c j h4 h2).le (by rw [len_a]; omega)
        · rw [hPn b e (by omega)]; exact (a8.1 b c j h4 h2).le (by rw [len_a]; omega)
      · cases h4
    · rcases am_snoc_at h1 with h4 | ⟨e, h4⟩
      · have hb := am_at_lt h4
        have e : b ≠ 2 := fun e => by subst e; rw [a3] at h4; cases h4
        rw [hPn b e (by omega)]; exact (a8.2 b n j h4 h2).le (by rw [len_a]; omega)
      · subst e; rw [hPs]; exact (hw9 j).1.le (by rw [len_a]; omega)
  · refine ⟨fun b c j h1 h2 h3 => ?_, fun b n j h1 h2 => ?_⟩
    · rcases am_snoc_at h1 with h4 | ⟨-, h4⟩
      · have hb := am_at_lt h4
        by_cases e : b = 2
        · subst e
          by_cases e2 : j = pl
          · subst e2; rw [am_up_self]; exact ref_ne (by omega)
          · rw [hP2 j e2]; exact a9.1 2 c j h4 h2 h3
        · rw [hPn b e (by omega)]; exact a9.1 b c j h4 h2 h3
      · cases h4
    · rcases am_snoc_at h1 with h4 | ⟨e, h4⟩
      · have hb := am_at_lt h4
        have e : b ≠ 2 := fun e => by subst e; rw [a3] at h4; cases h4
        rw [hPn b e (by omega)]; exact a9.2 b n j h4 h2
      · subst e; rw [hPs]; exact (hw9 j).2
end AMGR
