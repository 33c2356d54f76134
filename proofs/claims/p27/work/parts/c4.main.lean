/-! appends to list's own text: StringBuilder 0, its row 1; all else stays -/
def aF (sh : List am_Sh) (I : am_I) (sh1 : List am_Sh) (I1 : am_I) : Prop := sh1.length = sh.length ∧ (∀ k, k ≠ 1 → sh1[k]? = sh[k]?) ∧ ∀ k, k ≠ 0 → k ≠ 1 → I1 k = I k
theorem aF.rf {sh : List am_Sh} {I : am_I} : aF sh I sh I := ⟨rfl, fun _ _ => rfl, fun _ _ _ => rfl⟩
theorem aF.step {sh sh1 : List am_Sh} {I I1 : am_I} {x : am_Sh} {f : Nat → Int32} {z : Int32} (h : aF sh I sh1 I1) : aF sh I (sh1.set 1 x) (am_up (am_row I1 1 f) 0 3 z) :=
  ⟨by rw [List.length_set]; exact h.1, fun k hk => (set_ne hk).trans (h.2.1 k hk), fun k h0 h1 => by rw [am_up_rowb _ _ _ h0, am_row_ne _ _ h1]; exact h.2.2 k h0 h1⟩
section AMM4
variable {X : am_X} {o : Nat} {cc : ByteArray} {nL : Nat} {ini : Bool} {ret : Option FieldType} {d : Nat}
variable {cells slots MC MS : Nat} {Q : State → Prop} {sh shA : List am_Sh} {ad : Nat → Nat} {pc : Nat} {L : am_L} {st rest : List Value} {I IA : am_I} {G : am_G} {P : am_P} {m q w x : Nat} {T S : List Nat}
theorem ap_Sm (hX : am_okz X ad) (hi : am_info X o cc nL ini ret d) (hm : am_mem X MC MS) {idx : Nat} (hl0 : am_lnk o idx mJ4_append_15ec4.1 false = true) (hd : decode cc pc = .ok (.invokevirtual idx, 3)) (hd6 : 6 ≤ d) (hst : st = .ref q :: .ref 0 :: rest) (hr8 : (rest.map fun v => v.category).sum ≤ 8) (hroom : cells + 1 ≤ MC ∧ slots + 4096 ≤ MS)
    (hF : aF shA IA sh I) (hB : sB sh I P 0 1 m T) (hT : xS sh I P q w S) (hn : T.length + S.length ≤ 2000) (hl : sh.length < 1000) (hR : lR sh.length sh P) (hV : lV 1 0 sh P) (hL : am_kqL sh.length L) (hrest : am_kqS sh.length rest) (hLv : am_nqL 1 L) (hSv : am_nqS 1 rest)
    (kk : ∀ (ad1 : Nat → Nat) (m1 : Nat) (sh1 : List am_Sh) (I1 : am_I), (∀ j, j ≠ 1 → j < sh.length ∨ 1000 ≤ j → ad1 j = ad j) → am_okz X ad1 → aF shA IA sh1 I1 → sB sh1 I1 P 0 1 m1 (T ++ S) → lR sh1.length sh1 P → lV 1 0 sh1 P → am_V X (cells + 1) (slots + 4096) Q sh1 ad1 (pc + 3, L, .ref 0 :: rest, I1, G, P)) : am_V X cells slots Q sh ad (pc, L, st, I, G, P) :=
  ap_S hX hi hm hl0 hd hd6 hst hr8 hroom hB hT hn hl hR hV hL hrest hLv hSv (fun ad1 m1 f ha hX1 hs => kk ad1 m1 _ _ ha hX1 hF.step hs (by rw [List.length_set]; exact hR.set hB.2.1) (hV.set hB.2.1))
theorem ap_Nm (hX : am_okz X ad) (hi : am_info X o cc nL ini ret d) (hm : am_mem X MC MS) {idx : Nat} (hl0 : am_lnk o idx mJ4_append_bf812.1 false = true) (hd : decode cc pc = .ok (.invokevirtual idx, 3)) (hd6 : 6 ≤ d) {y : Int32} (hy : y = Int32.ofNat x) (hst : st = .int y :: .ref 0 :: rest) (hr8 : (rest.map fun v => v.category).sum ≤ 8) (hroom : cells + 1 ≤ MC ∧ slots + 4096 ≤ MS)
    (hF : aF shA IA sh I) (hB : sB sh I P 0 1 m T) (hx : x < 1000) (hn : T.length + (dT x).length ≤ 2000) (hl : sh.length < 1000) (hR : lR sh.length sh P) (hV : lV 1 0 sh P) (hL : am_kqL sh.length L) (hrest : am_kqS sh.length rest) (hLv : am_nqL 1 L) (hSv : am_nqS 1 rest)
    (kk : ∀ (ad1 : Nat → Nat) (m1 : Nat) (sh1 : List am_Sh) (I1 : am_I), (∀ j, j ≠ 1 → j < sh.length ∨ 1000 ≤ j → ad1 j = ad j) → am_okz X ad1 → aF shA IA sh1 I1 → sB sh1 I1 P 0 1 m1 (T ++ dT x) → lR sh1.length sh1 P → lV 1 0 sh1 P → am_V X (cells + 1) (slots + 4096) Q sh1 ad1 (pc + 3, L, .ref 0 :: rest, I1, G, P)) : am_V X cells slots Q sh ad (pc, L, st, I, G, P) :=
  ap_N hX hi hm hl0 hd hd6 hy hst hr8 hroom hB hx hn hl hR hV hL hrest hLv hSv (fun ad1 m1 f ha hX1 hs => kk ad1 m1 _ _ ha hX1 hF.step hs (by rw [List.length_set]; exact hR.set hB.2.1) (hV.set hB.2.1))
end AMM4
section AMM5
variable {sh0 sh sh1 : List am_Sh} {I0 I I1 : am_I} {P0 P : am_P} {pl out0 w i m m1 : Nat} {V : Nat → Nat → Nat} {T T1 : List Nat}
theorem gF.app (h : gF sh0 I0 P0 pl sh I P) (hF : aF sh I sh1 I1) : gF sh0 I0 P0 pl sh1 I1 P :=
  ⟨fun k hk h1 => (hF.2.1 k h1).trans (h.1 k hk h1), fun k hk h0 h1 => (hF.2.2 k h0 h1).trans (h.2.1 k hk h0 h1), h.2.2⟩
theorem gI.app (h : gI sh0 I0 P0 pl out0 w V i m T sh I P) (h7 : 7 ≤ sh0.length) (ho : out0 ≠ 1) (hF : aF sh I sh1 I1) (hB : sB sh1 I1 P 0 1 m1 T1) (hR : lR sh1.length sh1 P) (hV : lV 1 0 sh1 P) : gI sh0 I0 P0 pl out0 w V i m1 T1 sh1 I1 P := by
  obtain ⟨a1, a2, a3, a4, a5, a6, -, -, -⟩ := h
  have hg : gN sh0.length out0 i ≠ 1 := by unfold gN; split <;> omega
  refine ⟨a1.app hF, hF.1.trans a2, (hF.2.1 2 (by decide)).trans a3, (hF.2.1 _ hg).trans a4, a5, fun k hk => ?_, hB, hR, hV⟩
  obtain ⟨b1, b2, b3⟩ := a6 k hk
  exact ⟨(hF.2.1 _ (by omega)).trans b1, b2, fun j hj => by rw [hF.2.2 _ (by omega) (by omega)]; exact b3 j hj⟩
theorem gJ.app (h : gJ sh0 I0 P0 pl out0 w V i m T sh I P) (h7 : 7 ≤ sh0.length) (ho : out0 ≠ 1) (hF : aF sh I sh1 I1) (hB : sB sh1 I1 P 0 1 m1 T1) (hR : lR sh1.length sh1 P) (hV : lV 1 0 sh1 P) : gJ sh0 I0 P0 pl out0 w V i m1 T1 sh1 I1 P := by
  obtain ⟨a1, a2, a3, a4, a5, a6, -, -, -⟩ := h
  have hg : gN sh0.length out0 i ≠ 1 := by unfold gN; split <;> omega
  refine ⟨a1.app hF, hF.1.trans a2, (hF.2.1 2 (by decide)).trans a3, (hF.2.1 _ hg).trans a4, a5, fun k hk => ?_, hB, hR, hV⟩
  obtain ⟨b1, b2, b3⟩ := a6 k hk
  exact ⟨(hF.2.1 _ (by omega)).trans b1, b2, fun j hj => by rw [hF.2.2 _ (by omega) (by omega)]; exact b3 j hj⟩
end AMM5
