/-! what a token says: items (role, token) over plan, names, first error, meanings -/
abbrev sX : Type := (sP × (Nat → List Nat)) × (Option (Nat × Nat) × (Nat → Option Nat))
def fnd (C : Nat → Nat) (a : Nat) : List Nat → Nat → Option Nat
  | [], _ => none
  | b :: l, k => if C b = C a then some k else fnd C a l (k + 1)
def eo (e : Option (Nat × Nat)) (n a : Nat) : Option (Nat × Nat) := if n = 0 then e else e_or e (n, a)
def rgE (V : Nat → Nat) (e : Option (Nat × Nat)) (a lo hi : Nat) : Option (Nat × Nat) := if lo ≤ V a ∧ V a ≤ hi then e else e_or e (5, a)
def nwE (C : Nat → Nat) (l : List Nat) (cap a : Nat) : Nat := if fnd C a l 0 = none then (if l.length < cap then 0 else 4) else 2
def Lup (L : Nat → List Nat) (op cap a : Nat) : Nat → List Nat := fun o => if o = op then (if (L op).length < cap then L op ++ [a] else L op) else L o
def nmL (C : Nat → Nat) (L : Nat → List Nat) (op a : Nat) : Option Nat := if op = 6 ∨ op = 9 ∨ op = 16 then fnd C a (L op) 0 else if op = 18 then fnd C a (L 16) 0 else none
def wm (m : Nat → Option Nat) (a : Nat) (x : Option Nat) : Nat → Option Nat := fun b => if b = a then x else m b
def lwl (p : sP) : Nat := if p 0 4 ≤ 1 then 0 else p 6 (p 0 4 - 2) + 1
def it (K V C : Nat → Nat) (X : sX) (q : Nat × Nat) : sX :=
  if q.1 = 1 then ((am_up X.1.1 0 0 (V q.2), X.1.2), (rgE V X.2.1 q.2 4 24, X.2.2))
  else if q.1 = 2 then ((am_up X.1.1 0 1 (V q.2), X.1.2), (rgE V X.2.1 q.2 4 24, X.2.2))
  else if q.1 = 3 then ((am_up X.1.1 0 2 (X.1.1 0 2 + 1), Lup X.1.2 6 4 q.2), (eo X.2.1 (nwE C (X.1.2 6) 4 q.2) q.2, X.2.2))
  else if q.1 = 4 then ((am_up X.1.1 1 (X.1.1 0 2 - 1) (V q.2), X.1.2), (rgE V X.2.1 q.2 1 8, X.2.2))
  else if q.1 = 5 then ((am_up X.1.1 2 (X.1.1 0 2 - 1) (V q.2), X.1.2), (rgE V X.2.1 q.2 1 8, X.2.2))
  else if q.1 = 6 then ((am_up X.1.1 3 (X.1.1 0 2 - 1) (V q.2), X.1.2), (rgE V X.2.1 q.2 1 9, X.2.2))
  else if q.1 = 7 then ((am_up X.1.1 7 (X.1.1 0 2 - 1) (V q.2), X.1.2), (rgE V X.2.1 q.2 0 999, X.2.2))
  else if q.1 = 8 then ((am_up X.1.1 0 3 (X.1.1 0 3 + 1), Lup X.1.2 9 4 q.2), (eo X.2.1 (nwE C (X.1.2 9) 4 q.2) q.2, X.2.2))
  else if q.1 = 9 then ((am_up X.1.1 4 (X.1.1 0 3 - 1) (K q.2 - 3), X.1.2), X.2)
  else if q.1 = 10 then ((am_up X.1.1 5 (X.1.1 0 3 - 1) (V q.2), X.1.2), (rgE V X.2.1 q.2 1 8, X.2.2))
  else if q.1 = 11 then ((am_up X.1.1 8 (X.1.1 0 3 - 1) (V q.2), X.1.2), (rgE V X.2.1 q.2 0 16, X.2.2))
  else if q.1 = 12 then ((am_up X.1.1 0 4 (X.1.1 0 4 + 1), Lup X.1.2 16 5 q.2), (eo X.2.1 (nwE C (X.1.2 16) 5 q.2) q.2, X.2.2))
  else if q.1 = 13 then ((am_up X.1.1 6 (X.1.1 0 4 - 1) (V q.2), X.1.2), (rgE V X.2.1 q.2 (lwl X.1.1) 999, X.2.2))
  else if q.1 = 14 then ((am_up X.1.1 0 5 (X.1.1 0 5 + 1), X.1.2), (eo X.2.1 (if X.1.1 0 5 < 20 then 0 else 4) q.2, X.2.2))
  else if q.1 = 15 ∨ q.1 = 18 then (X.1, (eo X.2.1 (if nmL C X.1.2 9 q.2 = none then 3 else 0) q.2, wm X.2.2 q.2 (nmL C X.1.2 9 q.2)))
  else if q.1 = 16 ∨ q.1 = 20 then (X.1, (eo X.2.1 (if nmL C X.1.2 6 q.2 = none then 3 else 0) q.2, wm X.2.2 q.2 (nmL C X.1.2 6 q.2)))
  else if q.1 = 19 then (X.1, (eo X.2.1 (if nmL C X.1.2 16 q.2 = none then 3 else 0) q.2, wm X.2.2 q.2 (nmL C X.1.2 16 q.2)))
  else X
def its (K V C : Nat → Nat) (l : List (Nat × Nat)) (X : sX) : sX := l.foldl (it K V C) X
theorem fnd_lt (C : Nat → Nat) (a : Nat) : ∀ (l : List Nat) (k j : Nat), fnd C a l k = some j → k ≤ j ∧ j < k + l.length
  | [], _, _, h => by cases h
  | b :: l, k, j, h => by
    unfold fnd at h
    by_cases hc : C b = C a
    · rw [if_pos hc] at h; cases h; simp
    · rw [if_neg hc] at h
      have := fnd_lt C a l (k + 1) j h
      simp only [List.length_cons]; omega
/-! the class's reader of heads -/
section CH
variable {K V C : Nat → Nat} {T : Nat} {G : am_G}
def cH (K : Nat → Nat) (T : Nat) (I : am_I) (p : Nat) (e : Option (Nat × Nat)) : Prop := (I 28 5 = Int32.ofNat p ∧ I 28 6 = Int32.ofNat (K p) ∧ p ≤ T) ∧ cE I e
def hf (I I' : am_I) : Prop := (∀ b, b ≠ 28 → I' b = I b) ∧ ∀ k, k ≠ 5 → k ≠ 6 → k ≠ 7 → k ≠ 8 → I' 28 k = I 28 k
theorem hf.rf (I : am_I) : hf I I := ⟨fun _ _ => rfl, fun _ _ _ _ _ => rfl⟩
theorem hf.tr {I I1 I2 : am_I} (h1 : hf I I1) (h2 : hf I1 I2) : hf I I2 := ⟨fun b z => (h2.1 b z).trans (h1.1 b z), fun k z1 z2 z3 z4 => (h2.2 k z1 z2 z3 z4).trans (h1.2 k z1 z2 z3 z4)⟩
theorem cX.c41 {I I' : am_I} (h : cX K V T I G) (h4 : I' 4 = I 4) (h1 : I' 1 = I 1) : cX K V T I' G := by
  obtain ⟨a, b, c, d⟩ := h
  exact ⟨a, by rw [h1]; exact b, by rw [h4]; exact c, d⟩
theorem cX.h {I I' : am_I} (h : cX K V T I G) (hh : hf I I') : cX K V T I' G := h.c41 (hh.1 4 (by omega)) (hh.1 1 (by omega))
theorem h_adv {I : am_I} (hX : cX K V T I G) {p : Nat} {e : Option (Nat × Nat)} (h : cH K T I p e) (hp : p < T) : cH K T (g_X6_advance_28 I G) (p + 1) e ∧ hf I (g_X6_advance_28 I G) := by
  obtain ⟨⟨h5, h6, h7⟩, hE⟩ := h
  have hk := hX.1.2.1 p hp
  have hT := hX.1.1
  have e5 : I 28 5 + (1 : Int32) = Int32.ofNat (p + 1) := by rw [h5, n_inc]
  have e : g_X6_advance_28 I G = am_up (am_up I 28 5 (Int32.ofNat (p + 1))) 28 6 (Int32.ofNat (K (p + 1))) := by
    unfold g_X6_advance_28
    rw [if_neg (kN (k := 41) (w := (41 : Int32)) rfl hX.1 h7 h6 (by omega) (by omega)), if_neg (kN (k := 42) (w := (42 : Int32)) rfl hX.1 h7 h6 (by omega) (by omega)), e5]
    unfold f_X9_kindAt_1
    rw [if_neg (n_nlt0 _ (by omega)), up_row _ _ _ (by omega), hX.2.1, if_neg (fun z => absurd ((n_le (by omega) (by omega)).mp z) (by omega)), if_neg (fun z => absurd ((n_le (by omega) (by omega)).mp z) (by omega)), up_row _ _ _ (by omega), n_cl (by omega), hX.2.2.1 (p + 1) (by omega)]
  have eb : ∀ b, b ≠ 28 → g_X6_advance_28 I G b = I b := fun b hb => by rw [e, up_row _ _ _ hb, up_row _ _ _ hb]
  have ek : ∀ k, k ≠ 5 → k ≠ 6 → g_X6_advance_28 I G 28 k = I 28 k := fun k z1 z2 => by rw [e, up_in, if_neg z2, up_in, if_neg z1]
  exact ⟨⟨⟨by rw [e, up_in, if_neg (by omega), am_up_self], by rw [e, am_up_self], by omega⟩, hE.kept (ek 7 (by omega) (by omega)) (ek 8 (by omega) (by omega)) (eb 5 (by omega))⟩, eb, fun k z1 z2 _ _ => ek k z1 z2⟩
theorem h_advD {I : am_I} {q : Nat} (h : cD I q) : g_X6_advance_28 I G = I := by
  unfold g_X6_advance_28
  rw [if_neg (by rw [h.1]; decide), if_pos h.1]
theorem h_refF (I : am_I) : hf I (g_X6_refuse_28 I G) := by
  refine ⟨fun b hb => ?_, fun k z1 z2 z3 z4 => ?_⟩
  · unfold g_X6_refuse_28
    split
    · rw [up_row _ _ _ hb]
    · rw [up_row _ _ _ hb, up_row _ _ _ hb, up_row _ _ _ hb]
  · unfold g_X6_refuse_28
    split
    · rw [up_in, if_neg z2]
    · rw [up_in, if_neg z2, up_in, if_neg z4, up_in, if_neg z3]
theorem h_refD {I : am_I} {q : Nat} (h : cD I q) : cD (g_X6_refuse_28 I G) q ∧ hf I (g_X6_refuse_28 I G) := ⟨(c_refD (G := G) h).2, h_refF I⟩
theorem h_ref {I : am_I} {p : Nat} {e : Option (Nat × Nat)} (h : cH K T I p e) : cD (g_X6_refuse_28 I G) p ∧ hf I (g_X6_refuse_28 I G) := by
  refine ⟨?_, h_refF I⟩
  unfold cD
  rw [(h_refF (G := G) I).1 5 (by omega)]
  unfold g_X6_refuse_28
  rw [if_neg h.2.n1]
  refine ⟨am_up_self _ _ _ _, by rw [up_in, if_neg (by omega), up_in, if_neg (by omega), am_up_self], ?_⟩
  rw [up_in, if_neg (by omega), am_up_self]
  rw [up_row _ _ _ (by omega), h.1.1]
theorem h_flt {I : am_I} {p : Nat} {e : Option (Nat × Nat)} (h : cH K T I p e) {n : Nat} (hn : 2 ≤ n ∧ n ≤ 5) : cH K T (g_X6_fault_28 I G (Int32.ofNat n)) p (e_or e (n, p)) ∧ hf I (g_X6_fault_28 I G (Int32.ofNat n)) := by
  obtain ⟨⟨h5, h6, h7⟩, hE⟩ := h
  unfold g_X6_fault_28
  cases e with
  | none =>
    rw [if_pos hE.1]
    rw [up_row _ _ _ (show 5 ≠ 28 by omega), h5]
    exact ⟨⟨⟨by rw [up_in, if_neg (by omega), up_in, if_neg (by omega)]; exact h5, by rw [up_in, if_neg (by omega), up_in, if_neg (by omega)]; exact h6, h7⟩, by rw [up_in, if_neg (by omega), am_up_self], by rw [am_up_self, up_row _ _ _ (by omega), up_row _ _ _ (by omega)], hn⟩, fun b hb => by rw [up_row _ _ _ hb, up_row _ _ _ hb], fun k _ _ z3 z4 => by rw [up_in, if_neg z4, up_in, if_neg z3]⟩
  | some x =>
    obtain ⟨m, q⟩ := x
    rw [if_neg (by rw [hE.1]; exact fun z => absurd ((n_eq (b := 0) (by have := hE.2.2.2; omega) (by omega)).mp z) (by have := hE.2.2.1; omega))]
    exact ⟨⟨⟨h5, h6, h7⟩, hE⟩, hf.rf I⟩
theorem h_exY {I : am_I} (hX : cX K V T I G) {p w : Nat} {e : Option (Nat × Nat)} (h : cH K T I p e) (hw : w ≤ 40) (hn : K p = w) : cH K T (g_X6_expect_28 I G (Int32.ofNat w)) (p + 1) e ∧ hf I (g_X6_expect_28 I G (Int32.ofNat w)) := by
  have hp := hX.1.lt h.1.2.2 (by omega)
  unfold g_X6_expect_28
  rw [if_pos ((k_is hX.1 h.1.2.2 h.1.2.1 (by omega)).mpr hn)]
  exact h_adv hX h hp
theorem h_exN {I : am_I} (hX : cX K V T I G) {p w : Nat} {e : Option (Nat × Nat)} (h : cH K T I p e) (hw : w ≤ 41) (hn : ¬ K p = w) : cD (g_X6_expect_28 I G (Int32.ofNat w)) p ∧ hf I (g_X6_expect_28 I G (Int32.ofNat w)) := by
  unfold g_X6_expect_28
  rw [if_neg (fun z => hn ((k_is hX.1 h.1.2.2 h.1.2.1 (by omega)).mp z))]
  exact h_ref h
theorem h_exD {I : am_I} {q w : Nat} (h : cD I q) (hw : w ≤ 41) : cD (g_X6_expect_28 I G (Int32.ofNat w)) q ∧ hf I (g_X6_expect_28 I G (Int32.ofNat w)) := by
  unfold g_X6_expect_28
  rw [if_neg (fun z => absurd ((n_eq (a := 42) (by omega) (by omega)).mp (h.1.symm.trans z)) (by omega))]
  exact h_refD h
theorem h_cont {I : am_I} {p : Nat} (h5 : I 28 5 = Int32.ofNat p) (hp : p ≤ 400) : f_X9_contentAt_1 I G (I 28 5) = G 6 p := by
  unfold f_X9_contentAt_1
  rw [h5, if_neg (n_nlt0 p (by omega)), if_neg (fun z => absurd ((n_le (by omega) (by omega)).mp z) (by omega)), n_cl (by omega)]
def h_ne (e : Option (Nat × Nat)) (v lo hi : Int32) (p : Nat) : Option (Nat × Nat) := if v < lo then e_or e (5, p) else if v ≤ hi then e else e_or e (5, p)
theorem h_nuY {I : am_I} (hX : cX K V T I G) {p : Nat} {e : Option (Nat × Nat)} (h : cH K T I p e) (hk : K p = 40) (lo hi : Int32) : (cH K T (g_X6_readNumber_28 I G lo hi) (p + 1) (h_ne e (Int32.ofNat (V p)) lo hi p) ∧ hf I (g_X6_readNumber_28 I G lo hi)) ∧ f_X6_readNumber_28 I G lo hi = Int32.ofNat (V p) := by
  have hp := hX.1.lt h.1.2.2 (by omega)
  have hT := hX.1.1
  have hc : (f_X9_contentAt_1 I G (I 28 5)).toInt32 = Int32.ofNat (V p) := by rw [h_cont h.1.1 (by omega)]; exact hX.2.2.2 p h.1.2.2 hk
  unfold g_X6_readNumber_28 f_X6_readNumber_28 h_ne
  rw [if_pos (kY (k := 40) (w := (40 : Int32)) rfl hX.1 h.1.2.2 h.1.2.1 (by omega) hk), if_pos (kY (k := 40) (w := (40 : Int32)) rfl hX.1 h.1.2.2 h.1.2.1 (by omega) hk), hc]
  obtain ⟨f1, f2⟩ := h_flt (G := G) h (n := 5) ⟨by omega, by omega⟩
  obtain ⟨a1, a2⟩ := h_adv (hX.h f2) f1 hp
  have bad := And.intro a1 (f2.tr a2)
  have good := h_adv hX h hp
  refine ⟨?_, by split <;> rfl⟩
  split
  · exact bad
  · split
    · exact good
    · exact bad
theorem h_nuN {I : am_I} (hX : cX K V T I G) {p : Nat} {e : Option (Nat × Nat)} (h : cH K T I p e) (hk : ¬ K p = 40) (lo hi : Int32) : cD (g_X6_readNumber_28 I G lo hi) p ∧ hf I (g_X6_readNumber_28 I G lo hi) := by
  unfold g_X6_readNumber_28
  rw [if_neg (kN (k := 40) (w := (40 : Int32)) rfl hX.1 h.1.2.2 h.1.2.1 (by omega) hk)]
  exact h_ref h
theorem h_nuD {I : am_I} {q : Nat} (h : cD I q) (lo hi : Int32) : cD (g_X6_readNumber_28 I G lo hi) q ∧ hf I (g_X6_readNumber_28 I G lo hi) := by
  unfold g_X6_readNumber_28
  rw [if_neg (by rw [h.1]; decide)]
  exact h_refD h
theorem h_wyY {I : am_I} (hX : cX K V T I G) {p : Nat} {e : Option (Nat × Nat)} (h : cH K T I p e) (hk : K p = 3 ∨ K p = 4) : (cH K T (g_X6_readWay_28 I G) (p + 1) e ∧ hf I (g_X6_readWay_28 I G)) ∧ f_X6_readWay_28 I G = Int32.ofNat (K p - 3) := by
  have hp := hX.1.lt h.1.2.2 (by omega)
  unfold g_X6_readWay_28 f_X6_readWay_28
  have good := h_adv hX h hp
  rcases hk with hk | hk
  · rw [if_neg (kN (k := 4) (w := (4 : Int32)) rfl hX.1 h.1.2.2 h.1.2.1 (by omega) (by omega)), if_pos (kY (k := 3) (w := (3 : Int32)) rfl hX.1 h.1.2.2 h.1.2.1 (by omega) hk), if_neg (kN (k := 4) (w := (4 : Int32)) rfl hX.1 h.1.2.2 h.1.2.1 (by omega) (by omega)), if_pos (kY (k := 3) (w := (3 : Int32)) rfl hX.1 h.1.2.2 h.1.2.1 (by omega) hk)]
    exact ⟨good, by rw [hk]; rfl⟩
  · have c4 := kY (k := 4) (w := (4 : Int32)) rfl hX.1 h.1.2.2 h.1.2.1 (by omega) hk
    have c3 := kN (k := 3) (w := (3 : Int32)) rfl hX.1 h.1.2.2 h.1.2.1 (by omega) (by omega)
    rw [if_pos c4, if_neg c3, if_pos c4, if_pos c4, if_neg c3]
    exact ⟨good, by rw [hk]; rfl⟩
theorem h_wyN {I : am_I} (hX : cX K V T I G) {p : Nat} {e : Option (Nat × Nat)} (h : cH K T I p e) (hk : ¬ (K p = 3 ∨ K p = 4)) : cD (g_X6_readWay_28 I G) p ∧ hf I (g_X6_readWay_28 I G) := by
  unfold g_X6_readWay_28
  have c4 := kN (k := 4) (w := (4 : Int32)) rfl hX.1 h.1.2.2 h.1.2.1 (by omega) (fun z => hk (Or.inr z))
  have c3 := kN (k := 3) (w := (3 : Int32)) rfl hX.1 h.1.2.2 h.1.2.1 (by omega) (fun z => hk (Or.inl z))
  rw [if_neg c4, if_neg c3, if_neg c4]
  exact h_ref h
theorem h_wyD {I : am_I} {q : Nat} (h : cD I q) : cD (g_X6_readWay_28 I G) q ∧ hf I (g_X6_readWay_28 I G) := by
  unfold g_X6_readWay_28
  rw [if_neg (by rw [h.1]; decide), if_neg (by rw [h.1]; decide), if_neg (by rw [h.1]; decide)]
  exact h_refD h
/-- the names told, as tokens -/
def cT1 (C : Nat → Nat) (row tab cap : Nat) (l : List Nat) (I : am_I) (G : am_G) : Prop := I row 1 = Int32.ofNat l.length ∧ l.length ≤ cap ∧ ∀ k, k < l.length → G tab k = Int64.ofNat (C (l.getD k 0))
def cNm (C : Nat → Nat) (L : Nat → List Nat) (I : am_I) (G : am_G) : Prop := cT1 C 47 48 4 (L 6) I G ∧ cT1 C 49 50 4 (L 9) I G ∧ cT1 C 51 52 5 (L 16) I G
theorem cT1.kept {row tab cap : Nat} {l : List Nat} {I I' : am_I} {G' : am_G} (h : cT1 C row tab cap l I G) (h1 : I' row = I row) (h2 : G' tab = G tab) : cT1 C row tab cap l I' G' := by
  unfold cT1
  rw [h1, h2]
  exact h
/-- codes of tokens -/
def cC (K C : Nat → Nat) (T : Nat) (G : am_G) : Prop := (∀ a, C a < 9000000000000000000) ∧ ∀ p, p ≤ T → K p = 39 → G 6 p = Int64.ofNat (C p)
theorem h_fi470 {l : List Nat} {I : am_I} {a : Nat} (hb : ∀ a, C a < 9000000000000000000) (h : cT1 C 47 48 4 l I G) : ∀ (m k n : Nat), k + m = l.length → m < n → L_X2_find_47 n 0 I G (Int64.ofNat (C a)) (Int32.ofNat k) = some (fi (fnd C a (l.drop k) k), I, G) := by
  obtain ⟨h1, h2, h3⟩ := h
  intro m
  induction m with
  | zero =>
    intro k n hk hn
    obtain ⟨n, rfl⟩ : ∃ n', n = n' + 1 := ⟨n - 1, by omega⟩
    rw [L_X2_find_47_0, h1, if_pos ((n_le (by omega) (by omega)).mpr (by omega)), List.drop_eq_nil_of_le (by omega)]
    rfl
  | succ m ih =>
    intro k n hk hn
    obtain ⟨n, rfl⟩ : ∃ n', n = n' + 1 := ⟨n - 1, by omega⟩
    have hkl : k < l.length := by omega
    rw [L_X2_find_47_0, h1, if_neg (fun z => absurd ((n_le (by omega) (by omega)).mp z) (by omega)), if_neg (fun z => absurd ((n_le (by omega) (by omega)).mp z) (by omega)), rg_pos ((n_in (by omega)).mpr (by omega)), n_cl (by omega), h3 k hkl, List.drop_eq_getElem_cons hkl, show l.getD k 0 = l[k] by rw [List.getD_eq_getElem?_getD, List.getElem?_eq_getElem hkl]; rfl]
    unfold fnd
    by_cases hc : C l[k] = C a
    · rw [if_pos ((am_cmp_eq _ _).mpr (by rw [hc])), if_pos hc]
      rfl
    · rw [if_neg (fun z => hc (by have := (am_cmp_eq _ _).mp z; rw [l_of (hb _), l_of (hb _)] at this; omega)), if_neg hc, n_inc]
      exact ih (k + 1) n (by omega) (by omega)
theorem h_fi47 {l : List Nat} {I : am_I} {a : Nat} (hb : ∀ a, C a < 9000000000000000000) (h : cT1 C 47 48 4 l I G) : R_X2_find_47 I G (Int64.ofNat (C a)) = some (fi (fnd C a l 0), I, G) := by
  have h2 := h.2.1
  exact h_fi470 hb h l.length 0 FU (by omega) (by unfold FU; omega)
theorem h_nw47Y {I : am_I} {l : List Nat} (hX : cX K V T I G) (hC : cC K C T G) (hN : cT1 C 47 48 4 l I G) {p : Nat} {e : Option (Nat × Nat)} (h : cH K T I p e) (hk : K p = 39) : ∃ (I' : am_I) (G' : am_G), R_X6_readNewName_28_47 I G = some ((), I', G') ∧ cH K T I' (p + 1) (eo e (nwE C l 4 p) p) ∧ cT1 C 47 48 4 (if l.length < 4 then l ++ [p] else l) I' G' ∧ (∀ b, b ≠ 28 → b ≠ 47 → I' b = I b) ∧ (∀ b, b ≠ 48 → G' b = G b) ∧ (∀ k, k ≠ 5 → k ≠ 6 → k ≠ 7 → k ≠ 8 → I' 28 k = I 28 k) ∧ ∀ k, k ≠ 1 → I' 47 k = I 47 k := by
  have hp := hX.1.lt h.1.2.2 (by omega)
  have hT := hX.1.1
  have h2 := hN.2.1
  have hc : f_X9_contentAt_1 I G (I 28 5) = Int64.ofNat (C p) := by rw [h_cont h.1.1 (by omega)]; exact hC.2 p h.1.2.2 hk
  have key : ∀ (J : am_I) (e' : Option (Nat × Nat)), hf I J → cH K T J p e' → ∃ (I' : am_I) (G' : am_G), some ((), g_X6_advance_28 (g_X2_add_47 J G (Int64.ofNat (C p))) (h_X2_add_47 J G (Int64.ofNat (C p))), h_X2_add_47 J G (Int64.ofNat (C p))) = some ((), I', G') ∧ cH K T I' (p + 1) e' ∧ cT1 C 47 48 4 (if l.length < 4 then l ++ [p] else l) I' G' ∧ (∀ b, b ≠ 28 → b ≠ 47 → I' b = I b) ∧ (∀ b, b ≠ 48 → G' b = G b) ∧ (∀ k, k ≠ 5 → k ≠ 6 → k ≠ 7 → k ≠ 8 → I' 28 k = I 28 k) ∧ ∀ k, k ≠ 1 → I' 47 k = I 47 k := by
    intro J e' hJ hH
    have j1 : J 47 1 = Int32.ofNat l.length := by rw [hJ.1 47 (by omega)]; exact hN.1
    unfold g_X2_add_47 h_X2_add_47
    rw [j1, if_neg (n_nlt0 _ (by omega)), if_neg (n_nlt0 _ (by omega))]
    by_cases hl : l.length < 4
    · rw [if_neg (fun z => absurd ((n_le (by omega) (by omega)).mp z) (by omega)), if_neg (fun z => absurd ((n_le (by omega) (by omega)).mp z) (by omega)), n_cl (by omega), n_inc, if_pos hl]
      have hH' : cH K T (am_up J 47 1 (Int32.ofNat (l.length + 1))) p e' := ⟨by rw [up_row _ _ _ (by omega)]; exact hH.1, hH.2.kept (by rw [up_row _ _ _ (by omega)]) (by rw [up_row _ _ _ (by omega)]) (up_row _ _ _ (by omega))⟩
      have hX' : cX K V T (am_up J 47 1 (Int32.ofNat (l.length + 1))) (am_up G 48 l.length (Int64.ofNat (C p))) := by
        obtain ⟨x1, x2, x3, x4⟩ := (hX.h hJ).c41 (I' := am_up J 47 1 (Int32.ofNat (l.length + 1))) (up_row _ _ _ (by omega)) (up_row _ _ _ (by omega))
        exact ⟨x1, x2, x3, by rw [up_row _ _ _ (by omega)]; exact x4⟩
      obtain ⟨a1, a2⟩ := h_adv hX' hH' hp
      refine ⟨_, _, rfl, a1, ⟨by rw [a2.1 47 (by omega), am_up_self, List.length_append]; rfl, by rw [List.length_append]; simp; omega, fun k hk => ?_⟩, fun b z1 z2 => by rw [a2.1 b z1, up_row _ _ _ z2, hJ.1 b z1], fun b z => up_row _ _ _ z, fun k z1 z2 z3 z4 => by rw [a2.2 k z1 z2 z3 z4, up_row _ _ _ (by omega), hJ.2 k z1 z2 z3 z4], fun k z => by rw [a2.1 47 (by omega), up_in, if_neg z, hJ.1 47 (by omega)]⟩
      rw [List.length_append] at hk
      simp only [List.length_cons, List.length_nil] at hk
      rw [up_in]
      by_cases hkl : k = l.length
      · rw [if_pos hkl, hkl, List.getD_eq_getElem?_getD, List.getElem?_append_right (Nat.le_refl _), Nat.sub_self]
        rfl
      · rw [if_neg hkl, List.getD_eq_getElem?_getD, List.getElem?_append_left (by omega), ← List.getD_eq_getElem?_getD]
        exact hN.2.2 k (by omega)
    · rw [if_pos ((n_le (by omega) (by omega)).mpr (by omega)), if_pos ((n_le (by omega) (by omega)).mpr (by omega)), if_neg hl]
      obtain ⟨a1, a2⟩ := h_adv (hX.h hJ) hH hp
      exact ⟨_, _, rfl, a1, hN.kept ((a2.1 47 (by omega)).trans (hJ.1 47 (by omega))) rfl, fun b z1 z2 => (a2.1 b z1).trans (hJ.1 b z1), fun b z => rfl, fun k z1 z2 z3 z4 => (a2.2 k z1 z2 z3 z4).trans (hJ.2 k z1 z2 z3 z4), fun k z => by rw [a2.1 47 (by omega), hJ.1 47 (by omega)]⟩
  unfold R_X6_readNewName_28_47
  rw [if_pos (kY (k := 39) (w := (39 : Int32)) rfl hX.1 h.1.2.2 h.1.2.1 (by omega) hk), hc, h_fi47 hC.1 hN, rb_go]
  unfold nwE eo
  cases hq : fnd C p l 0 with
  | none =>
    rw [if_pos (show fi none < 0 by decide), if_pos rfl]
    unfold f_X2_isFull_47
    rw [hN.1]
    by_cases hl : l.length < 4
    · rw [if_pos hl, if_pos rfl, if_pos (show (if Int32.ofNat l.length < Int32.ofNat 4 then (0 : Int32) else 1) = 0 by rw [if_pos ((n_lt (by omega) (by omega)).mpr hl)])]
      exact key I e (hf.rf I) h
    · rw [if_neg hl, if_neg (show ¬ (4 : Nat) = 0 by omega), if_neg (show ¬ (if Int32.ofNat l.length < Int32.ofNat 4 then (0 : Int32) else 1) = 0 by rw [if_neg (fun z => hl ((n_lt (by omega) (by omega)).mp z))]; decide)]
      obtain ⟨f1, f2⟩ := h_flt (G := G) h (n := 4) ⟨by omega, by omega⟩
      exact key _ _ f2 f1
  | some j =>
    have hj := fnd_lt C p l 0 j hq
    rw [if_neg (show ¬ fi (some j) < 0 from n_nlt0 j (by omega)), if_neg (show ¬ some j = none by intro z; cases z), if_neg (show ¬ (2 : Nat) = 0 by omega)]
    obtain ⟨f1, f2⟩ := h_flt (G := G) h (n := 2) ⟨by omega, by omega⟩
    exact key _ _ f2 f1
theorem h_nw47N {I : am_I} (hX : cX K V T I G) {p : Nat} {e : Option (Nat × Nat)} (h : cH K T I p e) (hk : ¬ K p = 39) : R_X6_readNewName_28_47 I G = some ((), g_X6_refuse_28 I G, G) := by
  unfold R_X6_readNewName_28_47
  rw [if_neg (kN (k := 39) (w := (39 : Int32)) rfl hX.1 h.1.2.2 h.1.2.1 (by omega) hk)]
theorem h_nw47D {I : am_I} {q : Nat} (h : cD I q) : R_X6_readNewName_28_47 I G = some ((), g_X6_refuse_28 I G, G) := by
  unfold R_X6_readNewName_28_47
  rw [if_neg (by rw [h.1]; decide)]
theorem h_fi490 {l : List Nat} {I : am_I} {a : Nat} (hb : ∀ a, C a < 9000000000000000000) (h : cT1 C 49 50 4 l I G) : ∀ (m k n : Nat), k + m = l.length → m < n → L_X2_find_49 n 0 I G (Int64.ofNat (C a)) (Int32.ofNat k) = some (fi (fnd C a (l.drop k) k), I, G) := by
  obtain ⟨h1, h2, h3⟩ := h
  intro m
  induction m with
  | zero =>
    intro k n hk hn
    obtain ⟨n, rfl⟩ : ∃ n', n = n' + 1 := ⟨n - 1, by omega⟩
    rw [L_X2_find_49_0, h1, if_pos ((n_le (by omega) (by omega)).mpr (by omega)), List.drop_eq_nil_of_le (by omega)]
    rfl
  | succ m ih =>
    intro k n hk hn
    obtain ⟨n, rfl⟩ : ∃ n', n = n' + 1 := ⟨n - 1, by omega⟩
    have hkl : k < l.length := by omega
    rw [L_X2_find_49_0, h1, if_neg (fun z => absurd ((n_le (by omega) (by omega)).mp z) (by omega)), if_neg (fun z => absurd ((n_le (by omega) (by omega)).mp z) (by omega)), rg_pos ((n_in (by omega)).mpr (by omega)), n_cl (by omega), h3 k hkl, List.drop_eq_getElem_cons hkl, show l.getD k 0 = l[k] by rw [List.getD_eq_getElem?_getD, List.getElem?_eq_getElem hkl]; rfl]
    unfold fnd
    by_cases hc : C l[k] = C a
    · rw [if_pos ((am_cmp_eq _ _).mpr (by rw [hc])), if_pos hc]
      rfl
    · rw [if_neg (fun z => hc (by have := (am_cmp_eq _ _).mp z; rw [l_of (hb _), l_of (hb _)] at this; omega)), if_neg hc, n_inc]
      exact ih (k + 1) n (by omega) (by omega)
theorem h_fi49 {l : List Nat} {I : am_I} {a : Nat} (hb : ∀ a, C a < 9000000000000000000) (h : cT1 C 49 50 4 l I G) : R_X2_find_49 I G (Int64.ofNat (C a)) = some (fi (fnd C a l 0), I, G) := by
  have h2 := h.2.1
  exact h_fi490 hb h l.length 0 FU (by omega) (by unfold FU; omega)
theorem h_nw49Y {I : am_I} {l : List Nat} (hX : cX K V T I G) (hC : cC K C T G) (hN : cT1 C 49 50 4 l I G) {p : Nat} {e : Option (Nat × Nat)} (h : cH K T I p e) (hk : K p = 39) : ∃ (I' : am_I) (G' : am_G), R_X6_readNewName_28_49 I G = some ((), I', G') ∧ cH K T I' (p + 1) (eo e (nwE C l 4 p) p) ∧ cT1 C 49 50 4 (if l.length < 4 then l ++ [p] else l) I' G' ∧ (∀ b, b ≠ 28 → b ≠ 49 → I' b = I b) ∧ (∀ b, b ≠ 50 → G' b = G b) ∧ (∀ k, k ≠ 5 → k ≠ 6 → k ≠ 7 → k ≠ 8 → I' 28 k = I 28 k) ∧ ∀ k, k ≠ 1 → I' 49 k = I 49 k := by
  have hp := hX.1.lt h.1.2.2 (by omega)
  have hT := hX.1.1
  have h2 := hN.2.1
  have hc : f_X9_contentAt_1 I G (I 28 5) = Int64.ofNat (C p) := by rw [h_cont h.1.1 (by omega)]; exact hC.2 p h.1.2.2 hk
  have key : ∀ (J : am_I) (e' : Option (Nat × Nat)), hf I J → cH K T J p e' → ∃ (I' : am_I) (G' : am_G), some ((), g_X6_advance_28 (g_X2_add_49 J G (Int64.ofNat (C p))) (h_X2_add_49 J G (Int64.ofNat (C p))), h_X2_add_49 J G (Int64.ofNat (C p))) = some ((), I', G') ∧ cH K T I' (p + 1) e' ∧ cT1 C 49 50 4 (if l.length < 4 then l ++ [p] else l) I' G' ∧ (∀ b, b ≠ 28 → b ≠ 49 → I' b = I b) ∧ (∀ b, b ≠ 50 → G' b = G b) ∧ (∀ k, k ≠ 5 → k ≠ 6 → k ≠ 7 → k ≠ 8 → I' 28 k = I 28 k) ∧ ∀ k, k ≠ 1 → I' 49 k = I 49 k := by
    intro J e' hJ hH
    have j1 : J 49 1 = Int32.ofNat l.length := by rw [hJ.1 49 (by omega)]; exact hN.1
    unfold g_X2_add_49 h_X2_add_49
    rw [j1, if_neg (n_nlt0 _ (by omega)), if_neg (n_nlt0 _ (by omega))]
    by_cases hl : l.length < 4
    · rw [if_neg (fun z => absurd ((n_le (by omega) (by omega)).mp z) (by omega)), if_neg (fun z => absurd ((n_le (by omega) (by omega)).mp z) (by omega)), n_cl (by omega), n_inc, if_pos hl]
      have hH' : cH K T (am_up J 49 1 (Int32.ofNat (l.length + 1))) p e' := ⟨by rw [up_row _ _ _ (by omega)]; exact hH.1, hH.2.kept (by rw [up_row _ _ _ (by omega)]) (by rw [up_row _ _ _ (by omega)]) (up_row _ _ _ (by omega))⟩
      have hX' : cX K V T (am_up J 49 1 (Int32.ofNat (l.length + 1))) (am_up G 50 l.length (Int64.ofNat (C p))) := by
        obtain ⟨x1, x2, x3, x4⟩ := (hX.h hJ).c41 (I' := am_up J 49 1 (Int32.ofNat (l.length + 1))) (up_row _ _ _ (by omega)) (up_row _ _ _ (by omega))
        exact ⟨x1, x2, x3, by rw [up_row _ _ _ (by omega)]; exact x4⟩
      obtain ⟨a1, a2⟩ := h_adv hX' hH' hp
      refine ⟨_, _, rfl, a1, ⟨by rw [a2.1 49 (by omega), am_up_self, List.length_append]; rfl, by rw [List.length_append]; simp; omega, fun k hk => ?_⟩, fun b z1 z2 => by rw [a2.1 b z1, up_row _ _ _ z2, hJ.1 b z1], fun b z => up_row _ _ _ z, fun k z1 z2 z3 z4 => by rw [a2.2 k z1 z2 z3 z4, up_row _ _ _ (by omega), hJ.2 k z1 z2 z3 z4], fun k z => by rw [a2.1 49 (by omega), up_in, if_neg z, hJ.1 49 (by omega)]⟩
      rw [List.length_append] at hk
      simp only [List.length_cons, List.length_nil] at hk
      rw [up_in]
      by_cases hkl : k = l.length
      · rw [if_pos hkl, hkl, List.getD_eq_getElem?_getD, List.getElem?_append_right (Nat.le_refl _), Nat.sub_self]
        rfl
      · rw [if_neg hkl, List.getD_eq_getElem?_getD, List.getElem?_append_left (by omega), ← List.getD_eq_getElem?_getD]
        exact hN.2.2 k (by omega)
    · rw [if_pos ((n_le (by omega) (by omega)).mpr (by omega)), if_pos ((n_le (by omega) (by omega)).mpr (by omega)), if_neg hl]
      obtain ⟨a1, a2⟩ := h_adv (hX.h hJ) hH hp
      exact ⟨_, _, rfl, a1, hN.kept ((a2.1 49 (by omega)).trans (hJ.1 49 (by omega))) rfl, fun b z1 z2 => (a2.1 b z1).trans (hJ.1 b z1), fun b z => rfl, fun k z1 z2 z3 z4 => (a2.2 k z1 z2 z3 z4).trans (hJ.2 k z1 z2 z3 z4), fun k z => by rw [a2.1 49 (by omega), hJ.1 49 (by omega)]⟩
  unfold R_X6_readNewName_28_49
  rw [if_pos (kY (k := 39) (w := (39 : Int32)) rfl hX.1 h.1.2.2 h.1.2.1 (by omega) hk), hc, h_fi49 hC.1 hN, rb_go]
  unfold nwE eo
  cases hq : fnd C p l 0 with
  | none =>
    rw [if_pos (show fi none < 0 by decide), if_pos rfl]
    unfold f_X2_isFull_49
    rw [hN.1]
    by_cases hl : l.length < 4
    · rw [if_pos hl, if_pos rfl, if_pos (show (if Int32.ofNat l.length < Int32.ofNat 4 then (0 : Int32) else 1) = 0 by rw [if_pos ((n_lt (by omega) (by omega)).mpr hl)])]
      exact key I e (hf.rf I) h
    · rw [if_neg hl, if_neg (show ¬ (4 : Nat) = 0 by omega), if_neg (show ¬ (if Int32.ofNat l.length < Int32.ofNat 4 then (0 : Int32) else 1) = 0 by rw [if_neg (fun z => hl ((n_lt (by omega) (by omega)).mp z))]; decide)]
      obtain ⟨f1, f2⟩ := h_flt (G := G) h (n := 4) ⟨by omega, by omega⟩
      exact key _ _ f2 f1
  | some j =>
    have hj := fnd_lt C p l 0 j hq
    rw [if_neg (show ¬ fi (some j) < 0 from n_nlt0 j (by omega)), if_neg (show ¬ some j = none by intro z; cases z), if_neg (show ¬ (2 : Nat) = 0 by omega)]
    obtain ⟨f1, f2⟩ := h_flt (G := G) h (n := 2) ⟨by omega, by omega⟩
    exact key _ _ f2 f1
theorem h_nw49N {I : am_I} (hX : cX K V T I G) {p : Nat} {e : Option (Nat × Nat)} (h : cH K T I p e) (hk : ¬ K p = 39) : R_X6_readNewName_28_49 I G = some ((), g_X6_refuse_28 I G, G) := by
  unfold R_X6_readNewName_28_49
  rw [if_neg (kN (k := 39) (w := (39 : Int32)) rfl hX.1 h.1.2.2 h.1.2.1 (by omega) hk)]
theorem h_nw49D {I : am_I} {q : Nat} (h : cD I q) : R_X6_readNewName_28_49 I G = some ((), g_X6_refuse_28 I G, G) := by
  unfold R_X6_readNewName_28_49
  rw [if_neg (by rw [h.1]; decide)]
theorem h_fi510 {l : List Nat} {I : am_I} {a : Nat} (hb : ∀ a, C a < 9000000000000000000) (h : cT1 C 51 52 5 l I G) : ∀ (m k n : Nat), k + m = l.length → m < n → L_X2_find_51 n 0 I G (Int64.ofNat (C a)) (Int32.ofNat k) = some (fi (fnd C a (l.drop k) k), I, G) := by
  obtain ⟨h1, h2, h3⟩ := h
  intro m
  induction m with
  | zero =>
    intro k n hk hn
    obtain ⟨n, rfl⟩ : ∃ n', n = n' + 1 := ⟨n - 1, by omega⟩
    rw [L_X2_find_51_0, h1, if_pos ((n_le (by omega) (by omega)).mpr (by omega)), List.drop_eq_nil_of_le (by omega)]
    rfl
  | succ m ih =>
    intro k n hk hn
    obtain ⟨n, rfl⟩ : ∃ n', n = n' + 1 := ⟨n - 1, by omega⟩
    have hkl : k < l.length := by omega
    rw [L_X2_find_51_0, h1, if_neg (fun z => absurd ((n_le (by omega) (by omega)).mp z) (by omega)), if_neg (fun z => absurd ((n_le (by omega) (by omega)).mp z) (by omega)), rg_pos ((n_in (by omega)).mpr (by omega)), n_cl (by omega), h3 k hkl, List.drop_eq_getElem_cons hkl, show l.getD k 0 = l[k] by rw [List.getD_eq_getElem?_getD, List.getElem?_eq_getElem hkl]; rfl]
    unfold fnd
    by_cases hc : C l[k] = C a
    · rw [if_pos ((am_cmp_eq _ _).mpr (by rw [hc])), if_pos hc]
      rfl
    · rw [if_neg (fun z => hc (by have := (am_cmp_eq _ _).mp z; rw [l_of (hb _), l_of (hb _)] at this; omega)), if_neg hc, n_inc]
      exact ih (k + 1) n (by omega) (by omega)
theorem h_fi51 {l : List Nat} {I : am_I} {a : Nat} (hb : ∀ a, C a < 9000000000000000000) (h : cT1 C 51 52 5 l I G) : R_X2_find_51 I G (Int64.ofNat (C a)) = some (fi (fnd C a l 0), I, G) := by
  have h2 := h.2.1
  exact h_fi510 hb h l.length 0 FU (by omega) (by unfold FU; omega)
theorem h_nw51Y {I : am_I} {l : List Nat} (hX : cX K V T I G) (hC : cC K C T G) (hN : cT1 C 51 52 5 l I G) {p : Nat} {e : Option (Nat × Nat)} (h : cH K T I p e) (hk : K p = 39) : ∃ (I' : am_I) (G' : am_G), R_X6_readNewName_28_51 I G = some ((), I', G') ∧ cH K T I' (p + 1) (eo e (nwE C l 5 p) p) ∧ cT1 C 51 52 5 (if l.length < 5 then l ++ [p] else l) I' G' ∧ (∀ b, b ≠ 28 → b ≠ 51 → I' b = I b) ∧ (∀ b, b ≠ 52 → G' b = G b) ∧ (∀ k, k ≠ 5 → k ≠ 6 → k ≠ 7 → k ≠ 8 → I' 28 k = I 28 k) ∧ ∀ k, k ≠ 1 → I' 51 k = I 51 k := by
  have hp := hX.1.lt h.1.2.2 (by omega)
  have hT := hX.1.1
  have h2 := hN.2.1
  have hc : f_X9_contentAt_1 I G (I 28 5) = Int64.ofNat (C p) := by rw [h_cont h.1.1 (by omega)]; exact hC.2 p h.1.2.2 hk
  have key : ∀ (J : am_I) (e' : Option (Nat × Nat)), hf I J → cH K T J p e' → ∃ (I' : am_I) (G' : am_G), some ((), g_X6_advance_28 (g_X2_add_51 J G (Int64.ofNat (C p))) (h_X2_add_51 J G (Int64.ofNat (C p))), h_X2_add_51 J G (Int64.ofNat (C p))) = some ((), I', G') ∧ cH K T I' (p + 1) e' ∧ cT1 C 51 52 5 (if l.length < 5 then l ++ [p] else l) I' G' ∧ (∀ b, b ≠ 28 → b ≠ 51 → I' b = I b) ∧ (∀ b, b ≠ 52 → G' b = G b) ∧ (∀ k, k ≠ 5 → k ≠ 6 → k ≠ 7 → k ≠ 8 → I' 28 k = I 28 k) ∧ ∀ k, k ≠ 1 → I' 51 k = I 51 k := by
    intro J e' hJ hH
    have j1 : J 51 1 = Int32.ofNat l.length := by rw [hJ.1 51 (by omega)]; exact hN.1
    unfold g_X2_add_51 h_X2_add_51
    rw [j1, if_neg (n_nlt0 _ (by omega)), if_neg (n_nlt0 _ (by omega))]
    by_cases hl : l.length < 5
    · rw [if_neg (fun z => absurd ((n_le (by omega) (by omega)).mp z) (by omega)), if_neg (fun z => absurd ((n_le (by omega) (by omega)).mp z) (by omega)), n_cl (by omega), n_inc, if_pos hl]
      have hH' : cH K T (am_up J 51 1 (Int32.ofNat (l.length + 1))) p e' := ⟨by rw [up_row _ _ _ (by omega)]; exact hH.1, hH.2.kept (by rw [up_row _ _ _ (by omega)]) (by rw [up_row _ _ _ (by omega)]) (up_row _ _ _ (by omega))⟩
      have hX' : cX K V T (am_up J 51 1 (Int32.ofNat (l.length + 1))) (am_up G 52 l.length (Int64.ofNat (C p))) := by
        obtain ⟨x1, x2, x3, x4⟩ := (hX.h hJ).c41 (I' := am_up J 51 1 (Int32.ofNat (l.length + 1))) (up_row _ _ _ (by omega)) (up_row _ _ _ (by omega))
        exact ⟨x1, x2, x3, by rw [up_row _ _ _ (by omega)]; exact x4⟩
      obtain ⟨a1, a2⟩ := h_adv hX' hH' hp
      refine ⟨_, _, rfl, a1, ⟨by rw [a2.1 51 (by omega), am_up_self, List.length_append]; rfl, by rw [List.length_append]; simp; omega, fun k hk => ?_⟩, fun b z1 z2 => by rw [a2.1 b z1, up_row _ _ _ z2, hJ.1 b z1], fun b z => up_row _ _ _ z, fun k z1 z2 z3 z4 => by rw [a2.2 k z1 z2 z3 z4, up_row _ _ _ (by omega), hJ.2 k z1 z2 z3 z4], fun k z => by rw [a2.1 51 (by omega), up_in, if_neg z, hJ.1 51 (by omega)]⟩
      rw [List.length_append] at hk
      simp only [List.length_cons, List.length_nil] at hk
      rw [up_in]
      by_cases hkl : k = l.length
      · rw [if_pos hkl, hkl, List.getD_eq_getElem?_getD, List.getElem?_append_right (Nat.le_refl _), Nat.sub_self]
        rfl
      · rw [if_neg hkl, List.getD_eq_getElem?_getD, List.getElem?_append_left (by omega), ← List.getD_eq_getElem?_getD]
        exact hN.2.2 k (by omega)
    · rw [if_pos ((n_le (by omega) (by omega)).mpr (by omega)), if_pos ((n_le (by omega) (by omega)).mpr (by omega)), if_neg hl]
      obtain ⟨a1, a2⟩ := h_adv (hX.h hJ) hH hp
      exact ⟨_, _, rfl, a1, hN.kept ((a2.1 51 (by omega)).trans (hJ.1 51 (by omega))) rfl, fun b z1 z2 => (a2.1 b z1).trans (hJ.1 b z1), fun b z => rfl, fun k z1 z2 z3 z4 => (a2.2 k z1 z2 z3 z4).trans (hJ.2 k z1 z2 z3 z4), fun k z => by rw [a2.1 51 (by omega), hJ.1 51 (by omega)]⟩
  unfold R_X6_readNewName_28_51
  rw [if_pos (kY (k := 39) (w := (39 : Int32)) rfl hX.1 h.1.2.2 h.1.2.1 (by omega) hk), hc, h_fi51 hC.1 hN, rb_go]
  unfold nwE eo
  cases hq : fnd C p l 0 with
  | none =>
    rw [if_pos (show fi none < 0 by decide), if_pos rfl]
    unfold f_X2_isFull_51
    rw [hN.1]
    by_cases hl : l.length < 5
    · rw [if_pos hl, if_pos rfl, if_pos (show (if Int32.ofNat l.length < Int32.ofNat 5 then (0 : Int32) else 1) = 0 by rw [if_pos ((n_lt (by omega) (by omega)).mpr hl)])]
      exact key I e (hf.rf I) h
    · rw [if_neg hl, if_neg (show ¬ (4 : Nat) = 0 by omega), if_neg (show ¬ (if Int32.ofNat l.length < Int32.ofNat 5 then (0 : Int32) else 1) = 0 by rw [if_neg (fun z => hl ((n_lt (by omega) (by omega)).mp z))]; decide)]
      obtain ⟨f1, f2⟩ := h_flt (G := G) h (n := 4) ⟨by omega, by omega⟩
      exact key _ _ f2 f1
  | some j =>
    have hj := fnd_lt C p l 0 j hq
    rw [if_neg (show ¬ fi (some j) < 0 from n_nlt0 j (by omega)), if_neg (show ¬ some j = none by intro z; cases z), if_neg (show ¬ (2 : Nat) = 0 by omega)]
    obtain ⟨f1, f2⟩ := h_flt (G := G) h (n := 2) ⟨by omega, by omega⟩
    exact key _ _ f2 f1
theorem h_nw51N {I : am_I} (hX : cX K V T I G) {p : Nat} {e : Option (Nat × Nat)} (h : cH K T I p e) (hk : ¬ K p = 39) : R_X6_readNewName_28_51 I G = some ((), g_X6_refuse_28 I G, G) := by
  unfold R_X6_readNewName_28_51
  rw [if_neg (kN (k := 39) (w := (39 : Int32)) rfl hX.1 h.1.2.2 h.1.2.1 (by omega) hk)]
theorem h_nw51D {I : am_I} {q : Nat} (h : cD I q) : R_X6_readNewName_28_51 I G = some ((), g_X6_refuse_28 I G, G) := by
  unfold R_X6_readNewName_28_51
  rw [if_neg (by rw [h.1]; decide)]
theorem cN_of {L : Nat → List Nat} {I : am_I} (hC : cC K C T G) (h : cNm C L I G) : cN K T (nmL C L) I G := by
  intro I' h47 h49 h51 p hp hk
  obtain ⟨a, b, c⟩ := h
  have a' := a.kept (I' := I') (G' := G) h47 rfl
  have b' := b.kept (I' := I') (G' := G) h49 rfl
  have c' := c.kept (I' := I') (G' := G) h51 rfl
  rw [hC.2 p hp hk]
  refine ⟨h_fi47 hC.1 a', h_fi49 hC.1 b', h_fi51 hC.1 c', rfl, fun op k hq => ?_⟩
  unfold nmL at hq
  have l1 := a.2.1
  have l2 := b.2.1
  have l3 := c.2.1
  by_cases h6 : op = 6 ∨ op = 9 ∨ op = 16
  · rw [if_pos h6] at hq
    have := fnd_lt _ _ _ _ _ hq
    rcases h6 with rfl | rfl | rfl <;> omega
  · rw [if_neg h6] at hq
    by_cases h18 : op = 18
    · rw [if_pos h18] at hq
      have := fnd_lt _ _ _ _ _ hq
      omega
    · rw [if_neg h18] at hq; cases hq
end CH
