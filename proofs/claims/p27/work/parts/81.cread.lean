/-! the class's reader of sums and tests: what it does is the syntax -/
section CPA
variable {K V : Nat → Nat} {T : Nat} {nm : Nat → Nat → Option Nat} {G : am_G}
/-- the tokens in the class's cells -/
def cX (K V : Nat → Nat) (T : Nat) (I : am_I) (G : am_G) : Prop := k_ok K V T ∧ I 1 6 = Int32.ofNat (T + 1) ∧ (∀ p, p ≤ T → I 4 p = Int32.ofNat (K p)) ∧ ∀ p, p ≤ T → K p = 40 → (G 6 p).toInt32 = Int32.ofNat (V p)
def fi (x : Option Nat) : Int32 := match x with
  | none => -1
  | some k => Int32.ofNat k
/-- the names told, in the class's cells -/
def cN (K : Nat → Nat) (T : Nat) (nm : Nat → Nat → Option Nat) (I : am_I) (G : am_G) : Prop := ∀ I' : am_I, I' 47 = I 47 → I' 49 = I 49 → I' 51 = I 51 → ∀ p, p ≤ T → K p = 39 → R_X2_find_47 I' G (G 6 p) = some (fi (nm 6 p), I', G) ∧ R_X2_find_49 I' G (G 6 p) = some (fi (nm 9 p), I', G) ∧ R_X2_find_51 I' G (G 6 p) = some (fi (nm 16 p), I', G) ∧ nm 18 p = nm 16 p ∧ ∀ op k, nm op p = some k → k < 100
def cE (I : am_I) (e : Option (Nat × Nat)) : Prop := match e with
  | none => I 28 7 = 0 ∧ I 28 8 = -1
  | some (n, q) => I 28 7 = Int32.ofNat n ∧ I 28 8 = gAt (I 5) 401 (Int32.ofNat q) ∧ 2 ≤ n ∧ n ≤ 5
def cL (K : Nat → Nat) (T : Nat) (I : am_I) (p : Nat) (e : Option (Nat × Nat)) (len no : Nat) : Prop := (I 28 5 = Int32.ofNat p ∧ I 28 6 = Int32.ofNat (K p) ∧ p ≤ T) ∧ cE I e ∧ I 38 9 = Int32.ofNat len ∧ (I 38 8 = Int32.ofNat no ∧ 1 ≤ no ∧ no ≤ 20)
def cD (I : am_I) (q : Nat) : Prop := I 28 6 = 42 ∧ I 28 7 = 1 ∧ I 28 8 = gAt (I 5) 401 (Int32.ofNat q)
/-- what the reader changes -/
def cfr (I I' : am_I) : Prop := (∀ b, b ≠ 28 → b ≠ 38 → b ≠ 44 → b ≠ 45 → b ≠ 46 → I' b = I b) ∧ (∀ k, k ≠ 5 → k ≠ 6 → k ≠ 7 → k ≠ 8 → I' 28 k = I 28 k) ∧ ∀ k, k ≠ 9 → I' 38 k = I 38 k
theorem cfr.rf (I : am_I) : cfr I I := ⟨fun _ _ _ _ _ _ => rfl, fun _ _ _ _ _ => rfl, fun _ _ => rfl⟩
theorem cfr.tr {I I1 I2 : am_I} (h1 : cfr I I1) (h2 : cfr I1 I2) : cfr I I2 := ⟨fun b z1 z2 z3 z4 z5 => (h2.1 b z1 z2 z3 z4 z5).trans (h1.1 b z1 z2 z3 z4 z5), fun k z1 z2 z3 z4 => (h2.2.1 k z1 z2 z3 z4).trans (h1.2.1 k z1 z2 z3 z4), fun k z => (h2.2.2 k z).trans (h1.2.2 k z)⟩
theorem cX.kept {I I' : am_I} (h : cX K V T I G) (hf : cfr I I') : cX K V T I' G := by
  obtain ⟨a, b, c, d⟩ := h
  exact ⟨a, by rw [hf.1 1 (by omega) (by omega) (by omega) (by omega) (by omega)]; exact b, by rw [hf.1 4 (by omega) (by omega) (by omega) (by omega) (by omega)]; exact c, d⟩
theorem cN.kept {I I' : am_I} (h : cN K T nm I G) (hf : cfr I I') : cN K T nm I' G := by
  intro J h1 h2 h3
  exact h J (h1.trans (hf.1 47 (by omega) (by omega) (by omega) (by omega) (by omega))) (h2.trans (hf.1 49 (by omega) (by omega) (by omega) (by omega) (by omega))) (h3.trans (hf.1 51 (by omega) (by omega) (by omega) (by omega) (by omega)))
theorem k_ok.le {p : Nat} (h : k_ok K V T) (hp : p ≤ T) : K p ≤ 42 := by
  by_cases hq : p = T
  · subst hq; have := h.2.2.1; omega
  · have := h.2.1 p (by omega); omega
theorem kN {I : am_I} {p k : Nat} {w : Int32} (hw : w = Int32.ofNat k) (hk : k_ok K V T) (hp : p ≤ T) (h : I 28 6 = Int32.ofNat (K p)) (hb : k ≤ 1000) (hn : ¬ K p = k) : ¬ I 28 6 = w := by
  have := hk.le hp
  rw [h, hw, n_eq (by omega) (by omega)]
  exact hn
theorem kY {I : am_I} {p k : Nat} {w : Int32} (hw : w = Int32.ofNat k) (hk : k_ok K V T) (hp : p ≤ T) (h : I 28 6 = Int32.ofNat (K p)) (hb : k ≤ 1000) (hn : K p = k) : I 28 6 = w := by rw [h, hw, hn]
theorem k_is {I : am_I} {p k : Nat} (hk : k_ok K V T) (hp : p ≤ T) (h : I 28 6 = Int32.ofNat (K p)) (hb : k ≤ 1000) : (I 28 6 = Int32.ofNat k) ↔ K p = k := by
  have := hk.le hp
  rw [h, n_eq (by omega) (by omega)]
def e_or (e : Option (Nat × Nat)) (x : Nat × Nat) : Option (Nat × Nat) := match e with
  | none => some x
  | some y => some y
/-- the faults of names that aren't told -/
def fe (nm : Nat → Nat → Option Nat) : List (Nat × Nat) → Option (Nat × Nat) → Option (Nat × Nat)
  | [], e => e
  | (op, a) :: r, e => fe nm r (if s_nmd op = true ∧ nm op a = none then e_or e (3, a) else e)
theorem fe1n {op a : Nat} {e : Option (Nat × Nat)} (h1 : s_nmd op = true) (h2 : nm op a = none) : fe nm [(op, a)] e = e_or e (3, a) := by
  show (if s_nmd op = true ∧ nm op a = none then e_or e (3, a) else e) = _
  rw [if_pos ⟨h1, h2⟩]
theorem fe1s {op a k : Nat} {e : Option (Nat × Nat)} (h2 : nm op a = some k) : fe nm [(op, a)] e = e := by
  show (if s_nmd op = true ∧ nm op a = none then e_or e (3, a) else e) = _
  rw [if_neg (fun z => by rw [h2] at z; cases z.2)]
theorem fe_app : ∀ (a b : List (Nat × Nat)) (e : Option (Nat × Nat)), fe nm (a ++ b) e = fe nm b (fe nm a e)
  | [], b, e => rfl
  | (op, x) :: r, b, e => by simp only [List.cons_append, fe]; exact fe_app r b _
theorem fe_un {op a : Nat} {e : Option (Nat × Nat)} (h : s_nmd op = false) : fe nm [(op, a)] e = e := by simp only [fe, h]; rfl
def c_op (nm : Nat → Nat → Option Nat) (q : Nat × Nat) : Int32 := if s_nmd q.1 = true then fi (nm q.1 q.2) else Int32.ofNat q.2
def cc (nm : Nat → Nat → Option Nat) (I : am_I) : Nat → List (Nat × Nat) → Prop
  | _, [] => True
  | k, q :: r => (I 45 k = Int32.ofNat q.1 ∧ I 46 k = c_op nm q) ∧ cc nm I (k + 1) r
theorem cc_app {I : am_I} : ∀ (a b : List (Nat × Nat)) (k : Nat), cc nm I k (a ++ b) ↔ cc nm I k a ∧ cc nm I (k + a.length) b
  | [], b, k => by simp [cc]
  | q :: r, b, k => by
    simp only [List.cons_append, cc, cc_app r b (k + 1), List.length_cons]
    rw [show k + 1 + r.length = k + (r.length + 1) by omega]
    exact and_assoc.symm
theorem cc_kept {I I' : am_I} : ∀ (a : List (Nat × Nat)) (k : Nat), cc nm I k a → (∀ j, k ≤ j → j < k + a.length → I' 45 j = I 45 j ∧ I' 46 j = I 46 j) → cc nm I' k a
  | [], k, _, _ => trivial
  | q :: r, k, h, hk => by
    obtain ⟨e1, e2⟩ := hk k (Nat.le_refl _) (by simp)
    refine ⟨⟨by rw [e1]; exact h.1.1, by rw [e2]; exact h.1.2⟩, cc_kept r (k + 1) h.2 (fun j h1 h2 => hk j (by omega) (by simp only [List.length_cons]; omega))⟩
theorem s_lk_app (a b : List (Nat × Nat)) : s_lk (a ++ b) = (s_lk a || s_lk b) := by
  induction a with
  | nil => simp [s_lk]
  | cons q r ih => obtain ⟨op, x⟩ := q; simp only [List.cons_append, s_lk, ih, Bool.or_assoc]
/-- the code has grown by c -/
def cx (nm : Nat → Nat → Option Nat) (I I' : am_I) (len no : Nat) (c : List (Nat × Nat)) : Prop := cc nm I' len c ∧ (∀ j, j < len → I' 45 j = I 45 j ∧ I' 46 j = I 46 j) ∧ (s_lk c = true → ¬ I' 44 (no - 1) = 0) ∧ (∀ x, ¬ I 44 x = 0 → ¬ I' 44 x = 0) ∧ ∀ x, x ≠ no - 1 → I' 44 x = I 44 x
theorem cx.nil {I I' : am_I} {len no : Nat} (h4 : I' 44 = I 44) (h5 : I' 45 = I 45) (h6 : I' 46 = I 46) : cx nm I I' len no [] := by
  refine ⟨trivial, fun j _ => ?_, fun h => ?_, fun x h => ?_, fun x _ => ?_⟩
  · rw [h5, h6]; exact ⟨rfl, rfl⟩
  · cases h
  · rw [h4]; exact h
  · rw [h4]
theorem cx.tr {I I1 I2 : am_I} {len no : Nat} {a b : List (Nat × Nat)} (h1 : cx nm I I1 len no a) (h2 : cx nm I1 I2 (len + a.length) no b) : cx nm I I2 len no (a ++ b) := by
  refine ⟨(cc_app a b len).mpr ⟨cc_kept a len h1.1 (fun j h3 h4 => h2.2.1 j h4), h2.1⟩, fun j hj => ?_, fun h => ?_, fun x hx => h2.2.2.2.1 x (h1.2.2.2.1 x hx), fun x hx => (h2.2.2.2.2 x hx).trans (h1.2.2.2.2 x hx)⟩
  · obtain ⟨a1, a2⟩ := h1.2.1 j hj
    obtain ⟨b1, b2⟩ := h2.2.1 j (by omega)
    exact ⟨b1.trans a1, b2.trans a2⟩
  · rw [s_lk_app, Bool.or_eq_true] at h
    rcases h with h | h
    · exact h2.2.2.2.1 _ (h1.2.2.1 h)
    · exact h2.2.2.1 h
def cQ (K : Nat → Nat) (T : Nat) (nm : Nat → Nat → Option Nat) (I I' : am_I) (e : Option (Nat × Nat)) (len no : Nat) (r : sR) : Prop := match r with
  | .inl (p', c) => cL K T I' p' (fe nm c e) (len + c.length) no ∧ cx nm I I' len no c
  | .inr q => cD I' q
def cR (K : Nat → Nat) (T : Nat) (nm : Nat → Nat → Option Nat) (I I' : am_I) (e : Option (Nat × Nat)) (len no : Nat) (r : sR) : Prop := cfr I I' ∧ cQ K T nm I I' e len no r
/-! the steps -/
theorem cE.kept {I I' : am_I} {e : Option (Nat × Nat)} (h : cE I e) (h7 : I' 28 7 = I 28 7) (h8 : I' 28 8 = I 28 8) (h5 : I' 5 = I 5) : cE I' e := by
  cases e with
  | none => exact ⟨h7.trans h.1, h8.trans h.2⟩
  | some x => obtain ⟨n, q⟩ := x; exact ⟨h7.trans h.1, by rw [h8, h5]; exact h.2.1, h.2.2⟩
theorem cE.n1 {I : am_I} {e : Option (Nat × Nat)} (h : cE I e) : ¬ I 28 7 = 1 := by
  cases e with
  | none => rw [h.1]; decide
  | some x =>
    obtain ⟨n, q⟩ := x
    rw [h.1]
    exact fun z => absurd ((n_eq (b := 1) (by have := h.2.2.2; omega) (by omega)).mp z) (by have := h.2.2.1; omega)
theorem c_adv {I : am_I} (hX : cX K V T I G) {p len no : Nat} {e : Option (Nat × Nat)} (h : cL K T I p e len no) (hp : p < T) : cL K T (g_X6_advance_28 I G) (p + 1) e len no ∧ cfr I (g_X6_advance_28 I G) ∧ ∀ b, b ≠ 28 → g_X6_advance_28 I G b = I b := by
  obtain ⟨⟨h5, h6, h7⟩, hE, hl, hn⟩ := h
  have hk := hX.1.2.1 p hp
  have hT := hX.1.1
  have e5 : I 28 5 + (1 : Int32) = Int32.ofNat (p + 1) := by rw [h5, n_inc]
  have e : g_X6_advance_28 I G = am_up (am_up I 28 5 (Int32.ofNat (p + 1))) 28 6 (Int32.ofNat (K (p + 1))) := by
    unfold g_X6_advance_28
    rw [if_neg (kN (k := 41) (w := (41 : Int32)) rfl hX.1 h7 h6 (by omega) (by omega)), if_neg (kN (k := 42) (w := (42 : Int32)) rfl hX.1 h7 h6 (by omega) (by omega)), e5]
    unfold f_X9_kindAt_1
    rw [if_neg (n_nlt0 _ (by omega)), up_row _ _ _ (by omega), hX.2.1, if_neg (fun z => absurd ((n_le (by omega) (by omega)).mp z) (by omega)), if_neg (fun z => absurd ((n_le (by omega) (by omega)).mp z) (by omega)), up_row _ _ _ (by omega), n_cl (by omega), hX.2.2.1 (p + 1) (by omega)]
  have eb : ∀ b, b ≠ 28 → g_X6_advance_28 I G b = I b := fun b hb => by rw [e, up_row _ _ _ hb, up_row _ _ _ hb]
  have ek : ∀ k, k ≠ 5 → k ≠ 6 → g_X6_advance_28 I G 28 k = I 28 k := fun k z1 z2 => by rw [e, up_in, if_neg z2, up_in, if_neg z1]
  refine ⟨⟨⟨by rw [e, up_in, if_neg (by omega), am_up_self], by rw [e, am_up_self], by omega⟩, hE.kept (ek 7 (by omega) (by omega)) (ek 8 (by omega) (by omega)) (eb 5 (by omega)), by rw [eb 38 (by omega)]; exact hl, by rw [eb 38 (by omega)]; exact hn⟩, ⟨fun b z1 _ _ _ _ => eb b z1, fun k z1 z2 _ _ => ek k z1 z2, fun k _ => by rw [eb 38 (by omega)]⟩, eb⟩
theorem c_ref (I : am_I) : cfr I (g_X6_refuse_28 I G) ∧ (∀ b, b ≠ 28 → g_X6_refuse_28 I G b = I b) ∧ (∀ q, cD I q → cD (g_X6_refuse_28 I G) q) ∧ ∀ p e len no, cL K T I p e len no → cD (g_X6_refuse_28 I G) p := by
  have eb : ∀ b, b ≠ 28 → g_X6_refuse_28 I G b = I b := by
    intro b hb
    unfold g_X6_refuse_28
    split
    · rw [up_row _ _ _ hb]
    · rw [up_row _ _ _ hb, up_row _ _ _ hb, up_row _ _ _ hb]
  have ek : ∀ k, k ≠ 6 → k ≠ 7 → k ≠ 8 → g_X6_refuse_28 I G 28 k = I 28 k := by
    intro k z1 z2 z3
    unfold g_X6_refuse_28
    split
    · rw [up_in, if_neg z1]
    · rw [up_in, if_neg z1, up_in, if_neg z3, up_in, if_neg z2]
  refine ⟨⟨fun b z1 _ _ _ _ => eb b z1, fun k _ z2 z3 z4 => ek k z2 z3 z4, fun k _ => by rw [eb 38 (by omega)]⟩, eb, fun q h => ?_, fun p e len no h => ?_⟩
  · unfold cD
    rw [eb 5 (by omega)]
    unfold g_X6_refuse_28
    rw [if_pos h.2.1]
    exact ⟨am_up_self _ _ _ _, by rw [up_in, if_neg (by omega)]; exact h.2.1, by rw [up_in, if_neg (by omega)]; exact h.2.2⟩
  · unfold cD
    rw [eb 5 (by omega)]
    unfold g_X6_refuse_28
    rw [if_neg h.2.1.n1]
    refine ⟨am_up_self _ _ _ _, by rw [up_in, if_neg (by omega), up_in, if_neg (by omega), am_up_self], ?_⟩
    rw [up_in, if_neg (by omega), am_up_self]
    rw [up_row _ _ _ (by omega), h.1.1]
theorem c_exD {I : am_I} {q : Nat} (h : cD I q) {w : Nat} (hw : w ≤ 41) : cfr I (g_X6_expect_28 I G (Int32.ofNat w)) ∧ cD (g_X6_expect_28 I G (Int32.ofNat w)) q := by
  unfold g_X6_expect_28
  rw [if_neg (fun z => absurd ((n_eq (a := 42) (by omega) (by omega)).mp (h.1.symm.trans z)) (by omega))]
  exact ⟨(c_ref (K := fun _ => 0) (T := 0) I).1, (c_ref (K := fun _ => 0) (T := 0) I).2.2.1 q h⟩
theorem c_exN {I : am_I} (hX : cX K V T I G) {p len no w : Nat} {e : Option (Nat × Nat)} (h : cL K T I p e len no) (hw : w ≤ 41) (hn : ¬ K p = w) : cfr I (g_X6_expect_28 I G (Int32.ofNat w)) ∧ cD (g_X6_expect_28 I G (Int32.ofNat w)) p := by
  unfold g_X6_expect_28
  rw [if_neg (fun z => hn ((k_is hX.1 h.1.2.2 h.1.2.1 (by omega)).mp z))]
  exact ⟨(c_ref (K := K) (T := T) I).1, (c_ref I).2.2.2 p e len no h⟩
theorem c_exY {I : am_I} (hX : cX K V T I G) {p len no w : Nat} {e : Option (Nat × Nat)} (h : cL K T I p e len no) (hw : w ≤ 40) (hn : K p = w) : cL K T (g_X6_expect_28 I G (Int32.ofNat w)) (p + 1) e len no ∧ cfr I (g_X6_expect_28 I G (Int32.ofNat w)) ∧ ∀ b, b ≠ 28 → g_X6_expect_28 I G (Int32.ofNat w) b = I b := by
  have hp := hX.1.lt h.1.2.2 (by omega)
  unfold g_X6_expect_28
  rw [if_pos ((k_is hX.1 h.1.2.2 h.1.2.1 (by omega)).mpr hn)]
  exact c_adv hX h hp
/-! an instruction more -/
def c_ad0 (I : am_I) (x y : Int32) : am_I := am_up (gPut (gPut I 45 400 (I 38 9) x) 46 400 ((gPut I 45 400 (I 38 9) x) 38 9) y) 38 9 (if (400 : Int32) < (((gPut (gPut I 45 400 (I 38 9) x) 46 400 ((gPut I 45 400 (I 38 9) x) 38 9) y) 38 9) + (1 : Int32)) then (400 : Int32) else (((gPut (gPut I 45 400 (I 38 9) x) 46 400 ((gPut I 45 400 (I 38 9) x) 38 9) y) 38 9) + (1 : Int32)))
def c_ad1 (I : am_I) (x y : Int32) : am_I := gPut (c_ad0 I x y) 44 20 (((gPut (gPut I 45 400 (I 38 9) x) 46 400 ((gPut I 45 400 (I 38 9) x) 38 9) y) 38 8) - (1 : Int32)) (1 : Int32)
theorem c_adE (I : am_I) (x y : Int32) : g_X3_add_38 I G x y = if x = (16 : Int32) then c_ad1 I x y else if x = (17 : Int32) then c_ad1 I x y else if x = (18 : Int32) then c_ad1 I x y else c_ad0 I x y := rfl
theorem c_ad0_b (I : am_I) (x y : Int32) : (∀ b, b ≠ 38 → b ≠ 45 → b ≠ 46 → c_ad0 I x y b = I b) ∧ ∀ k, k ≠ 9 → c_ad0 I x y 38 k = I 38 k := by
  unfold c_ad0
  exact ⟨fun b z1 z2 z3 => by rw [up_row _ _ _ z1, gPut_row z3, gPut_row z2], fun k z => by rw [up_in, if_neg z, gPut_row (by omega), gPut_row (by omega)]⟩
theorem c_ad1_b (I : am_I) (x y : Int32) : (∀ b, b ≠ 38 → b ≠ 44 → b ≠ 45 → b ≠ 46 → c_ad1 I x y b = I b) ∧ ∀ k, k ≠ 9 → c_ad1 I x y 38 k = I 38 k := by
  unfold c_ad1
  exact ⟨fun b z1 z2 z3 z4 => by rw [gPut_row z2, (c_ad0_b I x y).1 b z1 z3 z4], fun k z => by rw [gPut_row (by omega), (c_ad0_b I x y).2 k z]⟩
theorem c_add_b (I : am_I) (x y : Int32) : (∀ b, b ≠ 38 → b ≠ 44 → b ≠ 45 → b ≠ 46 → g_X3_add_38 I G x y b = I b) ∧ ∀ k, k ≠ 9 → g_X3_add_38 I G x y 38 k = I 38 k := by
  rw [c_adE]
  split
  · exact c_ad1_b I x y
  · split
    · exact c_ad1_b I x y
    · split
      · exact c_ad1_b I x y
      · exact ⟨fun b z1 _ z3 z4 => (c_ad0_b I x y).1 b z1 z3 z4, (c_ad0_b I x y).2⟩
theorem c_add_f (I : am_I) (x y : Int32) : cfr I (g_X3_add_38 I G x y) := ⟨fun b _ z2 z3 z4 z5 => (c_add_b I x y).1 b z2 z3 z4 z5, fun k _ _ _ _ => by rw [(c_add_b I x y).1 28 (by omega) (by omega) (by omega) (by omega)], (c_add_b I x y).2⟩
theorem c_add_d {I : am_I} {q : Nat} (h : cD I q) (x y : Int32) : cD (g_X3_add_38 I G x y) q := by
  unfold cD
  rw [(c_add_b I x y).1 28 (by omega) (by omega) (by omega) (by omega), (c_add_b I x y).1 5 (by omega) (by omega) (by omega) (by omega)]
  exact h
theorem c_add_L {I : am_I} {p len no op a : Nat} {e : Option (Nat × Nat)} {y : Int32} (h : cL K T I p e len no) (hT : T ≤ 400) (hl : len < 400) (hop : op ≤ 1000) (hy : y = c_op nm (op, a)) : cL K T (g_X3_add_38 I G (Int32.ofNat op) y) p e (len + 1) no ∧ cfr I (g_X3_add_38 I G (Int32.ofNat op) y) ∧ cx nm I (g_X3_add_38 I G (Int32.ofNat op) y) len no [(op, a)] := by
  obtain ⟨⟨h5, h6, h7⟩, hE, hl1, hn⟩ := h
  have g1 : gPut I 45 400 (I 38 9) (Int32.ofNat op) = am_up I 45 len (Int32.ofNat op) := by rw [hl1, n_gPut (by omega) (by omega)]
  have g2 : gPut (am_up I 45 len (Int32.ofNat op)) 46 400 ((am_up I 45 len (Int32.ofNat op)) 38 9) y = am_up (am_up I 45 len (Int32.ofNat op)) 46 len y := by rw [up_row _ _ _ (by omega), hl1, n_gPut (by omega) (by omega)]
  have e0 : c_ad0 I (Int32.ofNat op) y = am_up (am_up (am_up I 45 len (Int32.ofNat op)) 46 len y) 38 9 (Int32.ofNat (len + 1)) := by
    unfold c_ad0
    rw [g1, g2, up_row _ _ _ (by omega), up_row _ _ _ (by omega), hl1, n_inc, if_neg (show ¬ (400 : Int32) < Int32.ofNat (len + 1) from fun z => absurd ((n_lt (a := 400) (by omega) (by omega)).mp z) (by omega))]
  have e1 : c_ad1 I (Int32.ofNat op) y = am_up (am_up (am_up (am_up I 45 len (Int32.ofNat op)) 46 len y) 38 9 (Int32.ofNat (len + 1))) 44 (no - 1) 1 := by
    unfold c_ad1
    rw [e0, g1, g2, up_row _ _ _ (by omega), up_row _ _ _ (by omega), hn.1, n_dec hn.2.1, n_gPut (by omega) (by omega)]
  have key : ∀ J : am_I, ((J = c_ad1 I (Int32.ofNat op) y) ∨ (J = c_ad0 I (Int32.ofNat op) y ∧ s_lk [(op, a)] = false)) → cL K T J p e (len + 1) no ∧ cx nm I J len no [(op, a)] := by
    intro J hJ
    have eb : ∀ b, b ≠ 38 → b ≠ 44 → b ≠ 45 → b ≠ 46 → J b = I b := by
      rcases hJ with rfl | ⟨rfl, -⟩
      · exact (c_ad1_b I _ _).1
      · exact fun b z1 _ z3 z4 => (c_ad0_b I _ _).1 b z1 z3 z4
    have e38 : ∀ k, k ≠ 9 → J 38 k = I 38 k := by
      rcases hJ with rfl | ⟨rfl, -⟩
      · exact (c_ad1_b I _ _).2
      · exact (c_ad0_b I _ _).2
    have e9 : J 38 9 = Int32.ofNat (len + 1) := by
      rcases hJ with rfl | ⟨rfl, -⟩
      · rw [e1, up_row _ _ _ (by omega), am_up_self]
      · rw [e0, am_up_self]
    have e45 : J 45 = am_up I 45 len (Int32.ofNat op) 45 := by
      rcases hJ with rfl | ⟨rfl, -⟩
      · rw [e1, up_row _ _ _ (by omega), up_row _ _ _ (by omega), up_row _ _ _ (by omega)]
      · rw [e0, up_row _ _ _ (by omega), up_row _ _ _ (by omega)]
    have e46 : J 46 = am_up I 46 len y 46 := by
      funext j
      rcases hJ with rfl | ⟨rfl, -⟩
      · rw [e1, up_row _ _ _ (by omega), up_row _ _ _ (by omega), up_in, up_row _ _ _ (by omega), up_in]
      · rw [e0, up_row _ _ _ (by omega), up_in, up_row _ _ _ (by omega), up_in]
    have e28 := eb 28 (by omega) (by omega) (by omega) (by omega)
    refine ⟨⟨⟨by rw [e28]; exact h5, by rw [e28]; exact h6, h7⟩, hE.kept (by rw [e28]) (by rw [e28]) (eb 5 (by omega) (by omega) (by omega) (by omega)), e9, by rw [e38 8 (by omega)]; exact hn⟩, ⟨⟨⟨by rw [e45, am_up_self], by rw [e46, am_up_self]; exact hy⟩, trivial⟩, fun j hj => ⟨by rw [e45, up_in, if_neg (by omega)], by rw [e46, up_in, if_neg (by omega)]⟩, fun hq => ?_, fun x hx => ?_, fun x hx => ?_⟩⟩
    · rcases hJ with rfl | ⟨rfl, hq2⟩
      · rw [e1, am_up_self]; decide
      · rw [hq2] at hq; cases hq
    · rcases hJ with rfl | ⟨rfl, -⟩
      · rw [e1, up_in]
        split
        · decide
        · rw [up_row _ _ _ (by omega), up_row _ _ _ (by omega), up_row _ _ _ (by omega)]; exact hx
      · rw [(c_ad0_b I _ _).1 44 (by omega) (by omega) (by omega)]; exact hx
    · rcases hJ with rfl | ⟨rfl, -⟩
      · rw [e1, up_in, if_neg hx, up_row _ _ _ (by omega), up_row _ _ _ (by omega), up_row _ _ _ (by omega)]
      · rw [(c_ad0_b I _ _).1 44 (by omega) (by omega) (by omega)]
  have hJ : ((g_X3_add_38 I G (Int32.ofNat op) y = c_ad1 I (Int32.ofNat op) y) ∨ (g_X3_add_38 I G (Int32.ofNat op) y = c_ad0 I (Int32.ofNat op) y ∧ s_lk [(op, a)] = false)) := by
    rw [c_adE]
    by_cases q1 : Int32.ofNat op = (16 : Int32)
    · rw [if_pos q1]; exact Or.inl rfl
    · rw [if_neg q1]
      by_cases q2 : Int32.ofNat op = (17 : Int32)
      · rw [if_pos q2]; exact Or.inl rfl
      · rw [if_neg q2]
        by_cases q3 : Int32.ofNat op = (18 : Int32)
        · rw [if_pos q3]; exact Or.inl rfl
        · rw [if_neg q3]
          refine Or.inr ⟨rfl, ?_⟩
          have r1 : op ≠ 16 := fun z => q1 (by rw [z]; rfl)
          have r2 : op ≠ 17 := fun z => q2 (by rw [z]; rfl)
          have r3 : op ≠ 18 := fun z => q3 (by rw [z]; rfl)
          simp [s_lk, r1, r2, r3]
  exact ⟨(key _ hJ).1, c_add_f I _ _, (key _ hJ).2⟩
/-! a name that is told -/
theorem c_flt {I : am_I} {p len no : Nat} {e : Option (Nat × Nat)} (h : cL K T I p e len no) {n : Nat} (hn : 2 ≤ n ∧ n ≤ 5) : cL K T (g_X6_fault_28 I G (Int32.ofNat n)) p (e_or e (n, p)) len no ∧ ∀ b, b ≠ 28 → g_X6_fault_28 I G (Int32.ofNat n) b = I b := by
  obtain ⟨⟨h5, h6, h7⟩, hE, hl, ho⟩ := h
  unfold g_X6_fault_28
  cases e with
  | none =>
    rw [if_pos hE.1]
    rw [up_row _ _ _ (show 5 ≠ 28 by omega), h5]
    refine ⟨⟨⟨by rw [up_in, if_neg (by omega), up_in, if_neg (by omega)]; exact h5, by rw [up_in, if_neg (by omega), up_in, if_neg (by omega)]; exact h6, h7⟩, ⟨by rw [up_in, if_neg (by omega), am_up_self], by rw [am_up_self, up_row _ _ _ (by omega), up_row _ _ _ (by omega)], hn⟩, by rw [up_row _ _ _ (by omega), up_row _ _ _ (by omega)]; exact hl, by rw [up_row _ _ _ (by omega), up_row _ _ _ (by omega)]; exact ho⟩, fun b hb => by rw [up_row _ _ _ hb, up_row _ _ _ hb]⟩
  | some x =>
    obtain ⟨m, q⟩ := x
    rw [if_neg (by rw [hE.1]; exact fun z => absurd ((n_eq (b := 0) (by have := hE.2.2.2; omega) (by omega)).mp z) (by have := hE.2.2.1; omega))]
    exact ⟨⟨⟨h5, h6, h7⟩, hE, hl, ho⟩, fun _ _ => rfl⟩
theorem cL.ofE {I : am_I} {p len no : Nat} {e e' : Option (Nat × Nat)} (h : cL K T I p e len no) (he : e = e') : cL K T I p e' len no := he ▸ h
theorem c_kn47 {I : am_I} (hX : cX K V T I G) (hN : cN K T nm I G) {p len no : Nat} {e : Option (Nat × Nat)} (h : cL K T I p e len no) (hk : K p = 39) : ∃ I' : am_I, R_X6_readKnownName_28_47 I G = some (fi (nm 6 p), I', G) ∧ cL K T I' (p + 1) (fe nm [(6, p)] e) len no ∧ cfr I I' ∧ ∀ b, b ≠ 28 → I' b = I b := by
  have hp := hX.1.lt h.1.2.2 (by omega)
  have hT := hX.1.1
  have hf := (hN I rfl rfl rfl p h.1.2.2 hk).1
  have hb := (hN I rfl rfl rfl p h.1.2.2 hk).2.2.2.2 6
  unfold R_X6_readKnownName_28_47
  rw [if_pos (kY (k := 39) (w := (39 : Int32)) rfl hX.1 h.1.2.2 h.1.2.1 (by omega) hk), show f_X9_contentAt_1 I G (I 28 5) = G 6 p by
    unfold f_X9_contentAt_1
    rw [h.1.1, if_neg (n_nlt0 p (by omega)), if_neg (fun z => absurd ((n_le (by omega) (by omega)).mp z) (by omega)), n_cl (by omega)], hf, rb_go]
  cases hn : nm 6 p with
  | none =>
    rw [if_neg (by decide)]
    obtain ⟨f1, f2⟩ := c_flt (G := G) h (n := 3) ⟨by omega, by omega⟩
    have hfr : cfr I (g_X6_fault_28 I G (3 : Int32)) := ⟨fun b z1 _ _ _ _ => f2 b z1, fun k z1 z2 z3 z4 => by
      unfold g_X6_fault_28
      split
      · rw [up_in, if_neg z4, up_in, if_neg z3]
      · rfl, fun k _ => by rw [show g_X6_fault_28 I G (3 : Int32) 38 = I 38 from f2 38 (by omega)]⟩
    obtain ⟨a1, a2, a3⟩ := c_adv (hX.kept hfr) f1 hp
    exact ⟨_, rfl, a1.ofE (fe1n rfl hn).symm, hfr.tr a2, fun b hb => (a3 b hb).trans (f2 b hb)⟩
  | some k =>
    rw [if_pos (show (0 : Int32) ≤ fi (some k) from (n_le (a := 0) (by omega) (by have := hb k hn; omega)).mpr (by omega))]
    obtain ⟨a1, a2, a3⟩ := c_adv hX h hp
    exact ⟨_, rfl, a1.ofE (fe1s hn).symm, a2, a3⟩
theorem c_kd47 {I : am_I} {q : Nat} (h : cD I q) : R_X6_readKnownName_28_47 I G = some ((0 : Int32), g_X6_refuse_28 I G, G) := by
  unfold R_X6_readKnownName_28_47
  rw [if_neg (by rw [h.1]; decide)]
theorem c_kx47 {I : am_I} (hX : cX K V T I G) {p len no : Nat} {e : Option (Nat × Nat)} (h : cL K T I p e len no) (hk : ¬ K p = 39) : R_X6_readKnownName_28_47 I G = some ((0 : Int32), g_X6_refuse_28 I G, G) := by
  unfold R_X6_readKnownName_28_47
  rw [if_neg (kN (k := 39) (w := (39 : Int32)) rfl hX.1 h.1.2.2 h.1.2.1 (by omega) hk)]
theorem c_kn49 {I : am_I} (hX : cX K V T I G) (hN : cN K T nm I G) {p len no : Nat} {e : Option (Nat × Nat)} (h : cL K T I p e len no) (hk : K p = 39) : ∃ I' : am_I, R_X6_readKnownName_28_49 I G = some (fi (nm 9 p), I', G) ∧ cL K T I' (p + 1) (fe nm [(9, p)] e) len no ∧ cfr I I' ∧ ∀ b, b ≠ 28 → I' b = I b := by
  have hp := hX.1.lt h.1.2.2 (by omega)
  have hT := hX.1.1
  have hf := (hN I rfl rfl rfl p h.1.2.2 hk).2.1
  have hb := (hN I rfl rfl rfl p h.1.2.2 hk).2.2.2.2 9
  unfold R_X6_readKnownName_28_49
  rw [if_pos (kY (k := 39) (w := (39 : Int32)) rfl hX.1 h.1.2.2 h.1.2.1 (by omega) hk), show f_X9_contentAt_1 I G (I 28 5) = G 6 p by
    unfold f_X9_contentAt_1
    rw [h.1.1, if_neg (n_nlt0 p (by omega)), if_neg (fun z => absurd ((n_le (by omega) (by omega)).mp z) (by omega)), n_cl (by omega)], hf, rb_go]
  cases hn : nm 9 p with
  | none =>
    rw [if_neg (by decide)]
    obtain ⟨f1, f2⟩ := c_flt (G := G) h (n := 3) ⟨by omega, by omega⟩
    have hfr : cfr I (g_X6_fault_28 I G (3 : Int32)) := ⟨fun b z1 _ _ _ _ => f2 b z1, fun k z1 z2 z3 z4 => by
      unfold g_X6_fault_28
      split
      · rw [up_in, if_neg z4, up_in, if_neg z3]
      · rfl, fun k _ => by rw [show g_X6_fault_28 I G (3 : Int32) 38 = I 38 from f2 38 (by omega)]⟩
    obtain ⟨a1, a2, a3⟩ := c_adv (hX.kept hfr) f1 hp
    exact ⟨_, rfl, a1.ofE (fe1n rfl hn).symm, hfr.tr a2, fun b hb => (a3 b hb).trans (f2 b hb)⟩
  | some k =>
    rw [if_pos (show (0 : Int32) ≤ fi (some k) from (n_le (a := 0) (by omega) (by have := hb k hn; omega)).mpr (by omega))]
    obtain ⟨a1, a2, a3⟩ := c_adv hX h hp
    exact ⟨_, rfl, a1.ofE (fe1s hn).symm, a2, a3⟩
theorem c_kd49 {I : am_I} {q : Nat} (h : cD I q) : R_X6_readKnownName_28_49 I G = some ((0 : Int32), g_X6_refuse_28 I G, G) := by
  unfold R_X6_readKnownName_28_49
  rw [if_neg (by rw [h.1]; decide)]
theorem c_kx49 {I : am_I} (hX : cX K V T I G) {p len no : Nat} {e : Option (Nat × Nat)} (h : cL K T I p e len no) (hk : ¬ K p = 39) : R_X6_readKnownName_28_49 I G = some ((0 : Int32), g_X6_refuse_28 I G, G) := by
  unfold R_X6_readKnownName_28_49
  rw [if_neg (kN (k := 39) (w := (39 : Int32)) rfl hX.1 h.1.2.2 h.1.2.1 (by omega) hk)]
theorem c_kn51 {I : am_I} (hX : cX K V T I G) (hN : cN K T nm I G) {p len no : Nat} {e : Option (Nat × Nat)} (h : cL K T I p e len no) (hk : K p = 39) : ∃ I' : am_I, R_X6_readKnownName_28_51 I G = some (fi (nm 16 p), I', G) ∧ cL K T I' (p + 1) (fe nm [(16, p)] e) len no ∧ cfr I I' ∧ ∀ b, b ≠ 28 → I' b = I b := by
  have hp := hX.1.lt h.1.2.2 (by omega)
  have hT := hX.1.1
  have hf := (hN I rfl rfl rfl p h.1.2.2 hk).2.2.1
  have hb := (hN I rfl rfl rfl p h.1.2.2 hk).2.2.2.2 16
  unfold R_X6_readKnownName_28_51
  rw [if_pos (kY (k := 39) (w := (39 : Int32)) rfl hX.1 h.1.2.2 h.1.2.1 (by omega) hk), show f_X9_contentAt_1 I G (I 28 5) = G 6 p by
    unfold f_X9_contentAt_1
    rw [h.1.1, if_neg (n_nlt0 p (by omega)), if_neg (fun z => absurd ((n_le (by omega) (by omega)).mp z) (by omega)), n_cl (by omega)], hf, rb_go]
  cases hn : nm 16 p with
  | none =>
    rw [if_neg (by decide)]
    obtain ⟨f1, f2⟩ := c_flt (G := G) h (n := 3) ⟨by omega, by omega⟩
    have hfr : cfr I (g_X6_fault_28 I G (3 : Int32)) := ⟨fun b z1 _ _ _ _ => f2 b z1, fun k z1 z2 z3 z4 => by
      unfold g_X6_fault_28
      split
      · rw [up_in, if_neg z4, up_in, if_neg z3]
      · rfl, fun k _ => by rw [show g_X6_fault_28 I G (3 : Int32) 38 = I 38 from f2 38 (by omega)]⟩
    obtain ⟨a1, a2, a3⟩ := c_adv (hX.kept hfr) f1 hp
    exact ⟨_, rfl, a1.ofE (fe1n rfl hn).symm, hfr.tr a2, fun b hb => (a3 b hb).trans (f2 b hb)⟩
  | some k =>
    rw [if_pos (show (0 : Int32) ≤ fi (some k) from (n_le (a := 0) (by omega) (by have := hb k hn; omega)).mpr (by omega))]
    obtain ⟨a1, a2, a3⟩ := c_adv hX h hp
    exact ⟨_, rfl, a1.ofE (fe1s hn).symm, a2, a3⟩
theorem c_kd51 {I : am_I} {q : Nat} (h : cD I q) : R_X6_readKnownName_28_51 I G = some ((0 : Int32), g_X6_refuse_28 I G, G) := by
  unfold R_X6_readKnownName_28_51
  rw [if_neg (by rw [h.1]; decide)]
theorem c_kx51 {I : am_I} (hX : cX K V T I G) {p len no : Nat} {e : Option (Nat × Nat)} (h : cL K T I p e len no) (hk : ¬ K p = 39) : R_X6_readKnownName_28_51 I G = some ((0 : Int32), g_X6_refuse_28 I G, G) := by
  unfold R_X6_readKnownName_28_51
  rw [if_neg (kN (k := 39) (w := (39 : Int32)) rfl hX.1 h.1.2.2 h.1.2.1 (by omega) hk)]
end CPA
