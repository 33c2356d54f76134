/-! the reference: all tokens' errors, in their order -/
section RER
/-- role of a token -/
def rof : List (Nat × Nat) → Nat → Option Nat
  | [], _ => none
  | (r, b) :: l, a => if b = a then some r else rof l a
theorem rof_c (r b : Nat) (l : List (Nat × Nat)) (a : Nat) : rof ((r, b) :: l) a = if b = a then some r else rof l a := rfl
theorem pe_if {c : Prop} [Decidable c] {y z : sX} {w : Option (Nat × Nat)} (h1 : y.2.1 = w) (h2 : z.2.1 = w) : (if c then y else z).2.1 = w := by
  split
  · exact h1
  · exact h2
theorem rof_gt : ∀ (l : List (Nat × Nat)) (a : Nat), (∀ q ∈ l, a < q.2) → rof l a = none
  | [], _, _ => rfl
  | (r, b) :: l, a, h => by
    unfold rof
    have := h (r, b) List.mem_cons_self
    rw [if_neg (by dsimp only at this; omega)]
    exact rof_gt l a (fun q hq => h q (List.mem_cons_of_mem _ hq))
theorem s_ov_rof : ∀ (l : List (Nat × Nat)) (f : Nat → Int32) (a : Nat), l.Pairwise (fun x y => x.2 < y.2) → s_ov l f a = (match rof l a with
    | none => f a
    | some r => Int32.ofNat r)
  | [], _, _, _ => rfl
  | (r, b) :: l, f, a, h => by
    obtain ⟨h1, h2⟩ := List.pairwise_cons.mp h
    show s_ov l (w1 f b (Int32.ofNat r)) a = _
    rw [s_ov_rof l _ a h2, rof_c]
    by_cases hb : b = a
    · subst hb
      rw [if_pos rfl, rof_gt l b (fun q hq => h1 q hq)]
      show (if b = b then _ else _) = _
      rw [if_pos rfl]
    · rw [if_neg hb]
      cases rof l a with
      | none => show (if a = b then _ else _) = _; rw [if_neg (fun z => hb z.symm)]
      | some r => rfl
theorem rof_app : ∀ (l1 l2 : List (Nat × Nat)) (a : Nat), rof (l1 ++ l2) a = (match rof l1 a with
    | none => rof l2 a
    | some r => some r)
  | [], _, _ => rfl
  | (r, b) :: l, l2, a => by
    rw [List.cons_append, rof_c, rof_c]
    by_cases hb : b = a
    · rw [if_pos hb, if_pos hb]
    · rw [if_neg hb, if_neg hb, rof_app l l2 a]
theorem rof_lt : ∀ (l : List (Nat × Nat)) (a : Nat), (∀ q ∈ l, q.2 < a) → rof l a = none
  | [], _, _ => rfl
  | (r, b) :: l, a, h => by
    unfold rof
    have := h (r, b) List.mem_cons_self
    rw [if_neg (by dsimp only at this; omega)]
    exact rof_lt l a (fun q hq => h q (List.mem_cons_of_mem _ hq))
def wfI (K V C : Nat → Nat) : sX → List (Nat × Nat) → Prop
  | _, [] => True
  | X, q :: l => iw K X q ∧ wfI K V C (it K V C X q) l
def itsW (K V C : Nat → Nat) : List (Nat × Nat) → sX → (Nat → Nat × Nat) → (Nat → Nat × Nat)
  | [], _, W => W
  | q :: l, X, W => itsW K V C l (it K V C X q) (itW K C X W q)
theorem it_some {K V C : Nat → Nat} {X : sX} {x : Nat × Nat} (h : X.2.1 = some x) (q : Nat × Nat) : (it K V C X q).2.1 = some x := by
  have e1 : ∀ lo hi, rgE V (some x) q.2 lo hi = some x := fun lo hi => by unfold rgE; split <;> rfl
  have e2 : ∀ n, eo (some x) n q.2 = some x := fun n => by unfold eo; split <;> rfl
  unfold it
  repeat' apply pe_if
  all_goals first | exact h | (dsimp only; rw [h]; first | exact e1 _ _ | exact e2 _)
theorem its_some {K V C : Nat → Nat} {x : Nat × Nat} : ∀ (l : List (Nat × Nat)) (X : sX), X.2.1 = some x → (its K V C l X).2.1 = some x
  | [], _, h => h
  | q :: l, X, h => its_some l (it K V C X q) (it_some h q)
theorem rls_s (ρ : Nat → Nat) (as : Nat) : ∀ (m k : Nat), rls ρ as k (m + 1) = rls ρ as k m ++ (if ρ (k + m) = as then [k + m] else [])
  | 0, k => by
    unfold rls rls
    show (if ρ k = as then [k] else []) = [] ++ _
    rw [List.nil_append, Nat.add_zero]
  | m + 1, k => by
    have ih := rls_s ρ as m (k + 1)
    show (if ρ k = as then k :: rls ρ as (k + 1) (m + 1) else rls ρ as (k + 1) (m + 1)) = (if ρ k = as then k :: rls ρ as (k + 1) m else rls ρ as (k + 1) m) ++ _
    rw [ih, show k + 1 + m = k + (m + 1) by omega]
    by_cases hk : ρ k = as
    · rw [if_pos hk, if_pos hk, List.cons_append]
    · rw [if_neg hk, if_neg hk]
/-- counts and names after an item -/
theorem xl_it {K V C : Nat → Nat} {X : sX} {r a : Nat} {ρ : Nat → Nat} (hx : xl X) (hL : X.1.2 6 = rls ρ 3 0 a ∧ X.1.2 9 = rls ρ 8 0 a ∧ X.1.2 16 = rls ρ 12 0 a) (hρ : ρ a = r) (hw : iw K X (r, a)) (he : (it K V C X (r, a)).2.1 = none) : xl (it K V C X (r, a)) ∧ ((it K V C X (r, a)).1.2 6 = rls ρ 3 0 (a + 1) ∧ (it K V C X (r, a)).1.2 9 = rls ρ 8 0 (a + 1) ∧ (it K V C X (r, a)).1.2 16 = rls ρ 12 0 (a + 1)) := by
  obtain ⟨⟨x1, x1b⟩, ⟨x2, x2b⟩, ⟨x3, x3b⟩, x4⟩ := hx
  obtain ⟨l1, l2, l3⟩ := hL
  have h1 := hw.2.2.2.2.2.2.2.2.1
  have h2 := hw.2.2.2.2.2.2.2.2.2
  dsimp only at h1 h2
  rw [rls_s, rls_s, rls_s, Nat.zero_add, hρ, ← l1, ← l2, ← l3]
  rcases (show r = 1 ∨ r = 2 ∨ r = 3 ∨ r = 4 ∨ r = 5 ∨ r = 6 ∨ r = 7 ∨ r = 8 ∨ r = 9 ∨ r = 10 ∨ r = 11 ∨ r = 12 ∨ r = 13 ∨ r = 14 ∨ r = 15 ∨ r = 16 ∨ r = 17 ∨ r = 18 ∨ r = 19 ∨ r = 20 by omega) with rfl | rfl | rfl | rfl | rfl | rfl | rfl | rfl | rfl | rfl | rfl | rfl | rfl | rfl | rfl | rfl | rfl | rfl | rfl | rfl
  case inr.inr.inl =>
    rw [it_3] at he ⊢
    obtain ⟨_, hlt⟩ := nwE_0 (eo_n he).2
    refine ⟨⟨⟨?_, ?_⟩, ⟨?_, ?_⟩, ⟨?_, ?_⟩, ?_⟩, ?_, ?_, ?_⟩ <;> dsimp only
    · rw [am_up_self, Lup_s hlt, x1]
    · rw [am_up_self]; omega
    · rw [up_in, if_neg (by omega), Lup_o (by omega)]; exact x2
    · rw [up_in, if_neg (by omega)]; exact x2b
    · rw [up_in, if_neg (by omega), Lup_o (by omega)]; exact x3
    · rw [up_in, if_neg (by omega)]; exact x3b
    · rw [up_in, if_neg (by omega)]; exact x4
    · rw [Lup_e, if_pos hlt, if_pos rfl]
    · rw [Lup_o (by omega), if_neg (by omega), List.append_nil]
    · rw [Lup_o (by omega), if_neg (by omega), List.append_nil]
  case inr.inr.inr.inr.inr.inr.inr.inl =>
    rw [it_8] at he ⊢
    obtain ⟨_, hlt⟩ := nwE_0 (eo_n he).2
    refine ⟨⟨⟨?_, ?_⟩, ⟨?_, ?_⟩, ⟨?_, ?_⟩, ?_⟩, ?_, ?_, ?_⟩ <;> dsimp only
    · rw [up_in, if_neg (by omega), Lup_o (by omega)]; exact x1
    · rw [up_in, if_neg (by omega)]; exact x1b
    · rw [am_up_self, Lup_s hlt, x2]
    · rw [am_up_self]; omega
    · rw [up_in, if_neg (by omega), Lup_o (by omega)]; exact x3
    · rw [up_in, if_neg (by omega)]; exact x3b
    · rw [up_in, if_neg (by omega)]; exact x4
    · rw [Lup_o (by omega), if_neg (by omega), List.append_nil]
    · rw [Lup_e, if_pos hlt, if_pos rfl]
    · rw [Lup_o (by omega), if_neg (by omega), List.append_nil]
  case inr.inr.inr.inr.inr.inr.inr.inr.inr.inr.inr.inl =>
    rw [it_12] at he ⊢
    obtain ⟨_, hlt⟩ := nwE_0 (eo_n he).2
    refine ⟨⟨⟨?_, ?_⟩, ⟨?_, ?_⟩, ⟨?_, ?_⟩, ?_⟩, ?_, ?_, ?_⟩ <;> dsimp only
    · rw [up_in, if_neg (by omega), Lup_o (by omega)]; exact x1
    · rw [up_in, if_neg (by omega)]; exact x1b
    · rw [up_in, if_neg (by omega), Lup_o (by omega)]; exact x2
    · rw [up_in, if_neg (by omega)]; exact x2b
    · rw [am_up_self, Lup_s hlt, x3]
    · rw [am_up_self]; omega
    · rw [up_in, if_neg (by omega)]; exact x4
    · rw [Lup_o (by omega), if_neg (by omega), List.append_nil]
    · rw [Lup_o (by omega), if_neg (by omega), List.append_nil]
    · rw [Lup_e, if_pos hlt, if_pos rfl]
  case inr.inr.inr.inr.inr.inr.inr.inr.inr.inr.inr.inr.inr.inl =>
    rw [it_14] at he ⊢
    have h20 : X.1.1 0 5 < 20 := by
      have := (eo_n he).2
      by_cases h : X.1.1 0 5 < 20
      · exact h
      · rw [if_neg h] at this; omega
    refine ⟨⟨⟨?_, ?_⟩, ⟨?_, ?_⟩, ⟨?_, ?_⟩, ?_⟩, ?_, ?_, ?_⟩ <;> dsimp only
    · rw [up_in, if_neg (by omega)]; exact x1
    · rw [up_in, if_neg (by omega)]; exact x1b
    · rw [up_in, if_neg (by omega)]; exact x2
    · rw [up_in, if_neg (by omega)]; exact x2b
    · rw [up_in, if_neg (by omega)]; exact x3
    · rw [up_in, if_neg (by omega)]; exact x3b
    · rw [am_up_self]; omega
    · rw [if_neg (by omega), List.append_nil]
    · rw [if_neg (by omega), List.append_nil]
    · rw [if_neg (by omega), List.append_nil]
  all_goals
    refine ⟨⟨⟨?_, ?_⟩, ⟨?_, ?_⟩, ⟨?_, ?_⟩, ?_⟩, ?_, ?_, ?_⟩
    · first | exact x1 | (rw [it_1]; exact x1) | (rw [it_2]; exact x1)
    · first | exact x1b | (rw [it_1]; exact x1b) | (rw [it_2]; exact x1b)
    · first | exact x2 | (rw [it_1]; exact x2) | (rw [it_2]; exact x2)
    · first | exact x2b | (rw [it_1]; exact x2b) | (rw [it_2]; exact x2b)
    · first | exact x3 | (rw [it_1]; exact x3) | (rw [it_2]; exact x3)
    · first | exact x3b | (rw [it_1]; exact x3b) | (rw [it_2]; exact x3b)
    · first | exact x4 | (rw [it_1]; exact x4) | (rw [it_2]; exact x4)
    · rw [if_neg (by omega), List.append_nil]; rfl
    · rw [if_neg (by omega), List.append_nil]; rfl
    · rw [if_neg (by omega), List.append_nil]; rfl
variable {B : Nat → Nat} {ln : Nat} {T : Nat} {G : am_G}
/-- what pass two changes -/
def rfp (I I' : am_I) : Prop := (∀ b, b ≠ 79 → b ≠ 85 → b ≠ 123 → (b < 124 ∨ 133 < b) → I' b = I b) ∧ (∀ k, 4 < k → k ≠ 13 → I' 123 k = I 123 k) ∧ ∀ k, k ≠ 9 → I' 79 k = I 79 k
theorem rfp.rf (I : am_I) : rfp I I := ⟨fun _ _ _ _ _ => rfl, fun _ _ _ => rfl, fun _ _ => rfl⟩
theorem rfp.tr {I I1 I2 : am_I} (h1 : rfp I I1) (h2 : rfp I1 I2) : rfp I I2 := ⟨fun b z1 z2 z3 z4 => (h2.1 b z1 z2 z3 z4).trans (h1.1 b z1 z2 z3 z4), fun k z1 z2 => (h2.2.1 k z1 z2).trans (h1.2.1 k z1 z2), fun k z1 => (h2.2.2 k z1).trans (h1.2.2 k z1)⟩
theorem rfe.p {I I' : am_I} (h : rfe I I') : rfp I I' := ⟨fun b z1 z2 z3 z4 => h.1 b z2 z3 z4, h.2, fun k _ => by rw [h.1 79 (by omega) (by omega) (by omega)]⟩
theorem rfp.u9 (I : am_I) {j : Nat} (hj : j = 9 ∨ j = 9) (x : Int32) : rfp I (am_up I 79 j x) := ⟨fun b z1 _ _ _ => up_row _ _ _ z1, fun k _ _ => by rw [up_row _ _ _ (by omega)], fun k z1 => by rw [up_in, if_neg (by omega)]⟩
theorem rTK.p {ρ : Nat → Nat} {I I' : am_I} (h : rTK B ln T ρ I) (hf : rfp I I') : rTK B ln T ρ I' := by
  obtain ⟨a, b, c, d⟩ := h
  refine ⟨a.kept (hf.2.2 2 (by omega)) (hf.1 80 (by omega) (by omega) (by omega) (by omega)), b, ?_, ?_⟩
  · rw [hf.1 81 (by omega) (by omega) (by omega) (by omega), hf.1 82 (by omega) (by omega) (by omega) (by omega), hf.1 83 (by omega) (by omega) (by omega) (by omega)]
    exact c
  · rw [hf.1 84 (by omega) (by omega) (by omega) (by omega)]
    exact d
theorem rZ.n {I I' : am_I} {X : sX} {W : Nat → Nat × Nat} (h : rZ I X W) (hk : ∀ b, b ≠ 79 → I' b = I b) : rZ I' X W := by
  unfold rZ
  rw [hk 123 (by omega), hk 124 (by omega), hk 125 (by omega), hk 126 (by omega), hk 127 (by omega), hk 128 (by omega), hk 129 (by omega), hk 130 (by omega), hk 131 (by omega), hk 132 (by omega), hk 133 (by omega), hk 85 (by omega)]
  exact h
theorem r_pass {ρ : Nat → Nat} {E : Nat} (hE : E ≤ T) (hn3 : ∀ k, k < E → (ρ k = 3 ∨ ρ k = 8 ∨ ρ k = 12) → tKK B ln k = 39) : ∀ (m a n : Nat) (I : am_I) (X : sX) (W : Nat → Nat × Nat) (L : List (Nat × Nat)), a + m = E → m < n → I 79 9 = Int32.ofNat a → rTK B ln T ρ I → rZ I X W → X.2.1 = none → xl X → (X.1.2 6 = rls ρ 3 0 a ∧ X.1.2 9 = rls ρ 8 0 a ∧ X.1.2 16 = rls ρ 12 0 a) → wfI (tKK B ln) (bV B ln) (bC B ln) X L → L.Pairwise (fun x y => x.2 < y.2) → (∀ q ∈ L, a ≤ q.2 ∧ q.2 < E) → (∀ k, a ≤ k → k < E → ρ k = (rof L k).getD 0) → (∃ (n' : Nat) (I' : am_I), n - m ≤ n' + 1 ∧ L_X14_read_79 n 0 I G (Int32.ofNat E) 0 = L_X14_read_79 n' 1 I' G (Int32.ofNat E) (0 : Int32) ∧ rfp I I' ∧ (its (tKK B ln) (bV B ln) (bC B ln) L X).2.1 = none ∧ rZ I' (its (tKK B ln) (bV B ln) (bC B ln) L X) (itsW (tKK B ln) (bV B ln) (bC B ln) L X W)) ∨ (∃ (k q : Nat) (I' : am_I), (its (tKK B ln) (bV B ln) (bC B ln) L X).2.1 = some (k, q) ∧ 2 ≤ k ∧ k ≤ 5 ∧ q ≤ T ∧ L_X14_read_79 n 0 I G (Int32.ofNat E) 0 = some (Int32.ofNat k, am_up I' 79 3 (Int32.ofNat (tS B ln q)), G) ∧ rfp I I') := by
  intro m
  induction m with
  | zero =>
    intro a n I X W L ha hn h9 hT hZ he hx hL hwf hp hq hρ
    obtain ⟨n, rfl⟩ : ∃ n', n = n' + 1 := ⟨n - 1, by omega⟩
    have hTT := hT.2.1
    have hLn : L = [] := by
      cases L with
      | nil => rfl
      | cons q l => have := hq q List.mem_cons_self; omega
    subst hLn
    refine Or.inl ⟨n, I, by omega, ?_, rfp.rf I, he, hZ⟩
    rw [L_X14_read_79_0, h9, if_pos ((n_le (by omega) (by omega)).mpr (by omega))]
  | succ m ih =>
    intro a n I X W L ha hn h9 hT hZ he hx hL hwf hp hq hρ
    obtain ⟨n, rfl⟩ : ∃ n', n = n' + 1 := ⟨n - 1, by omega⟩
    have hTT := hT.2.1
    rw [L_X14_read_79_0, h9, if_neg (fun z => absurd ((n_le (by omega) (by omega)).mp z) (by omega))]
    have hra := hρ a (Nat.le_refl _) (by omega)
    by_cases hr : rof L a = none
    · -- no role
      rw [hr] at hra
      have hra : ρ a = 0 := hra
      rw [r_item0 hT (by omega) hra, rb_go, if_pos rfl, h9, n_inc]
      have fu := rfp.u9 I (j := 9) (Or.inl rfl) (Int32.ofNat (a + 1))
      have hq2 : ∀ q ∈ L, a + 1 ≤ q.2 ∧ q.2 < E := by
        intro q hqq
        obtain ⟨b1, b2⟩ := hq q hqq
        by_cases hqa : q.2 = a
        · exfalso
          have key : ∀ (l : List (Nat × Nat)), q ∈ l → rof l a ≠ none := by
            intro l
            induction l with
            | nil => intro h; cases h
            | cons y l ihl =>
              intro h
              obtain ⟨r, b⟩ := y
              rw [rof_c]
              by_cases hb : b = a
              · rw [if_pos hb]; intro z; cases z
              · rw [if_neg hb]
                rcases List.mem_cons.mp h with h | h
                · subst h; exact absurd hqa hb
                · exact ihl h
          exact key L hqq hr
        · omega
      rcases ih (a + 1) n _ X W L (by omega) (by omega) (am_up_self _ _ _ _) (hT.p fu) (hZ.n (fun b hb => up_row _ _ _ hb)) he hx (by
        rw [rls_s, rls_s, rls_s, Nat.zero_add, hra, if_neg (by omega), if_neg (by omega), if_neg (by omega), List.append_nil, List.append_nil, List.append_nil]
        exact hL) hwf hp hq2 (fun k k1 k2 => hρ k (by omega) k2) with ⟨n', I', c1, c2, c3, c4, c5⟩ | ⟨k, q, I', c1, c2, c3, c4, c5, c6⟩
      · exact Or.inl ⟨n', I', by omega, c2, fu.tr c3, c4, c5⟩
      · exact Or.inr ⟨k, q, I', c1, c2, c3, c4, c5, fu.tr c6⟩
    · -- the next item
      cases L with
      | nil => exact absurd rfl hr
      | cons y L =>
        obtain ⟨r, b⟩ := y
        obtain ⟨p1, p2⟩ := List.pairwise_cons.mp hp
        have hb : b = a := by
          by_cases hba : b = a
          · exact hba
          · exfalso
            have hb0 := hq (r, b) List.mem_cons_self
            dsimp only at hb0
            apply hr
            rw [rof_c, if_neg hba]
            exact rof_gt L a (fun q hqq => by have := p1 q hqq; dsimp only at this; omega)
        subst hb
        rw [rof_c, if_pos rfl] at hra
        have hra : ρ b = r := hra
        obtain ⟨w1', w2⟩ := hwf
        obtain ⟨err, I1, e1, f1, g1, g2⟩ := r_item (G := G) hT hZ he hx hL (fun k hk => hn3 k (by omega)) (by omega) hra w1'
        rw [e1, rb_go]
        have h91 : I1 79 9 = Int32.ofNat b := by rw [f1.1 79 (by omega) (by omega) (by omega)]; exact h9
        cases hx1 : (it (tKK B ln) (bV B ln) (bC B ln) X (r, b)).2.1 with
        | none =>
          obtain ⟨rfl, z1⟩ := g1 hx1
          obtain ⟨y1, y2⟩ := xl_it hx hL hra w1' hx1
          rw [if_pos rfl, h91, n_inc]
          have fu := f1.p.tr (rfp.u9 I1 (j := 9) (Or.inl rfl) (Int32.ofNat (b + 1)))
          rcases ih (b + 1) n _ _ _ L (by omega) (by omega) (am_up_self _ _ _ _) (hT.p fu) (z1.n (fun b' hb' => up_row _ _ _ hb')) hx1 y1 y2 w2 p2 (fun q hqq => ⟨by have := p1 q hqq; dsimp only at this; omega, (hq q (List.mem_cons_of_mem _ hqq)).2⟩) (fun k k1 k2 => by rw [hρ k (by omega) k2, rof_c, if_neg (by omega)]) with ⟨n', I', c1, c2, c3, c4, c5⟩ | ⟨k, q, I', c1, c2, c3, c4, c5, c6⟩
          · exact Or.inl ⟨n', I', by omega, c2, fu.tr c3, c4, c5⟩
          · exact Or.inr ⟨k, q, I', c1, c2, c3, c4, c5, fu.tr c6⟩
        | some x =>
          obtain ⟨k, q⟩ := x
          obtain ⟨z1, z2, z3, z4⟩ := g2 k q hx1
          subst z2
          rw [z1, if_neg (n_ne0 (by omega) (by omega)), h91, rg_pos ((n_in (by omega)).mpr (by omega)), n_cl (by omega)]
          refine Or.inr ⟨k, q, I1, its_some L _ hx1, z3, z4, by omega, ?_, f1.p⟩
          rw [((hT.e f1).2.2.1 q (by omega)).2.1]
end RER
