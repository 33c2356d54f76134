/-! meanings of names, and what orders ask of whom, after items -/
section RMG
variable {K V C : Nat → Nat} {T : Nat}
theorem pm_if {c : Prop} [Decidable c] {y z : sX} {b : Nat} {w : Option Nat} (h1 : y.2.2 b = w) (h2 : z.2.2 b = w) : (if c then y else z).2.2 b = w := by
  split
  · exact h1
  · exact h2
theorem wm_o {m : Nat → Option Nat} {a b : Nat} {x : Option Nat} (h : b ≠ a) : wm m a x b = m b := if_neg h
theorem it_m {X : sX} {q : Nat × Nat} {b : Nat} (h : b ≠ q.2) : (it K V C X q).2.2 b = X.2.2 b := by
  unfold it
  repeat' apply pm_if
  all_goals first | rfl | exact wm_o h
theorem mt_o : ∀ (l : List (Nat × Nat)) (X : sX) (b : Nat), (∀ q ∈ l, b ≠ q.2) → (its K V C l X).2.2 b = X.2.2 b
  | [], _, _, _ => rfl
  | q :: l, X, b, h => by
    show (its K V C l (it K V C X q)).2.2 b = _
    rw [mt_o l _ b (fun y hy => h y (List.mem_cons_of_mem _ hy)), it_m (h q List.mem_cons_self)]
theorem mt_im : ∀ (c : List (Nat × Nat)) (X : sX), (s_im c).Pairwise (fun x y => x.2 < y.2) → ∀ q ∈ c, s_nmd q.1 = true → (its K V C (s_im c) X).2.2 q.2 = nmL C X.1.2 q.1 q.2
  | [], _, _, _, hq, _ => absurd hq List.not_mem_nil
  | (op, a) :: r, X, hp, q, hq, hs => by
    by_cases hn : s_nmd op = true
    · have e1 : s_im ((op, a) :: r) = (s_rl op, a) :: s_im r := by
        show (if s_nmd op = true then _ else _) = _
        rw [if_pos hn]
      rw [e1] at hp ⊢
      obtain ⟨p1, p2⟩ := List.pairwise_cons.mp hp
      show (its K V C (s_im r) (it K V C X (s_rl op, a))).2.2 q.2 = _
      have eX : (it K V C X (s_rl op, a)).1 = X.1 ∧ (it K V C X (s_rl op, a)).2.2 a = nmL C X.1.2 op a := by
        simp only [s_nmd, Bool.or_eq_true, beq_iff_eq] at hn
        rcases hn with ((rfl | rfl) | rfl) | rfl
        · exact ⟨rfl, if_pos rfl⟩
        · exact ⟨rfl, if_pos rfl⟩
        · exact ⟨rfl, if_pos rfl⟩
        · exact ⟨rfl, if_pos rfl⟩
      rcases List.mem_cons.mp hq with h | h
      · subst h
        dsimp only
        rw [mt_o _ _ _ (fun y hy => by have := p1 y hy; dsimp only at this; omega)]
        exact eX.2
      · rw [mt_im r _ p2 q h hs, eX.1]
    · have e1 : s_im ((op, a) :: r) = s_im r := by
        show (if s_nmd op = true then _ else _) = _
        rw [if_neg hn]
      rw [e1] at hp ⊢
      rcases List.mem_cons.mp hq with h | h
      · subst h; exact absurd hs hn
      · exact mt_im r X hp q h hs
theorem itsW_app : ∀ (l1 l2 : List (Nat × Nat)) (X : sX) (W : Nat → Nat × Nat), itsW K V C (l1 ++ l2) X W = itsW K V C l2 (its K V C l1 X) (itsW K V C l1 X W)
  | [], _, _, _ => rfl
  | q :: l, l2, X, W => itsW_app l l2 (it K V C X q) (itW K C X W q)
theorem itsW_n : ∀ (l : List (Nat × Nat)) (X : sX) (W : Nat → Nat × Nat), (∀ q ∈ l, q.1 ≠ 14 ∧ q.1 ≠ 15 ∧ q.1 ≠ 16 ∧ q.1 ≠ 17) → itsW K V C l X W = W
  | [], _, _, _ => rfl
  | q :: l, X, W, h => by
    obtain ⟨h1, h2, h3, h4⟩ := h q List.mem_cons_self
    show itsW K V C l (it K V C X q) (itW K C X W q) = W
    have e : itW K C X W q = W := by
      unfold itW
      rw [if_neg h1, if_neg h2, if_neg h3, if_neg h4]
    rw [e]
    exact itsW_n l _ W (fun y hy => h y (List.mem_cons_of_mem _ hy))
theorem itsW_im {c : List (Nat × Nat)} (h : s_k39 K c) (X : sX) (W : Nat → Nat × Nat) : itsW K V C (s_im c) X W = W := itsW_n _ _ _ (fun q hq => by have := (h q hq).2; omega)
theorem itsW_hd {X : sX} {W : Nat → Nat × Nat} {kd p : Nat} (hk : K p = kd) (hkd : kd = 9 ∨ kd = 6 ∨ kd = 12) (j : Nat) : itsW K V C [(14, p), (hrl kd, p + 1)] X W j = if j = X.1.1 0 5 then (kd, otg K C X.1.2 kd p) else W j := by
  have e5 : (it K V C X (14, p)).1.1 0 5 - 1 = X.1.1 0 5 := by rw [it_14]; dsimp only; rw [am_up_self, Nat.add_sub_cancel]
  have e2 : (it K V C X (14, p)).1.2 = X.1.2 := rfl
  show itW K C (it K V C X (14, p)) (itW K C X W (14, p)) (hrl kd, p + 1) j = _
  have e14 : itW K C X W (14, p) = fun k => if k = X.1.1 0 5 then (K p, (W k).2) else W k := rfl
  rw [e14]
  rcases hkd with rfl | rfl | rfl
  · show (if j = (it K V C X (14, p)).1.1 0 5 - 1 then _ else _) = _
    rw [e5, e2]
    by_cases hj : j = X.1.1 0 5
    · rw [if_pos hj, if_pos hj]
      dsimp only
      rw [if_pos hj, hk]
      rfl
    · rw [if_neg hj, if_neg hj, if_neg hj]
  · show (if j = (it K V C X (14, p)).1.1 0 5 - 1 then _ else _) = _
    rw [e5, e2]
    by_cases hj : j = X.1.1 0 5
    · rw [if_pos hj, if_pos hj]
      dsimp only
      rw [if_pos hj, hk]
      rfl
    · rw [if_neg hj, if_neg hj, if_neg hj]
  · show (if j = (it K V C X (14, p)).1.1 0 5 - 1 then _ else _) = _
    rw [e5]
    by_cases hj : j = X.1.1 0 5
    · rw [if_pos hj, if_pos hj]
      dsimp only
      rw [if_pos hj, hk]
      rfl
    · rw [if_neg hj, if_neg hj, if_neg hj]
/-- a code with its names' meanings -/
def mrs (m : Nat → Option Nat) (q : Nat × Nat) : Nat × Nat := if s_nmd q.1 = true then (q.1, (m q.2).getD 0) else q
end RMG
