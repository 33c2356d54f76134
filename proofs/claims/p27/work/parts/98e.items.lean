/-! the items of a list: in order, and such as a line may hold -/
section RIF
variable {K V C : Nat → Nat} {T : Nat}
def s_k39 (K : Nat → Nat) (c : List (Nat × Nat)) : Prop := ∀ q ∈ s_im c, K q.2 = 39 ∧ (q.1 = 18 ∨ q.1 = 19 ∨ q.1 = 20)
theorem s_k39.app {a b : List (Nat × Nat)} (h1 : s_k39 K a) (h2 : s_k39 K b) : s_k39 K (a ++ b) := by
  intro q hq
  rw [s_im_app] at hq
  rcases List.mem_append.mp hq with h | h
  · exact h1 q h
  · exact h2 q h
theorem s_k39.u {op a : Nat} {c : List (Nat × Nat)} (h : s_nmd op = false) (h1 : s_k39 K c) : s_k39 K (c ++ [(op, a)]) := by
  intro q hq
  rw [s_im_u h] at hq
  exact h1 q hq
theorem s_k39_ok : spC K V T (fun _ _ _ c => s_k39 K c) := by
  refine ⟨⟨fun p _ _ => ?_, fun p _ _ => ?_, fun p k hk h39 _ => ?_, fun p h39 _ => ?_⟩, ⟨fun p p' k c hk h => ?_, fun p p' c h => ?_, fun p p' c h => h, fun p p1 p2 c1 c2 h1 h2 => h1.app h2⟩, ⟨fun p p' c h => ?_, fun p p' c h => h, fun p p1 p2 k c1 c2 hk1 hk2 h1 h2 => ?_⟩, fun md p p' c _ h => h, fun md p p1 p2 k c c' hk h1 h2 => ?_⟩ <;> try dsimp only at *
  · intro q hq; exact absurd hq List.not_mem_nil
  · intro q hq; exact absurd hq List.not_mem_nil
  · intro q hq
    rcases hk with rfl | rfl | rfl
    · have : q = (18, p + 1) := List.mem_singleton.mp hq
      subst this; exact ⟨h39, Or.inl rfl⟩
    · have : q = (19, p + 1) := List.mem_singleton.mp hq
      subst this; exact ⟨h39, Or.inr (Or.inl rfl)⟩
    · have : q = (20, p + 1) := List.mem_singleton.mp hq
      subst this; exact ⟨h39, Or.inr (Or.inr rfl)⟩
  · intro q hq
    have : q = (19, p + 1) := List.mem_singleton.mp hq
    subst this; exact ⟨h39, Or.inr (Or.inl rfl)⟩
  · exact h.u (by rcases hk with rfl | rfl | rfl <;> rfl)
  · exact h.u rfl
  · exact h.u rfl
  · exact (h1.app h2).u (by unfold s_nmd; simp; omega)
  · exact (h1.app h2).u (by unfold s_nmd; simp; omega)
theorem wfI_app : ∀ (l1 l2 : List (Nat × Nat)) (X : sX), wfI K V C X l1 → wfI K V C (its K V C l1 X) l2 → wfI K V C X (l1 ++ l2)
  | [], _, _, _, h2 => h2
  | q :: l, l2, X, h1, h2 => ⟨h1.1, wfI_app l l2 (it K V C X q) h1.2 h2⟩
theorem wfI_im : ∀ (l : List (Nat × Nat)) (X : sX), (∀ q ∈ l, K q.2 = 39 ∧ (q.1 = 18 ∨ q.1 = 19 ∨ q.1 = 20)) → wfI K V C X l
  | [], _, _ => trivial
  | (r, a) :: l, X, h => by
    obtain ⟨h1, h2⟩ := h (r, a) List.mem_cons_self
    dsimp only at h1 h2
    refine ⟨⟨fun z => ?_, fun _ => h1, fun z => ?_, fun z => ?_, fun z => ?_, fun z => ?_, fun z => ?_, fun z => ?_, ?_, ?_⟩, wfI_im l _ (fun q hq => h q (List.mem_cons_of_mem _ hq))⟩ <;> dsimp only at * <;> omega
theorem ct3 {X : sX} {a : Nat} : 1 ≤ (it K V C X (3, a)).1.1 0 2 := by rw [it_3]; dsimp only; rw [am_up_self]; omega
theorem ct4 {X : sX} {a : Nat} (h : 1 ≤ X.1.1 0 2) : 1 ≤ (it K V C X (4, a)).1.1 0 2 := by rw [it_4]; dsimp only; rw [up_row _ _ _ (by omega)]; exact h
theorem ct5 {X : sX} {a : Nat} (h : 1 ≤ X.1.1 0 2) : 1 ≤ (it K V C X (5, a)).1.1 0 2 := by rw [it_5]; dsimp only; rw [up_row _ _ _ (by omega)]; exact h
theorem ct6 {X : sX} {a : Nat} (h : 1 ≤ X.1.1 0 2) : 1 ≤ (it K V C X (6, a)).1.1 0 2 := by rw [it_6]; dsimp only; rw [up_row _ _ _ (by omega)]; exact h
theorem ct8 {X : sX} {a : Nat} : 1 ≤ (it K V C X (8, a)).1.1 0 3 := by rw [it_8]; dsimp only; rw [am_up_self]; omega
theorem ct9 {X : sX} {a : Nat} (h : 1 ≤ X.1.1 0 3) : 1 ≤ (it K V C X (9, a)).1.1 0 3 := by rw [it_9]; dsimp only; rw [up_row _ _ _ (by omega)]; exact h
theorem ct10 {X : sX} {a : Nat} (h : 1 ≤ X.1.1 0 3) : 1 ≤ (it K V C X (10, a)).1.1 0 3 := by rw [it_10]; dsimp only; rw [up_row _ _ _ (by omega)]; exact h
theorem ct12 {X : sX} {a : Nat} : 1 ≤ (it K V C X (12, a)).1.1 0 4 := by rw [it_12]; dsimp only; rw [am_up_self]; omega
theorem ct14 {X : sX} {a : Nat} : 1 ≤ (it K V C X (14, a)).1.1 0 5 := by rw [it_14]; dsimp only; rw [am_up_self]; omega
/-- a line's items -/
def lnF (K V C : Nat → Nat) (p p' : Nat) (l : List (Nat × Nat)) : Prop := (∀ X, wfI K V C X l) ∧ s_inc K p p' l
theorem f_pap {p p' : Nat} {l : List (Nat × Nat)} (h : pts K (.inl (p + 1, [])) (lpat 0) = .inl (p', l)) : lnF K V C p p' l := by
  have h : stp K (stp K (stp K (.inl (p + 1, [])) (40, 1)) (1, 0)) (40, 2) = .inl (p', l) := h
  obtain ⟨p2, l2, d2, k3, hp3, hl3⟩ := stp_l (k := 40) (r := 2) h
  obtain ⟨p1, l1, d1, k2, hp2, hl2⟩ := stp_l (k := 1) (r := 0) d2
  obtain ⟨p0, l0, d0, k1, hp1, hl1⟩ := stp_l (k := 40) (r := 1) d1
  cases d0
  rw [if_neg (by omega)] at k1
  rw [if_neg (by omega)] at k2
  rw [if_neg (by omega)] at k3
  have hl : l = [(1, p + 1), (2, p + 3)] := by
    rw [hl3, hl2, hl1]
    simp only [hp1, hp2]
    rfl
  subst hl
  have g1 : K (p + 1) = 40 := k1
  have g3 : K (p + 3) = 40 := by rw [show p + 3 = p2 by omega]; exact k3
  refine ⟨fun X => ?_, ⟨by omega, fun q hq => ?_, ?_⟩⟩
  · refine ⟨⟨fun _ => ?_, fun _ => ?_, fun _ => ?_, fun _ => ?_, fun _ => ?_, fun _ => ?_, fun _ => ?_, fun _ => ?_, ?_, ?_⟩, ⟨fun _ => ?_, fun _ => ?_, fun _ => ?_, fun _ => ?_, fun _ => ?_, fun _ => ?_, fun _ => ?_, fun _ => ?_, ?_, ?_⟩, trivial⟩
    all_goals first | exact ct3 | exact ct4 ct3 | exact ct5 (ct4 ct3) | exact ct6 (ct5 (ct4 ct3)) | exact ct8 | exact ct9 ct8 | exact ct10 (ct9 ct8) | exact ct12 | omega | (dsimp only at *; omega)
  · simp only [List.mem_cons, List.mem_nil_iff, or_false, List.not_mem_nil] at hq
    rcases hq with rfl | rfl <;> (dsimp only; omega)
  · simp only [List.pairwise_cons, List.mem_cons, List.mem_nil_iff, or_false, List.not_mem_nil, List.Pairwise.nil, and_true, forall_eq_or_imp, forall_eq, false_implies, implies_true]
    omega
theorem f_oct {p p' : Nat} {l : List (Nat × Nat)} (h : pts K (.inl (p + 1, [])) (lpat 2) = .inl (p', l)) : lnF K V C p p' l := by
  have h : stp K (stp K (stp K (stp K (stp K (stp K (stp K (stp K (stp K (.inl (p + 1, [])) (39, 3)) (3, 0)) (40, 4)) (4, 0)) (40, 5)) (5, 0)) (40, 6)) (6, 0)) (40, 7) = .inl (p', l) := h
  obtain ⟨p8, l8, d8, k9, hp9, hl9⟩ := stp_l (k := 40) (r := 7) h
  obtain ⟨p7, l7, d7, k8, hp8, hl8⟩ := stp_l (k := 6) (r := 0) d8
  obtain ⟨p6, l6, d6, k7, hp7, hl7⟩ := stp_l (k := 40) (r := 6) d7
  obtain ⟨p5, l5, d5, k6, hp6, hl6⟩ := stp_l (k := 5) (r := 0) d6
  obtain ⟨p4, l4, d4, k5, hp5, hl5⟩ := stp_l (k := 40) (r := 5) d5
  obtain ⟨p3, l3, d3, k4, hp4, hl4⟩ := stp_l (k := 4) (r := 0) d4
  obtain ⟨p2, l2, d2, k3, hp3, hl3⟩ := stp_l (k := 40) (r := 4) d3
  obtain ⟨p1, l1, d1, k2, hp2, hl2⟩ := stp_l (k := 3) (r := 0) d2
  obtain ⟨p0, l0, d0, k1, hp1, hl1⟩ := stp_l (k := 39) (r := 3) d1
  cases d0
  rw [if_neg (by omega)] at k1
  rw [if_neg (by omega)] at k2
  rw [if_neg (by omega)] at k3
  rw [if_neg (by omega)] at k4
  rw [if_neg (by omega)] at k5
  rw [if_neg (by omega)] at k6
  rw [if_neg (by omega)] at k7
  rw [if_neg (by omega)] at k8
  rw [if_neg (by omega)] at k9
  have hl : l = [(3, p + 1), (4, p + 3), (5, p + 5), (6, p + 7), (7, p + 9)] := by
    rw [hl9, hl8, hl7, hl6, hl5, hl4, hl3, hl2, hl1]
    simp only [hp1, hp2, hp3, hp4, hp5, hp6, hp7, hp8]
    rfl
  subst hl
  have g1 : K (p + 1) = 39 := k1
  have g3 : K (p + 3) = 40 := by rw [show p + 3 = p2 by omega]; exact k3
  have g5 : K (p + 5) = 40 := by rw [show p + 5 = p4 by omega]; exact k5
  have g7 : K (p + 7) = 40 := by rw [show p + 7 = p6 by omega]; exact k7
  have g9 : K (p + 9) = 40 := by rw [show p + 9 = p8 by omega]; exact k9
  refine ⟨fun X => ?_, ⟨by omega, fun q hq => ?_, ?_⟩⟩
  · refine ⟨⟨fun _ => ?_, fun _ => ?_, fun _ => ?_, fun _ => ?_, fun _ => ?_, fun _ => ?_, fun _ => ?_, fun _ => ?_, ?_, ?_⟩, ⟨fun _ => ?_, fun _ => ?_, fun _ => ?_, fun _ => ?_, fun _ => ?_, fun _ => ?_, fun _ => ?_, fun _ => ?_, ?_, ?_⟩, ⟨fun _ => ?_, fun _ => ?_, fun _ => ?_, fun _ => ?_, fun _ => ?_, fun _ => ?_, fun _ => ?_, fun _ => ?_, ?_, ?_⟩, ⟨fun _ => ?_, fun _ => ?_, fun _ => ?_, fun _ => ?_, fun _ => ?_, fun _ => ?_, fun _ => ?_, fun _ => ?_, ?_, ?_⟩, ⟨fun _ => ?_, fun _ => ?_, fun _ => ?_, fun _ => ?_, fun _ => ?_, fun _ => ?_, fun _ => ?_, fun _ => ?_, ?_, ?_⟩, trivial⟩
    all_goals first | exact ct3 | exact ct4 ct3 | exact ct5 (ct4 ct3) | exact ct6 (ct5 (ct4 ct3)) | exact ct8 | exact ct9 ct8 | exact ct10 (ct9 ct8) | exact ct12 | omega | (dsimp only at *; omega)
  · simp only [List.mem_cons, List.mem_nil_iff, or_false, List.not_mem_nil] at hq
    rcases hq with rfl | rfl | rfl | rfl | rfl <;> (dsimp only; omega)
  · simp only [List.pairwise_cons, List.mem_cons, List.mem_nil_iff, or_false, List.not_mem_nil, List.Pairwise.nil, and_true, forall_eq_or_imp, forall_eq, false_implies, implies_true]
    omega
theorem f_com {p p' : Nat} {l : List (Nat × Nat)} (h : pts K (.inl (p + 1, [])) (lpat 7) = .inl (p', l)) : lnF K V C p p' l := by
  have h : stp K (stp K (stp K (stp K (stp K (stp K (.inl (p + 1, [])) (39, 8)) (100, 9)) (8, 0)) (40, 10)) (9, 0)) (40, 11) = .inl (p', l) := h
  obtain ⟨p5, l5, d5, k6, hp6, hl6⟩ := stp_l (k := 40) (r := 11) h
  obtain ⟨p4, l4, d4, k5, hp5, hl5⟩ := stp_l (k := 9) (r := 0) d5
  obtain ⟨p3, l3, d3, k4, hp4, hl4⟩ := stp_l (k := 40) (r := 10) d4
  obtain ⟨p2, l2, d2, k3, hp3, hl3⟩ := stp_l (k := 8) (r := 0) d3
  obtain ⟨p1, l1, d1, k2, hp2, hl2⟩ := stp_l (k := 100) (r := 9) d2
  obtain ⟨p0, l0, d0, k1, hp1, hl1⟩ := stp_l (k := 39) (r := 8) d1
  cases d0
  rw [if_neg (by omega)] at k1
  rw [if_pos rfl] at k2
  rw [if_neg (by omega)] at k3
  rw [if_neg (by omega)] at k4
  rw [if_neg (by omega)] at k5
  rw [if_neg (by omega)] at k6
  have hl : l = [(8, p + 1), (9, p + 2), (10, p + 4), (11, p + 6)] := by
    rw [hl6, hl5, hl4, hl3, hl2, hl1]
    simp only [hp1, hp2, hp3, hp4, hp5]
    rfl
  subst hl
  have g1 : K (p + 1) = 39 := k1
  have g2 : K (p + 2) = 3 ∨ K (p + 2) = 4 := by rw [show p + 2 = p1 by omega]; exact k2
  have g4 : K (p + 4) = 40 := by rw [show p + 4 = p3 by omega]; exact k4
  have g6 : K (p + 6) = 40 := by rw [show p + 6 = p5 by omega]; exact k6
  refine ⟨fun X => ?_, ⟨by omega, fun q hq => ?_, ?_⟩⟩
  · refine ⟨⟨fun _ => ?_, fun _ => ?_, fun _ => ?_, fun _ => ?_, fun _ => ?_, fun _ => ?_, fun _ => ?_, fun _ => ?_, ?_, ?_⟩, ⟨fun _ => ?_, fun _ => ?_, fun _ => ?_, fun _ => ?_, fun _ => ?_, fun _ => ?_, fun _ => ?_, fun _ => ?_, ?_, ?_⟩, ⟨fun _ => ?_, fun _ => ?_, fun _ => ?_, fun _ => ?_, fun _ => ?_, fun _ => ?_, fun _ => ?_, fun _ => ?_, ?_, ?_⟩, ⟨fun _ => ?_, fun _ => ?_, fun _ => ?_, fun _ => ?_, fun _ => ?_, fun _ => ?_, fun _ => ?_, fun _ => ?_, ?_, ?_⟩, trivial⟩
    all_goals first | exact ct3 | exact ct4 ct3 | exact ct5 (ct4 ct3) | exact ct6 (ct5 (ct4 ct3)) | exact ct8 | exact ct9 ct8 | exact ct10 (ct9 ct8) | exact ct12 | omega | (dsimp only at *; omega)
  · simp only [List.mem_cons, List.mem_nil_iff, or_false, List.not_mem_nil] at hq
    rcases hq with rfl | rfl | rfl | rfl <;> (dsimp only; omega)
  · simp only [List.pairwise_cons, List.mem_cons, List.mem_nil_iff, or_false, List.not_mem_nil, List.Pairwise.nil, and_true, forall_eq_or_imp, forall_eq, false_implies, implies_true]
    omega
theorem f_ink {p p' : Nat} {l : List (Nat × Nat)} (h : pts K (.inl (p + 1, [])) (lpat 10) = .inl (p', l)) : lnF K V C p p' l := by
  have h : stp K (stp K (stp K (.inl (p + 1, [])) (39, 12)) (11, 0)) (40, 13) = .inl (p', l) := h
  obtain ⟨p2, l2, d2, k3, hp3, hl3⟩ := stp_l (k := 40) (r := 13) h
  obtain ⟨p1, l1, d1, k2, hp2, hl2⟩ := stp_l (k := 11) (r := 0) d2
  obtain ⟨p0, l0, d0, k1, hp1, hl1⟩ := stp_l (k := 39) (r := 12) d1
  cases d0
  rw [if_neg (by omega)] at k1
  rw [if_neg (by omega)] at k2
  rw [if_neg (by omega)] at k3
  have hl : l = [(12, p + 1), (13, p + 3)] := by
    rw [hl3, hl2, hl1]
    simp only [hp1, hp2]
    rfl
  subst hl
  have g1 : K (p + 1) = 39 := k1
  have g3 : K (p + 3) = 40 := by rw [show p + 3 = p2 by omega]; exact k3
  refine ⟨fun X => ?_, ⟨by omega, fun q hq => ?_, ?_⟩⟩
  · refine ⟨⟨fun _ => ?_, fun _ => ?_, fun _ => ?_, fun _ => ?_, fun _ => ?_, fun _ => ?_, fun _ => ?_, fun _ => ?_, ?_, ?_⟩, ⟨fun _ => ?_, fun _ => ?_, fun _ => ?_, fun _ => ?_, fun _ => ?_, fun _ => ?_, fun _ => ?_, fun _ => ?_, ?_, ?_⟩, trivial⟩
    all_goals first | exact ct3 | exact ct4 ct3 | exact ct5 (ct4 ct3) | exact ct6 (ct5 (ct4 ct3)) | exact ct8 | exact ct9 ct8 | exact ct10 (ct9 ct8) | exact ct12 | omega | (dsimp only at *; omega)
  · simp only [List.mem_cons, List.mem_nil_iff, or_false, List.not_mem_nil] at hq
    rcases hq with rfl | rfl <;> (dsimp only; omega)
  · simp only [List.pairwise_cons, List.mem_cons, List.mem_nil_iff, or_false, List.not_mem_nil, List.Pairwise.nil, and_true, forall_eq_or_imp, forall_eq, false_implies, implies_true]
    omega
end RIF
