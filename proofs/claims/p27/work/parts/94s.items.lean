/-! items of a list -/
def lits (acc : List lnT) : List (Nat × Nat) := acc.flatMap (fun q => q.2.1)
def locs (acc : List lnT) : List (List (Nat × Nat) × List (Nat × Nat)) := acc.filterMap (fun q => q.2.2)
def loc (acc : List lnT) (k : Nat) : List (Nat × Nat) × List (Nat × Nat) := (locs acc).getD k ([], [])
theorem lits_1 (acc : List lnT) (q : lnT) : lits (acc ++ [q]) = lits acc ++ q.2.1 := by
  unfold lits
  rw [List.flatMap_append]
  congr 1
  show q.2.1 ++ [] = _
  exact List.append_nil _
theorem locs_s (acc : List lnT) (p : Nat) (l c1 c2 : List (Nat × Nat)) : locs (acc ++ [(p, (l, some (c1, c2)))]) = locs acc ++ [(c1, c2)] := by
  unfold locs
  rw [List.filterMap_append]
  rfl
theorem locs_n (acc : List lnT) (p : Nat) (l : List (Nat × Nat)) : locs (acc ++ [(p, (l, none))]) = locs acc := by
  unfold locs
  rw [List.filterMap_append]
  exact List.append_nil _
def itW (K C : Nat → Nat) (X : sX) (W : Nat → Nat × Nat) (q : Nat × Nat) : Nat → Nat × Nat := if q.1 = 14 then (fun k => if k = X.1.1 0 5 then (K q.2, (W k).2) else W k) else if q.1 = 15 then (fun k => if k = X.1.1 0 5 - 1 then ((W k).1, (nmL C X.1.2 9 q.2).getD 0) else W k) else if q.1 = 16 then (fun k => if k = X.1.1 0 5 - 1 then ((W k).1, (nmL C X.1.2 6 q.2).getD 0) else W k) else if q.1 = 17 then (fun k => if k = X.1.1 0 5 - 1 then ((W k).1, K q.2 - 3) else W k) else W
def xl (X : sX) : Prop := (X.1.1 0 2 = (X.1.2 6).length ∧ X.1.1 0 2 ≤ 4) ∧ (X.1.1 0 3 = (X.1.2 9).length ∧ X.1.1 0 3 ≤ 4) ∧ (X.1.1 0 4 = (X.1.2 16).length ∧ X.1.1 0 4 ≤ 5) ∧ X.1.1 0 5 ≤ 20
def iw (K : Nat → Nat) (X : sX) (q : Nat × Nat) : Prop := ((q.1 = 1 ∨ q.1 = 2 ∨ q.1 = 4 ∨ q.1 = 5 ∨ q.1 = 6 ∨ q.1 = 7 ∨ q.1 = 10 ∨ q.1 = 11 ∨ q.1 = 13) → K q.2 = 40) ∧ ((q.1 = 3 ∨ q.1 = 8 ∨ q.1 = 12 ∨ q.1 = 15 ∨ q.1 = 16 ∨ q.1 = 18 ∨ q.1 = 19 ∨ q.1 = 20) → K q.2 = 39) ∧ ((q.1 = 9 ∨ q.1 = 17) → K q.2 = 3 ∨ K q.2 = 4) ∧ (q.1 = 14 → K q.2 = 9 ∨ K q.2 = 6 ∨ K q.2 = 12) ∧ ((q.1 = 4 ∨ q.1 = 5 ∨ q.1 = 6 ∨ q.1 = 7) → 1 ≤ X.1.1 0 2) ∧ ((q.1 = 9 ∨ q.1 = 10 ∨ q.1 = 11) → 1 ≤ X.1.1 0 3) ∧ (q.1 = 13 → 1 ≤ X.1.1 0 4) ∧ ((q.1 = 15 ∨ q.1 = 16 ∨ q.1 = 17) → 1 ≤ X.1.1 0 5) ∧ 1 ≤ q.1 ∧ q.1 ≤ 20
theorem pe_if {c : Prop} [Decidable c] {y z : sX} {w : Option (Nat × Nat)} (h1 : y.2.1 = w) (h2 : z.2.1 = w) : (if c then y else z).2.1 = w := by
  split
  · exact h1
  · exact h2
def wfI (K V C : Nat → Nat) : sX → List (Nat × Nat) → Prop
  | _, [] => True
  | X, q :: l => iw K X q ∧ wfI K V C (it K V C X q) l
def itsW (K V C : Nat → Nat) : List (Nat × Nat) → sX → (Nat → Nat × Nat) → (Nat → Nat × Nat)
  | [], _, W => W
  | q :: l, X, W => itsW K V C l (it K V C X q) (itW K C X W q)
theorem it_some {K V C : Nat → Nat} {X : sX} {x : Nat × Nat} (h : X.2.1 = some x) (q : Nat × Nat) : (it K V C X q).2.1 = some x := by
  have e1 : ∀ lo hi, rgE V (some x) q.2 lo hi = some x := fun lo hi => by unfold rgE; split <;> rfl
  have e2 : ∀ n, eo (some x) n q.2 = some x := fun n => by unfold eo; split <;> rfl
  unfold it
  repeat' apply pe_if
  all_goals first | exact h | (dsimp only; rw [h]; first | exact e1 _ _ | exact e2 _)
theorem its_some {K V C : Nat → Nat} {x : Nat × Nat} : ∀ (l : List (Nat × Nat)) (X : sX), X.2.1 = some x → (its K V C l X).2.1 = some x
  | [], _, h => h
  | q :: l, X, h => its_some l (it K V C X q) (it_some h q)
