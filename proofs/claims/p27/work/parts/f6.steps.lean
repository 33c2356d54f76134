/-! line by line: what has been told grows -/
section F6
variable {K V C : Nat → Nat} {c : Nat → Int32} {Y : sX × sO} {p no nc ni nd : Nat}
theorem m_pap (h : yP c C 0 0 0 0 Y ∨ (Y = (X0D, od0))) (hY : Y = (X0D, od0)) {A B : Nat} (hA : A = pCols c) (hB : B = pRows c) (hg : sg K V C p (lPap A B)) : yP c C 0 0 0 0 (sXo K V C Y (p, ([(1, p + 1), (2, p + 3)], none))) := by
  obtain ⟨-, ⟨-, v1, -⟩, -, ⟨-, v3, -⟩, -⟩ := hg
  have v1 : V (p + 1) = A := v1 rfl
  have v3 : V (p + 3) = B := v3 rfl
  obtain ⟨b1, b2, -⟩ := pCR_b c
  subst hY
  show yP c C 0 0 0 0 (it K V C (it K V C X0D (1, p + 1)) (2, p + 3), od0)
  rw [it_2, it_1, v1, v3, hA, hB]
  refine ⟨?_, ⟨?_, ?_, ?_, ?_, ?_, ?_⟩, fun k hk => absurd hk (Nat.not_lt_zero k), fun k hk => absurd hk (Nat.not_lt_zero k), fun k hk => absurd hk (Nat.not_lt_zero k), ⟨⟨rfl, fun k hk => absurd hk (Nat.not_lt_zero k)⟩, ⟨rfl, fun k hk => absurd hk (Nat.not_lt_zero k)⟩, ⟨rfl, fun k hk => absurd hk (Nat.not_lt_zero k)⟩⟩, fun k hk => absurd hk (Nat.not_lt_zero k)⟩
  · show rgE V (rgE V none (p + 1) 4 24) (p + 3) 4 24 = none
    rw [rgE_ok (by omega) (by omega), rgE_ok (by omega) (by omega)]
  · simp [am_up_lit2]
  · simp [am_up_lit2]
  · simp [am_up_lit2, X0D, p0D]
  · simp [am_up_lit2, X0D, p0D]
  · simp [am_up_lit2, X0D, p0D]
  · simp [am_up_lit2, X0D, p0D]
theorem m_oct (h : yP c C no 0 0 0 Y) (hno : no < 4) (hg : sg K V C p (lOct no (pOct c no 0) (pOct c no 1) (pOct c no 2) (pOct c no 3))) : yP c C (no + 1) 0 0 0 (sXo K V C Y (p, ([(3, p + 1), (4, p + 3), (5, p + 5), (6, p + 7), (7, p + 9)], none))) := by
  obtain ⟨-, ⟨-, -, c1⟩, -, ⟨-, v3, -⟩, -, ⟨-, v5, -⟩, -, ⟨-, v7, -⟩, -, ⟨-, v9, -⟩, -⟩ := hg
  have c1 : C (p + 1) = nmc 111 no := c1 rfl
  have v3 : V (p + 3) = pOct c no 0 := v3 rfl
  have v5 : V (p + 5) = pOct c no 1 := v5 rfl
  have v7 : V (p + 7) = pOct c no 2 := v7 rfl
  have v9 : V (p + 9) = pOct c no 3 := v9 rfl
  obtain ⟨b0, b1, b2, b3⟩ := pOct_b c no
  obtain ⟨⟨⟨P, L⟩, ⟨e, m⟩⟩, od⟩ := Y
  obtain ⟨h1, ⟨h20, h21, h22, h23, h24, h25⟩, h3, h4, h5, ⟨n6, n9, n16⟩, h7⟩ := h
  dsimp only at h1 h20 h21 h22 h23 h24 h25 h3 h4 h5 n6 n9 n16 h7
  show yP c C (no + 1) 0 0 0 (it K V C (it K V C (it K V C (it K V C (it K V C ((P, L), (e, m)) (3, p + 1)) (4, p + 3)) (5, p + 5)) (6, p + 7)) (7, p + 9), od)
  rw [it_7, it_6, it_5, it_4, it_3, v3, v5, v7, v9, h1]
  dsimp only
  have i1 : am_up P 0 2 (P 0 2 + 1) 0 2 - 1 = no := by rw [am_up_self, h22]; rfl
  have i2 : am_up (am_up P 0 2 (P 0 2 + 1)) 1 no (pOct c no 0) 0 2 - 1 = no := by rw [up_row _ _ _ (by omega)]; exact i1
  have i3 : am_up (am_up (am_up P 0 2 (P 0 2 + 1)) 1 no (pOct c no 0)) 2 no (pOct c no 1) 0 2 - 1 = no := by rw [up_row _ _ _ (by omega)]; exact i2
  have i4 : am_up (am_up (am_up (am_up P 0 2 (P 0 2 + 1)) 1 no (pOct c no 0)) 2 no (pOct c no 1)) 3 no (pOct c no 2) 0 2 - 1 = no := by rw [up_row _ _ _ (by omega)]; exact i3
  rw [i1, i2, i3, i4]
  refine ⟨?_, ⟨?_, ?_, ?_, ?_, ?_, ?_⟩, fun k hk => ?_, fun k hk => absurd hk (Nat.not_lt_zero k), fun k hk => absurd hk (Nat.not_lt_zero k), ⟨?_, ?_, ?_⟩, fun k hk => absurd hk (Nat.not_lt_zero k)⟩
  · show rgE V (rgE V (rgE V (rgE V (eo none (nwE C (L 6) 4 (p + 1)) (p + 1)) (p + 3) 1 8) (p + 5) 1 8) (p + 7) 1 9) (p + 9) 0 999 = none
    rw [nwE_ok n6 c1 hno, rgE_ok (by omega) (by omega), rgE_ok (by omega) (by omega), rgE_ok (by omega) (by omega), rgE_ok (by omega) (by omega)]
  · simp [am_up_lit2, h20]
  · simp [am_up_lit2, h21]
  · simp [am_up_lit2, h22]
  · simp [am_up_lit2, h23]
  · simp [am_up_lit2, h24]
  · simp [am_up_lit2, h25]
  · by_cases ck : k = no
    · subst ck
      simp [am_up_lit2]
    · have := h3 k (by omega)
      simp [am_up_lit2, ck, this]
  · show nmP C (Lup L 6 4 (p + 1) 6) 111 (no + 1)
    rw [Lup_y (by rw [n6.1]; exact hno)]
    exact n6.add c1
  · show nmP C (Lup L 6 4 (p + 1) 9) 99 0
    rw [Lup_n (by omega)]; exact n9
  · show nmP C (Lup L 6 4 (p + 1) 16) 105 0
    rw [Lup_n (by omega)]; exact n16
theorem m_cmb (h : yP c C no nc 0 0 Y) (hnc : nc < 4) (hg : sg K V C p (lCmb nc (pCmb c nc 0) (pCmb c nc 1) (pCmb c nc 2))) : yP c C no (nc + 1) 0 0 (sXo K V C Y (p, ([(8, p + 1), (9, p + 2), (10, p + 4), (11, p + 6)], none))) := by
  obtain ⟨-, ⟨-, -, c1⟩, ⟨k2, -, -⟩, -, ⟨-, v4, -⟩, -, ⟨-, v6, -⟩, -⟩ := hg
  have c1 : C (p + 1) = nmc 99 nc := c1 rfl
  have v4 : V (p + 4) = pCmb c nc 1 := v4 rfl
  have v6 : V (p + 6) = pCmb c nc 2 := v6 rfl
  obtain ⟨b0, b1, b2⟩ := pCmb_b c nc
  have k2 : K (p + 2) - 3 = pCmb c nc 0 := by
    show K (p + 1 + 1) - 3 = _
    rw [k2]
    split <;> omega
  obtain ⟨⟨⟨P, L⟩, ⟨e, m⟩⟩, od⟩ := Y
  obtain ⟨h1, ⟨h20, h21, h22, h23, h24, h25⟩, h3, h4, h5, ⟨n6, n9, n16⟩, h7⟩ := h
  dsimp only at h1 h20 h21 h22 h23 h24 h25 h3 h4 h5 n6 n9 n16 h7
  show yP c C no (nc + 1) 0 0 (it K V C (it K V C (it K V C (it K V C ((P, L), (e, m)) (8, p + 1)) (9, p + 2)) (10, p + 4)) (11, p + 6), od)
  rw [it_11, it_10, it_9, it_8, v4, v6, k2, h1]
  dsimp only
  have i1 : am_up P 0 3 (P 0 3 + 1) 0 3 - 1 = nc := by rw [am_up_self, h23]; rfl
  have i2 : am_up (am_up P 0 3 (P 0 3 + 1)) 4 nc (pCmb c nc 0) 0 3 - 1 = nc := by rw [up_row _ _ _ (by omega)]; exact i1
  have i3 : am_up (am_up (am_up P 0 3 (P 0 3 + 1)) 4 nc (pCmb c nc 0)) 5 nc (pCmb c nc 1) 0 3 - 1 = nc := by rw [up_row _ _ _ (by omega)]; exact i2
  rw [i1, i2, i3]
  refine ⟨?_, ⟨?_, ?_, ?_, ?_, ?_, ?_⟩, fun k hk => ?_, fun k hk => ?_, fun k hk => absurd hk (Nat.not_lt_zero k), ⟨?_, ?_, ?_⟩, fun k hk => absurd hk (Nat.not_lt_zero k)⟩
  · show rgE V (rgE V (eo none (nwE C (L 9) 4 (p + 1)) (p + 1)) (p + 4) 1 8) (p + 6) 0 16 = none
    rw [nwE_ok n9 c1 hnc, rgE_ok (by omega) (by omega), rgE_ok (by omega) (by omega)]
  · simp [am_up_lit2, h20]
  · simp [am_up_lit2, h21]
  · simp [am_up_lit2, h22]
  · simp [am_up_lit2, h23]
  · simp [am_up_lit2, h24]
  · simp [am_up_lit2, h25]
  · have := h3 k hk
    simp [am_up_lit2, this]
  · by_cases ck : k = nc
    · subst ck
      simp [am_up_lit2]
    · have := h4 k (by omega)
      simp [am_up_lit2, ck, this]
  · show nmP C (Lup L 9 4 (p + 1) 6) 111 no
    rw [Lup_n (by omega)]; exact n6
  · show nmP C (Lup L 9 4 (p + 1) 9) 99 (nc + 1)
    rw [Lup_y (by rw [n9.1]; exact hnc)]
    exact n9.add c1
  · show nmP C (Lup L 9 4 (p + 1) 16) 105 0
    rw [Lup_n (by omega)]; exact n16
theorem m_lev (h : yP c C no nc ni 0 Y) (hni : ni < 4) (hg : sg K V C p (lLev ni (pLev c ni))) : yP c C no nc (ni + 1) 0 (sXo K V C Y (p, ([(12, p + 1), (13, p + 3)], none))) := by
  obtain ⟨-, ⟨-, -, c1⟩, -, ⟨-, v3, -⟩, -⟩ := hg
  have c1 : C (p + 1) = nmc 105 ni := c1 rfl
  have v3 : V (p + 3) = pLev c ni := v3 rfl
  have b := pLev_b c ni
  obtain ⟨⟨⟨P, L⟩, ⟨e, m⟩⟩, od⟩ := Y
  obtain ⟨h1, ⟨h20, h21, h22, h23, h24, h25⟩, h3, h4, h5, ⟨n6, n9, n16⟩, h7⟩ := h
  dsimp only at h1 h20 h21 h22 h23 h24 h25 h3 h4 h5 n6 n9 n16 h7
  show yP c C no nc (ni + 1) 0 (it K V C (it K V C ((P, L), (e, m)) (12, p + 1)) (13, p + 3), od)
  rw [it_13, it_12, v3, h1]
  dsimp only
  have i1 : am_up P 0 4 (P 0 4 + 1) 0 4 - 1 = ni := by rw [am_up_self, h24]; rfl
  have hlw : lwl (am_up P 0 4 (P 0 4 + 1)) ≤ pLev c ni := by
    unfold lwl
    rw [am_up_self, h24]
    split
    · omega
    · obtain ⟨j, rfl⟩ : ∃ j, ni = j + 1 := ⟨ni - 1, by omega⟩
      rw [up_row _ _ _ (by omega), show j + 1 + 1 - 2 = j by omega, h5 j (by omega)]
      show pLev c j + 1 ≤ pLev c j + (1 + _)
      omega
  rw [i1]
  refine ⟨?_, ⟨?_, ?_, ?_, ?_, ?_, ?_⟩, fun k hk => ?_, fun k hk => ?_, fun k hk => ?_, ⟨?_, ?_, ?_⟩, fun k hk => absurd hk (Nat.not_lt_zero k)⟩
  · show rgE V (eo none (nwE C (L 16) 5 (p + 1)) (p + 1)) (p + 3) (lwl (am_up P 0 4 (P 0 4 + 1))) 999 = none
    rw [nwE_ok n16 c1 (by omega), rgE_ok (by omega) (by omega)]
  · simp [am_up_lit2, h20]
  · simp [am_up_lit2, h21]
  · simp [am_up_lit2, h22]
  · simp [am_up_lit2, h23]
  · simp [am_up_lit2, h24]
  · simp [am_up_lit2, h25]
  · have := h3 k hk
    simp [am_up_lit2, this]
  · have := h4 k hk
    simp [am_up_lit2, this]
  · by_cases ck : k = ni
    · subst ck
      simp [am_up_lit2]
    · have := h5 k (by omega)
      simp [am_up_lit2, ck, this]
  · show nmP C (Lup L 16 5 (p + 1) 6) 111 no
    rw [Lup_n (by omega)]; exact n6
  · show nmP C (Lup L 16 5 (p + 1) 9) 99 nc
    rw [Lup_n (by omega)]; exact n9
  · show nmP C (Lup L 16 5 (p + 1) 16) 105 (ni + 1)
    rw [Lup_y (by rw [n16.1]; omega)]
    exact n16.add c1
/-- names that are known change nothing but their meanings -/
def okn (C : Nat → Nat) (L : Nat → List Nat) (q : Nat × Nat) : Prop := ((q.1 = 15 ∨ q.1 = 18) ∧ nmL C L 9 q.2 ≠ none) ∨ ((q.1 = 16 ∨ q.1 = 20) ∧ nmL C L 6 q.2 ≠ none) ∨ (q.1 = 19 ∧ nmL C L 16 q.2 ≠ none) ∨ q.1 = 17
theorem its_okn : ∀ (l : List (Nat × Nat)) (X : sX), X.2.1 = none → (∀ q ∈ l, okn C X.1.2 q) → (its K V C l X).1 = X.1 ∧ (its K V C l X).2.1 = none
  | [], X, h, _ => ⟨rfl, h⟩
  | (r, a) :: l, X, h, hq => by
    have h0 := hq (r, a) List.mem_cons_self
    have key : (it K V C X (r, a)).1 = X.1 ∧ (it K V C X (r, a)).2.1 = none := by
      unfold it
      rcases h0 with ⟨h1, h2⟩ | ⟨h1, h2⟩ | ⟨h1, h2⟩ | h1
      · rcases h1 with h1 | h1 <;> dsimp only at h1 <;> subst h1
        · show X.1 = X.1 ∧ eo X.2.1 (if nmL C X.1.2 9 a = none then 3 else 0) a = none
          rw [if_neg h2, h]; exact ⟨rfl, rfl⟩
        · show X.1 = X.1 ∧ eo X.2.1 (if nmL C X.1.2 9 a = none then 3 else 0) a = none
          rw [if_neg h2, h]; exact ⟨rfl, rfl⟩
      · rcases h1 with h1 | h1 <;> dsimp only at h1 <;> subst h1
        · show X.1 = X.1 ∧ eo X.2.1 (if nmL C X.1.2 6 a = none then 3 else 0) a = none
          rw [if_neg h2, h]; exact ⟨rfl, rfl⟩
        · show X.1 = X.1 ∧ eo X.2.1 (if nmL C X.1.2 6 a = none then 3 else 0) a = none
          rw [if_neg h2, h]; exact ⟨rfl, rfl⟩
      · dsimp only at h1
        subst h1
        show X.1 = X.1 ∧ eo X.2.1 (if nmL C X.1.2 16 a = none then 3 else 0) a = none
        rw [if_neg h2, h]; exact ⟨rfl, rfl⟩
      · dsimp only at h1
        subst h1
        exact ⟨rfl, h⟩
    obtain ⟨a1, a2⟩ := its_okn l (it K V C X (r, a)) key.2 (fun q hm => by rw [key.1]; exact hq q (List.mem_cons_of_mem _ hm))
    exact ⟨a1.trans key.1, a2⟩
end F6
