/-! taking the plan: the plan told, with right rows everywhere -/
section RTP
def pad (p : sP) : sP := fun a k => if a = 0 then p 0 k else if a = 1 ∨ a = 2 ∨ a = 3 then (if k < p 0 2 then p a k else 1) else if a = 7 then (if k < p 0 2 then p 7 k else 0) else if a = 5 then (if k < p 0 3 then p 5 k else 1) else if a = 4 ∨ a = 8 then (if k < p 0 3 then p a k else 0) else if a = 6 then (if k < p 0 4 then p 6 k else 0) else 0
theorem pad_0 (p : sP) (k : Nat) : pad p 0 k = p 0 k := rfl
theorem pad_1 (p : sP) (k : Nat) : pad p 1 k = if k < p 0 2 then p 1 k else 1 := rfl
theorem pad_2 (p : sP) (k : Nat) : pad p 2 k = if k < p 0 2 then p 2 k else 1 := rfl
theorem pad_3 (p : sP) (k : Nat) : pad p 3 k = if k < p 0 2 then p 3 k else 1 := rfl
theorem pad_7 (p : sP) (k : Nat) : pad p 7 k = if k < p 0 2 then p 7 k else 0 := rfl
theorem pad_5 (p : sP) (k : Nat) : pad p 5 k = if k < p 0 3 then p 5 k else 1 := rfl
theorem pad_4 (p : sP) (k : Nat) : pad p 4 k = if k < p 0 3 then p 4 k else 0 := rfl
theorem pad_8 (p : sP) (k : Nat) : pad p 8 k = if k < p 0 3 then p 8 k else 0 := rfl
theorem pad_6 (p : sP) (k : Nat) : pad p 6 k = if k < p 0 4 then p 6 k else 0 := rfl
theorem pad_ok {p : sP} (h : pk p) : p_ok (pad p) := by
  obtain ⟨h1, h2, h3, h4, h5⟩ := h
  refine ⟨h1, fun k => ?_, fun i j hij hj => ?_⟩
  · rw [pad_1, pad_2, pad_3, pad_7, pad_5, pad_4, pad_8, pad_6]
    have a2 := h2 k
    have a3 := h3 k
    have a4 := h4 k
    by_cases b2 : k < p 0 2
    · have a2 := a2 b2
      by_cases b3 : k < p 0 3
      · have a3 := a3 b3
        by_cases b4 : k < p 0 4
        · have a4 := a4 b4
          simp only [if_pos b2, if_pos b3, if_pos b4]; omega
        · simp only [if_pos b2, if_pos b3, if_neg b4]; omega
      · by_cases b4 : k < p 0 4
        · have a4 := a4 b4
          simp only [if_pos b2, if_neg b3, if_pos b4]; omega
        · simp only [if_pos b2, if_neg b3, if_neg b4]; omega
    · by_cases b3 : k < p 0 3
      · have a3 := a3 b3
        by_cases b4 : k < p 0 4
        · have a4 := a4 b4
          simp only [if_neg b2, if_pos b3, if_pos b4]; omega
        · simp only [if_neg b2, if_pos b3, if_neg b4]; omega
      · by_cases b4 : k < p 0 4
        · have a4 := a4 b4
          simp only [if_neg b2, if_neg b3, if_pos b4]; omega
        · simp only [if_neg b2, if_neg b3, if_neg b4]; omega
  · rw [pad_0] at hj
    rw [pad_6, pad_6, if_pos (by omega), if_pos hj]
    exact h5 i j hij hj
theorem cp_o {I : am_I} {a b n c : Nat} (h : c ≠ b) : am_cp I a b n c = I c := by
  funext j
  show (if c = b ∧ j < n then I a j else I c j) = _
  rw [if_neg (fun z => h z.1)]
theorem cp_i {I : am_I} {a b n j : Nat} (h : j < n) : am_cp I a b n b j = I a j := by
  show (if b = b ∧ j < n then I a j else I b j) = _
  rw [if_pos ⟨rfl, h⟩]
theorem c_take {I : am_I} {G : am_G} {p : sP} {od : sO} (h : dP I p) (ho : dO I (p 0 5) od) (hp : pk p) : ∃ I' : am_I, R_X5_take_7_29 I G = some ((), I', G) ∧ cP I' (pad p) ∧ cO I' (pad p) od ∧ ∀ b, (b < 7 ∨ 24 < b) → I' b = I b := by
  obtain ⟨⟨a1, a2, a3, a4, a5⟩, b1, b2, b3⟩ := h
  obtain ⟨o1, o2, len, o3, o4, o5⟩ := ho
  have hp1 := hp.1
  obtain ⟨J, hJ⟩ : ∃ J : am_I, J = (am_up (am_up (am_up (am_up (am_up I 7 9 (I 29 9)) 7 10 (I 29 10)) 7 11 (I 29 11)) 7 12 (I 29 12)) 7 13 (I 29 13)) := ⟨_, rfl⟩
  obtain ⟨J1, hJ1⟩ : ∃ J1 : am_I, J1 = (am_cp (am_cp (am_cp (am_cp (am_cp (am_cp (am_cp (am_cp J 30 8 4) 31 9 4) 32 10 4) 33 11 4) 34 12 4) 35 13 4) 36 14 4) 37 15 5) := ⟨_, rfl⟩
  obtain ⟨J2, hJ2⟩ : ∃ J2 : am_I, J2 = (am_cp (am_cp (am_cp (am_cp (am_cp (am_cp (am_cp (am_cp (am_up (am_up J1 16 8 (J1 38 8)) 16 9 (J1 38 9)) 39 17 20) 40 18 20) 41 19 20) 42 20 20) 43 21 20) 44 22 20) 45 23 400) 46 24 400) := ⟨_, rfl⟩
  have eR : R_X5_take_7_29 I G = some ((), J2, G) := by
    unfold R_X5_take_7_29
    rw [← hJ, ← hJ1]
    unfold R_X3_take_16_38
    rw [← hJ2, rb_go]
  have jo : ∀ b, b ≠ 7 → J b = I b := fun b hb => by rw [hJ, up_row _ _ _ hb, up_row _ _ _ hb, up_row _ _ _ hb, up_row _ _ _ hb, up_row _ _ _ hb]
  have j1o : ∀ b, (b < 8 ∨ 15 < b) → J1 b = J b := fun b hb => by rw [hJ1, cp_o (by omega), cp_o (by omega), cp_o (by omega), cp_o (by omega), cp_o (by omega), cp_o (by omega), cp_o (by omega), cp_o (by omega)]
  have j2o : ∀ b, (b < 16 ∨ 24 < b) → J2 b = J1 b := fun b hb => by rw [hJ2, cp_o (by omega), cp_o (by omega), cp_o (by omega), cp_o (by omega), cp_o (by omega), cp_o (by omega), cp_o (by omega), cp_o (by omega), up_row _ _ _ (by omega), up_row _ _ _ (by omega)]
  have x8 : ∀ k, k < 4 → J2 8 k = I 30 k := fun k hk => by rw [j2o 8 (by omega), hJ1, cp_o (show (8 : Nat) ≠ 15 by omega), cp_o (show (8 : Nat) ≠ 14 by omega), cp_o (show (8 : Nat) ≠ 13 by omega), cp_o (show (8 : Nat) ≠ 12 by omega), cp_o (show (8 : Nat) ≠ 11 by omega), cp_o (show (8 : Nat) ≠ 10 by omega), cp_o (show (8 : Nat) ≠ 9 by omega), cp_i hk, jo 30 (by omega)]
  have x9 : ∀ k, k < 4 → J2 9 k = I 31 k := fun k hk => by rw [j2o 9 (by omega), hJ1, cp_o (show (9 : Nat) ≠ 15 by omega), cp_o (show (9 : Nat) ≠ 14 by omega), cp_o (show (9 : Nat) ≠ 13 by omega), cp_o (show (9 : Nat) ≠ 12 by omega), cp_o (show (9 : Nat) ≠ 11 by omega), cp_o (show (9 : Nat) ≠ 10 by omega), cp_i hk, cp_o (show (31 : Nat) ≠ 8 by omega), jo 31 (by omega)]
  have x10 : ∀ k, k < 4 → J2 10 k = I 32 k := fun k hk => by rw [j2o 10 (by omega), hJ1, cp_o (show (10 : Nat) ≠ 15 by omega), cp_o (show (10 : Nat) ≠ 14 by omega), cp_o (show (10 : Nat) ≠ 13 by omega), cp_o (show (10 : Nat) ≠ 12 by omega), cp_o (show (10 : Nat) ≠ 11 by omega), cp_i hk, cp_o (show (32 : Nat) ≠ 9 by omega), cp_o (show (32 : Nat) ≠ 8 by omega), jo 32 (by omega)]
  have x11 : ∀ k, k < 4 → J2 11 k = I 33 k := fun k hk => by rw [j2o 11 (by omega), hJ1, cp_o (show (11 : Nat) ≠ 15 by omega), cp_o (show (11 : Nat) ≠ 14 by omega), cp_o (show (11 : Nat) ≠ 13 by omega), cp_o (show (11 : Nat) ≠ 12 by omega), cp_i hk, cp_o (show (33 : Nat) ≠ 10 by omega), cp_o (show (33 : Nat) ≠ 9 by omega), cp_o (show (33 : Nat) ≠ 8 by omega), jo 33 (by omega)]
  have x12 : ∀ k, k < 4 → J2 12 k = I 34 k := fun k hk => by rw [j2o 12 (by omega), hJ1, cp_o (show (12 : Nat) ≠ 15 by omega), cp_o (show (12 : Nat) ≠ 14 by omega), cp_o (show (12 : Nat) ≠ 13 by omega), cp_i hk, cp_o (show (34 : Nat) ≠ 11 by omega), cp_o (show (34 : Nat) ≠ 10 by omega), cp_o (show (34 : Nat) ≠ 9 by omega), cp_o (show (34 : Nat) ≠ 8 by omega), jo 34 (by omega)]
  have x13 : ∀ k, k < 4 → J2 13 k = I 35 k := fun k hk => by rw [j2o 13 (by omega), hJ1, cp_o (show (13 : Nat) ≠ 15 by omega), cp_o (show (13 : Nat) ≠ 14 by omega), cp_i hk, cp_o (show (35 : Nat) ≠ 12 by omega), cp_o (show (35 : Nat) ≠ 11 by omega), cp_o (show (35 : Nat) ≠ 10 by omega), cp_o (show (35 : Nat) ≠ 9 by omega), cp_o (show (35 : Nat) ≠ 8 by omega), jo 35 (by omega)]
  have x14 : ∀ k, k < 4 → J2 14 k = I 36 k := fun k hk => by rw [j2o 14 (by omega), hJ1, cp_o (show (14 : Nat) ≠ 15 by omega), cp_i hk, cp_o (show (36 : Nat) ≠ 13 by omega), cp_o (show (36 : Nat) ≠ 12 by omega), cp_o (show (36 : Nat) ≠ 11 by omega), cp_o (show (36 : Nat) ≠ 10 by omega), cp_o (show (36 : Nat) ≠ 9 by omega), cp_o (show (36 : Nat) ≠ 8 by omega), jo 36 (by omega)]
  have x15 : ∀ k, k < 5 → J2 15 k = I 37 k := fun k hk => by rw [j2o 15 (by omega), hJ1, cp_i hk, cp_o (show (37 : Nat) ≠ 14 by omega), cp_o (show (37 : Nat) ≠ 13 by omega), cp_o (show (37 : Nat) ≠ 12 by omega), cp_o (show (37 : Nat) ≠ 11 by omega), cp_o (show (37 : Nat) ≠ 10 by omega), cp_o (show (37 : Nat) ≠ 9 by omega), cp_o (show (37 : Nat) ≠ 8 by omega), jo 37 (by omega)]
  have x17 : ∀ k, k < 20 → J2 17 k = I 39 k := fun k hk => by rw [hJ2, cp_o (show (17 : Nat) ≠ 24 by omega), cp_o (show (17 : Nat) ≠ 23 by omega), cp_o (show (17 : Nat) ≠ 22 by omega), cp_o (show (17 : Nat) ≠ 21 by omega), cp_o (show (17 : Nat) ≠ 20 by omega), cp_o (show (17 : Nat) ≠ 19 by omega), cp_o (show (17 : Nat) ≠ 18 by omega), cp_i hk, up_row _ _ _ (show (39 : Nat) ≠ 16 by omega), up_row _ _ _ (show (39 : Nat) ≠ 16 by omega), j1o 39 (by omega), jo 39 (by omega)]
  have x18 : ∀ k, k < 20 → J2 18 k = I 40 k := fun k hk => by rw [hJ2, cp_o (show (18 : Nat) ≠ 24 by omega), cp_o (show (18 : Nat) ≠ 23 by omega), cp_o (show (18 : Nat) ≠ 22 by omega), cp_o (show (18 : Nat) ≠ 21 by omega), cp_o (show (18 : Nat) ≠ 20 by omega), cp_o (show (18 : Nat) ≠ 19 by omega), cp_i hk, cp_o (show (40 : Nat) ≠ 17 by omega), up_row _ _ _ (show (40 : Nat) ≠ 16 by omega), up_row _ _ _ (show (40 : Nat) ≠ 16 by omega), j1o 40 (by omega), jo 40 (by omega)]
  have x19 : ∀ k, k < 20 → J2 19 k = I 41 k := fun k hk => by rw [hJ2, cp_o (show (19 : Nat) ≠ 24 by omega), cp_o (show (19 : Nat) ≠ 23 by omega), cp_o (show (19 : Nat) ≠ 22 by omega), cp_o (show (19 : Nat) ≠ 21 by omega), cp_o (show (19 : Nat) ≠ 20 by omega), cp_i hk, cp_o (show (41 : Nat) ≠ 18 by omega), cp_o (show (41 : Nat) ≠ 17 by omega), up_row _ _ _ (show (41 : Nat) ≠ 16 by omega), up_row _ _ _ (show (41 : Nat) ≠ 16 by omega), j1o 41 (by omega), jo 41 (by omega)]
  have x20 : ∀ k, k < 20 → J2 20 k = I 42 k := fun k hk => by rw [hJ2, cp_o (show (20 : Nat) ≠ 24 by omega), cp_o (show (20 : Nat) ≠ 23 by omega), cp_o (show (20 : Nat) ≠ 22 by omega), cp_o (show (20 : Nat) ≠ 21 by omega), cp_i hk, cp_o (show (42 : Nat) ≠ 19 by omega), cp_o (show (42 : Nat) ≠ 18 by omega), cp_o (show (42 : Nat) ≠ 17 by omega), up_row _ _ _ (show (42 : Nat) ≠ 16 by omega), up_row _ _ _ (show (42 : Nat) ≠ 16 by omega), j1o 42 (by omega), jo 42 (by omega)]
  have x21 : ∀ k, k < 20 → J2 21 k = I 43 k := fun k hk => by rw [hJ2, cp_o (show (21 : Nat) ≠ 24 by omega), cp_o (show (21 : Nat) ≠ 23 by omega), cp_o (show (21 : Nat) ≠ 22 by omega), cp_i hk, cp_o (show (43 : Nat) ≠ 20 by omega), cp_o (show (43 : Nat) ≠ 19 by omega), cp_o (show (43 : Nat) ≠ 18 by omega), cp_o (show (43 : Nat) ≠ 17 by omega), up_row _ _ _ (show (43 : Nat) ≠ 16 by omega), up_row _ _ _ (show (43 : Nat) ≠ 16 by omega), j1o 43 (by omega), jo 43 (by omega)]
  have x22 : ∀ k, k < 20 → J2 22 k = I 44 k := fun k hk => by rw [hJ2, cp_o (show (22 : Nat) ≠ 24 by omega), cp_o (show (22 : Nat) ≠ 23 by omega), cp_i hk, cp_o (show (44 : Nat) ≠ 21 by omega), cp_o (show (44 : Nat) ≠ 20 by omega), cp_o (show (44 : Nat) ≠ 19 by omega), cp_o (show (44 : Nat) ≠ 18 by omega), cp_o (show (44 : Nat) ≠ 17 by omega), up_row _ _ _ (show (44 : Nat) ≠ 16 by omega), up_row _ _ _ (show (44 : Nat) ≠ 16 by omega), j1o 44 (by omega), jo 44 (by omega)]
  have x23 : ∀ k, k < 400 → J2 23 k = I 45 k := fun k hk => by rw [hJ2, cp_o (show (23 : Nat) ≠ 24 by omega), cp_i hk, cp_o (show (45 : Nat) ≠ 22 by omega), cp_o (show (45 : Nat) ≠ 21 by omega), cp_o (show (45 : Nat) ≠ 20 by omega), cp_o (show (45 : Nat) ≠ 19 by omega), cp_o (show (45 : Nat) ≠ 18 by omega), cp_o (show (45 : Nat) ≠ 17 by omega), up_row _ _ _ (show (45 : Nat) ≠ 16 by omega), up_row _ _ _ (show (45 : Nat) ≠ 16 by omega), j1o 45 (by omega), jo 45 (by omega)]
  have x24 : ∀ k, k < 400 → J2 24 k = I 46 k := fun k hk => by rw [hJ2, cp_i hk, cp_o (show (46 : Nat) ≠ 23 by omega), cp_o (show (46 : Nat) ≠ 22 by omega), cp_o (show (46 : Nat) ≠ 21 by omega), cp_o (show (46 : Nat) ≠ 20 by omega), cp_o (show (46 : Nat) ≠ 19 by omega), cp_o (show (46 : Nat) ≠ 18 by omega), cp_o (show (46 : Nat) ≠ 17 by omega), up_row _ _ _ (show (46 : Nat) ≠ 16 by omega), up_row _ _ _ (show (46 : Nat) ≠ 16 by omega), j1o 46 (by omega), jo 46 (by omega)]
  have x16 : J2 16 8 = I 38 8 := by rw [hJ2, cp_o (show (16 : Nat) ≠ 24 by omega), cp_o (show (16 : Nat) ≠ 23 by omega), cp_o (show (16 : Nat) ≠ 22 by omega), cp_o (show (16 : Nat) ≠ 21 by omega), cp_o (show (16 : Nat) ≠ 20 by omega), cp_o (show (16 : Nat) ≠ 19 by omega), cp_o (show (16 : Nat) ≠ 18 by omega), cp_o (show (16 : Nat) ≠ 17 by omega), up_in, if_neg (by omega), am_up_self, j1o 38 (by omega), jo 38 (by omega)]
  have x7 : J2 7 9 = I 29 9 ∧ J2 7 10 = I 29 10 ∧ J2 7 11 = I 29 11 ∧ J2 7 12 = I 29 12 ∧ J2 7 13 = I 29 13 := by
    rw [j2o 7 (by omega), j1o 7 (by omega), hJ]
    refine ⟨?_, ?_, ?_, ?_, ?_⟩ <;> simp only [up_in] <;> rfl
  have dk : ∀ (c : List (Nat × Nat)) (k : Nat), k + c.length ≤ 400 → d_code I k c → c_code J2 k c := by
    intro c
    induction c with
    | nil => intro k _ _; trivial
    | cons q r ih =>
      intro k hk hd
      obtain ⟨op, x⟩ := q
      simp only [List.length_cons] at hk
      exact ⟨by rw [x23 k (by omega)]; exact hd.1, by rw [x24 k (by omega)]; exact hd.2.1, ih (k + 1) (by omega) hd.2.2⟩
  refine ⟨J2, eR, ⟨⟨by rw [x7.1]; exact a1, by rw [x7.2.1]; exact a2, by rw [x7.2.2.1]; exact a3, by rw [x7.2.2.2.1]; exact a4, by rw [x7.2.2.2.2]; exact a5⟩, fun k hk => ?_, fun k hk => ?_, fun k hk => ?_⟩, ⟨by rw [x16]; exact o1, fun k hk => ?_⟩, fun b hb => by rw [j2o b (by omega), j1o b (by omega), jo b (by omega)]⟩
  · rw [pad_0] at hk
    rw [x8 k (by omega), x9 k (by omega), x10 k (by omega), x11 k (by omega), pad_1, pad_2, pad_3, pad_7, if_pos hk, if_pos hk, if_pos hk, if_pos hk]
    exact b1 k hk
  · rw [pad_0] at hk
    rw [x12 k (by omega), x13 k (by omega), x14 k (by omega), pad_4, pad_5, pad_8, if_pos hk, if_pos hk, if_pos hk]
    exact b2 k hk
  · rw [pad_0] at hk
    rw [x15 k (by omega), pad_6, if_pos hk]
    exact b3 k hk
  · rw [pad_0] at hk
    obtain ⟨e1, e2, a, e3, e4, e5, e6⟩ := o5 k hk
    rw [x17 k (by omega), x18 k (by omega), x19 k (by omega), x20 k (by omega), x21 k (by omega), x22 k (by omega)]
    exact ⟨e1, e2, a, ⟨e3.1, e3.2.1, e3.2.2.1, by omega⟩, dk _ _ (by omega) e4, dk _ _ (by omega) e5, e6⟩
end RTP
