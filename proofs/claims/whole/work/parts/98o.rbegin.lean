/-! the reference's state begins -/
section RBG
variable {G : am_G}
theorem r_bg1 : ∀ (m k n : Nat) (I : am_I), k + m = 4 → m < n → ∃ I' : am_I, L_X13_begin_102 n 1 I G (Int32.ofNat k) = some ((), I', G) ∧ (∀ b, b ≠ 103 → b ≠ 106 → I' b = I b) ∧ (∀ j, I' 103 j = if k ≤ j ∧ j < 4 then I 90 j else I 103 j) ∧ ∀ j, I' 106 j = if k ≤ j ∧ j < 4 then 0 else I 106 j := by
  intro m
  induction m with
  | zero =>
    intro k n I hk hn
    obtain ⟨n, rfl⟩ : ∃ n', n = n' + 1 := ⟨n - 1, by omega⟩
    rw [L_X13_begin_102_1, if_pos (show (4 : Int32) ≤ Int32.ofNat k from (n_le (a := 4) (by omega) (by omega)).mpr (by omega))]
    exact ⟨I, rfl, fun b _ _ => rfl, fun j => by rw [if_neg (by omega)], fun j => by rw [if_neg (by omega)]⟩
  | succ m ih =>
    intro k n I hk hn
    obtain ⟨n, rfl⟩ : ∃ n', n = n' + 1 := ⟨n - 1, by omega⟩
    have hin : vp_in (Int32.ofNat k) 4 := (n_in (by omega)).mpr (by omega)
    rw [L_X13_begin_102_1, if_neg (show ¬ (4 : Int32) ≤ Int32.ofNat k from fun z => absurd ((n_le (a := 4) (by omega) (by omega)).mp z) (by omega)), rg_pos hin, rg_pos hin, rg_pos ⟨hin, Or.inl rfl⟩, n_cl (by omega), n_inc]
    obtain ⟨I', e1, e2, e3, e4⟩ := ih (k + 1) n (am_up (am_up I 103 k (I 90 k)) 106 k (0 : Int32)) (by omega) (by omega)
    refine ⟨I', e1, fun b h1 h2 => by rw [e2 b h1 h2, up_row _ _ _ h2, up_row _ _ _ h1], fun j => ?_, fun j => ?_⟩
    · rw [e3, up_row _ _ _ (show (90 : Nat) ≠ 106 by omega), up_row _ _ _ (show (90 : Nat) ≠ 103 by omega), up_row _ _ _ (show (103 : Nat) ≠ 106 by omega), up_in]
      by_cases h1 : k + 1 ≤ j ∧ j < 4
      · rw [if_pos h1, if_pos (by omega)]
      · rw [if_neg h1]
        by_cases h2 : j = k
        · rw [if_pos h2, if_pos (by omega), h2]
        · rw [if_neg h2, if_neg (by omega)]
    · rw [e4, up_in, up_row _ _ _ (show (106 : Nat) ≠ 103 by omega)]
      by_cases h1 : k + 1 ≤ j ∧ j < 4
      · rw [if_pos h1, if_pos (by omega)]
      · rw [if_neg h1]
        by_cases h2 : j = k
        · rw [if_pos h2, if_pos (by omega)]
        · rw [if_neg h2, if_neg (by omega)]
theorem r_bg0 : ∀ (m k n : Nat) (I : am_I), k + m = 4 → m + 6 < n → ∃ I' : am_I, L_X13_begin_102 n 0 I G (Int32.ofNat k) = some ((), I', G) ∧ (∀ b, b ≠ 103 → b ≠ 104 → b ≠ 106 → I' b = I b) ∧ (∀ j, I' 104 j = if k ≤ j ∧ j < 4 then I 93 j else I 104 j) ∧ (∀ j, I' 103 j = if j < 4 then I 90 j else I 103 j) ∧ ∀ j, I' 106 j = if j < 4 then 0 else I 106 j := by
  intro m
  induction m with
  | zero =>
    intro k n I hk hn
    obtain ⟨n, rfl⟩ : ∃ n', n = n' + 1 := ⟨n - 1, by omega⟩
    rw [L_X13_begin_102_0, if_pos (show (4 : Int32) ≤ Int32.ofNat k from (n_le (a := 4) (by omega) (by omega)).mpr (by omega))]
    obtain ⟨I', e1, e2, e3, e4⟩ := r_bg1 (G := G) 4 0 n I rfl (by omega)
    refine ⟨I', e1, fun b h1 _ h3 => e2 b h1 h3, fun j => by rw [e2 104 (by omega) (by omega), if_neg (by omega)], fun j => ?_, fun j => ?_⟩
    · rw [e3]
      by_cases h : j < 4
      · rw [if_pos ⟨by omega, h⟩, if_pos h]
      · rw [if_neg (fun z => h z.2), if_neg h]
    · rw [e4]
      by_cases h : j < 4
      · rw [if_pos ⟨by omega, h⟩, if_pos h]
      · rw [if_neg (fun z => h z.2), if_neg h]
  | succ m ih =>
    intro k n I hk hn
    obtain ⟨n, rfl⟩ : ∃ n', n = n' + 1 := ⟨n - 1, by omega⟩
    have hin : vp_in (Int32.ofNat k) 4 := (n_in (by omega)).mpr (by omega)
    rw [L_X13_begin_102_0, if_neg (show ¬ (4 : Int32) ≤ Int32.ofNat k from fun z => absurd ((n_le (a := 4) (by omega) (by omega)).mp z) (by omega)), rg_pos hin, rg_pos hin, n_cl (by omega), n_inc]
    obtain ⟨I', e1, e2, e3, e4, e5⟩ := ih (k + 1) n (am_up I 104 k (I 93 k)) (by omega) (by omega)
    refine ⟨I', e1, fun b h1 h2 h3 => by rw [e2 b h1 h2 h3, up_row _ _ _ h2], fun j => ?_, fun j => ?_, fun j => ?_⟩
    · rw [e3, up_row _ _ _ (show (93 : Nat) ≠ 104 by omega), up_in]
      by_cases h1 : k + 1 ≤ j ∧ j < 4
      · rw [if_pos h1, if_pos (by omega)]
      · rw [if_neg h1]
        by_cases h2 : j = k
        · rw [if_pos h2, if_pos (by omega), h2]
        · rw [if_neg h2, if_neg (by omega)]
    · rw [e4, up_row _ _ _ (show (90 : Nat) ≠ 104 by omega), up_row _ _ _ (show (103 : Nat) ≠ 104 by omega)]
    · rw [e5, up_row _ _ _ (show (106 : Nat) ≠ 104 by omega)]
/-- R_X13_begin_102 -/
theorem r_bg (I : am_I) : ∃ I' : am_I, R_X13_begin_102 I G = some ((), I', G) ∧ (∀ b, b ≠ 102 → b ≠ 103 → b ≠ 104 → b ≠ 106 → I' b = I b) ∧ (I' 102 0 = 0 ∧ I' 102 1 = 0 ∧ I' 102 2 = 0 ∧ I' 102 3 = 0 ∧ I' 102 10 = 0) ∧ (∀ j, I' 104 j = if j < 4 then I 93 j else I 104 j) ∧ (∀ j, I' 103 j = if j < 4 then I 90 j else I 103 j) ∧ ∀ j, I' 106 j = if j < 4 then 0 else I 106 j := by
  obtain ⟨J, hJ⟩ : ∃ J : am_I, J = am_up (am_up (am_up (am_up (am_up I 102 0 (0 : Int32)) 102 1 (0 : Int32)) 102 2 (0 : Int32)) 102 3 (0 : Int32)) 102 10 (0 : Int32) := ⟨_, rfl⟩
  have jo : ∀ b, b ≠ 102 → J b = I b := fun b hb => by rw [hJ, up_row _ _ _ hb, up_row _ _ _ hb, up_row _ _ _ hb, up_row _ _ _ hb, up_row _ _ _ hb]
  obtain ⟨I', e1, e2, e3, e4, e5⟩ := r_bg0 (G := G) 4 0 FU J rfl (by unfold FU; omega)
  refine ⟨I', ?_, fun b h1 h2 h3 h4 => by rw [e2 b h2 h3 h4, jo b h1], ?_, fun j => ?_, fun j => ?_, fun j => ?_⟩
  · unfold R_X13_begin_102
    rw [rg_pos (Or.inl rfl), ← hJ]
    exact e1
  · rw [e2 102 (by omega) (by omega) (by omega), hJ]
    refine ⟨?_, ?_, ?_, ?_, ?_⟩ <;> simp only [up_in] <;> rfl
  · rw [e3, jo 93 (by omega), jo 104 (by omega)]
    by_cases h : j < 4
    · rw [if_pos ⟨by omega, h⟩, if_pos h]
    · rw [if_neg (fun z => h z.2), if_neg h]
  · rw [e4, jo 90 (by omega), jo 103 (by omega)]
  · rw [e5, jo 106 (by omega)]
end RBG
