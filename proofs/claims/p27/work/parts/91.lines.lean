/-! the class's lines of octaves, combs, inks, paper -/
section CLN
variable {K V C : Nat → Nat} {T : Nat} {G : am_G}
theorem x_comb {X : sX} (hx : X.2.1 = none → xok X) {a w b c : Nat} (hw : K w = 3 ∨ K w = 4) (he : (its K V C [(8, a), (9, w), (10, b), (11, c)] X).2.1 = none) : X.2.1 = none ∧ (X.1.2 9).length < 4 ∧ xok (its K V C [(8, a), (9, w), (10, b), (11, c)] X) ∧ (its K V C [(8, a), (9, w), (10, b), (11, c)] X).1.1 = am_up (am_up (am_up (am_up X.1.1 0 3 (X.1.1 0 3 + 1)) 4 (X.1.1 0 3) (K w - 3)) 5 (X.1.1 0 3) (V b)) 8 (X.1.1 0 3) (V c) := by
  have e0 : its K V C [(8, a), (9, w), (10, b), (11, c)] X = it K V C (it K V C (it K V C (it K V C X (8, a)) (9, w)) (10, b)) (11, c) := rfl
  rw [e0, it_11] at he
  obtain ⟨h7, v7⟩ := rgE_n he
  rw [it_10] at h7
  obtain ⟨h6, v6⟩ := rgE_n h7
  rw [it_9, it_8] at h6
  obtain ⟨h3, v3⟩ := eo_n h6
  obtain ⟨_, hl⟩ := nwE_0 v3
  obtain ⟨⟨k1, k2, k2b, k2c, k3⟩, x1, x2, x3, x4⟩ := hx h3
  have ep : (its K V C [(8, a), (9, w), (10, b), (11, c)] X).1.1 = am_up (am_up (am_up (am_up X.1.1 0 3 (X.1.1 0 3 + 1)) 4 (X.1.1 0 3) (K w - 3)) 5 (X.1.1 0 3) (V b)) 8 (X.1.1 0 3) (V c) := by
    rw [e0, it_11, it_10, it_9, it_8]
    dsimp only
    simp only [up_row _ _ _ (show (0 : Nat) ≠ 4 by omega), up_row _ _ _ (show (0 : Nat) ≠ 5 by omega), am_up_self, Nat.add_sub_cancel]
  have eL : (its K V C [(8, a), (9, w), (10, b), (11, c)] X).1.2 = Lup X.1.2 9 4 a := rfl
  refine ⟨h3, hl, ?_, ep⟩
  unfold xok
  rw [ep, eL]
  have z0 : ∀ j, (am_up (am_up (am_up (am_up X.1.1 0 3 (X.1.1 0 3 + 1)) 4 (X.1.1 0 3) (K w - 3)) 5 (X.1.1 0 3) (V b)) 8 (X.1.1 0 3) (V c)) 0 j = if j = 3 then X.1.1 0 3 + 1 else X.1.1 0 j := fun j => by
    rw [up_row _ _ _ (by omega), up_row _ _ _ (by omega), up_row _ _ _ (by omega), up_in]
  refine ⟨⟨?_, fun k hkk => ?_, fun k hkk => ?_, fun k hkk => ?_, fun i j hij hj => ?_⟩, ?_, ?_, ?_, ?_⟩
  · simp only [z0]
    simp
    omega
  · rw [z0, if_neg (by omega)] at hkk
    have o : ∀ r, r ≠ 0 → r ≠ 4 → r ≠ 5 → r ≠ 8 → (am_up (am_up (am_up (am_up X.1.1 0 3 (X.1.1 0 3 + 1)) 4 (X.1.1 0 3) (K w - 3)) 5 (X.1.1 0 3) (V b)) 8 (X.1.1 0 3) (V c)) r = X.1.1 r := fun r y0 y4 y5 y8 => by
      rw [up_row _ _ _ y8, up_row _ _ _ y5, up_row _ _ _ y4, up_row _ _ _ y0]
    rw [o 1 (by omega) (by omega) (by omega) (by omega), o 2 (by omega) (by omega) (by omega) (by omega), o 3 (by omega) (by omega) (by omega) (by omega), o 7 (by omega) (by omega) (by omega) (by omega)]
    exact k2 k hkk
  · rw [z0, if_pos rfl] at hkk
    have z4 : (am_up (am_up (am_up (am_up X.1.1 0 3 (X.1.1 0 3 + 1)) 4 (X.1.1 0 3) (K w - 3)) 5 (X.1.1 0 3) (V b)) 8 (X.1.1 0 3) (V c)) 4 k = if k = X.1.1 0 3 then K w - 3 else X.1.1 4 k := by
      rw [up_row _ _ _ (by omega), up_row _ _ _ (by omega), up_in, up_row _ _ _ (by omega)]
    have z5 : (am_up (am_up (am_up (am_up X.1.1 0 3 (X.1.1 0 3 + 1)) 4 (X.1.1 0 3) (K w - 3)) 5 (X.1.1 0 3) (V b)) 8 (X.1.1 0 3) (V c)) 5 k = if k = X.1.1 0 3 then V b else X.1.1 5 k := by
      rw [up_row _ _ _ (by omega), up_in, up_row _ _ _ (by omega), up_row _ _ _ (by omega)]
    have z8 : (am_up (am_up (am_up (am_up X.1.1 0 3 (X.1.1 0 3 + 1)) 4 (X.1.1 0 3) (K w - 3)) 5 (X.1.1 0 3) (V b)) 8 (X.1.1 0 3) (V c)) 8 k = if k = X.1.1 0 3 then V c else X.1.1 8 k := by
      rw [up_in, up_row _ _ _ (by omega), up_row _ _ _ (by omega), up_row _ _ _ (by omega)]
    have o : ∀ r, r ≠ 0 → r ≠ 4 → r ≠ 5 → r ≠ 8 → (am_up (am_up (am_up (am_up X.1.1 0 3 (X.1.1 0 3 + 1)) 4 (X.1.1 0 3) (K w - 3)) 5 (X.1.1 0 3) (V b)) 8 (X.1.1 0 3) (V c)) r = X.1.1 r := fun r y0 y4 y5 y8 => by
      rw [up_row _ _ _ y8, up_row _ _ _ y5, up_row _ _ _ y4, up_row _ _ _ y0]
    rw [z4, z5, z8]
    by_cases hkn : k = X.1.1 0 3
    · rw [if_pos hkn, if_pos hkn, if_pos hkn]; omega
    · have hk := k2b k (by omega)
      rw [if_neg hkn, if_neg hkn, if_neg hkn]; omega
  · rw [z0, if_neg (by omega)] at hkk
    rw [up_row _ _ _ (by omega), up_row _ _ _ (by omega), up_row _ _ _ (by omega), up_row _ _ _ (by omega)]
    exact k2c k hkk
  · rw [z0, if_neg (by omega)] at hj
    rw [up_row _ _ _ (by omega), up_row _ _ _ (by omega), up_row _ _ _ (by omega), up_row _ _ _ (by omega)]
    exact k3 i j hij hj
  · rw [z0, if_neg (by omega), Lup_o (by omega)]; exact x1
  · rw [z0, if_pos rfl, Lup_s hl, x2]
  · rw [z0, if_neg (by omega), Lup_o (by omega)]; exact x3
  · rw [z0, if_neg (by omega)]; exact x4
theorem lwl_s {q p : sP} {n : Nat} (h1 : q 0 4 = n + 1) (h2 : q 6 = p 6) : lwl q = if n = 0 then 0 else p 6 (n - 1) + 1 := by
  unfold lwl
  rw [h1, h2]
  by_cases h : n = 0
  · rw [if_pos (by omega), if_pos h]
  · rw [if_neg (by omega), if_neg h, show n + 1 - 2 = n - 1 by omega]
theorem x_ink {X : sX} (hx : X.2.1 = none → xok X) {a b : Nat} (he : (its K V C [(12, a), (13, b)] X).2.1 = none) : X.2.1 = none ∧ (X.1.2 16).length < 5 ∧ xok (its K V C [(12, a), (13, b)] X) ∧ (its K V C [(12, a), (13, b)] X).1.1 = am_up (am_up X.1.1 0 4 (X.1.1 0 4 + 1)) 6 (X.1.1 0 4) (V b) := by
  have e0 : its K V C [(12, a), (13, b)] X = it K V C (it K V C X (12, a)) (13, b) := rfl
  rw [e0, it_13] at he
  obtain ⟨h7, v7⟩ := rgE_n he
  rw [it_12] at h7 v7
  obtain ⟨h3, v3⟩ := eo_n h7
  obtain ⟨_, hl⟩ := nwE_0 v3
  obtain ⟨⟨k1, k2, k2b, k2c, k3⟩, x1, x2, x3, x4⟩ := hx h3
  have ep : (its K V C [(12, a), (13, b)] X).1.1 = am_up (am_up X.1.1 0 4 (X.1.1 0 4 + 1)) 6 (X.1.1 0 4) (V b) := by
    rw [e0, it_13, it_12]
    dsimp only
    simp only [am_up_self, Nat.add_sub_cancel]
  have eL : (its K V C [(12, a), (13, b)] X).1.2 = Lup X.1.2 16 5 a := rfl
  refine ⟨h3, hl, ?_, ep⟩
  unfold xok
  rw [ep, eL]
  have z0 : ∀ j, (am_up (am_up X.1.1 0 4 (X.1.1 0 4 + 1)) 6 (X.1.1 0 4) (V b)) 0 j = if j = 4 then X.1.1 0 4 + 1 else X.1.1 0 j := fun j => by
    rw [up_row _ _ _ (by omega), up_in]
  have z6 : ∀ k, (am_up (am_up X.1.1 0 4 (X.1.1 0 4 + 1)) 6 (X.1.1 0 4) (V b)) 6 k = if k = X.1.1 0 4 then V b else X.1.1 6 k := fun k => by
    rw [up_in, up_row _ _ _ (by omega)]
  have o : ∀ r, r ≠ 0 → r ≠ 6 → (am_up (am_up X.1.1 0 4 (X.1.1 0 4 + 1)) 6 (X.1.1 0 4) (V b)) r = X.1.1 r := fun r y0 y6 => by
    rw [up_row _ _ _ y6, up_row _ _ _ y0]
  have hlw : X.1.1 0 4 = 0 ∨ X.1.1 6 (X.1.1 0 4 - 1) < V b := by
    by_cases h0 : X.1.1 0 4 = 0
    · exact Or.inl h0
    · right
      have h1 := v7.1
      rw [lwl_s (n := X.1.1 0 4) (p := X.1.1) (am_up_self _ _ _ _) (up_row _ _ _ (by omega)), if_neg h0] at h1
      omega
  refine ⟨⟨?_, fun k hkk => ?_, fun k hkk => ?_, fun k hkk => ?_, fun i j hij hj => ?_⟩, ?_, ?_, ?_, ?_⟩
  · simp only [z0]
    simp
    omega
  · rw [z0, if_neg (by omega)] at hkk
    rw [o 1 (by omega) (by omega), o 2 (by omega) (by omega), o 3 (by omega) (by omega), o 7 (by omega) (by omega)]
    exact k2 k hkk
  · rw [z0, if_neg (by omega)] at hkk
    rw [o 4 (by omega) (by omega), o 5 (by omega) (by omega), o 8 (by omega) (by omega)]
    exact k2b k hkk
  · rw [z0, if_pos rfl] at hkk
    rw [z6]
    by_cases hkn : k = X.1.1 0 4
    · rw [if_pos hkn]; omega
    · have hk := k2c k (by omega)
      rw [if_neg hkn]; omega
  · rw [z0, if_pos rfl] at hj
    rw [z6, z6, if_neg (by omega)]
    by_cases hjn : j = X.1.1 0 4
    · rw [if_pos hjn]
      by_cases hi : i = X.1.1 0 4 - 1
      · rw [hi]; omega
      · have := k3 i (X.1.1 0 4 - 1) (by omega) (by omega)
        omega
    · rw [if_neg hjn]
      exact k3 i j hij (by omega)
  · rw [z0, if_neg (by omega), Lup_o (by omega)]; exact x1
  · rw [z0, if_neg (by omega), Lup_o (by omega)]; exact x2
  · rw [z0, if_pos rfl, Lup_s hl, x3]
  · rw [z0, if_neg (by omega)]; exact x4
theorem x_paper {X : sX} (hx : X.2.1 = none → xok X) {a b : Nat} (he : (its K V C [(1, a), (2, b)] X).2.1 = none) : X.2.1 = none ∧ xok (its K V C [(1, a), (2, b)] X) ∧ (its K V C [(1, a), (2, b)] X).1.1 = am_up (am_up X.1.1 0 0 (V a)) 0 1 (V b) := by
  have e0 : its K V C [(1, a), (2, b)] X = it K V C (it K V C X (1, a)) (2, b) := rfl
  rw [e0, it_2] at he
  obtain ⟨h7, v7⟩ := rgE_n he
  rw [it_1] at h7
  obtain ⟨h3, v3⟩ := rgE_n h7
  obtain ⟨⟨k1, k2, k2b, k2c, k3⟩, x1, x2, x3, x4⟩ := hx h3
  have ep : (its K V C [(1, a), (2, b)] X).1.1 = am_up (am_up X.1.1 0 0 (V a)) 0 1 (V b) := rfl
  have eL : (its K V C [(1, a), (2, b)] X).1.2 = X.1.2 := rfl
  refine ⟨h3, ?_, ep⟩
  unfold xok
  rw [ep, eL]
  have z0 : ∀ j, (am_up (am_up X.1.1 0 0 (V a)) 0 1 (V b)) 0 j = if j = 1 then V b else if j = 0 then V a else X.1.1 0 j := fun j => by
    rw [up_in, up_in]
  have o : ∀ r, r ≠ 0 → (am_up (am_up X.1.1 0 0 (V a)) 0 1 (V b)) r = X.1.1 r := fun r y0 => by
    rw [up_row _ _ _ y0, up_row _ _ _ y0]
  refine ⟨⟨?_, fun k hkk => ?_, fun k hkk => ?_, fun k hkk => ?_, fun i j hij hj => ?_⟩, ?_, ?_, ?_, ?_⟩
  · simp only [z0]
    simp
    omega
  · rw [z0, if_neg (by omega), if_neg (by omega)] at hkk
    rw [o 1 (by omega), o 2 (by omega), o 3 (by omega), o 7 (by omega)]
    exact k2 k hkk
  · rw [z0, if_neg (by omega), if_neg (by omega)] at hkk
    rw [o 4 (by omega), o 5 (by omega), o 8 (by omega)]
    exact k2b k hkk
  · rw [z0, if_neg (by omega), if_neg (by omega)] at hkk
    rw [o 6 (by omega)]
    exact k2c k hkk
  · rw [z0, if_neg (by omega), if_neg (by omega)] at hj
    rw [o 6 (by omega)]
    exact k3 i j hij hj
  · rw [z0, if_neg (by omega), if_neg (by omega)]; exact x1
  · rw [z0, if_neg (by omega), if_neg (by omega)]; exact x2
  · rw [z0, if_neg (by omega), if_neg (by omega)]; exact x3
  · rw [z0, if_neg (by omega), if_neg (by omega)]; exact x4
theorem hR_nw47 {X : sX} {J : am_I} {p : Nat} (hX : cX K V T J G) (hC : cC K C T G) (hN : cNm C X.1.2 J G) (h : cH K T J p X.2.1) : ∃ (J1 : am_I) (G1 : am_G), R_X6_readNewName_28_47 J G = some ((), J1, G1) ∧ hR K V C T X J1 (stp K (.inl (p, [])) (39, 3)) ∧ hF J J1 G G1 ∧ (∀ b, b ≠ 28 → b ≠ 47 → J1 b = J b) ∧ cNm C (if K p = 39 then Lup X.1.2 6 4 p else X.1.2) J1 G1 := by
  by_cases hk : K p = 39
  · obtain ⟨J1, G1, e1, q1, k1, fr1, g1, _, _⟩ := h_nw47Y hX hC hN.1 h hk
    rw [if_pos hk, stp_y (mk_y hk (by omega))]
    exact ⟨J1, G1, e1, q1, ⟨fun b hb => fr1 b (by omega) (by omega), fun b z1 z2 z3 => g1 b (by omega)⟩, fr1, (by rw [Lup_e]; exact k1), (by rw [Lup_o (by omega)]; exact hN.2.1.kept (fr1 49 (by omega) (by omega)) (g1 50 (by omega))), (by rw [Lup_o (by omega)]; exact hN.2.2.kept (fr1 51 (by omega) (by omega)) (g1 52 (by omega)))⟩
  · rw [if_neg hk, stp_n (mk_n hk (by omega))]
    obtain ⟨a1, a2⟩ := h_ref (G := G) h
    exact ⟨_, _, h_nw47N hX h hk, a1, a2.F G, fun b z1 _ => a2.1 b z1, hN.kept (a2.1 47 (by omega)) (a2.1 49 (by omega)) (a2.1 51 (by omega))⟩
theorem hR_nw49 {X : sX} {J : am_I} {p : Nat} (hX : cX K V T J G) (hC : cC K C T G) (hN : cNm C X.1.2 J G) (h : cH K T J p X.2.1) : ∃ (J1 : am_I) (G1 : am_G), R_X6_readNewName_28_49 J G = some ((), J1, G1) ∧ hR K V C T X J1 (stp K (.inl (p, [])) (39, 8)) ∧ hF J J1 G G1 ∧ (∀ b, b ≠ 28 → b ≠ 49 → J1 b = J b) ∧ cNm C (if K p = 39 then Lup X.1.2 9 4 p else X.1.2) J1 G1 := by
  by_cases hk : K p = 39
  · obtain ⟨J1, G1, e1, q1, k1, fr1, g1, _, _⟩ := h_nw49Y hX hC hN.2.1 h hk
    rw [if_pos hk, stp_y (mk_y hk (by omega))]
    exact ⟨J1, G1, e1, q1, ⟨fun b hb => fr1 b (by omega) (by omega), fun b z1 z2 z3 => g1 b (by omega)⟩, fr1, (by rw [Lup_o (by omega)]; exact hN.1.kept (fr1 47 (by omega) (by omega)) (g1 48 (by omega))), (by rw [Lup_e]; exact k1), (by rw [Lup_o (by omega)]; exact hN.2.2.kept (fr1 51 (by omega) (by omega)) (g1 52 (by omega)))⟩
  · rw [if_neg hk, stp_n (mk_n hk (by omega))]
    obtain ⟨a1, a2⟩ := h_ref (G := G) h
    exact ⟨_, _, h_nw49N hX h hk, a1, a2.F G, fun b z1 _ => a2.1 b z1, hN.kept (a2.1 47 (by omega)) (a2.1 49 (by omega)) (a2.1 51 (by omega))⟩
theorem hR_nw51 {X : sX} {J : am_I} {p : Nat} (hX : cX K V T J G) (hC : cC K C T G) (hN : cNm C X.1.2 J G) (h : cH K T J p X.2.1) : ∃ (J1 : am_I) (G1 : am_G), R_X6_readNewName_28_51 J G = some ((), J1, G1) ∧ hR K V C T X J1 (stp K (.inl (p, [])) (39, 12)) ∧ hF J J1 G G1 ∧ (∀ b, b ≠ 28 → b ≠ 51 → J1 b = J b) ∧ cNm C (if K p = 39 then Lup X.1.2 16 5 p else X.1.2) J1 G1 := by
  by_cases hk : K p = 39
  · obtain ⟨J1, G1, e1, q1, k1, fr1, g1, _, _⟩ := h_nw51Y hX hC hN.2.2 h hk
    rw [if_pos hk, stp_y (mk_y hk (by omega))]
    exact ⟨J1, G1, e1, q1, ⟨fun b hb => fr1 b (by omega) (by omega), fun b z1 z2 z3 => g1 b (by omega)⟩, fr1, (by rw [Lup_o (by omega)]; exact hN.1.kept (fr1 47 (by omega) (by omega)) (g1 48 (by omega))), (by rw [Lup_o (by omega)]; exact hN.2.1.kept (fr1 49 (by omega) (by omega)) (g1 50 (by omega))), (by rw [Lup_e]; exact k1)⟩
  · rw [if_neg hk, stp_n (mk_n hk (by omega))]
    obtain ⟨a1, a2⟩ := h_ref (G := G) h
    exact ⟨_, _, h_nw51N hX h hk, a1, a2.F G, fun b z1 _ => a2.1 b z1, hN.kept (a2.1 47 (by omega)) (a2.1 49 (by omega)) (a2.1 51 (by omega))⟩
def cSr (K V C : Nat → Nat) (T : Nat) (I : am_I) (G : am_G) (X : sX) (od : sO) (s : sR) : Prop := match s with
  | .inl (p, l) => cS K C T I G p (its K V C l X) od
  | .inr q => cD I q
theorem a_oct_f (J : am_I) (x1 x2 x3 x4 : Int32) : (∀ b, b ≠ 29 → b ≠ 30 → b ≠ 31 → b ≠ 32 → b ≠ 33 → g_X5_addOctave_29 J G x1 x2 x3 x4 b = J b) := by
  intro b h29 h30 h31 h32 h33
  unfold g_X5_addOctave_29
  rw [up_row _ _ _ h29, gPut_row h33, gPut_row h32, gPut_row h31, gPut_row h30]
theorem a_oct_v {J : am_I} {n : Nat} (h : J 29 11 = Int32.ofNat n) (hn : n < 4) (x1 x2 x3 x4 : Int32) : g_X5_addOctave_29 J G x1 x2 x3 x4 = am_up (am_up (am_up (am_up (am_up J 30 n x1) 31 n x2) 32 n x3) 33 n x4) 29 11 (Int32.ofNat (n + 1)) := by
  unfold g_X5_addOctave_29
  simp only [gPut_row (show (29 : Nat) ≠ 30 by omega), gPut_row (show (29 : Nat) ≠ 31 by omega), gPut_row (show (29 : Nat) ≠ 32 by omega), gPut_row (show (29 : Nat) ≠ 33 by omega)]
  rw [h, n_inc, if_neg (show ¬ (4 : Int32) < Int32.ofNat (n + 1) from fun z => absurd ((n_lt (a := 4) (by omega) (by omega)).mp z) (by omega)), n_gPut hn (by omega), n_gPut hn (by omega), n_gPut hn (by omega), n_gPut hn (by omega)]
theorem a_com_f (J : am_I) (x1 x2 x3 : Int32) : (∀ b, b ≠ 29 → b ≠ 34 → b ≠ 35 → b ≠ 36 → g_X5_addComb_29 J G x1 x2 x3 b = J b) := by
  intro b h29 h34 h35 h36
  unfold g_X5_addComb_29
  rw [up_row _ _ _ h29, gPut_row h36, gPut_row h35, gPut_row h34]
theorem a_com_v {J : am_I} {n : Nat} (h : J 29 12 = Int32.ofNat n) (hn : n < 4) (x1 x2 x3 : Int32) : g_X5_addComb_29 J G x1 x2 x3 = am_up (am_up (am_up (am_up J 34 n x1) 35 n x2) 36 n x3) 29 12 (Int32.ofNat (n + 1)) := by
  unfold g_X5_addComb_29
  simp only [gPut_row (show (29 : Nat) ≠ 34 by omega), gPut_row (show (29 : Nat) ≠ 35 by omega), gPut_row (show (29 : Nat) ≠ 36 by omega)]
  rw [h, n_inc, if_neg (show ¬ (4 : Int32) < Int32.ofNat (n + 1) from fun z => absurd ((n_lt (a := 4) (by omega) (by omega)).mp z) (by omega)), n_gPut hn (by omega), n_gPut hn (by omega), n_gPut hn (by omega)]
theorem a_ink_f (J : am_I) (x1 : Int32) : (∀ b, b ≠ 29 → b ≠ 37 → g_X5_addInk_29 J G x1 b = J b) := by
  intro b h29 h37
  unfold g_X5_addInk_29
  rw [up_row _ _ _ h29, gPut_row h37]
theorem a_ink_v {J : am_I} {n : Nat} (h : J 29 13 = Int32.ofNat n) (hn : n < 5) (x1 : Int32) : g_X5_addInk_29 J G x1 = am_up (am_up J 37 n x1) 29 13 (Int32.ofNat (n + 1)) := by
  unfold g_X5_addInk_29
  simp only [gPut_row (show (29 : Nat) ≠ 37 by omega)]
  rw [h, n_inc, if_neg (show ¬ (5 : Int32) < Int32.ofNat (n + 1) from fun z => absurd ((n_lt (a := 5) (by omega) (by omega)).mp z) (by omega)), n_gPut hn (by omega)]
theorem cl_oct {I : am_I} {p : Nat} {X : sX} {od : sO} (hV : ∀ a, V a ≤ 999999) (hX : cX K V T I G) (hC : cC K C T G) (hS : cS K C T I G p X od) (hk : K p = 2) : ∃ (I' : am_I) (G' : am_G), R_X6_readOctave_28 I G = some ((), I', G') ∧ hF I I' G G' ∧ cSr K V C T I' G' X od (pts K (.inl (p + 1, [])) [(39, 3), (3, 0), (40, 4), (4, 0), (40, 5), (5, 0), (40, 6), (6, 0), (40, 7)]) := by
  have hlt := hX.1.lt hS.1.1.2.2 (by omega)
  have hT := hX.1.1
  obtain ⟨q0, f0⟩ := h_adv hX hS.1 hlt
  have hX0 := hX.h f0
  obtain ⟨J1, G1, e1, q1, F1, fr1, N1⟩ := hR_nw47 hX0 hC (hS.2.1.kept (f0.1 47 (by omega)) (f0.1 49 (by omega)) (f0.1 51 (by omega))) q0
  have hX1 := hX0.F F1
  obtain ⟨s1, hs1⟩ : ∃ s, s = stp K (.inl (p + 1, [])) (39, 3) := ⟨_, rfl⟩
  rw [← hs1] at q1
  obtain ⟨q2, f2⟩ := hR_ex hX1 q1 (w := 3) (by omega)
  have hX2 := hX1.h f2
  obtain ⟨s2, hs2⟩ : ∃ s, s = stp K s1 (3, 0) := ⟨_, rfl⟩
  rw [← hs2] at q2
  obtain ⟨q3, f3⟩ := hR_nu hX2 q2 (r := 4) (by omega) (lo := (1 : Int32)) (hi := (8 : Int32)) (fun p l _ _ => (h_neN (lo := 1) (hi := 8) (hV p) (by omega) (by omega)).symm)
  have hX3 := hX2.h f3
  obtain ⟨s3, hs3⟩ : ∃ s, s = stp K s2 (40, 4) := ⟨_, rfl⟩
  rw [← hs3] at q3
  obtain ⟨q4, f4⟩ := hR_ex hX3 q3 (w := 4) (by omega)
  have hX4 := hX3.h f4
  obtain ⟨s4, hs4⟩ : ∃ s, s = stp K s3 (4, 0) := ⟨_, rfl⟩
  rw [← hs4] at q4
  obtain ⟨q5, f5⟩ := hR_nu hX4 q4 (r := 5) (by omega) (lo := (1 : Int32)) (hi := (8 : Int32)) (fun p l _ _ => (h_neN (lo := 1) (hi := 8) (hV p) (by omega) (by omega)).symm)
  have hX5 := hX4.h f5
  obtain ⟨s5, hs5⟩ : ∃ s, s = stp K s4 (40, 5) := ⟨_, rfl⟩
  rw [← hs5] at q5
  obtain ⟨q6, f6⟩ := hR_ex hX5 q5 (w := 5) (by omega)
  have hX6 := hX5.h f6
  obtain ⟨s6, hs6⟩ : ∃ s, s = stp K s5 (5, 0) := ⟨_, rfl⟩
  rw [← hs6] at q6
  obtain ⟨q7, f7⟩ := hR_nu hX6 q6 (r := 6) (by omega) (lo := (1 : Int32)) (hi := (9 : Int32)) (fun p l _ _ => (h_neN (lo := 1) (hi := 9) (hV p) (by omega) (by omega)).symm)
  have hX7 := hX6.h f7
  obtain ⟨s7, hs7⟩ : ∃ s, s = stp K s6 (40, 6) := ⟨_, rfl⟩
  rw [← hs7] at q7
  obtain ⟨q8, f8⟩ := hR_ex hX7 q7 (w := 6) (by omega)
  have hX8 := hX7.h f8
  obtain ⟨s8, hs8⟩ : ∃ s, s = stp K s7 (6, 0) := ⟨_, rfl⟩
  rw [← hs8] at q8
  obtain ⟨q9, f9⟩ := hR_nu hX8 q8 (r := 7) (by omega) (lo := (0 : Int32)) (hi := (999 : Int32)) (fun p l _ _ => (h_neN (lo := 0) (hi := 999) (hV p) (by omega) (by omega)).symm)
  have hX9 := hX8.h f9
  obtain ⟨s9, hs9⟩ : ∃ s, s = stp K s8 (40, 7) := ⟨_, rfl⟩
  rw [← hs9] at q9
  have fA := ((((((f2.tr f3).tr f4).tr f5).tr f6).tr f7).tr f8).tr f9
  have gA := a_oct_f (G := G1)
  unfold R_X6_readOctave_28
  rw [e1, rb_go]
  refine ⟨_, _, rfl, (f0.F G).tr (F1.tr ((fA.F G1).tr ⟨fun b hb => gA _ _ _ _ _ b (by omega) (by omega) (by omega) (by omega) (by omega), fun _ _ _ _ => rfl⟩)), ?_⟩
  show cSr K V C T _ _ X od (stp K (stp K (stp K (stp K (stp K (stp K (stp K (stp K (stp K (.inl (p + 1, [])) (39, 3)) (3, 0)) (40, 4)) (4, 0)) (40, 5)) (5, 0)) (40, 6)) (6, 0)) (40, 7))
  rw [← hs1, ← hs2, ← hs3, ← hs4, ← hs5, ← hs6, ← hs7, ← hs8, ← hs9]
  cases hc : s9 with
  | inr t =>
    rw [hc] at q9
    exact cD.kept (I := _) q9 (gA _ _ _ _ _ 28 (by omega) (by omega) (by omega) (by omega) (by omega)) (gA _ _ _ _ _ 5 (by omega) (by omega) (by omega) (by omega) (by omega))
  | inl z =>
    obtain ⟨p9, l9⟩ := z
    have c9 : stp K s8 (40, 7) = .inl (p9, l9) := by rw [← hs9]; exact hc
    obtain ⟨p8, l8, d8, k9, hp9, hl9⟩ := stp_l c9
    have c8 : stp K s7 (6, 0) = .inl (p8, l8) := by rw [← hs8]; exact d8
    obtain ⟨p7, l7, d7, k8, hp8, hl8⟩ := stp_l c8
    have c7 : stp K s6 (40, 6) = .inl (p7, l7) := by rw [← hs7]; exact d7
    obtain ⟨p6, l6, d6, k7, hp7, hl7⟩ := stp_l c7
    have c6 : stp K s5 (5, 0) = .inl (p6, l6) := by rw [← hs6]; exact d6
    obtain ⟨p5, l5, d5, k6, hp6, hl6⟩ := stp_l c6
    have c5 : stp K s4 (40, 5) = .inl (p5, l5) := by rw [← hs5]; exact d5
    obtain ⟨p4, l4, d4, k5, hp5, hl5⟩ := stp_l c5
    have c4 : stp K s3 (4, 0) = .inl (p4, l4) := by rw [← hs4]; exact d4
    obtain ⟨p3, l3, d3, k4, hp4, hl4⟩ := stp_l c4
    have c3 : stp K s2 (40, 4) = .inl (p3, l3) := by rw [← hs3]; exact d3
    obtain ⟨p2, l2, d2, k3, hp3, hl3⟩ := stp_l c3
    have c2 : stp K s1 (3, 0) = .inl (p2, l2) := by rw [← hs2]; exact d2
    obtain ⟨p1, l1, d1, k2, hp2, hl2⟩ := stp_l c2
    have c1 : stp K (.inl (p + 1, [])) (39, 3) = .inl (p1, l1) := by rw [← hs1]; exact d1
    obtain ⟨p0, l0, d0, k1, hp1, hl1⟩ := stp_l c1
    cases d0
    rw [hc] at q9
    rw [d1] at q1
    rw [d2] at q2
    rw [d3] at q3
    rw [d4] at q4
    rw [d5] at q5
    rw [d6] at q6
    rw [d7] at q7
    rw [d8] at q8
    rw [d1] at c2
    rw [d2] at c3
    rw [d3] at c4
    rw [d4] at c5
    rw [d5] at c6
    rw [d6] at c7
    rw [d7] at c8
    rw [d8] at c9
    have hl : l9 = [(3, p + 1), (4, p + 3), (5, p + 5), (6, p + 7), (7, p + 9)] := by
      rw [hl9, hl8, hl7, hl6, hl5, hl4, hl3, hl2, hl1]
      simp only [hp1, hp2, hp3, hp4, hp5, hp6, hp7, hp8]
      rfl
    have hpn : p9 = p + 10 := by omega
    have v3 := hR_nv (lo := (1 : Int32)) (hi := (8 : Int32)) hX2 q2 c3
    have v5 := hR_nv (lo := (1 : Int32)) (hi := (8 : Int32)) hX4 q4 c5
    have v7 := hR_nv (lo := (1 : Int32)) (hi := (9 : Int32)) hX6 q6 c7
    have v9 := hR_nv (lo := (0 : Int32)) (hi := (999 : Int32)) hX8 q8 c9
    rw [if_neg (by omega)] at k1
    rw [if_pos k1] at N1
    have jb : ∀ b, b ≠ 28 → b ≠ 47 → (g_X6_readNumber_28 (g_X6_expect_28 (g_X6_readNumber_28 (g_X6_expect_28 (g_X6_readNumber_28 (g_X6_expect_28 (g_X6_readNumber_28 (g_X6_expect_28 J1 G1 (3 : Int32)) G1 (1 : Int32) (8 : Int32)) G1 (4 : Int32)) G1 (1 : Int32) (8 : Int32)) G1 (5 : Int32)) G1 (1 : Int32) (9 : Int32)) G1 (6 : Int32)) G1 (0 : Int32) (999 : Int32)) b = I b := fun b z1 z2 => (fA.1 b z1).trans ((fr1 b z1 z2).trans (f0.1 b z1))
    have L1 : (its K V C l9 X).1.2 = Lup X.1.2 6 4 (p + 1) := by rw [hl]; rfl
    show cS K C T _ G1 p9 (its K V C l9 X) od
    refine ⟨cH.kept q9 (gA _ _ _ _ _ 28 (by omega) (by omega) (by omega) (by omega) (by omega)) (gA _ _ _ _ _ 5 (by omega) (by omega) (by omega) (by omega) (by omega)), ?_, ⟨?_, ?_⟩, fun he => ?_⟩
    · rw [L1]
      exact N1.kept ((gA _ _ _ _ _ 47 (by omega) (by omega) (by omega) (by omega) (by omega)).trans (fA.1 47 (by omega))) ((gA _ _ _ _ _ 49 (by omega) (by omega) (by omega) (by omega) (by omega)).trans (fA.1 49 (by omega))) ((gA _ _ _ _ _ 51 (by omega) (by omega) (by omega) (by omega) (by omega)).trans (fA.1 51 (by omega)))
    · obtain ⟨no, y1, y2⟩ := hS.2.2.1.1
      exact ⟨no, by rw [gA _ _ _ _ _ 38 (by omega) (by omega) (by omega) (by omega) (by omega), jb 38 (by omega) (by omega)]; exact y1, y2⟩
    · obtain ⟨len, y1, y2⟩ := hS.2.2.1.2
      exact ⟨len, by rw [gA _ _ _ _ _ 38 (by omega) (by omega) (by omega) (by omega) (by omega), jb 38 (by omega) (by omega)]; exact y1, by omega⟩
    · rw [hl] at he ⊢
      obtain ⟨g1, g2, g3, g4⟩ := x_oct (fun z => (hS.2.2.2 z).1) he
      obtain ⟨y1, y2, y3⟩ := hS.2.2.2 g1
      have hcnt : (g_X6_readNumber_28 (g_X6_expect_28 (g_X6_readNumber_28 (g_X6_expect_28 (g_X6_readNumber_28 (g_X6_expect_28 (g_X6_readNumber_28 (g_X6_expect_28 J1 G1 (3 : Int32)) G1 (1 : Int32) (8 : Int32)) G1 (4 : Int32)) G1 (1 : Int32) (8 : Int32)) G1 (5 : Int32)) G1 (1 : Int32) (9 : Int32)) G1 (6 : Int32)) G1 (0 : Int32) (999 : Int32)) 29 11 = Int32.ofNat (X.1.1 0 2) := by rw [jb 29 (by omega) (by omega)]; exact y2.1.2.2.1
      have hc4 : X.1.1 0 2 < 4 := by have := y1.2.1; omega
      refine ⟨g3, ?_, ?_⟩
      · rw [g4, a_oct_v hcnt hc4, show f_X6_readNumber_28 (g_X6_expect_28 J1 G1 (3 : Int32)) G1 (1 : Int32) (8 : Int32) = Int32.ofNat (V p2) from v3, show f_X6_readNumber_28 (g_X6_expect_28 (g_X6_readNumber_28 (g_X6_expect_28 J1 G1 (3 : Int32)) G1 (1 : Int32) (8 : Int32)) G1 (4 : Int32)) G1 (1 : Int32) (8 : Int32) = Int32.ofNat (V p4) from v5, show f_X6_readNumber_28 (g_X6_expect_28 (g_X6_readNumber_28 (g_X6_expect_28 (g_X6_readNumber_28 (g_X6_expect_28 J1 G1 (3 : Int32)) G1 (1 : Int32) (8 : Int32)) G1 (4 : Int32)) G1 (1 : Int32) (8 : Int32)) G1 (5 : Int32)) G1 (1 : Int32) (9 : Int32) = Int32.ofNat (V p6) from v7, show f_X6_readNumber_28 (g_X6_expect_28 (g_X6_readNumber_28 (g_X6_expect_28 (g_X6_readNumber_28 (g_X6_expect_28 (g_X6_readNumber_28 (g_X6_expect_28 J1 G1 (3 : Int32)) G1 (1 : Int32) (8 : Int32)) G1 (4 : Int32)) G1 (1 : Int32) (8 : Int32)) G1 (5 : Int32)) G1 (1 : Int32) (9 : Int32)) G1 (6 : Int32)) G1 (0 : Int32) (999 : Int32) = Int32.ofNat (V p8) from v9, hp8, hp7, hp6, hp5, hp4, hp3, hp2, hp1]
        have jr : ∀ b, b ≠ 28 → b ≠ 47 → (g_X6_readNumber_28 (g_X6_expect_28 (g_X6_readNumber_28 (g_X6_expect_28 (g_X6_readNumber_28 (g_X6_expect_28 (g_X6_readNumber_28 (g_X6_expect_28 J1 G1 (3 : Int32)) G1 (1 : Int32) (8 : Int32)) G1 (4 : Int32)) G1 (1 : Int32) (8 : Int32)) G1 (5 : Int32)) G1 (1 : Int32) (9 : Int32)) G1 (6 : Int32)) G1 (0 : Int32) (999 : Int32)) b = I b := jb
        refine ⟨⟨by rw [up_in, if_neg (by omega), up_row _ _ _ (by omega), up_row _ _ _ (by omega), up_row _ _ _ (by omega), up_row _ _ _ (by omega), jb 29 (by omega) (by omega), up_row _ _ _ (by omega), up_row _ _ _ (by omega), up_row _ _ _ (by omega), up_row _ _ _ (by omega), up_in, if_neg (by omega)]; exact y2.1.1, by rw [up_in, if_neg (by omega), up_row _ _ _ (by omega), up_row _ _ _ (by omega), up_row _ _ _ (by omega), up_row _ _ _ (by omega), jb 29 (by omega) (by omega), up_row _ _ _ (by omega), up_row _ _ _ (by omega), up_row _ _ _ (by omega), up_row _ _ _ (by omega), up_in, if_neg (by omega)]; exact y2.1.2.1, by rw [am_up_self, up_row _ _ _ (by omega), up_row _ _ _ (by omega), up_row _ _ _ (by omega), up_row _ _ _ (by omega), am_up_self], by rw [up_in, if_neg (by omega), up_row _ _ _ (by omega), up_row _ _ _ (by omega), up_row _ _ _ (by omega), up_row _ _ _ (by omega), jb 29 (by omega) (by omega), up_row _ _ _ (by omega), up_row _ _ _ (by omega), up_row _ _ _ (by omega), up_row _ _ _ (by omega), up_in, if_neg (by omega)]; exact y2.1.2.2.2.1, by rw [up_in, if_neg (by omega), up_row _ _ _ (by omega), up_row _ _ _ (by omega), up_row _ _ _ (by omega), up_row _ _ _ (by omega), jb 29 (by omega) (by omega), up_row _ _ _ (by omega), up_row _ _ _ (by omega), up_row _ _ _ (by omega), up_row _ _ _ (by omega), up_in, if_neg (by omega)]; exact y2.1.2.2.2.2⟩, fun k hkk => ?_, fun k hkk => ?_, fun k hkk => ?_⟩
        · rw [up_row _ _ _ (by omega), up_row _ _ _ (by omega), up_row _ _ _ (by omega), up_row _ _ _ (by omega), am_up_self] at hkk
          by_cases hkn : k = X.1.1 0 2
          · exact ⟨by rw [up_row _ _ _ (by omega), up_row _ _ _ (by omega), up_row _ _ _ (by omega), up_row _ _ _ (by omega), up_in, if_pos hkn, up_row _ _ _ (by omega), up_row _ _ _ (by omega), up_row _ _ _ (by omega), up_in, if_pos hkn], by rw [up_row _ _ _ (by omega), up_row _ _ _ (by omega), up_row _ _ _ (by omega), up_in, if_pos hkn, up_row _ _ _ (by omega), up_row _ _ _ (by omega), up_in, if_pos hkn], by rw [up_row _ _ _ (by omega), up_row _ _ _ (by omega), up_in, if_pos hkn, up_row _ _ _ (by omega), up_in, if_pos hkn], by rw [up_row _ _ _ (by omega), up_in, if_pos hkn, up_in, if_pos hkn]⟩
          · have o := y2.2.1 k (by omega)
            exact ⟨by rw [up_row _ _ _ (by omega), up_row _ _ _ (by omega), up_row _ _ _ (by omega), up_row _ _ _ (by omega), up_in, if_neg hkn, jb 30 (by omega) (by omega), up_row _ _ _ (by omega), up_row _ _ _ (by omega), up_row _ _ _ (by omega), up_in, if_neg hkn, up_row _ _ _ (by omega)]; exact o.1, by rw [up_row _ _ _ (by omega), up_row _ _ _ (by omega), up_row _ _ _ (by omega), up_in, if_neg hkn, up_row _ _ _ (by omega), jb 31 (by omega) (by omega), up_row _ _ _ (by omega), up_row _ _ _ (by omega), up_in, if_neg hkn, up_row _ _ _ (by omega), up_row _ _ _ (by omega)]; exact o.2.1, by rw [up_row _ _ _ (by omega), up_row _ _ _ (by omega), up_in, if_neg hkn, up_row _ _ _ (by omega), up_row _ _ _ (by omega), jb 32 (by omega) (by omega), up_row _ _ _ (by omega), up_in, if_neg hkn, up_row _ _ _ (by omega), up_row _ _ _ (by omega), up_row _ _ _ (by omega)]; exact o.2.2.1, by rw [up_row _ _ _ (by omega), up_in, if_neg hkn, up_row _ _ _ (by omega), up_row _ _ _ (by omega), up_row _ _ _ (by omega), jb 33 (by omega) (by omega), up_in, if_neg hkn, up_row _ _ _ (by omega), up_row _ _ _ (by omega), up_row _ _ _ (by omega), up_row _ _ _ (by omega)]; exact o.2.2.2⟩
        · rw [up_row _ _ _ (by omega), up_row _ _ _ (by omega), up_row _ _ _ (by omega), up_row _ _ _ (by omega), up_in, if_neg (by omega)] at hkk
          have o := y2.2.2.1 k hkk
          exact ⟨by rw [up_row _ _ _ (by omega), up_row _ _ _ (by omega), up_row _ _ _ (by omega), up_row _ _ _ (by omega), up_row _ _ _ (by omega), jb 34 (by omega) (by omega), up_row _ _ _ (by omega), up_row _ _ _ (by omega), up_row _ _ _ (by omega), up_row _ _ _ (by omega), up_row _ _ _ (by omega)]; exact o.1, by rw [up_row _ _ _ (by omega), up_row _ _ _ (by omega), up_row _ _ _ (by omega), up_row _ _ _ (by omega), up_row _ _ _ (by omega), jb 35 (by omega) (by omega), up_row _ _ _ (by omega), up_row _ _ _ (by omega), up_row _ _ _ (by omega), up_row _ _ _ (by omega), up_row _ _ _ (by omega)]; exact o.2.1, by rw [up_row _ _ _ (by omega), up_row _ _ _ (by omega), up_row _ _ _ (by omega), up_row _ _ _ (by omega), up_row _ _ _ (by omega), jb 36 (by omega) (by omega), up_row _ _ _ (by omega), up_row _ _ _ (by omega), up_row _ _ _ (by omega), up_row _ _ _ (by omega), up_row _ _ _ (by omega)]; exact o.2.2⟩
        · rw [up_row _ _ _ (by omega), up_row _ _ _ (by omega), up_row _ _ _ (by omega), up_row _ _ _ (by omega), up_in, if_neg (by omega)] at hkk
          have o := y2.2.2.2 k hkk
          exact (by rw [up_row _ _ _ (by omega), up_row _ _ _ (by omega), up_row _ _ _ (by omega), up_row _ _ _ (by omega), up_row _ _ _ (by omega), jb 37 (by omega) (by omega), up_row _ _ _ (by omega), up_row _ _ _ (by omega), up_row _ _ _ (by omega), up_row _ _ _ (by omega), up_row _ _ _ (by omega)]; exact o)
      · rw [g4, up_row _ _ _ (by omega), up_row _ _ _ (by omega), up_row _ _ _ (by omega), up_row _ _ _ (by omega), up_in, if_neg (by omega)]
        exact y3.kept (fun b z1 z2 => (gA _ _ _ _ _ b (by omega) (by omega) (by omega) (by omega) (by omega)).trans (jb b (by omega) (by omega)))
theorem cl_com {I : am_I} {p : Nat} {X : sX} {od : sO} (hV : ∀ a, V a ≤ 999999) (hX : cX K V T I G) (hC : cC K C T G) (hS : cS K C T I G p X od) (hk : K p = 7) : ∃ (I' : am_I) (G' : am_G), R_X6_readComb_28 I G = some ((), I', G') ∧ hF I I' G G' ∧ cSr K V C T I' G' X od (pts K (.inl (p + 1, [])) [(39, 8), (100, 9), (8, 0), (40, 10), (9, 0), (40, 11)]) := by
  have hlt := hX.1.lt hS.1.1.2.2 (by omega)
  have hT := hX.1.1
  obtain ⟨q0, f0⟩ := h_adv hX hS.1 hlt
  have hX0 := hX.h f0
  obtain ⟨J1, G1, e1, q1, F1, fr1, N1⟩ := hR_nw49 hX0 hC (hS.2.1.kept (f0.1 47 (by omega)) (f0.1 49 (by omega)) (f0.1 51 (by omega))) q0
  have hX1 := hX0.F F1
  obtain ⟨s1, hs1⟩ : ∃ s, s = stp K (.inl (p + 1, [])) (39, 8) := ⟨_, rfl⟩
  rw [← hs1] at q1
  obtain ⟨q2, f2⟩ := hR_wy hX1 q1 (r := 9) (by omega) (fun p l => rfl)
  have hX2 := hX1.h f2
  obtain ⟨s2, hs2⟩ : ∃ s, s = stp K s1 (100, 9) := ⟨_, rfl⟩
  rw [← hs2] at q2
  obtain ⟨q3, f3⟩ := hR_ex hX2 q2 (w := 8) (by omega)
  have hX3 := hX2.h f3
  obtain ⟨s3, hs3⟩ : ∃ s, s = stp K s2 (8, 0) := ⟨_, rfl⟩
  rw [← hs3] at q3
  obtain ⟨q4, f4⟩ := hR_nu hX3 q3 (r := 10) (by omega) (lo := (1 : Int32)) (hi := (8 : Int32)) (fun p l _ _ => (h_neN (lo := 1) (hi := 8) (hV p) (by omega) (by omega)).symm)
  have hX4 := hX3.h f4
  obtain ⟨s4, hs4⟩ : ∃ s, s = stp K s3 (40, 10) := ⟨_, rfl⟩
  rw [← hs4] at q4
  obtain ⟨q5, f5⟩ := hR_ex hX4 q4 (w := 9) (by omega)
  have hX5 := hX4.h f5
  obtain ⟨s5, hs5⟩ : ∃ s, s = stp K s4 (9, 0) := ⟨_, rfl⟩
  rw [← hs5] at q5
  obtain ⟨q6, f6⟩ := hR_nu hX5 q5 (r := 11) (by omega) (lo := (0 : Int32)) (hi := (16 : Int32)) (fun p l _ _ => (h_neN (lo := 0) (hi := 16) (hV p) (by omega) (by omega)).symm)
  have hX6 := hX5.h f6
  obtain ⟨s6, hs6⟩ : ∃ s, s = stp K s5 (40, 11) := ⟨_, rfl⟩
  rw [← hs6] at q6
  have fA := (((f2.tr f3).tr f4).tr f5).tr f6
  have gA := a_com_f (G := G1)
  unfold R_X6_readComb_28
  rw [e1, rb_go]
  refine ⟨_, _, rfl, (f0.F G).tr (F1.tr ((fA.F G1).tr ⟨fun b hb => gA _ _ _ _ b (by omega) (by omega) (by omega) (by omega), fun _ _ _ _ => rfl⟩)), ?_⟩
  show cSr K V C T _ _ X od (stp K (stp K (stp K (stp K (stp K (stp K (.inl (p + 1, [])) (39, 8)) (100, 9)) (8, 0)) (40, 10)) (9, 0)) (40, 11))
  rw [← hs1, ← hs2, ← hs3, ← hs4, ← hs5, ← hs6]
  cases hc : s6 with
  | inr t =>
    rw [hc] at q6
    exact cD.kept (I := _) q6 (gA _ _ _ _ 28 (by omega) (by omega) (by omega) (by omega)) (gA _ _ _ _ 5 (by omega) (by omega) (by omega) (by omega))
  | inl z =>
    obtain ⟨p6, l6⟩ := z
    have c6 : stp K s5 (40, 11) = .inl (p6, l6) := by rw [← hs6]; exact hc
    obtain ⟨p5, l5, d5, k6, hp6, hl6⟩ := stp_l c6
    have c5 : stp K s4 (9, 0) = .inl (p5, l5) := by rw [← hs5]; exact d5
    obtain ⟨p4, l4, d4, k5, hp5, hl5⟩ := stp_l c5
    have c4 : stp K s3 (40, 10) = .inl (p4, l4) := by rw [← hs4]; exact d4
    obtain ⟨p3, l3, d3, k4, hp4, hl4⟩ := stp_l c4
    have c3 : stp K s2 (8, 0) = .inl (p3, l3) := by rw [← hs3]; exact d3
    obtain ⟨p2, l2, d2, k3, hp3, hl3⟩ := stp_l c3
    have c2 : stp K s1 (100, 9) = .inl (p2, l2) := by rw [← hs2]; exact d2
    obtain ⟨p1, l1, d1, k2, hp2, hl2⟩ := stp_l c2
    have c1 : stp K (.inl (p + 1, [])) (39, 8) = .inl (p1, l1) := by rw [← hs1]; exact d1
    obtain ⟨p0, l0, d0, k1, hp1, hl1⟩ := stp_l c1
    cases d0
    rw [hc] at q6
    rw [d1] at q1
    rw [d2] at q2
    rw [d3] at q3
    rw [d4] at q4
    rw [d5] at q5
    rw [d1] at c2
    rw [d2] at c3
    rw [d3] at c4
    rw [d4] at c5
    rw [d5] at c6
    have hl : l6 = [(8, p + 1), (9, p + 2), (10, p + 4), (11, p + 6)] := by
      rw [hl6, hl5, hl4, hl3, hl2, hl1]
      simp only [hp1, hp2, hp3, hp4, hp5]
      rfl
    have hpn : p6 = p + 7 := by omega
    rw [if_pos rfl] at k2
    have v2 := (h_wyY hX1 q1 k2).2
    have v4 := hR_nv (lo := (1 : Int32)) (hi := (8 : Int32)) hX3 q3 c4
    have v6 := hR_nv (lo := (0 : Int32)) (hi := (16 : Int32)) hX5 q5 c6
    rw [if_neg (by omega)] at k1
    rw [if_pos k1] at N1
    have jb : ∀ b, b ≠ 28 → b ≠ 49 → (g_X6_readNumber_28 (g_X6_expect_28 (g_X6_readNumber_28 (g_X6_expect_28 (g_X6_readWay_28 J1 G1) G1 (8 : Int32)) G1 (1 : Int32) (8 : Int32)) G1 (9 : Int32)) G1 (0 : Int32) (16 : Int32)) b = I b := fun b z1 z2 => (fA.1 b z1).trans ((fr1 b z1 z2).trans (f0.1 b z1))
    have L1 : (its K V C l6 X).1.2 = Lup X.1.2 9 4 (p + 1) := by rw [hl]; rfl
    show cS K C T _ G1 p6 (its K V C l6 X) od
    refine ⟨cH.kept q6 (gA _ _ _ _ 28 (by omega) (by omega) (by omega) (by omega)) (gA _ _ _ _ 5 (by omega) (by omega) (by omega) (by omega)), ?_, ⟨?_, ?_⟩, fun he => ?_⟩
    · rw [L1]
      exact N1.kept ((gA _ _ _ _ 47 (by omega) (by omega) (by omega) (by omega)).trans (fA.1 47 (by omega))) ((gA _ _ _ _ 49 (by omega) (by omega) (by omega) (by omega)).trans (fA.1 49 (by omega))) ((gA _ _ _ _ 51 (by omega) (by omega) (by omega) (by omega)).trans (fA.1 51 (by omega)))
    · obtain ⟨no, y1, y2⟩ := hS.2.2.1.1
      exact ⟨no, by rw [gA _ _ _ _ 38 (by omega) (by omega) (by omega) (by omega), jb 38 (by omega) (by omega)]; exact y1, y2⟩
    · obtain ⟨len, y1, y2⟩ := hS.2.2.1.2
      exact ⟨len, by rw [gA _ _ _ _ 38 (by omega) (by omega) (by omega) (by omega), jb 38 (by omega) (by omega)]; exact y1, by omega⟩
    · rw [hl] at he ⊢
      obtain ⟨g1, g2, g3, g4⟩ := x_comb (fun z => (hS.2.2.2 z).1) (by rw [← hp1]; exact k2) he
      obtain ⟨y1, y2, y3⟩ := hS.2.2.2 g1
      have hcnt : (g_X6_readNumber_28 (g_X6_expect_28 (g_X6_readNumber_28 (g_X6_expect_28 (g_X6_readWay_28 J1 G1) G1 (8 : Int32)) G1 (1 : Int32) (8 : Int32)) G1 (9 : Int32)) G1 (0 : Int32) (16 : Int32)) 29 12 = Int32.ofNat (X.1.1 0 3) := by rw [jb 29 (by omega) (by omega)]; exact y2.1.2.2.2.1
      have hc4 : X.1.1 0 3 < 4 := by have := y1.2.2.1; omega
      refine ⟨g3, ?_, ?_⟩
      · rw [g4, a_com_v hcnt hc4, show f_X6_readWay_28 J1 G1 = Int32.ofNat (K p1 - 3) from v2, show f_X6_readNumber_28 (g_X6_expect_28 (g_X6_readWay_28 J1 G1) G1 (8 : Int32)) G1 (1 : Int32) (8 : Int32) = Int32.ofNat (V p3) from v4, show f_X6_readNumber_28 (g_X6_expect_28 (g_X6_readNumber_28 (g_X6_expect_28 (g_X6_readWay_28 J1 G1) G1 (8 : Int32)) G1 (1 : Int32) (8 : Int32)) G1 (9 : Int32)) G1 (0 : Int32) (16 : Int32) = Int32.ofNat (V p5) from v6, hp5, hp4, hp3, hp2, hp1]
        have jr : ∀ b, b ≠ 28 → b ≠ 49 → (g_X6_readNumber_28 (g_X6_expect_28 (g_X6_readNumber_28 (g_X6_expect_28 (g_X6_readWay_28 J1 G1) G1 (8 : Int32)) G1 (1 : Int32) (8 : Int32)) G1 (9 : Int32)) G1 (0 : Int32) (16 : Int32)) b = I b := jb
        refine ⟨⟨by rw [up_in, if_neg (by omega), up_row _ _ _ (by omega), up_row _ _ _ (by omega), up_row _ _ _ (by omega), jb 29 (by omega) (by omega), up_row _ _ _ (by omega), up_row _ _ _ (by omega), up_row _ _ _ (by omega), up_in, if_neg (by omega)]; exact y2.1.1, by rw [up_in, if_neg (by omega), up_row _ _ _ (by omega), up_row _ _ _ (by omega), up_row _ _ _ (by omega), jb 29 (by omega) (by omega), up_row _ _ _ (by omega), up_row _ _ _ (by omega), up_row _ _ _ (by omega), up_in, if_neg (by omega)]; exact y2.1.2.1, by rw [up_in, if_neg (by omega), up_row _ _ _ (by omega), up_row _ _ _ (by omega), up_row _ _ _ (by omega), jb 29 (by omega) (by omega), up_row _ _ _ (by omega), up_row _ _ _ (by omega), up_row _ _ _ (by omega), up_in, if_neg (by omega)]; exact y2.1.2.2.1, by rw [am_up_self, up_row _ _ _ (by omega), up_row _ _ _ (by omega), up_row _ _ _ (by omega), am_up_self], by rw [up_in, if_neg (by omega), up_row _ _ _ (by omega), up_row _ _ _ (by omega), up_row _ _ _ (by omega), jb 29 (by omega) (by omega), up_row _ _ _ (by omega), up_row _ _ _ (by omega), up_row _ _ _ (by omega), up_in, if_neg (by omega)]; exact y2.1.2.2.2.2⟩, fun k hkk => ?_, fun k hkk => ?_, fun k hkk => ?_⟩
        · rw [up_row _ _ _ (by omega), up_row _ _ _ (by omega), up_row _ _ _ (by omega), up_in, if_neg (by omega)] at hkk
          have o := y2.2.1 k hkk
          exact ⟨by rw [up_row _ _ _ (by omega), up_row _ _ _ (by omega), up_row _ _ _ (by omega), up_row _ _ _ (by omega), jb 30 (by omega) (by omega), up_row _ _ _ (by omega), up_row _ _ _ (by omega), up_row _ _ _ (by omega), up_row _ _ _ (by omega)]; exact o.1, by rw [up_row _ _ _ (by omega), up_row _ _ _ (by omega), up_row _ _ _ (by omega), up_row _ _ _ (by omega), jb 31 (by omega) (by omega), up_row _ _ _ (by omega), up_row _ _ _ (by omega), up_row _ _ _ (by omega), up_row _ _ _ (by omega)]; exact o.2.1, by rw [up_row _ _ _ (by omega), up_row _ _ _ (by omega), up_row _ _ _ (by omega), up_row _ _ _ (by omega), jb 32 (by omega) (by omega), up_row _ _ _ (by omega), up_row _ _ _ (by omega), up_row _ _ _ (by omega), up_row _ _ _ (by omega)]; exact o.2.2.1, by rw [up_row _ _ _ (by omega), up_row _ _ _ (by omega), up_row _ _ _ (by omega), up_row _ _ _ (by omega), jb 33 (by omega) (by omega), up_row _ _ _ (by omega), up_row _ _ _ (by omega), up_row _ _ _ (by omega), up_row _ _ _ (by omega)]; exact o.2.2.2⟩
        · rw [up_row _ _ _ (by omega), up_row _ _ _ (by omega), up_row _ _ _ (by omega), am_up_self] at hkk
          by_cases hkn : k = X.1.1 0 3
          · exact ⟨by rw [up_row _ _ _ (by omega), up_row _ _ _ (by omega), up_row _ _ _ (by omega), up_in, if_pos hkn, up_row _ _ _ (by omega), up_row _ _ _ (by omega), up_in, if_pos hkn], by rw [up_row _ _ _ (by omega), up_row _ _ _ (by omega), up_in, if_pos hkn, up_row _ _ _ (by omega), up_in, if_pos hkn], by rw [up_row _ _ _ (by omega), up_in, if_pos hkn, up_in, if_pos hkn]⟩
          · have o := y2.2.2.1 k (by omega)
            exact ⟨by rw [up_row _ _ _ (by omega), up_row _ _ _ (by omega), up_row _ _ _ (by omega), up_in, if_neg hkn, jb 34 (by omega) (by omega), up_row _ _ _ (by omega), up_row _ _ _ (by omega), up_in, if_neg hkn, up_row _ _ _ (by omega)]; exact o.1, by rw [up_row _ _ _ (by omega), up_row _ _ _ (by omega), up_in, if_neg hkn, up_row _ _ _ (by omega), jb 35 (by omega) (by omega), up_row _ _ _ (by omega), up_in, if_neg hkn, up_row _ _ _ (by omega), up_row _ _ _ (by omega)]; exact o.2.1, by rw [up_row _ _ _ (by omega), up_in, if_neg hkn, up_row _ _ _ (by omega), up_row _ _ _ (by omega), jb 36 (by omega) (by omega), up_in, if_neg hkn, up_row _ _ _ (by omega), up_row _ _ _ (by omega), up_row _ _ _ (by omega)]; exact o.2.2⟩
        · rw [up_row _ _ _ (by omega), up_row _ _ _ (by omega), up_row _ _ _ (by omega), up_in, if_neg (by omega)] at hkk
          have o := y2.2.2.2 k hkk
          exact (by rw [up_row _ _ _ (by omega), up_row _ _ _ (by omega), up_row _ _ _ (by omega), up_row _ _ _ (by omega), jb 37 (by omega) (by omega), up_row _ _ _ (by omega), up_row _ _ _ (by omega), up_row _ _ _ (by omega), up_row _ _ _ (by omega)]; exact o)
      · rw [g4, up_row _ _ _ (by omega), up_row _ _ _ (by omega), up_row _ _ _ (by omega), up_in, if_neg (by omega)]
        exact y3.kept (fun b z1 z2 => (gA _ _ _ _ b (by omega) (by omega) (by omega) (by omega)).trans (jb b (by omega) (by omega)))
theorem cl_ink {I : am_I} {p : Nat} {X : sX} {od : sO} (hV : ∀ a, V a ≤ 999999) (hX : cX K V T I G) (hC : cC K C T G) (hS : cS K C T I G p X od) (hk : K p = 10) : ∃ (I' : am_I) (G' : am_G), R_X6_readInk_28 I G = some ((), I', G') ∧ hF I I' G G' ∧ cSr K V C T I' G' X od (pts K (.inl (p + 1, [])) [(39, 12), (11, 0), (40, 13)]) := by
  have hlt := hX.1.lt hS.1.1.2.2 (by omega)
  have hT := hX.1.1
  obtain ⟨q0, f0⟩ := h_adv hX hS.1 hlt
  have hX0 := hX.h f0
  obtain ⟨J1, G1, e1, q1, F1, fr1, N1⟩ := hR_nw51 hX0 hC (hS.2.1.kept (f0.1 47 (by omega)) (f0.1 49 (by omega)) (f0.1 51 (by omega))) q0
  have hX1 := hX0.F F1
  obtain ⟨s1, hs1⟩ : ∃ s, s = stp K (.inl (p + 1, [])) (39, 12) := ⟨_, rfl⟩
  rw [← hs1] at q1
  obtain ⟨q2, f2⟩ := hR_ex hX1 q1 (w := 11) (by omega)
  have hX2 := hX1.h f2
  obtain ⟨s2, hs2⟩ : ∃ s, s = stp K s1 (11, 0) := ⟨_, rfl⟩
  rw [← hs2] at q2
  obtain ⟨low, hlo⟩ : ∃ z, z = f_X5_lowestNextLevel_29 (g_X6_expect_28 J1 G1 (11 : Int32)) G1 := ⟨_, rfl⟩
  have hlow : ∀ p' l, s2 = .inl (p', l) → K p' = 40 → (it K V C (its K V C l X) (13, p')).2.1 = h_ne (its K V C l X).2.1 (Int32.ofNat (V p')) low (999 : Int32) p' := by
    intro p' l h2 _
    rw [hs2] at h2
    obtain ⟨p1, l1, h1, _, _, hl2⟩ := stp_l h2
    rw [hs1] at h1
    obtain ⟨p0, l0, h0, _, _, hl1⟩ := stp_l h1
    cases h0
    have hl : l = [(12, p + 1)] := by rw [hl2, hl1]; rfl
    rw [hl]
    show rgE V (it K V C X (12, p + 1)).2.1 p' (lwl (it K V C X (12, p + 1)).1.1) 999 = h_ne (it K V C X (12, p + 1)).2.1 (Int32.ofNat (V p')) low (999 : Int32) p'
    cases he : (it K V C X (12, p + 1)).2.1 with
    | some x =>
      unfold rgE h_ne
      rw [e_orS]
      split
      · split
        · rfl
        · split <;> rfl
      · split
        · rfl
        · split <;> rfl
    | none =>
      rw [it_12] at he
      obtain ⟨h3, _⟩ := eo_n he
      obtain ⟨y1, y2, _⟩ := hS.2.2.2 h3
      have hpk := y1.1
      have h29 : (g_X6_expect_28 J1 G1 (11 : Int32)) 29 = I 29 := (f2.1 29 (by omega)).trans ((fr1 29 (by omega) (by omega)).trans (f0.1 29 (by omega)))
      have h37 : (g_X6_expect_28 J1 G1 (11 : Int32)) 37 = I 37 := (f2.1 37 (by omega)).trans ((fr1 37 (by omega) (by omega)).trans (f0.1 37 (by omega)))
      have hb : lwl (it K V C X (12, p + 1)).1.1 ≤ 999999 ∧ low = Int32.ofNat (lwl (it K V C X (12, p + 1)).1.1) := by
        rw [it_12]
        rw [lwl_s (n := X.1.1 0 4) (p := X.1.1) (am_up_self _ _ _ _) (up_row _ _ _ (by omega)), hlo]
        unfold f_X5_lowestNextLevel_29
        rw [h29, h37, y2.1.2.2.2.2]
        by_cases h0 : X.1.1 0 4 = 0
        · rw [if_pos h0, h0]
          exact ⟨by omega, rfl⟩
        · have := hpk.2.2.2.1 (X.1.1 0 4 - 1) (by omega)
          have := hpk.1
          rw [if_neg h0, if_neg (n_ne0 (by omega) (by omega)), n_dec (by omega), n_gAt (by omega) (by omega), y2.2.2.2 _ (by omega), n_inc]
          exact ⟨by omega, rfl⟩
      rw [hb.2]
      exact (h_neN (lo := lwl (it K V C X (12, p + 1)).1.1) (hi := 999) (hV p') hb.1 (by omega)).symm
  obtain ⟨q3, f3⟩ := hR_nu hX2 q2 (r := 13) (by omega) (lo := low) (hi := (999 : Int32)) hlow
  have hX3 := hX2.h f3
  obtain ⟨s3, hs3⟩ : ∃ s, s = stp K s2 (40, 13) := ⟨_, rfl⟩
  rw [← hs3] at q3
  have fA := f2.tr f3
  have gA := a_ink_f (G := G1)
  unfold R_X6_readInk_28
  rw [e1, rb_go]
  rw [← hlo]
  refine ⟨_, _, rfl, (f0.F G).tr (F1.tr ((fA.F G1).tr ⟨fun b hb => gA _ _ b (by omega) (by omega), fun _ _ _ _ => rfl⟩)), ?_⟩
  show cSr K V C T _ _ X od (stp K (stp K (stp K (.inl (p + 1, [])) (39, 12)) (11, 0)) (40, 13))
  rw [← hs1, ← hs2, ← hs3]
  cases hc : s3 with
  | inr t =>
    rw [hc] at q3
    exact cD.kept (I := _) q3 (gA _ _ 28 (by omega) (by omega)) (gA _ _ 5 (by omega) (by omega))
  | inl z =>
    obtain ⟨p3, l3⟩ := z
    have c3 : stp K s2 (40, 13) = .inl (p3, l3) := by rw [← hs3]; exact hc
    obtain ⟨p2, l2, d2, k3, hp3, hl3⟩ := stp_l c3
    have c2 : stp K s1 (11, 0) = .inl (p2, l2) := by rw [← hs2]; exact d2
    obtain ⟨p1, l1, d1, k2, hp2, hl2⟩ := stp_l c2
    have c1 : stp K (.inl (p + 1, [])) (39, 12) = .inl (p1, l1) := by rw [← hs1]; exact d1
    obtain ⟨p0, l0, d0, k1, hp1, hl1⟩ := stp_l c1
    cases d0
    rw [hc] at q3
    rw [d1] at q1
    rw [d2] at q2
    rw [d1] at c2
    rw [d2] at c3
    have hl : l3 = [(12, p + 1), (13, p + 3)] := by
      rw [hl3, hl2, hl1]
      simp only [hp1, hp2]
      rfl
    have hpn : p3 = p + 4 := by omega
    have v3 := hR_nv (lo := low) (hi := (999 : Int32)) hX2 q2 c3
    rw [if_neg (by omega)] at k1
    rw [if_pos k1] at N1
    have jb : ∀ b, b ≠ 28 → b ≠ 51 → (g_X6_readNumber_28 (g_X6_expect_28 J1 G1 (11 : Int32)) G1 low (999 : Int32)) b = I b := fun b z1 z2 => (fA.1 b z1).trans ((fr1 b z1 z2).trans (f0.1 b z1))
    have L1 : (its K V C l3 X).1.2 = Lup X.1.2 16 5 (p + 1) := by rw [hl]; rfl
    show cS K C T _ G1 p3 (its K V C l3 X) od
    refine ⟨cH.kept q3 (gA _ _ 28 (by omega) (by omega)) (gA _ _ 5 (by omega) (by omega)), ?_, ⟨?_, ?_⟩, fun he => ?_⟩
    · rw [L1]
      exact N1.kept ((gA _ _ 47 (by omega) (by omega)).trans (fA.1 47 (by omega))) ((gA _ _ 49 (by omega) (by omega)).trans (fA.1 49 (by omega))) ((gA _ _ 51 (by omega) (by omega)).trans (fA.1 51 (by omega)))
    · obtain ⟨no, y1, y2⟩ := hS.2.2.1.1
      exact ⟨no, by rw [gA _ _ 38 (by omega) (by omega), jb 38 (by omega) (by omega)]; exact y1, y2⟩
    · obtain ⟨len, y1, y2⟩ := hS.2.2.1.2
      exact ⟨len, by rw [gA _ _ 38 (by omega) (by omega), jb 38 (by omega) (by omega)]; exact y1, by omega⟩
    · rw [hl] at he ⊢
      obtain ⟨g1, g2, g3, g4⟩ := x_ink (fun z => (hS.2.2.2 z).1) he
      obtain ⟨y1, y2, y3⟩ := hS.2.2.2 g1
      have hcnt : (g_X6_readNumber_28 (g_X6_expect_28 J1 G1 (11 : Int32)) G1 low (999 : Int32)) 29 13 = Int32.ofNat (X.1.1 0 4) := by rw [jb 29 (by omega) (by omega)]; exact y2.1.2.2.2.2
      have hc4 : X.1.1 0 4 < 5 := by have := y1.2.2.2.1; omega
      refine ⟨g3, ?_, ?_⟩
      · rw [g4, a_ink_v hcnt hc4, show f_X6_readNumber_28 (g_X6_expect_28 J1 G1 (11 : Int32)) G1 low (999 : Int32) = Int32.ofNat (V p2) from v3, hp2, hp1]
        have jr : ∀ b, b ≠ 28 → b ≠ 51 → (g_X6_readNumber_28 (g_X6_expect_28 J1 G1 (11 : Int32)) G1 low (999 : Int32)) b = I b := jb
        refine ⟨⟨by rw [up_in, if_neg (by omega), up_row _ _ _ (by omega), jb 29 (by omega) (by omega), up_row _ _ _ (by omega), up_in, if_neg (by omega)]; exact y2.1.1, by rw [up_in, if_neg (by omega), up_row _ _ _ (by omega), jb 29 (by omega) (by omega), up_row _ _ _ (by omega), up_in, if_neg (by omega)]; exact y2.1.2.1, by rw [up_in, if_neg (by omega), up_row _ _ _ (by omega), jb 29 (by omega) (by omega), up_row _ _ _ (by omega), up_in, if_neg (by omega)]; exact y2.1.2.2.1, by rw [up_in, if_neg (by omega), up_row _ _ _ (by omega), jb 29 (by omega) (by omega), up_row _ _ _ (by omega), up_in, if_neg (by omega)]; exact y2.1.2.2.2.1, by rw [am_up_self, up_row _ _ _ (by omega), am_up_self]⟩, fun k hkk => ?_, fun k hkk => ?_, fun k hkk => ?_⟩
        · rw [up_row _ _ _ (by omega), up_in, if_neg (by omega)] at hkk
          have o := y2.2.1 k hkk
          exact ⟨by rw [up_row _ _ _ (by omega), up_row _ _ _ (by omega), jb 30 (by omega) (by omega), up_row _ _ _ (by omega), up_row _ _ _ (by omega)]; exact o.1, by rw [up_row _ _ _ (by omega), up_row _ _ _ (by omega), jb 31 (by omega) (by omega), up_row _ _ _ (by omega), up_row _ _ _ (by omega)]; exact o.2.1, by rw [up_row _ _ _ (by omega), up_row _ _ _ (by omega), jb 32 (by omega) (by omega), up_row _ _ _ (by omega), up_row _ _ _ (by omega)]; exact o.2.2.1, by rw [up_row _ _ _ (by omega), up_row _ _ _ (by omega), jb 33 (by omega) (by omega), up_row _ _ _ (by omega), up_row _ _ _ (by omega)]; exact o.2.2.2⟩
        · rw [up_row _ _ _ (by omega), up_in, if_neg (by omega)] at hkk
          have o := y2.2.2.1 k hkk
          exact ⟨by rw [up_row _ _ _ (by omega), up_row _ _ _ (by omega), jb 34 (by omega) (by omega), up_row _ _ _ (by omega), up_row _ _ _ (by omega)]; exact o.1, by rw [up_row _ _ _ (by omega), up_row _ _ _ (by omega), jb 35 (by omega) (by omega), up_row _ _ _ (by omega), up_row _ _ _ (by omega)]; exact o.2.1, by rw [up_row _ _ _ (by omega), up_row _ _ _ (by omega), jb 36 (by omega) (by omega), up_row _ _ _ (by omega), up_row _ _ _ (by omega)]; exact o.2.2⟩
        · rw [up_row _ _ _ (by omega), am_up_self] at hkk
          by_cases hkn : k = X.1.1 0 4
          · exact (by rw [up_row _ _ _ (by omega), up_in, if_pos hkn, up_in, if_pos hkn])
          · have o := y2.2.2.2 k (by omega)
            exact (by rw [up_row _ _ _ (by omega), up_in, if_neg hkn, jb 37 (by omega) (by omega), up_in, if_neg hkn, up_row _ _ _ (by omega)]; exact o)
      · rw [g4, up_row _ _ _ (by omega), up_in, if_neg (by omega)]
        exact y3.kept (fun b z1 z2 => (gA _ _ b (by omega) (by omega)).trans (jb b (by omega) (by omega)))
end CLN
