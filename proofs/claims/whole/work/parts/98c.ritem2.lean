/-! the reference: one token's error, the other roles -/
section RIV
variable {B : Nat → Nat} {ln : Nat} {T : Nat} {G : am_G}
theorem fi_m {x : Option Nat} {j : Nat} (h : x = some j) : fi x = Int32.ofNat j := by rw [h]; rfl
theorem rk_way {k : Nat} (h : k = 3 ∨ k = 4) : Int32.ofNat (rk k) - (3 : Int32) = Int32.ofNat (k - 3) := by
  rcases h with rfl | rfl <;> rfl
theorem r_it9 {I : am_I} {ρ : Nat → Nat} {X : sX} {W : Nat → Nat × Nat} {a : Nat} (h : rTK B ln T ρ I) (hZ : rZ I X W) (he : X.2.1 = none) (hx : xl X) (hL : X.1.2 6 = rls ρ 3 0 a ∧ X.1.2 9 = rls ρ 8 0 a ∧ X.1.2 16 = rls ρ 12 0 a) (hn : ∀ k, k < a → (ρ k = 3 ∨ ρ k = 8 ∨ ρ k = 12) → tKK B ln k = 39) (ha : a ≤ T) (hρ : ρ a = 9) (hw : iw (tKK B ln) X (9, a)) : ∃ (err : Int32) (I' : am_I), R_X14_errorOf_79 I G (Int32.ofNat a) = some (err, I', G) ∧ rfe I I' ∧ rIt I' a (it (tKK B ln) (bV B ln) (bC B ln) X (9, a)) (itW (tKK B ln) (bC B ln) X W (9, a)) err := by
  have hT := h.2.1
  have hin : vp_in (Int32.ofNat a) 401 := (n_in (by omega)).mpr (by omega)
  have ec : (Int32.ofNat a).toNatClampNeg = a := n_cl (by omega)
  have e84 : I 84 a = Int32.ofNat 9 := by rw [(h.2.2.2 a ha).1, hρ]
  have hvv := bV_le h.1 a
  obtain ⟨⟨z0, z1, z2, z3, z4, z13⟩, ⟨y1, y2, y3, y7, y4, y5, y8, y6⟩, zb, zW, zM⟩ := hZ
  obtain ⟨⟨x1, x1b⟩, ⟨x2, x2b⟩, ⟨x3, x3b⟩, x4⟩ := hx
  unfold R_X14_errorOf_79
  rw [rg_pos hin, ec, e84, if_neg (show ¬ Int32.ofNat 9 = (1 : Int32) by decide), if_neg (show ¬ Int32.ofNat 9 = (2 : Int32) by decide), if_neg (show ¬ Int32.ofNat 9 = (3 : Int32) by decide), if_neg (show ¬ Int32.ofNat 9 = (4 : Int32) by decide), if_neg (show ¬ Int32.ofNat 9 = (5 : Int32) by decide), if_neg (show ¬ Int32.ofNat 9 = (6 : Int32) by decide), if_neg (show ¬ Int32.ofNat 9 = (7 : Int32) by decide), if_neg (show ¬ Int32.ofNat 9 = (8 : Int32) by decide), if_pos (show Int32.ofNat 9 = (9 : Int32) from rfl)]
  have hk := hw.2.2.1 (by omega)
  have h1 : 1 ≤ X.1.1 0 3 := hw.2.2.2.2.2.1 (by omega)
  have e81 := (h.2.2.1 a ha).1
  have hq : q_X14_way_79 I G (Int32.ofNat a) := by
    refine ⟨hin, fun _ => ⟨hin, by rw [z3, n_dec h1]; exact (n_in (by omega)).mpr (by omega), trivial⟩, fun z => ?_⟩
    rw [ec, e84] at z
    exact absurd rfl z
  have eg : g_X14_way_79 I G (Int32.ofNat a) = am_up I 128 (X.1.1 0 3 - 1) (Int32.ofNat (tKK B ln a - 3)) := by
    unfold g_X14_way_79
    rw [ec, e84, if_pos (show Int32.ofNat 9 = (9 : Int32) from rfl), z3, n_dec h1, n_cl (by omega), e81, rk_way hk]
  rw [rg_pos hq, eg]
  refine ⟨_, _, rfl, rfe.up I (Or.inr ⟨by omega, by omega⟩) _ _, ?_⟩
  rw [it_9]
  unfold rIt
  dsimp only
  rw [he]
  refine ⟨fun z => ⟨rfl, ?_⟩, fun n q z => (by cases z)⟩
  · show rZ _ ((am_up X.1.1 4 (X.1.1 0 3 - 1) (tKK B ln a - 3), X.1.2), _) W
    unfold rZ
    dsimp only
    refine ⟨⟨by rw [up_row _ _ _ (by omega), up_row _ _ _ (by omega)]; exact z0, by rw [up_row _ _ _ (by omega), up_row _ _ _ (by omega)]; exact z1, by rw [up_row _ _ _ (by omega), up_row _ _ _ (by omega)]; exact z2, by rw [up_row _ _ _ (by omega), up_row _ _ _ (by omega)]; exact z3, by rw [up_row _ _ _ (by omega), up_row _ _ _ (by omega)]; exact z4, by rw [up_row _ _ _ (by omega), up_row _ _ _ (by omega)]; exact z13⟩, ⟨fun k => by rw [up_row _ _ _ (by omega), up_row _ _ _ (by omega)]; exact y1 k, fun k => by rw [up_row _ _ _ (by omega), up_row _ _ _ (by omega)]; exact y2 k, fun k => by rw [up_row _ _ _ (by omega), up_row _ _ _ (by omega)]; exact y3 k, fun k => by rw [up_row _ _ _ (by omega), up_row _ _ _ (by omega)]; exact y7 k, fun k => rw_eq (y4 k), fun k => by rw [up_row _ _ _ (by omega), up_row _ _ _ (by omega)]; exact y5 k, fun k => by rw [up_row _ _ _ (by omega), up_row _ _ _ (by omega)]; exact y8 k, fun k => by rw [up_row _ _ _ (by omega), up_row _ _ _ (by omega)]; exact y6 k⟩, fun k => ?_, fun k => ?_, fun b k hbk => ?_⟩
    · rw [up_row _ _ _ (by omega)]; exact zb k
    · rw [up_row _ _ _ (by omega), up_row _ _ _ (by omega)]; exact zW k
    · rw [up_row _ _ _ (by omega)]; exact zM b k hbk
theorem r_it17 {I : am_I} {ρ : Nat → Nat} {X : sX} {W : Nat → Nat × Nat} {a : Nat} (h : rTK B ln T ρ I) (hZ : rZ I X W) (he : X.2.1 = none) (hx : xl X) (hL : X.1.2 6 = rls ρ 3 0 a ∧ X.1.2 9 = rls ρ 8 0 a ∧ X.1.2 16 = rls ρ 12 0 a) (hn : ∀ k, k < a → (ρ k = 3 ∨ ρ k = 8 ∨ ρ k = 12) → tKK B ln k = 39) (ha : a ≤ T) (hρ : ρ a = 17) (hw : iw (tKK B ln) X (17, a)) : ∃ (err : Int32) (I' : am_I), R_X14_errorOf_79 I G (Int32.ofNat a) = some (err, I', G) ∧ rfe I I' ∧ rIt I' a (it (tKK B ln) (bV B ln) (bC B ln) X (17, a)) (itW (tKK B ln) (bC B ln) X W (17, a)) err := by
  have hT := h.2.1
  have hin : vp_in (Int32.ofNat a) 401 := (n_in (by omega)).mpr (by omega)
  have ec : (Int32.ofNat a).toNatClampNeg = a := n_cl (by omega)
  have e84 : I 84 a = Int32.ofNat 17 := by rw [(h.2.2.2 a ha).1, hρ]
  have hvv := bV_le h.1 a
  obtain ⟨⟨z0, z1, z2, z3, z4, z13⟩, ⟨y1, y2, y3, y7, y4, y5, y8, y6⟩, zb, zW, zM⟩ := hZ
  obtain ⟨⟨x1, x1b⟩, ⟨x2, x2b⟩, ⟨x3, x3b⟩, x4⟩ := hx
  unfold R_X14_errorOf_79
  rw [rg_pos hin, ec, e84, if_neg (show ¬ Int32.ofNat 17 = (1 : Int32) by decide), if_neg (show ¬ Int32.ofNat 17 = (2 : Int32) by decide), if_neg (show ¬ Int32.ofNat 17 = (3 : Int32) by decide), if_neg (show ¬ Int32.ofNat 17 = (4 : Int32) by decide), if_neg (show ¬ Int32.ofNat 17 = (5 : Int32) by decide), if_neg (show ¬ Int32.ofNat 17 = (6 : Int32) by decide), if_neg (show ¬ Int32.ofNat 17 = (7 : Int32) by decide), if_neg (show ¬ Int32.ofNat 17 = (8 : Int32) by decide), if_neg (show ¬ Int32.ofNat 17 = (9 : Int32) by decide), if_neg (show ¬ Int32.ofNat 17 = (10 : Int32) by decide), if_neg (show ¬ Int32.ofNat 17 = (11 : Int32) by decide), if_neg (show ¬ Int32.ofNat 17 = (12 : Int32) by decide), if_neg (show ¬ Int32.ofNat 17 = (13 : Int32) by decide), if_neg (show ¬ Int32.ofNat 17 = (14 : Int32) by decide), if_neg (show ¬ Int32.ofNat 17 = (15 : Int32) by decide), if_neg (show ¬ Int32.ofNat 17 = (16 : Int32) by decide), if_pos (show Int32.ofNat 17 = (17 : Int32) from rfl)]
  have hk := hw.2.2.1 (by omega)
  have h1 : 1 ≤ X.1.1 0 5 := hw.2.2.2.2.2.2.2.1 (by omega)
  have e81 := (h.2.2.1 a ha).1
  have hq : q_X14_way_79 I G (Int32.ofNat a) := by
    refine ⟨hin, fun z => ?_, fun _ => ⟨hin, by rw [z13, n_dec h1]; exact (n_in (by omega)).mpr (by omega), trivial⟩⟩
    rw [ec, e84] at z
    exact absurd z (by decide)
  have eg : g_X14_way_79 I G (Int32.ofNat a) = am_up I 133 (X.1.1 0 5 - 1) (Int32.ofNat (tKK B ln a - 3)) := by
    unfold g_X14_way_79
    rw [ec, e84, if_neg (show ¬ Int32.ofNat 17 = (9 : Int32) by decide), z13, n_dec h1, n_cl (by omega), e81, rk_way hk]
  rw [rg_pos hq, eg]
  refine ⟨_, _, rfl, rfe.up I (Or.inr ⟨by omega, by omega⟩) _ _, ?_⟩
  have ei : it (tKK B ln) (bV B ln) (bC B ln) X (17, a) = X := rfl
  rw [ei]
  unfold rIt
  rw [he]
  refine ⟨fun z => ⟨rfl, ?_⟩, fun n q z => (by cases z)⟩
  refine ⟨⟨by rw [up_row _ _ _ (by omega)]; exact z0, by rw [up_row _ _ _ (by omega)]; exact z1, by rw [up_row _ _ _ (by omega)]; exact z2, by rw [up_row _ _ _ (by omega)]; exact z3, by rw [up_row _ _ _ (by omega)]; exact z4, by rw [up_row _ _ _ (by omega)]; exact z13⟩, ⟨fun k => by rw [up_row _ _ _ (by omega)]; exact y1 k, fun k => by rw [up_row _ _ _ (by omega)]; exact y2 k, fun k => by rw [up_row _ _ _ (by omega)]; exact y3 k, fun k => by rw [up_row _ _ _ (by omega)]; exact y7 k, fun k => by rw [up_row _ _ _ (by omega)]; exact y4 k, fun k => by rw [up_row _ _ _ (by omega)]; exact y5 k, fun k => by rw [up_row _ _ _ (by omega)]; exact y8 k, fun k => by rw [up_row _ _ _ (by omega)]; exact y6 k⟩, zb, fun k => ⟨?_, ?_⟩, fun b k hbk => by rw [up_row _ _ _ (by omega)]; exact zM b k hbk⟩
  · rw [up_row _ _ _ (by omega), (zW k).1]
    show _ = Int32.ofNat (if k = X.1.1 0 5 - 1 then ((W k).1, tKK B ln a - 3) else W k).1
    split <;> rfl
  · rw [up_in]
    show _ = Int32.ofNat (if k = X.1.1 0 5 - 1 then ((W k).1, tKK B ln a - 3) else W k).2
    by_cases hk2 : k = X.1.1 0 5 - 1
    · rw [if_pos hk2, if_pos hk2]
    · rw [if_neg hk2, if_neg hk2]; exact (zW k).2
theorem r_it13 {I : am_I} {ρ : Nat → Nat} {X : sX} {W : Nat → Nat × Nat} {a : Nat} (h : rTK B ln T ρ I) (hZ : rZ I X W) (he : X.2.1 = none) (hx : xl X) (hL : X.1.2 6 = rls ρ 3 0 a ∧ X.1.2 9 = rls ρ 8 0 a ∧ X.1.2 16 = rls ρ 12 0 a) (hn : ∀ k, k < a → (ρ k = 3 ∨ ρ k = 8 ∨ ρ k = 12) → tKK B ln k = 39) (ha : a ≤ T) (hρ : ρ a = 13) (hw : iw (tKK B ln) X (13, a)) : ∃ (err : Int32) (I' : am_I), R_X14_errorOf_79 I G (Int32.ofNat a) = some (err, I', G) ∧ rfe I I' ∧ rIt I' a (it (tKK B ln) (bV B ln) (bC B ln) X (13, a)) (itW (tKK B ln) (bC B ln) X W (13, a)) err := by
  have hT := h.2.1
  have hin : vp_in (Int32.ofNat a) 401 := (n_in (by omega)).mpr (by omega)
  have ec : (Int32.ofNat a).toNatClampNeg = a := n_cl (by omega)
  have e84 : I 84 a = Int32.ofNat 13 := by rw [(h.2.2.2 a ha).1, hρ]
  have hvv := bV_le h.1 a
  obtain ⟨⟨z0, z1, z2, z3, z4, z13⟩, ⟨y1, y2, y3, y7, y4, y5, y8, y6⟩, zb, zW, zM⟩ := hZ
  obtain ⟨⟨x1, x1b⟩, ⟨x2, x2b⟩, ⟨x3, x3b⟩, x4⟩ := hx
  unfold R_X14_errorOf_79
  rw [rg_pos hin, ec, e84, if_neg (show ¬ Int32.ofNat 13 = (1 : Int32) by decide), if_neg (show ¬ Int32.ofNat 13 = (2 : Int32) by decide), if_neg (show ¬ Int32.ofNat 13 = (3 : Int32) by decide), if_neg (show ¬ Int32.ofNat 13 = (4 : Int32) by decide), if_neg (show ¬ Int32.ofNat 13 = (5 : Int32) by decide), if_neg (show ¬ Int32.ofNat 13 = (6 : Int32) by decide), if_neg (show ¬ Int32.ofNat 13 = (7 : Int32) by decide), if_neg (show ¬ Int32.ofNat 13 = (8 : Int32) by decide), if_neg (show ¬ Int32.ofNat 13 = (9 : Int32) by decide), if_neg (show ¬ Int32.ofNat 13 = (10 : Int32) by decide), if_neg (show ¬ Int32.ofNat 13 = (11 : Int32) by decide), if_neg (show ¬ Int32.ofNat 13 = (12 : Int32) by decide), if_pos (show Int32.ofNat 13 = (13 : Int32) from rfl)]
  have hk := hw.1 (by omega)
  have h1 : 1 ≤ X.1.1 0 4 := hw.2.2.2.2.2.2.1 (by omega)
  have hb6 := zb (X.1.1 0 4 - 2)
  have elw : lwl X.1.1 ≤ 1999999 := by unfold lwl; split <;> omega
  have e : R_X14_level_79 I G (Int32.ofNat a) = some ((if lwl X.1.1 ≤ bV B ln a ∧ bV B ln a ≤ 999 then 0 else 5), am_up I 131 (X.1.1 0 4 - 1) (Int32.ofNat (bV B ln a)), G) := by
    unfold R_X14_level_79
    rw [z4, n_dec h1]
    by_cases h11 : X.1.1 0 4 = 1
    · rw [if_pos (show Int32.ofNat (X.1.1 0 4 - 1) = 0 by rw [h11]; rfl), r_nm131 (G := G) (lo := 0) (hi2 := 999) (i := X.1.1 0 4 - 1) (z := Int32.ofNat (X.1.1 0 4 - 1)) (x := (0 : Int32)) (y := (999 : Int32)) h ha hk (by omega) (by omega) (by omega) rfl rfl rfl, rb_go]
      have : lwl X.1.1 = 0 := by unfold lwl; rw [if_pos (by omega)]
      rw [this]
    · have hl : lwl X.1.1 = X.1.1 6 (X.1.1 0 4 - 2) + 1 := by unfold lwl; rw [if_neg (by omega)]
      rw [if_neg (n_ne0 (by omega) (by omega)), n_dec (by omega), show X.1.1 0 4 - 1 - 1 = X.1.1 0 4 - 2 by omega, rg_pos ((n_in (by omega)).mpr (by omega)), n_cl (by omega), y6, n_inc, ← hl, r_nm131 (G := G) (lo := lwl X.1.1) (hi2 := 999) (i := X.1.1 0 4 - 1) (z := Int32.ofNat (X.1.1 0 4 - 1)) (x := Int32.ofNat (lwl X.1.1)) (y := (999 : Int32)) h ha hk (by omega) elw (by omega) rfl rfl rfl, rb_go]
  rw [e, rb_go]
  refine ⟨_, _, rfl, rfe.up I (Or.inr ⟨by omega, by omega⟩) _ _, ?_⟩
  rw [it_13]
  unfold rIt
  dsimp only
  rw [he]
  refine ⟨fun z => ⟨rg_it.1 z, ?_⟩, rg_it.2⟩
  · show rZ _ ((am_up X.1.1 6 (X.1.1 0 4 - 1) (bV B ln a), X.1.2), _) W
    unfold rZ
    dsimp only
    refine ⟨⟨by rw [up_row _ _ _ (by omega), up_row _ _ _ (by omega)]; exact z0, by rw [up_row _ _ _ (by omega), up_row _ _ _ (by omega)]; exact z1, by rw [up_row _ _ _ (by omega), up_row _ _ _ (by omega)]; exact z2, by rw [up_row _ _ _ (by omega), up_row _ _ _ (by omega)]; exact z3, by rw [up_row _ _ _ (by omega), up_row _ _ _ (by omega)]; exact z4, by rw [up_row _ _ _ (by omega), up_row _ _ _ (by omega)]; exact z13⟩, ⟨fun k => by rw [up_row _ _ _ (by omega), up_row _ _ _ (by omega)]; exact y1 k, fun k => by rw [up_row _ _ _ (by omega), up_row _ _ _ (by omega)]; exact y2 k, fun k => by rw [up_row _ _ _ (by omega), up_row _ _ _ (by omega)]; exact y3 k, fun k => by rw [up_row _ _ _ (by omega), up_row _ _ _ (by omega)]; exact y7 k, fun k => by rw [up_row _ _ _ (by omega), up_row _ _ _ (by omega)]; exact y4 k, fun k => by rw [up_row _ _ _ (by omega), up_row _ _ _ (by omega)]; exact y5 k, fun k => by rw [up_row _ _ _ (by omega), up_row _ _ _ (by omega)]; exact y8 k, fun k => rw_eq (y6 k)⟩, fun k => ?_, fun k => ?_, fun b k hbk => ?_⟩
    · rw [up_in]
      split
      · exact hvv
      · exact zb k
    · rw [up_row _ _ _ (by omega), up_row _ _ _ (by omega)]; exact zW k
    · rw [up_row _ _ _ (by omega)]; exact zM b k hbk
theorem r_it14 {I : am_I} {ρ : Nat → Nat} {X : sX} {W : Nat → Nat × Nat} {a : Nat} (h : rTK B ln T ρ I) (hZ : rZ I X W) (he : X.2.1 = none) (hx : xl X) (hL : X.1.2 6 = rls ρ 3 0 a ∧ X.1.2 9 = rls ρ 8 0 a ∧ X.1.2 16 = rls ρ 12 0 a) (hn : ∀ k, k < a → (ρ k = 3 ∨ ρ k = 8 ∨ ρ k = 12) → tKK B ln k = 39) (ha : a ≤ T) (hρ : ρ a = 14) (hw : iw (tKK B ln) X (14, a)) : ∃ (err : Int32) (I' : am_I), R_X14_errorOf_79 I G (Int32.ofNat a) = some (err, I', G) ∧ rfe I I' ∧ rIt I' a (it (tKK B ln) (bV B ln) (bC B ln) X (14, a)) (itW (tKK B ln) (bC B ln) X W (14, a)) err := by
  have hT := h.2.1
  have hin : vp_in (Int32.ofNat a) 401 := (n_in (by omega)).mpr (by omega)
  have ec : (Int32.ofNat a).toNatClampNeg = a := n_cl (by omega)
  have e84 : I 84 a = Int32.ofNat 14 := by rw [(h.2.2.2 a ha).1, hρ]
  have hvv := bV_le h.1 a
  obtain ⟨⟨z0, z1, z2, z3, z4, z13⟩, ⟨y1, y2, y3, y7, y4, y5, y8, y6⟩, zb, zW, zM⟩ := hZ
  obtain ⟨⟨x1, x1b⟩, ⟨x2, x2b⟩, ⟨x3, x3b⟩, x4⟩ := hx
  unfold R_X14_errorOf_79
  rw [rg_pos hin, ec, e84, if_neg (show ¬ Int32.ofNat 14 = (1 : Int32) by decide), if_neg (show ¬ Int32.ofNat 14 = (2 : Int32) by decide), if_neg (show ¬ Int32.ofNat 14 = (3 : Int32) by decide), if_neg (show ¬ Int32.ofNat 14 = (4 : Int32) by decide), if_neg (show ¬ Int32.ofNat 14 = (5 : Int32) by decide), if_neg (show ¬ Int32.ofNat 14 = (6 : Int32) by decide), if_neg (show ¬ Int32.ofNat 14 = (7 : Int32) by decide), if_neg (show ¬ Int32.ofNat 14 = (8 : Int32) by decide), if_neg (show ¬ Int32.ofNat 14 = (9 : Int32) by decide), if_neg (show ¬ Int32.ofNat 14 = (10 : Int32) by decide), if_neg (show ¬ Int32.ofNat 14 = (11 : Int32) by decide), if_neg (show ¬ Int32.ofNat 14 = (12 : Int32) by decide), if_neg (show ¬ Int32.ofNat 14 = (13 : Int32) by decide), if_pos (show Int32.ofNat 14 = (14 : Int32) from rfl)]
  have hk := hw.2.2.2.1 (by omega)
  have e81 : I 81 a = Int32.ofNat (tKK B ln a) := by rw [(h.2.2.1 a ha).1]; rcases hk with q | q | q <;> rw [q] <;> rfl
  by_cases h20 : X.1.1 0 5 < 20
  · have hne : ¬ I 123 13 = (20 : Int32) := by rw [z13]; exact fun z => absurd ((n_eq (b := 20) (by omega) (by omega)).mp z) (by omega)
    have hq : q_X14_order_79 I G (Int32.ofNat a) := ⟨fun _ => trivial, fun _ => ⟨hin, by rw [z13]; exact (n_in (by omega)).mpr h20, trivial⟩⟩
    have ef : f_X14_order_79 I G (Int32.ofNat a) = 0 := if_neg hne
    have eg : g_X14_order_79 I G (Int32.ofNat a) = am_up (am_up I 132 (X.1.1 0 5) (Int32.ofNat (tKK B ln a))) 123 13 (Int32.ofNat (X.1.1 0 5 + 1)) := by
      unfold g_X14_order_79
      rw [if_neg hne, ec, e81, z13, n_cl (by omega), n_inc]
    rw [rg_pos hq, ef, eg]
    refine ⟨_, _, rfl, (rfe.up I (Or.inr ⟨by omega, by omega⟩) _ _).tr (rfe.u3 _ (Or.inr rfl) _), ?_⟩
    rw [it_14]
    unfold rIt
    dsimp only
    rw [he, if_pos h20]
    refine ⟨fun z => ⟨rfl, ?_⟩, (eo_it (Or.inl rfl)).2⟩
    show rZ _ ((am_up X.1.1 0 5 (X.1.1 0 5 + 1), X.1.2), _) _
    unfold rZ
    dsimp only
    refine ⟨⟨by rw [up_in, if_neg (by omega), up_row _ _ _ (by omega), up_in, if_neg (by omega)]; exact z0, by rw [up_in, if_neg (by omega), up_row _ _ _ (by omega), up_in, if_neg (by omega)]; exact z1, by rw [up_in, if_neg (by omega), up_row _ _ _ (by omega), up_in, if_neg (by omega)]; exact z2, by rw [up_in, if_neg (by omega), up_row _ _ _ (by omega), up_in, if_neg (by omega)]; exact z3, by rw [up_in, if_neg (by omega), up_row _ _ _ (by omega), up_in, if_neg (by omega)]; exact z4, by rw [am_up_self, am_up_self]⟩, ⟨fun k => by rw [up_row _ _ _ (by omega), up_row _ _ _ (by omega), up_row _ _ _ (by omega)]; exact y1 k, fun k => by rw [up_row _ _ _ (by omega), up_row _ _ _ (by omega), up_row _ _ _ (by omega)]; exact y2 k, fun k => by rw [up_row _ _ _ (by omega), up_row _ _ _ (by omega), up_row _ _ _ (by omega)]; exact y3 k, fun k => by rw [up_row _ _ _ (by omega), up_row _ _ _ (by omega), up_row _ _ _ (by omega)]; exact y7 k, fun k => by rw [up_row _ _ _ (by omega), up_row _ _ _ (by omega), up_row _ _ _ (by omega)]; exact y4 k, fun k => by rw [up_row _ _ _ (by omega), up_row _ _ _ (by omega), up_row _ _ _ (by omega)]; exact y5 k, fun k => by rw [up_row _ _ _ (by omega), up_row _ _ _ (by omega), up_row _ _ _ (by omega)]; exact y8 k, fun k => by rw [up_row _ _ _ (by omega), up_row _ _ _ (by omega), up_row _ _ _ (by omega)]; exact y6 k⟩, fun k => by rw [up_row _ _ _ (by omega)]; exact zb k, fun k => ⟨?_, ?_⟩, fun b k hbk => by rw [up_row _ _ _ (by omega), up_row _ _ _ (by omega)]; exact zM b k hbk⟩
    · rw [up_row _ _ _ (by omega), up_in]
      show _ = Int32.ofNat (if k = X.1.1 0 5 then (tKK B ln a, (W k).2) else W k).1
      by_cases hk2 : k = X.1.1 0 5
      · rw [if_pos hk2, if_pos hk2]
      · rw [if_neg hk2, if_neg hk2]; exact (zW k).1
    · rw [up_row _ _ _ (by omega), up_row _ _ _ (by omega), (zW k).2]
      show _ = Int32.ofNat (if k = X.1.1 0 5 then (tKK B ln a, (W k).2) else W k).2
      split <;> rfl
  · have hne : I 123 13 = (20 : Int32) := by rw [z13, show X.1.1 0 5 = 20 by omega]; rfl
    have hq : q_X14_order_79 I G (Int32.ofNat a) := ⟨fun _ => trivial, fun z => absurd hne z⟩
    have ef : f_X14_order_79 I G (Int32.ofNat a) = 4 := if_pos hne
    have eg : g_X14_order_79 I G (Int32.ofNat a) = I := if_pos hne
    rw [rg_pos hq, ef, eg]
    refine ⟨_, _, rfl, rfe.rf I, ?_⟩
    rw [it_14]
    unfold rIt
    dsimp only
    rw [he, if_neg h20]
    exact ⟨fun z => absurd (eo_n z).2 (by omega), (eo_it (k := 4) (Or.inr ⟨by omega, by omega⟩)).2⟩
theorem r_it18 {I : am_I} {ρ : Nat → Nat} {X : sX} {W : Nat → Nat × Nat} {a : Nat} (h : rTK B ln T ρ I) (hZ : rZ I X W) (he : X.2.1 = none) (hx : xl X) (hL : X.1.2 6 = rls ρ 3 0 a ∧ X.1.2 9 = rls ρ 8 0 a ∧ X.1.2 16 = rls ρ 12 0 a) (hn : ∀ k, k < a → (ρ k = 3 ∨ ρ k = 8 ∨ ρ k = 12) → tKK B ln k = 39) (ha : a ≤ T) (hρ : ρ a = 18) (hw : iw (tKK B ln) X (18, a)) : ∃ (err : Int32) (I' : am_I), R_X14_errorOf_79 I G (Int32.ofNat a) = some (err, I', G) ∧ rfe I I' ∧ rIt I' a (it (tKK B ln) (bV B ln) (bC B ln) X (18, a)) (itW (tKK B ln) (bC B ln) X W (18, a)) err := by
  have hT := h.2.1
  have hin : vp_in (Int32.ofNat a) 401 := (n_in (by omega)).mpr (by omega)
  have ec : (Int32.ofNat a).toNatClampNeg = a := n_cl (by omega)
  have e84 : I 84 a = Int32.ofNat 18 := by rw [(h.2.2.2 a ha).1, hρ]
  have hvv := bV_le h.1 a
  obtain ⟨⟨z0, z1, z2, z3, z4, z13⟩, ⟨y1, y2, y3, y7, y4, y5, y8, y6⟩, zb, zW, zM⟩ := hZ
  obtain ⟨⟨x1, x1b⟩, ⟨x2, x2b⟩, ⟨x3, x3b⟩, x4⟩ := hx
  unfold R_X14_errorOf_79
  rw [rg_pos hin, ec, e84, if_neg (show ¬ Int32.ofNat 18 = (1 : Int32) by decide), if_neg (show ¬ Int32.ofNat 18 = (2 : Int32) by decide), if_neg (show ¬ Int32.ofNat 18 = (3 : Int32) by decide), if_neg (show ¬ Int32.ofNat 18 = (4 : Int32) by decide), if_neg (show ¬ Int32.ofNat 18 = (5 : Int32) by decide), if_neg (show ¬ Int32.ofNat 18 = (6 : Int32) by decide), if_neg (show ¬ Int32.ofNat 18 = (7 : Int32) by decide), if_neg (show ¬ Int32.ofNat 18 = (8 : Int32) by decide), if_neg (show ¬ Int32.ofNat 18 = (9 : Int32) by decide), if_neg (show ¬ Int32.ofNat 18 = (10 : Int32) by decide), if_neg (show ¬ Int32.ofNat 18 = (11 : Int32) by decide), if_neg (show ¬ Int32.ofNat 18 = (12 : Int32) by decide), if_neg (show ¬ Int32.ofNat 18 = (13 : Int32) by decide), if_neg (show ¬ Int32.ofNat 18 = (14 : Int32) by decide), if_neg (show ¬ Int32.ofNat 18 = (15 : Int32) by decide), if_neg (show ¬ Int32.ofNat 18 = (16 : Int32) by decide), if_neg (show ¬ Int32.ofNat 18 = (17 : Int32) by decide), if_pos (show Int32.ofNat 18 = (18 : Int32) from rfl)]
  have hk := hw.2.1 (by omega)
  rw [r_look (G := G) (l := X.1.2 9) (x := (8 : Int32)) h ha hk (show 8 ≤ 20 by omega) (fun k h1 h2 => hn k h1 (by omega)) hL.2.1 (by omega) rfl, rb_go]
  have ei : it (tKK B ln) (bV B ln) (bC B ln) X (18, a) = (X.1, (eo X.2.1 (if fnd (bC B ln) a (X.1.2 9) 0 = none then 3 else 0) a, wm X.2.2 a (fnd (bC B ln) a (X.1.2 9) 0))) := rfl
  rw [ei]
  refine ⟨_, _, rfl, rfe.up I (Or.inl rfl) _ _, ?_⟩
  unfold rIt
  dsimp only
  rw [he]
  cases hq : fnd (bC B ln) a (X.1.2 9) 0 with
  | none =>
    rw [if_pos rfl, if_pos rfl]
    exact ⟨fun z => absurd (eo_n z).2 (by omega), (eo_it (k := 3) (Or.inr ⟨by omega, by omega⟩)).2⟩
  | some j =>
    rw [if_neg (show ¬ some j = none by intro z; cases z), if_neg (show ¬ some j = none by intro z; cases z)]
    refine ⟨fun z => ⟨rfl, ?_⟩, (eo_it (Or.inl rfl)).2⟩
    refine ⟨⟨by rw [up_row _ _ _ (by omega)]; exact z0, by rw [up_row _ _ _ (by omega)]; exact z1, by rw [up_row _ _ _ (by omega)]; exact z2, by rw [up_row _ _ _ (by omega)]; exact z3, by rw [up_row _ _ _ (by omega)]; exact z4, by rw [up_row _ _ _ (by omega)]; exact z13⟩, ⟨fun k => by rw [up_row _ _ _ (by omega)]; exact y1 k, fun k => by rw [up_row _ _ _ (by omega)]; exact y2 k, fun k => by rw [up_row _ _ _ (by omega)]; exact y3 k, fun k => by rw [up_row _ _ _ (by omega)]; exact y7 k, fun k => by rw [up_row _ _ _ (by omega)]; exact y4 k, fun k => by rw [up_row _ _ _ (by omega)]; exact y5 k, fun k => by rw [up_row _ _ _ (by omega)]; exact y8 k, fun k => by rw [up_row _ _ _ (by omega)]; exact y6 k⟩, zb, fun k => by rw [up_row _ _ _ (by omega), up_row _ _ _ (by omega)]; exact zW k, fun b k hbk => ?_⟩
    rw [up_in]
    have hbk : (if b = a then some j else X.2.2 b) = some k := hbk
    by_cases hb : b = a
    · rw [if_pos hb] at hbk ⊢
      exact fi_m hbk
    · rw [if_neg hb] at hbk ⊢
      exact zM b k hbk
theorem r_it19 {I : am_I} {ρ : Nat → Nat} {X : sX} {W : Nat → Nat × Nat} {a : Nat} (h : rTK B ln T ρ I) (hZ : rZ I X W) (he : X.2.1 = none) (hx : xl X) (hL : X.1.2 6 = rls ρ 3 0 a ∧ X.1.2 9 = rls ρ 8 0 a ∧ X.1.2 16 = rls ρ 12 0 a) (hn : ∀ k, k < a → (ρ k = 3 ∨ ρ k = 8 ∨ ρ k = 12) → tKK B ln k = 39) (ha : a ≤ T) (hρ : ρ a = 19) (hw : iw (tKK B ln) X (19, a)) : ∃ (err : Int32) (I' : am_I), R_X14_errorOf_79 I G (Int32.ofNat a) = some (err, I', G) ∧ rfe I I' ∧ rIt I' a (it (tKK B ln) (bV B ln) (bC B ln) X (19, a)) (itW (tKK B ln) (bC B ln) X W (19, a)) err := by
  have hT := h.2.1
  have hin : vp_in (Int32.ofNat a) 401 := (n_in (by omega)).mpr (by omega)
  have ec : (Int32.ofNat a).toNatClampNeg = a := n_cl (by omega)
  have e84 : I 84 a = Int32.ofNat 19 := by rw [(h.2.2.2 a ha).1, hρ]
  have hvv := bV_le h.1 a
  obtain ⟨⟨z0, z1, z2, z3, z4, z13⟩, ⟨y1, y2, y3, y7, y4, y5, y8, y6⟩, zb, zW, zM⟩ := hZ
  obtain ⟨⟨x1, x1b⟩, ⟨x2, x2b⟩, ⟨x3, x3b⟩, x4⟩ := hx
  unfold R_X14_errorOf_79
  rw [rg_pos hin, ec, e84, if_neg (show ¬ Int32.ofNat 19 = (1 : Int32) by decide), if_neg (show ¬ Int32.ofNat 19 = (2 : Int32) by decide), if_neg (show ¬ Int32.ofNat 19 = (3 : Int32) by decide), if_neg (show ¬ Int32.ofNat 19 = (4 : Int32) by decide), if_neg (show ¬ Int32.ofNat 19 = (5 : Int32) by decide), if_neg (show ¬ Int32.ofNat 19 = (6 : Int32) by decide), if_neg (show ¬ Int32.ofNat 19 = (7 : Int32) by decide), if_neg (show ¬ Int32.ofNat 19 = (8 : Int32) by decide), if_neg (show ¬ Int32.ofNat 19 = (9 : Int32) by decide), if_neg (show ¬ Int32.ofNat 19 = (10 : Int32) by decide), if_neg (show ¬ Int32.ofNat 19 = (11 : Int32) by decide), if_neg (show ¬ Int32.ofNat 19 = (12 : Int32) by decide), if_neg (show ¬ Int32.ofNat 19 = (13 : Int32) by decide), if_neg (show ¬ Int32.ofNat 19 = (14 : Int32) by decide), if_neg (show ¬ Int32.ofNat 19 = (15 : Int32) by decide), if_neg (show ¬ Int32.ofNat 19 = (16 : Int32) by decide), if_neg (show ¬ Int32.ofNat 19 = (17 : Int32) by decide), if_neg (show ¬ Int32.ofNat 19 = (18 : Int32) by decide), if_pos (show Int32.ofNat 19 = (19 : Int32) from rfl)]
  have hk := hw.2.1 (by omega)
  rw [r_look (G := G) (l := X.1.2 16) (x := (12 : Int32)) h ha hk (show 12 ≤ 20 by omega) (fun k h1 h2 => hn k h1 (by omega)) hL.2.2 (by omega) rfl, rb_go]
  have ei : it (tKK B ln) (bV B ln) (bC B ln) X (19, a) = (X.1, (eo X.2.1 (if fnd (bC B ln) a (X.1.2 16) 0 = none then 3 else 0) a, wm X.2.2 a (fnd (bC B ln) a (X.1.2 16) 0))) := rfl
  rw [ei]
  refine ⟨_, _, rfl, rfe.up I (Or.inl rfl) _ _, ?_⟩
  unfold rIt
  dsimp only
  rw [he]
  cases hq : fnd (bC B ln) a (X.1.2 16) 0 with
  | none =>
    rw [if_pos rfl, if_pos rfl]
    exact ⟨fun z => absurd (eo_n z).2 (by omega), (eo_it (k := 3) (Or.inr ⟨by omega, by omega⟩)).2⟩
  | some j =>
    rw [if_neg (show ¬ some j = none by intro z; cases z), if_neg (show ¬ some j = none by intro z; cases z)]
    refine ⟨fun z => ⟨rfl, ?_⟩, (eo_it (Or.inl rfl)).2⟩
    refine ⟨⟨by rw [up_row _ _ _ (by omega)]; exact z0, by rw [up_row _ _ _ (by omega)]; exact z1, by rw [up_row _ _ _ (by omega)]; exact z2, by rw [up_row _ _ _ (by omega)]; exact z3, by rw [up_row _ _ _ (by omega)]; exact z4, by rw [up_row _ _ _ (by omega)]; exact z13⟩, ⟨fun k => by rw [up_row _ _ _ (by omega)]; exact y1 k, fun k => by rw [up_row _ _ _ (by omega)]; exact y2 k, fun k => by rw [up_row _ _ _ (by omega)]; exact y3 k, fun k => by rw [up_row _ _ _ (by omega)]; exact y7 k, fun k => by rw [up_row _ _ _ (by omega)]; exact y4 k, fun k => by rw [up_row _ _ _ (by omega)]; exact y5 k, fun k => by rw [up_row _ _ _ (by omega)]; exact y8 k, fun k => by rw [up_row _ _ _ (by omega)]; exact y6 k⟩, zb, fun k => by rw [up_row _ _ _ (by omega), up_row _ _ _ (by omega)]; exact zW k, fun b k hbk => ?_⟩
    rw [up_in]
    have hbk : (if b = a then some j else X.2.2 b) = some k := hbk
    by_cases hb : b = a
    · rw [if_pos hb] at hbk ⊢
      exact fi_m hbk
    · rw [if_neg hb] at hbk ⊢
      exact zM b k hbk
theorem r_it20 {I : am_I} {ρ : Nat → Nat} {X : sX} {W : Nat → Nat × Nat} {a : Nat} (h : rTK B ln T ρ I) (hZ : rZ I X W) (he : X.2.1 = none) (hx : xl X) (hL : X.1.2 6 = rls ρ 3 0 a ∧ X.1.2 9 = rls ρ 8 0 a ∧ X.1.2 16 = rls ρ 12 0 a) (hn : ∀ k, k < a → (ρ k = 3 ∨ ρ k = 8 ∨ ρ k = 12) → tKK B ln k = 39) (ha : a ≤ T) (hρ : ρ a = 20) (hw : iw (tKK B ln) X (20, a)) : ∃ (err : Int32) (I' : am_I), R_X14_errorOf_79 I G (Int32.ofNat a) = some (err, I', G) ∧ rfe I I' ∧ rIt I' a (it (tKK B ln) (bV B ln) (bC B ln) X (20, a)) (itW (tKK B ln) (bC B ln) X W (20, a)) err := by
  have hT := h.2.1
  have hin : vp_in (Int32.ofNat a) 401 := (n_in (by omega)).mpr (by omega)
  have ec : (Int32.ofNat a).toNatClampNeg = a := n_cl (by omega)
  have e84 : I 84 a = Int32.ofNat 20 := by rw [(h.2.2.2 a ha).1, hρ]
  have hvv := bV_le h.1 a
  obtain ⟨⟨z0, z1, z2, z3, z4, z13⟩, ⟨y1, y2, y3, y7, y4, y5, y8, y6⟩, zb, zW, zM⟩ := hZ
  obtain ⟨⟨x1, x1b⟩, ⟨x2, x2b⟩, ⟨x3, x3b⟩, x4⟩ := hx
  unfold R_X14_errorOf_79
  rw [rg_pos hin, ec, e84, if_neg (show ¬ Int32.ofNat 20 = (1 : Int32) by decide), if_neg (show ¬ Int32.ofNat 20 = (2 : Int32) by decide), if_neg (show ¬ Int32.ofNat 20 = (3 : Int32) by decide), if_neg (show ¬ Int32.ofNat 20 = (4 : Int32) by decide), if_neg (show ¬ Int32.ofNat 20 = (5 : Int32) by decide), if_neg (show ¬ Int32.ofNat 20 = (6 : Int32) by decide), if_neg (show ¬ Int32.ofNat 20 = (7 : Int32) by decide), if_neg (show ¬ Int32.ofNat 20 = (8 : Int32) by decide), if_neg (show ¬ Int32.ofNat 20 = (9 : Int32) by decide), if_neg (show ¬ Int32.ofNat 20 = (10 : Int32) by decide), if_neg (show ¬ Int32.ofNat 20 = (11 : Int32) by decide), if_neg (show ¬ Int32.ofNat 20 = (12 : Int32) by decide), if_neg (show ¬ Int32.ofNat 20 = (13 : Int32) by decide), if_neg (show ¬ Int32.ofNat 20 = (14 : Int32) by decide), if_neg (show ¬ Int32.ofNat 20 = (15 : Int32) by decide), if_neg (show ¬ Int32.ofNat 20 = (16 : Int32) by decide), if_neg (show ¬ Int32.ofNat 20 = (17 : Int32) by decide), if_neg (show ¬ Int32.ofNat 20 = (18 : Int32) by decide), if_neg (show ¬ Int32.ofNat 20 = (19 : Int32) by decide), if_pos (show Int32.ofNat 20 = (20 : Int32) from rfl)]
  have hk := hw.2.1 (by omega)
  rw [r_look (G := G) (l := X.1.2 6) (x := (3 : Int32)) h ha hk (show 3 ≤ 20 by omega) (fun k h1 h2 => hn k h1 (by omega)) hL.1 (by omega) rfl, rb_go]
  have ei : it (tKK B ln) (bV B ln) (bC B ln) X (20, a) = (X.1, (eo X.2.1 (if fnd (bC B ln) a (X.1.2 6) 0 = none then 3 else 0) a, wm X.2.2 a (fnd (bC B ln) a (X.1.2 6) 0))) := rfl
  rw [ei]
  refine ⟨_, _, rfl, rfe.up I (Or.inl rfl) _ _, ?_⟩
  unfold rIt
  dsimp only
  rw [he]
  cases hq : fnd (bC B ln) a (X.1.2 6) 0 with
  | none =>
    rw [if_pos rfl, if_pos rfl]
    exact ⟨fun z => absurd (eo_n z).2 (by omega), (eo_it (k := 3) (Or.inr ⟨by omega, by omega⟩)).2⟩
  | some j =>
    rw [if_neg (show ¬ some j = none by intro z; cases z), if_neg (show ¬ some j = none by intro z; cases z)]
    refine ⟨fun z => ⟨rfl, ?_⟩, (eo_it (Or.inl rfl)).2⟩
    refine ⟨⟨by rw [up_row _ _ _ (by omega)]; exact z0, by rw [up_row _ _ _ (by omega)]; exact z1, by rw [up_row _ _ _ (by omega)]; exact z2, by rw [up_row _ _ _ (by omega)]; exact z3, by rw [up_row _ _ _ (by omega)]; exact z4, by rw [up_row _ _ _ (by omega)]; exact z13⟩, ⟨fun k => by rw [up_row _ _ _ (by omega)]; exact y1 k, fun k => by rw [up_row _ _ _ (by omega)]; exact y2 k, fun k => by rw [up_row _ _ _ (by omega)]; exact y3 k, fun k => by rw [up_row _ _ _ (by omega)]; exact y7 k, fun k => by rw [up_row _ _ _ (by omega)]; exact y4 k, fun k => by rw [up_row _ _ _ (by omega)]; exact y5 k, fun k => by rw [up_row _ _ _ (by omega)]; exact y8 k, fun k => by rw [up_row _ _ _ (by omega)]; exact y6 k⟩, zb, fun k => by rw [up_row _ _ _ (by omega), up_row _ _ _ (by omega)]; exact zW k, fun b k hbk => ?_⟩
    rw [up_in]
    have hbk : (if b = a then some j else X.2.2 b) = some k := hbk
    by_cases hb : b = a
    · rw [if_pos hb] at hbk ⊢
      exact fi_m hbk
    · rw [if_neg hb] at hbk ⊢
      exact zM b k hbk
theorem r_it15 {I : am_I} {ρ : Nat → Nat} {X : sX} {W : Nat → Nat × Nat} {a : Nat} (h : rTK B ln T ρ I) (hZ : rZ I X W) (he : X.2.1 = none) (hx : xl X) (hL : X.1.2 6 = rls ρ 3 0 a ∧ X.1.2 9 = rls ρ 8 0 a ∧ X.1.2 16 = rls ρ 12 0 a) (hn : ∀ k, k < a → (ρ k = 3 ∨ ρ k = 8 ∨ ρ k = 12) → tKK B ln k = 39) (ha : a ≤ T) (hρ : ρ a = 15) (hw : iw (tKK B ln) X (15, a)) : ∃ (err : Int32) (I' : am_I), R_X14_errorOf_79 I G (Int32.ofNat a) = some (err, I', G) ∧ rfe I I' ∧ rIt I' a (it (tKK B ln) (bV B ln) (bC B ln) X (15, a)) (itW (tKK B ln) (bC B ln) X W (15, a)) err := by
  have hT := h.2.1
  have hin : vp_in (Int32.ofNat a) 401 := (n_in (by omega)).mpr (by omega)
  have ec : (Int32.ofNat a).toNatClampNeg = a := n_cl (by omega)
  have e84 : I 84 a = Int32.ofNat 15 := by rw [(h.2.2.2 a ha).1, hρ]
  have hvv := bV_le h.1 a
  obtain ⟨⟨z0, z1, z2, z3, z4, z13⟩, ⟨y1, y2, y3, y7, y4, y5, y8, y6⟩, zb, zW, zM⟩ := hZ
  obtain ⟨⟨x1, x1b⟩, ⟨x2, x2b⟩, ⟨x3, x3b⟩, x4⟩ := hx
  unfold R_X14_errorOf_79
  rw [rg_pos hin, ec, e84, if_neg (show ¬ Int32.ofNat 15 = (1 : Int32) by decide), if_neg (show ¬ Int32.ofNat 15 = (2 : Int32) by decide), if_neg (show ¬ Int32.ofNat 15 = (3 : Int32) by decide), if_neg (show ¬ Int32.ofNat 15 = (4 : Int32) by decide), if_neg (show ¬ Int32.ofNat 15 = (5 : Int32) by decide), if_neg (show ¬ Int32.ofNat 15 = (6 : Int32) by decide), if_neg (show ¬ Int32.ofNat 15 = (7 : Int32) by decide), if_neg (show ¬ Int32.ofNat 15 = (8 : Int32) by decide), if_neg (show ¬ Int32.ofNat 15 = (9 : Int32) by decide), if_neg (show ¬ Int32.ofNat 15 = (10 : Int32) by decide), if_neg (show ¬ Int32.ofNat 15 = (11 : Int32) by decide), if_neg (show ¬ Int32.ofNat 15 = (12 : Int32) by decide), if_neg (show ¬ Int32.ofNat 15 = (13 : Int32) by decide), if_neg (show ¬ Int32.ofNat 15 = (14 : Int32) by decide), if_pos (show Int32.ofNat 15 = (15 : Int32) from rfl)]
  have hk := hw.2.1 (by omega)
  have h1 : 1 ≤ X.1.1 0 5 := hw.2.2.2.2.2.2.2.1 (by omega)
  unfold R_X14_of_79
  rw [r_look (G := G) (l := X.1.2 9) (x := (8 : Int32)) h ha hk (show 8 ≤ 20 by omega) (fun k h1 h2 => hn k h1 (by omega)) hL.2.1 (by omega) rfl, rb_go, rg_pos hin, up_row _ _ _ (show (123 : Nat) ≠ 85 by omega), z13, n_dec h1, rg_pos ((n_in (by omega)).mpr (by omega)), n_cl (show X.1.1 0 5 - 1 < 2147483648 by omega), ec, am_up_self, rb_go]
  have ei : it (tKK B ln) (bV B ln) (bC B ln) X (15, a) = (X.1, (eo X.2.1 (if fnd (bC B ln) a (X.1.2 9) 0 = none then 3 else 0) a, wm X.2.2 a (fnd (bC B ln) a (X.1.2 9) 0))) := rfl
  have eW : itW (tKK B ln) (bC B ln) X W (15, a) = (fun k => if k = X.1.1 0 5 - 1 then ((W k).1, (fnd (bC B ln) a (X.1.2 9) 0).getD 0) else W k) := rfl
  rw [ei, eW]
  refine ⟨_, _, rfl, (rfe.up I (Or.inl rfl) _ _).tr (rfe.up _ (Or.inr ⟨by omega, by omega⟩) _ _), ?_⟩
  unfold rIt
  dsimp only
  rw [he]
  cases hq : fnd (bC B ln) a (X.1.2 9) 0 with
  | none =>
    rw [if_pos rfl, if_pos rfl]
    exact ⟨fun z => absurd (eo_n z).2 (by omega), (eo_it (k := 3) (Or.inr ⟨by omega, by omega⟩)).2⟩
  | some j =>
    rw [if_neg (show ¬ some j = none by intro z; cases z), if_neg (show ¬ some j = none by intro z; cases z)]
    refine ⟨fun z => ⟨rfl, ?_⟩, (eo_it (Or.inl rfl)).2⟩
    refine ⟨⟨by rw [up_row _ _ _ (by omega), up_row _ _ _ (by omega)]; exact z0, by rw [up_row _ _ _ (by omega), up_row _ _ _ (by omega)]; exact z1, by rw [up_row _ _ _ (by omega), up_row _ _ _ (by omega)]; exact z2, by rw [up_row _ _ _ (by omega), up_row _ _ _ (by omega)]; exact z3, by rw [up_row _ _ _ (by omega), up_row _ _ _ (by omega)]; exact z4, by rw [up_row _ _ _ (by omega), up_row _ _ _ (by omega)]; exact z13⟩, ⟨fun k => by rw [up_row _ _ _ (by omega), up_row _ _ _ (by omega)]; exact y1 k, fun k => by rw [up_row _ _ _ (by omega), up_row _ _ _ (by omega)]; exact y2 k, fun k => by rw [up_row _ _ _ (by omega), up_row _ _ _ (by omega)]; exact y3 k, fun k => by rw [up_row _ _ _ (by omega), up_row _ _ _ (by omega)]; exact y7 k, fun k => by rw [up_row _ _ _ (by omega), up_row _ _ _ (by omega)]; exact y4 k, fun k => by rw [up_row _ _ _ (by omega), up_row _ _ _ (by omega)]; exact y5 k, fun k => by rw [up_row _ _ _ (by omega), up_row _ _ _ (by omega)]; exact y8 k, fun k => by rw [up_row _ _ _ (by omega), up_row _ _ _ (by omega)]; exact y6 k⟩, zb, fun k => ⟨?_, ?_⟩, fun b k hbk => ?_⟩
    · rw [up_row _ _ _ (by omega), up_row _ _ _ (by omega), (zW k).1]
      dsimp only
      split <;> rfl
    · rw [up_in]
      dsimp only
      by_cases hk2 : k = X.1.1 0 5 - 1
      · rw [if_pos hk2, if_pos hk2]; rfl
      · rw [if_neg hk2, if_neg hk2, up_row _ _ _ (by omega)]; exact (zW k).2
    · rw [up_row _ _ _ (by omega), up_in]
      have hbk : (if b = a then some j else X.2.2 b) = some k := hbk
      by_cases hb : b = a
      · rw [if_pos hb] at hbk ⊢
        exact fi_m hbk
      · rw [if_neg hb] at hbk ⊢
        exact zM b k hbk
theorem r_it16 {I : am_I} {ρ : Nat → Nat} {X : sX} {W : Nat → Nat × Nat} {a : Nat} (h : rTK B ln T ρ I) (hZ : rZ I X W) (he : X.2.1 = none) (hx : xl X) (hL : X.1.2 6 = rls ρ 3 0 a ∧ X.1.2 9 = rls ρ 8 0 a ∧ X.1.2 16 = rls ρ 12 0 a) (hn : ∀ k, k < a → (ρ k = 3 ∨ ρ k = 8 ∨ ρ k = 12) → tKK B ln k = 39) (ha : a ≤ T) (hρ : ρ a = 16) (hw : iw (tKK B ln) X (16, a)) : ∃ (err : Int32) (I' : am_I), R_X14_errorOf_79 I G (Int32.ofNat a) = some (err, I', G) ∧ rfe I I' ∧ rIt I' a (it (tKK B ln) (bV B ln) (bC B ln) X (16, a)) (itW (tKK B ln) (bC B ln) X W (16, a)) err := by
  have hT := h.2.1
  have hin : vp_in (Int32.ofNat a) 401 := (n_in (by omega)).mpr (by omega)
  have ec : (Int32.ofNat a).toNatClampNeg = a := n_cl (by omega)
  have e84 : I 84 a = Int32.ofNat 16 := by rw [(h.2.2.2 a ha).1, hρ]
  have hvv := bV_le h.1 a
  obtain ⟨⟨z0, z1, z2, z3, z4, z13⟩, ⟨y1, y2, y3, y7, y4, y5, y8, y6⟩, zb, zW, zM⟩ := hZ
  obtain ⟨⟨x1, x1b⟩, ⟨x2, x2b⟩, ⟨x3, x3b⟩, x4⟩ := hx
  unfold R_X14_errorOf_79
  rw [rg_pos hin, ec, e84, if_neg (show ¬ Int32.ofNat 16 = (1 : Int32) by decide), if_neg (show ¬ Int32.ofNat 16 = (2 : Int32) by decide), if_neg (show ¬ Int32.ofNat 16 = (3 : Int32) by decide), if_neg (show ¬ Int32.ofNat 16 = (4 : Int32) by decide), if_neg (show ¬ Int32.ofNat 16 = (5 : Int32) by decide), if_neg (show ¬ Int32.ofNat 16 = (6 : Int32) by decide), if_neg (show ¬ Int32.ofNat 16 = (7 : Int32) by decide), if_neg (show ¬ Int32.ofNat 16 = (8 : Int32) by decide), if_neg (show ¬ Int32.ofNat 16 = (9 : Int32) by decide), if_neg (show ¬ Int32.ofNat 16 = (10 : Int32) by decide), if_neg (show ¬ Int32.ofNat 16 = (11 : Int32) by decide), if_neg (show ¬ Int32.ofNat 16 = (12 : Int32) by decide), if_neg (show ¬ Int32.ofNat 16 = (13 : Int32) by decide), if_neg (show ¬ Int32.ofNat 16 = (14 : Int32) by decide), if_neg (show ¬ Int32.ofNat 16 = (15 : Int32) by decide), if_pos (show Int32.ofNat 16 = (16 : Int32) from rfl)]
  have hk := hw.2.1 (by omega)
  have h1 : 1 ≤ X.1.1 0 5 := hw.2.2.2.2.2.2.2.1 (by omega)
  unfold R_X14_of_79
  rw [r_look (G := G) (l := X.1.2 6) (x := (3 : Int32)) h ha hk (show 3 ≤ 20 by omega) (fun k h1 h2 => hn k h1 (by omega)) hL.1 (by omega) rfl, rb_go, rg_pos hin, up_row _ _ _ (show (123 : Nat) ≠ 85 by omega), z13, n_dec h1, rg_pos ((n_in (by omega)).mpr (by omega)), n_cl (show X.1.1 0 5 - 1 < 2147483648 by omega), ec, am_up_self, rb_go]
  have ei : it (tKK B ln) (bV B ln) (bC B ln) X (16, a) = (X.1, (eo X.2.1 (if fnd (bC B ln) a (X.1.2 6) 0 = none then 3 else 0) a, wm X.2.2 a (fnd (bC B ln) a (X.1.2 6) 0))) := rfl
  have eW : itW (tKK B ln) (bC B ln) X W (16, a) = (fun k => if k = X.1.1 0 5 - 1 then ((W k).1, (fnd (bC B ln) a (X.1.2 6) 0).getD 0) else W k) := rfl
  rw [ei, eW]
  refine ⟨_, _, rfl, (rfe.up I (Or.inl rfl) _ _).tr (rfe.up _ (Or.inr ⟨by omega, by omega⟩) _ _), ?_⟩
  unfold rIt
  dsimp only
  rw [he]
  cases hq : fnd (bC B ln) a (X.1.2 6) 0 with
  | none =>
    rw [if_pos rfl, if_pos rfl]
    exact ⟨fun z => absurd (eo_n z).2 (by omega), (eo_it (k := 3) (Or.inr ⟨by omega, by omega⟩)).2⟩
  | some j =>
    rw [if_neg (show ¬ some j = none by intro z; cases z), if_neg (show ¬ some j = none by intro z; cases z)]
    refine ⟨fun z => ⟨rfl, ?_⟩, (eo_it (Or.inl rfl)).2⟩
    refine ⟨⟨by rw [up_row _ _ _ (by omega), up_row _ _ _ (by omega)]; exact z0, by rw [up_row _ _ _ (by omega), up_row _ _ _ (by omega)]; exact z1, by rw [up_row _ _ _ (by omega), up_row _ _ _ (by omega)]; exact z2, by rw [up_row _ _ _ (by omega), up_row _ _ _ (by omega)]; exact z3, by rw [up_row _ _ _ (by omega), up_row _ _ _ (by omega)]; exact z4, by rw [up_row _ _ _ (by omega), up_row _ _ _ (by omega)]; exact z13⟩, ⟨fun k => by rw [up_row _ _ _ (by omega), up_row _ _ _ (by omega)]; exact y1 k, fun k => by rw [up_row _ _ _ (by omega), up_row _ _ _ (by omega)]; exact y2 k, fun k => by rw [up_row _ _ _ (by omega), up_row _ _ _ (by omega)]; exact y3 k, fun k => by rw [up_row _ _ _ (by omega), up_row _ _ _ (by omega)]; exact y7 k, fun k => by rw [up_row _ _ _ (by omega), up_row _ _ _ (by omega)]; exact y4 k, fun k => by rw [up_row _ _ _ (by omega), up_row _ _ _ (by omega)]; exact y5 k, fun k => by rw [up_row _ _ _ (by omega), up_row _ _ _ (by omega)]; exact y8 k, fun k => by rw [up_row _ _ _ (by omega), up_row _ _ _ (by omega)]; exact y6 k⟩, zb, fun k => ⟨?_, ?_⟩, fun b k hbk => ?_⟩
    · rw [up_row _ _ _ (by omega), up_row _ _ _ (by omega), (zW k).1]
      dsimp only
      split <;> rfl
    · rw [up_in]
      dsimp only
      by_cases hk2 : k = X.1.1 0 5 - 1
      · rw [if_pos hk2, if_pos hk2]; rfl
      · rw [if_neg hk2, if_neg hk2, up_row _ _ _ (by omega)]; exact (zW k).2
    · rw [up_row _ _ _ (by omega), up_in]
      have hbk : (if b = a then some j else X.2.2 b) = some k := hbk
      by_cases hb : b = a
      · rw [if_pos hb] at hbk ⊢
        exact fi_m hbk
      · rw [if_neg hb] at hbk ⊢
        exact zM b k hbk
theorem r_item {I : am_I} {ρ : Nat → Nat} {X : sX} {W : Nat → Nat × Nat} {a : Nat} (h : rTK B ln T ρ I) (hZ : rZ I X W) (he : X.2.1 = none) (hx : xl X) (hL : X.1.2 6 = rls ρ 3 0 a ∧ X.1.2 9 = rls ρ 8 0 a ∧ X.1.2 16 = rls ρ 12 0 a) (hn : ∀ k, k < a → (ρ k = 3 ∨ ρ k = 8 ∨ ρ k = 12) → tKK B ln k = 39) (ha : a ≤ T) {r : Nat} (hρ : ρ a = r) (hw : iw (tKK B ln) X (r, a)) : ∃ (err : Int32) (I' : am_I), R_X14_errorOf_79 I G (Int32.ofNat a) = some (err, I', G) ∧ rfe I I' ∧ rIt I' a (it (tKK B ln) (bV B ln) (bC B ln) X (r, a)) (itW (tKK B ln) (bC B ln) X W (r, a)) err := by
  have h1 := hw.2.2.2.2.2.2.2.2.1
  have h2 := hw.2.2.2.2.2.2.2.2.2
  dsimp only at h1 h2
  rcases (show r = 1 ∨ r = 2 ∨ r = 3 ∨ r = 4 ∨ r = 5 ∨ r = 6 ∨ r = 7 ∨ r = 8 ∨ r = 9 ∨ r = 10 ∨ r = 11 ∨ r = 12 ∨ r = 13 ∨ r = 14 ∨ r = 15 ∨ r = 16 ∨ r = 17 ∨ r = 18 ∨ r = 19 ∨ r = 20 by omega) with rfl | rfl | rfl | rfl | rfl | rfl | rfl | rfl | rfl | rfl | rfl | rfl | rfl | rfl | rfl | rfl | rfl | rfl | rfl | rfl
  · exact r_it1 h hZ he hx hL hn ha hρ hw
  · exact r_it2 h hZ he hx hL hn ha hρ hw
  · exact r_it3 h hZ he hx hL hn ha hρ hw
  · exact r_it4 h hZ he hx hL hn ha hρ hw
  · exact r_it5 h hZ he hx hL hn ha hρ hw
  · exact r_it6 h hZ he hx hL hn ha hρ hw
  · exact r_it7 h hZ he hx hL hn ha hρ hw
  · exact r_it8 h hZ he hx hL hn ha hρ hw
  · exact r_it9 h hZ he hx hL hn ha hρ hw
  · exact r_it10 h hZ he hx hL hn ha hρ hw
  · exact r_it11 h hZ he hx hL hn ha hρ hw
  · exact r_it12 h hZ he hx hL hn ha hρ hw
  · exact r_it13 h hZ he hx hL hn ha hρ hw
  · exact r_it14 h hZ he hx hL hn ha hρ hw
  · exact r_it15 h hZ he hx hL hn ha hρ hw
  · exact r_it16 h hZ he hx hL hn ha hρ hw
  · exact r_it17 h hZ he hx hL hn ha hρ hw
  · exact r_it18 h hZ he hx hL hn ha hρ hw
  · exact r_it19 h hZ he hx hL hn ha hρ hw
  · exact r_it20 h hZ he hx hL hn ha hρ hw
/-- a token with no role -/
theorem r_item0 {I : am_I} {ρ : Nat → Nat} {a : Nat} (h : rTK B ln T ρ I) (ha : a ≤ T) (hρ : ρ a = 0) : R_X14_errorOf_79 I G (Int32.ofNat a) = some ((0 : Int32), I, G) := by
  have hT := h.2.1
  have hin : vp_in (Int32.ofNat a) 401 := (n_in (by omega)).mpr (by omega)
  have ec : (Int32.ofNat a).toNatClampNeg = a := n_cl (by omega)
  have e84 : I 84 a = Int32.ofNat 0 := by rw [(h.2.2.2 a ha).1, hρ]
  unfold R_X14_errorOf_79
  rw [rg_pos hin, ec, e84, if_neg (show ¬ Int32.ofNat 0 = (1 : Int32) by decide), if_neg (show ¬ Int32.ofNat 0 = (2 : Int32) by decide), if_neg (show ¬ Int32.ofNat 0 = (3 : Int32) by decide), if_neg (show ¬ Int32.ofNat 0 = (4 : Int32) by decide), if_neg (show ¬ Int32.ofNat 0 = (5 : Int32) by decide), if_neg (show ¬ Int32.ofNat 0 = (6 : Int32) by decide), if_neg (show ¬ Int32.ofNat 0 = (7 : Int32) by decide), if_neg (show ¬ Int32.ofNat 0 = (8 : Int32) by decide), if_neg (show ¬ Int32.ofNat 0 = (9 : Int32) by decide), if_neg (show ¬ Int32.ofNat 0 = (10 : Int32) by decide), if_neg (show ¬ Int32.ofNat 0 = (11 : Int32) by decide), if_neg (show ¬ Int32.ofNat 0 = (12 : Int32) by decide), if_neg (show ¬ Int32.ofNat 0 = (13 : Int32) by decide), if_neg (show ¬ Int32.ofNat 0 = (14 : Int32) by decide), if_neg (show ¬ Int32.ofNat 0 = (15 : Int32) by decide), if_neg (show ¬ Int32.ofNat 0 = (16 : Int32) by decide), if_neg (show ¬ Int32.ofNat 0 = (17 : Int32) by decide), if_neg (show ¬ Int32.ofNat 0 = (18 : Int32) by decide), if_neg (show ¬ Int32.ofNat 0 = (19 : Int32) by decide), if_neg (show ¬ Int32.ofNat 0 = (20 : Int32) by decide)]
end RIV
