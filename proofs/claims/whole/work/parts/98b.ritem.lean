/-! the reference: one token's error, by its role -/
section RIU
variable {B : Nat → Nat} {ln : Nat} {T : Nat} {G : am_G}
def rIt (I' : am_I) (a : Nat) (Y : sX) (W : Nat → Nat × Nat) (err : Int32) : Prop := (Y.2.1 = none → err = 0 ∧ rZ I' Y W) ∧ ∀ n q, Y.2.1 = some (n, q) → err = Int32.ofNat n ∧ q = a ∧ 2 ≤ n ∧ n ≤ 5
theorem rg_it {V : Nat → Nat} {a lo hi : Nat} : (rgE V none a lo hi = none → (if lo ≤ V a ∧ V a ≤ hi then (0 : Int32) else 5) = 0) ∧ ∀ n q, rgE V none a lo hi = some (n, q) → (if lo ≤ V a ∧ V a ≤ hi then (0 : Int32) else 5) = Int32.ofNat n ∧ q = a ∧ 2 ≤ n ∧ n ≤ 5 := by
  unfold rgE
  by_cases hc : lo ≤ V a ∧ V a ≤ hi
  · rw [if_pos hc, if_pos hc]
    exact ⟨fun _ => rfl, fun n q z => (by cases z)⟩
  · rw [if_neg hc, if_neg hc]
    exact ⟨fun z => (by cases z), fun n q z => (by cases z; exact ⟨rfl, rfl, by omega, by omega⟩)⟩
theorem eo_it {k a : Nat} (hk : k = 0 ∨ (2 ≤ k ∧ k ≤ 5)) : (eo none k a = none → Int32.ofNat k = 0) ∧ ∀ n q, eo none k a = some (n, q) → Int32.ofNat k = Int32.ofNat n ∧ q = a ∧ 2 ≤ n ∧ n ≤ 5 := by
  unfold eo
  by_cases hc : k = 0
  · rw [if_pos hc]
    exact ⟨fun _ => by rw [hc]; rfl, fun n q z => (by cases z)⟩
  · rw [if_neg hc]
    exact ⟨fun z => (by cases z), fun n q z => (by cases z; exact ⟨rfl, rfl, by omega, by omega⟩)⟩
theorem nwE_v {C : Nat → Nat} {l : List Nat} {cap a : Nat} : nwE C l cap a = 0 ∨ (2 ≤ nwE C l cap a ∧ nwE C l cap a ≤ 5) := by
  unfold nwE
  split
  · split <;> omega
  · omega
theorem rw_eq {I : am_I} {p : sP} {c r i k : Nat} {v : Nat} (h : I c k = Int32.ofNat (p r k)) : am_up I c i (Int32.ofNat v) c k = Int32.ofNat (am_up p r i v r k) := by
  rw [up_in, up_in]
  by_cases hk : k = i
  · rw [if_pos hk, if_pos hk]
  · rw [if_neg hk, if_neg hk]; exact h
theorem r_it4 {I : am_I} {ρ : Nat → Nat} {X : sX} {W : Nat → Nat × Nat} {a : Nat} (h : rTK B ln T ρ I) (hZ : rZ I X W) (he : X.2.1 = none) (hx : xl X) (hL : X.1.2 6 = rls ρ 3 0 a ∧ X.1.2 9 = rls ρ 8 0 a ∧ X.1.2 16 = rls ρ 12 0 a) (hn : ∀ k, k < a → (ρ k = 3 ∨ ρ k = 8 ∨ ρ k = 12) → tKK B ln k = 39) (ha : a ≤ T) (hρ : ρ a = 4) (hw : iw (tKK B ln) X (4, a)) : ∃ (err : Int32) (I' : am_I), R_X14_errorOf_79 I G (Int32.ofNat a) = some (err, I', G) ∧ rfe I I' ∧ rIt I' a (it (tKK B ln) (bV B ln) (bC B ln) X (4, a)) (itW (tKK B ln) (bC B ln) X W (4, a)) err := by
  have hT := h.2.1
  have hin : vp_in (Int32.ofNat a) 401 := (n_in (by omega)).mpr (by omega)
  have ec : (Int32.ofNat a).toNatClampNeg = a := n_cl (by omega)
  have e84 : I 84 a = Int32.ofNat 4 := by rw [(h.2.2.2 a ha).1, hρ]
  have hvv := bV_le h.1 a
  obtain ⟨⟨z0, z1, z2, z3, z4, z13⟩, ⟨y1, y2, y3, y7, y4, y5, y8, y6⟩, zb, zW, zM⟩ := hZ
  obtain ⟨⟨x1, x1b⟩, ⟨x2, x2b⟩, ⟨x3, x3b⟩, x4⟩ := hx
  unfold R_X14_errorOf_79
  rw [rg_pos hin, ec, e84, if_neg (show ¬ Int32.ofNat 4 = (1 : Int32) by decide), if_neg (show ¬ Int32.ofNat 4 = (2 : Int32) by decide), if_neg (show ¬ Int32.ofNat 4 = (3 : Int32) by decide), if_pos (show Int32.ofNat 4 = (4 : Int32) from rfl)]
  have hk := hw.1 (by omega)
  have h1 : 1 ≤ X.1.1 0 2 := hw.2.2.2.2.1 (by omega)
  rw [r_nm124 (G := G) (lo := 1) (hi2 := 8) (i := X.1.1 0 2 - 1) (z := I 123 2 - (1 : Int32)) (x := (1 : Int32)) (y := (8 : Int32)) h ha hk (by omega) (by omega) (by omega) (by rw [z2, n_dec h1]) rfl rfl, rb_go]
  refine ⟨_, _, rfl, rfe.up I (Or.inr ⟨by omega, by omega⟩) _ _, ?_⟩
  rw [it_4]
  unfold rIt
  dsimp only
  rw [he]
  refine ⟨fun z => ⟨rg_it.1 z, ?_⟩, rg_it.2⟩
  · show rZ _ ((am_up X.1.1 1 (X.1.1 0 2 - 1) (bV B ln a), X.1.2), _) W
    unfold rZ
    dsimp only
    refine ⟨⟨by rw [up_row _ _ _ (by omega), up_row _ _ _ (by omega)]; exact z0, by rw [up_row _ _ _ (by omega), up_row _ _ _ (by omega)]; exact z1, by rw [up_row _ _ _ (by omega), up_row _ _ _ (by omega)]; exact z2, by rw [up_row _ _ _ (by omega), up_row _ _ _ (by omega)]; exact z3, by rw [up_row _ _ _ (by omega), up_row _ _ _ (by omega)]; exact z4, by rw [up_row _ _ _ (by omega), up_row _ _ _ (by omega)]; exact z13⟩, ⟨fun k => rw_eq (y1 k), fun k => by rw [up_row _ _ _ (by omega), up_row _ _ _ (by omega)]; exact y2 k, fun k => by rw [up_row _ _ _ (by omega), up_row _ _ _ (by omega)]; exact y3 k, fun k => by rw [up_row _ _ _ (by omega), up_row _ _ _ (by omega)]; exact y7 k, fun k => by rw [up_row _ _ _ (by omega), up_row _ _ _ (by omega)]; exact y4 k, fun k => by rw [up_row _ _ _ (by omega), up_row _ _ _ (by omega)]; exact y5 k, fun k => by rw [up_row _ _ _ (by omega), up_row _ _ _ (by omega)]; exact y8 k, fun k => by rw [up_row _ _ _ (by omega), up_row _ _ _ (by omega)]; exact y6 k⟩, fun k => ?_, fun k => ?_, fun b k hbk => ?_⟩
    · rw [up_row _ _ _ (by omega)]; exact zb k
    · rw [up_row _ _ _ (by omega), up_row _ _ _ (by omega)]; exact zW k
    · rw [up_row _ _ _ (by omega)]; exact zM b k hbk
theorem r_it5 {I : am_I} {ρ : Nat → Nat} {X : sX} {W : Nat → Nat × Nat} {a : Nat} (h : rTK B ln T ρ I) (hZ : rZ I X W) (he : X.2.1 = none) (hx : xl X) (hL : X.1.2 6 = rls ρ 3 0 a ∧ X.1.2 9 = rls ρ 8 0 a ∧ X.1.2 16 = rls ρ 12 0 a) (hn : ∀ k, k < a → (ρ k = 3 ∨ ρ k = 8 ∨ ρ k = 12) → tKK B ln k = 39) (ha : a ≤ T) (hρ : ρ a = 5) (hw : iw (tKK B ln) X (5, a)) : ∃ (err : Int32) (I' : am_I), R_X14_errorOf_79 I G (Int32.ofNat a) = some (err, I', G) ∧ rfe I I' ∧ rIt I' a (it (tKK B ln) (bV B ln) (bC B ln) X (5, a)) (itW (tKK B ln) (bC B ln) X W (5, a)) err := by
  have hT := h.2.1
  have hin : vp_in (Int32.ofNat a) 401 := (n_in (by omega)).mpr (by omega)
  have ec : (Int32.ofNat a).toNatClampNeg = a := n_cl (by omega)
  have e84 : I 84 a = Int32.ofNat 5 := by rw [(h.2.2.2 a ha).1, hρ]
  have hvv := bV_le h.1 a
  obtain ⟨⟨z0, z1, z2, z3, z4, z13⟩, ⟨y1, y2, y3, y7, y4, y5, y8, y6⟩, zb, zW, zM⟩ := hZ
  obtain ⟨⟨x1, x1b⟩, ⟨x2, x2b⟩, ⟨x3, x3b⟩, x4⟩ := hx
  unfold R_X14_errorOf_79
  rw [rg_pos hin, ec, e84, if_neg (show ¬ Int32.ofNat 5 = (1 : Int32) by decide), if_neg (show ¬ Int32.ofNat 5 = (2 : Int32) by decide), if_neg (show ¬ Int32.ofNat 5 = (3 : Int32) by decide), if_neg (show ¬ Int32.ofNat 5 = (4 : Int32) by decide), if_pos (show Int32.ofNat 5 = (5 : Int32) from rfl)]
  have hk := hw.1 (by omega)
  have h1 : 1 ≤ X.1.1 0 2 := hw.2.2.2.2.1 (by omega)
  rw [r_nm125 (G := G) (lo := 1) (hi2 := 8) (i := X.1.1 0 2 - 1) (z := I 123 2 - (1 : Int32)) (x := (1 : Int32)) (y := (8 : Int32)) h ha hk (by omega) (by omega) (by omega) (by rw [z2, n_dec h1]) rfl rfl, rb_go]
  refine ⟨_, _, rfl, rfe.up I (Or.inr ⟨by omega, by omega⟩) _ _, ?_⟩
  rw [it_5]
  unfold rIt
  dsimp only
  rw [he]
  refine ⟨fun z => ⟨rg_it.1 z, ?_⟩, rg_it.2⟩
  · show rZ _ ((am_up X.1.1 2 (X.1.1 0 2 - 1) (bV B ln a), X.1.2), _) W
    unfold rZ
    dsimp only
    refine ⟨⟨by rw [up_row _ _ _ (by omega), up_row _ _ _ (by omega)]; exact z0, by rw [up_row _ _ _ (by omega), up_row _ _ _ (by omega)]; exact z1, by rw [up_row _ _ _ (by omega), up_row _ _ _ (by omega)]; exact z2, by rw [up_row _ _ _ (by omega), up_row _ _ _ (by omega)]; exact z3, by rw [up_row _ _ _ (by omega), up_row _ _ _ (by omega)]; exact z4, by rw [up_row _ _ _ (by omega), up_row _ _ _ (by omega)]; exact z13⟩, ⟨fun k => by rw [up_row _ _ _ (by omega), up_row _ _ _ (by omega)]; exact y1 k, fun k => rw_eq (y2 k), fun k => by rw [up_row _ _ _ (by omega), up_row _ _ _ (by omega)]; exact y3 k, fun k => by rw [up_row _ _ _ (by omega), up_row _ _ _ (by omega)]; exact y7 k, fun k => by rw [up_row _ _ _ (by omega), up_row _ _ _ (by omega)]; exact y4 k, fun k => by rw [up_row _ _ _ (by omega), up_row _ _ _ (by omega)]; exact y5 k, fun k => by rw [up_row _ _ _ (by omega), up_row _ _ _ (by omega)]; exact y8 k, fun k => by rw [up_row _ _ _ (by omega), up_row _ _ _ (by omega)]; exact y6 k⟩, fun k => ?_, fun k => ?_, fun b k hbk => ?_⟩
    · rw [up_row _ _ _ (by omega)]; exact zb k
    · rw [up_row _ _ _ (by omega), up_row _ _ _ (by omega)]; exact zW k
    · rw [up_row _ _ _ (by omega)]; exact zM b k hbk
theorem r_it6 {I : am_I} {ρ : Nat → Nat} {X : sX} {W : Nat → Nat × Nat} {a : Nat} (h : rTK B ln T ρ I) (hZ : rZ I X W) (he : X.2.1 = none) (hx : xl X) (hL : X.1.2 6 = rls ρ 3 0 a ∧ X.1.2 9 = rls ρ 8 0 a ∧ X.1.2 16 = rls ρ 12 0 a) (hn : ∀ k, k < a → (ρ k = 3 ∨ ρ k = 8 ∨ ρ k = 12) → tKK B ln k = 39) (ha : a ≤ T) (hρ : ρ a = 6) (hw : iw (tKK B ln) X (6, a)) : ∃ (err : Int32) (I' : am_I), R_X14_errorOf_79 I G (Int32.ofNat a) = some (err, I', G) ∧ rfe I I' ∧ rIt I' a (it (tKK B ln) (bV B ln) (bC B ln) X (6, a)) (itW (tKK B ln) (bC B ln) X W (6, a)) err := by
  have hT := h.2.1
  have hin : vp_in (Int32.ofNat a) 401 := (n_in (by omega)).mpr (by omega)
  have ec : (Int32.ofNat a).toNatClampNeg = a := n_cl (by omega)
  have e84 : I 84 a = Int32.ofNat 6 := by rw [(h.2.2.2 a ha).1, hρ]
  have hvv := bV_le h.1 a
  obtain ⟨⟨z0, z1, z2, z3, z4, z13⟩, ⟨y1, y2, y3, y7, y4, y5, y8, y6⟩, zb, zW, zM⟩ := hZ
  obtain ⟨⟨x1, x1b⟩, ⟨x2, x2b⟩, ⟨x3, x3b⟩, x4⟩ := hx
  unfold R_X14_errorOf_79
  rw [rg_pos hin, ec, e84, if_neg (show ¬ Int32.ofNat 6 = (1 : Int32) by decide), if_neg (show ¬ Int32.ofNat 6 = (2 : Int32) by decide), if_neg (show ¬ Int32.ofNat 6 = (3 : Int32) by decide), if_neg (show ¬ Int32.ofNat 6 = (4 : Int32) by decide), if_neg (show ¬ Int32.ofNat 6 = (5 : Int32) by decide), if_pos (show Int32.ofNat 6 = (6 : Int32) from rfl)]
  have hk := hw.1 (by omega)
  have h1 : 1 ≤ X.1.1 0 2 := hw.2.2.2.2.1 (by omega)
  rw [r_nm126 (G := G) (lo := 1) (hi2 := 9) (i := X.1.1 0 2 - 1) (z := I 123 2 - (1 : Int32)) (x := (1 : Int32)) (y := (9 : Int32)) h ha hk (by omega) (by omega) (by omega) (by rw [z2, n_dec h1]) rfl rfl, rb_go]
  refine ⟨_, _, rfl, rfe.up I (Or.inr ⟨by omega, by omega⟩) _ _, ?_⟩
  rw [it_6]
  unfold rIt
  dsimp only
  rw [he]
  refine ⟨fun z => ⟨rg_it.1 z, ?_⟩, rg_it.2⟩
  · show rZ _ ((am_up X.1.1 3 (X.1.1 0 2 - 1) (bV B ln a), X.1.2), _) W
    unfold rZ
    dsimp only
    refine ⟨⟨by rw [up_row _ _ _ (by omega), up_row _ _ _ (by omega)]; exact z0, by rw [up_row _ _ _ (by omega), up_row _ _ _ (by omega)]; exact z1, by rw [up_row _ _ _ (by omega), up_row _ _ _ (by omega)]; exact z2, by rw [up_row _ _ _ (by omega), up_row _ _ _ (by omega)]; exact z3, by rw [up_row _ _ _ (by omega), up_row _ _ _ (by omega)]; exact z4, by rw [up_row _ _ _ (by omega), up_row _ _ _ (by omega)]; exact z13⟩, ⟨fun k => by rw [up_row _ _ _ (by omega), up_row _ _ _ (by omega)]; exact y1 k, fun k => by rw [up_row _ _ _ (by omega), up_row _ _ _ (by omega)]; exact y2 k, fun k => rw_eq (y3 k), fun k => by rw [up_row _ _ _ (by omega), up_row _ _ _ (by omega)]; exact y7 k, fun k => by rw [up_row _ _ _ (by omega), up_row _ _ _ (by omega)]; exact y4 k, fun k => by rw [up_row _ _ _ (by omega), up_row _ _ _ (by omega)]; exact y5 k, fun k => by rw [up_row _ _ _ (by omega), up_row _ _ _ (by omega)]; exact y8 k, fun k => by rw [up_row _ _ _ (by omega), up_row _ _ _ (by omega)]; exact y6 k⟩, fun k => ?_, fun k => ?_, fun b k hbk => ?_⟩
    · rw [up_row _ _ _ (by omega)]; exact zb k
    · rw [up_row _ _ _ (by omega), up_row _ _ _ (by omega)]; exact zW k
    · rw [up_row _ _ _ (by omega)]; exact zM b k hbk
theorem r_it7 {I : am_I} {ρ : Nat → Nat} {X : sX} {W : Nat → Nat × Nat} {a : Nat} (h : rTK B ln T ρ I) (hZ : rZ I X W) (he : X.2.1 = none) (hx : xl X) (hL : X.1.2 6 = rls ρ 3 0 a ∧ X.1.2 9 = rls ρ 8 0 a ∧ X.1.2 16 = rls ρ 12 0 a) (hn : ∀ k, k < a → (ρ k = 3 ∨ ρ k = 8 ∨ ρ k = 12) → tKK B ln k = 39) (ha : a ≤ T) (hρ : ρ a = 7) (hw : iw (tKK B ln) X (7, a)) : ∃ (err : Int32) (I' : am_I), R_X14_errorOf_79 I G (Int32.ofNat a) = some (err, I', G) ∧ rfe I I' ∧ rIt I' a (it (tKK B ln) (bV B ln) (bC B ln) X (7, a)) (itW (tKK B ln) (bC B ln) X W (7, a)) err := by
  have hT := h.2.1
  have hin : vp_in (Int32.ofNat a) 401 := (n_in (by omega)).mpr (by omega)
  have ec : (Int32.ofNat a).toNatClampNeg = a := n_cl (by omega)
  have e84 : I 84 a = Int32.ofNat 7 := by rw [(h.2.2.2 a ha).1, hρ]
  have hvv := bV_le h.1 a
  obtain ⟨⟨z0, z1, z2, z3, z4, z13⟩, ⟨y1, y2, y3, y7, y4, y5, y8, y6⟩, zb, zW, zM⟩ := hZ
  obtain ⟨⟨x1, x1b⟩, ⟨x2, x2b⟩, ⟨x3, x3b⟩, x4⟩ := hx
  unfold R_X14_errorOf_79
  rw [rg_pos hin, ec, e84, if_neg (show ¬ Int32.ofNat 7 = (1 : Int32) by decide), if_neg (show ¬ Int32.ofNat 7 = (2 : Int32) by decide), if_neg (show ¬ Int32.ofNat 7 = (3 : Int32) by decide), if_neg (show ¬ Int32.ofNat 7 = (4 : Int32) by decide), if_neg (show ¬ Int32.ofNat 7 = (5 : Int32) by decide), if_neg (show ¬ Int32.ofNat 7 = (6 : Int32) by decide), if_pos (show Int32.ofNat 7 = (7 : Int32) from rfl)]
  have hk := hw.1 (by omega)
  have h1 : 1 ≤ X.1.1 0 2 := hw.2.2.2.2.1 (by omega)
  rw [r_nm127 (G := G) (lo := 0) (hi2 := 999) (i := X.1.1 0 2 - 1) (z := I 123 2 - (1 : Int32)) (x := (0 : Int32)) (y := (999 : Int32)) h ha hk (by omega) (by omega) (by omega) (by rw [z2, n_dec h1]) rfl rfl, rb_go]
  refine ⟨_, _, rfl, rfe.up I (Or.inr ⟨by omega, by omega⟩) _ _, ?_⟩
  rw [it_7]
  unfold rIt
  dsimp only
  rw [he]
  refine ⟨fun z => ⟨rg_it.1 z, ?_⟩, rg_it.2⟩
  · show rZ _ ((am_up X.1.1 7 (X.1.1 0 2 - 1) (bV B ln a), X.1.2), _) W
    unfold rZ
    dsimp only
    refine ⟨⟨by rw [up_row _ _ _ (by omega), up_row _ _ _ (by omega)]; exact z0, by rw [up_row _ _ _ (by omega), up_row _ _ _ (by omega)]; exact z1, by rw [up_row _ _ _ (by omega), up_row _ _ _ (by omega)]; exact z2, by rw [up_row _ _ _ (by omega), up_row _ _ _ (by omega)]; exact z3, by rw [up_row _ _ _ (by omega), up_row _ _ _ (by omega)]; exact z4, by rw [up_row _ _ _ (by omega), up_row _ _ _ (by omega)]; exact z13⟩, ⟨fun k => by rw [up_row _ _ _ (by omega), up_row _ _ _ (by omega)]; exact y1 k, fun k => by rw [up_row _ _ _ (by omega), up_row _ _ _ (by omega)]; exact y2 k, fun k => by rw [up_row _ _ _ (by omega), up_row _ _ _ (by omega)]; exact y3 k, fun k => rw_eq (y7 k), fun k => by rw [up_row _ _ _ (by omega), up_row _ _ _ (by omega)]; exact y4 k, fun k => by rw [up_row _ _ _ (by omega), up_row _ _ _ (by omega)]; exact y5 k, fun k => by rw [up_row _ _ _ (by omega), up_row _ _ _ (by omega)]; exact y8 k, fun k => by rw [up_row _ _ _ (by omega), up_row _ _ _ (by omega)]; exact y6 k⟩, fun k => ?_, fun k => ?_, fun b k hbk => ?_⟩
    · rw [up_row _ _ _ (by omega)]; exact zb k
    · rw [up_row _ _ _ (by omega), up_row _ _ _ (by omega)]; exact zW k
    · rw [up_row _ _ _ (by omega)]; exact zM b k hbk
theorem r_it10 {I : am_I} {ρ : Nat → Nat} {X : sX} {W : Nat → Nat × Nat} {a : Nat} (h : rTK B ln T ρ I) (hZ : rZ I X W) (he : X.2.1 = none) (hx : xl X) (hL : X.1.2 6 = rls ρ 3 0 a ∧ X.1.2 9 = rls ρ 8 0 a ∧ X.1.2 16 = rls ρ 12 0 a) (hn : ∀ k, k < a → (ρ k = 3 ∨ ρ k = 8 ∨ ρ k = 12) → tKK B ln k = 39) (ha : a ≤ T) (hρ : ρ a = 10) (hw : iw (tKK B ln) X (10, a)) : ∃ (err : Int32) (I' : am_I), R_X14_errorOf_79 I G (Int32.ofNat a) = some (err, I', G) ∧ rfe I I' ∧ rIt I' a (it (tKK B ln) (bV B ln) (bC B ln) X (10, a)) (itW (tKK B ln) (bC B ln) X W (10, a)) err := by
  have hT := h.2.1
  have hin : vp_in (Int32.ofNat a) 401 := (n_in (by omega)).mpr (by omega)
  have ec : (Int32.ofNat a).toNatClampNeg = a := n_cl (by omega)
  have e84 : I 84 a = Int32.ofNat 10 := by rw [(h.2.2.2 a ha).1, hρ]
  have hvv := bV_le h.1 a
  obtain ⟨⟨z0, z1, z2, z3, z4, z13⟩, ⟨y1, y2, y3, y7, y4, y5, y8, y6⟩, zb, zW, zM⟩ := hZ
  obtain ⟨⟨x1, x1b⟩, ⟨x2, x2b⟩, ⟨x3, x3b⟩, x4⟩ := hx
  unfold R_X14_errorOf_79
  rw [rg_pos hin, ec, e84, if_neg (show ¬ Int32.ofNat 10 = (1 : Int32) by decide), if_neg (show ¬ Int32.ofNat 10 = (2 : Int32) by decide), if_neg (show ¬ Int32.ofNat 10 = (3 : Int32) by decide), if_neg (show ¬ Int32.ofNat 10 = (4 : Int32) by decide), if_neg (show ¬ Int32.ofNat 10 = (5 : Int32) by decide), if_neg (show ¬ Int32.ofNat 10 = (6 : Int32) by decide), if_neg (show ¬ Int32.ofNat 10 = (7 : Int32) by decide), if_neg (show ¬ Int32.ofNat 10 = (8 : Int32) by decide), if_neg (show ¬ Int32.ofNat 10 = (9 : Int32) by decide), if_pos (show Int32.ofNat 10 = (10 : Int32) from rfl)]
  have hk := hw.1 (by omega)
  have h1 : 1 ≤ X.1.1 0 3 := hw.2.2.2.2.2.1 (by omega)
  rw [r_nm129 (G := G) (lo := 1) (hi2 := 8) (i := X.1.1 0 3 - 1) (z := I 123 3 - (1 : Int32)) (x := (1 : Int32)) (y := (8 : Int32)) h ha hk (by omega) (by omega) (by omega) (by rw [z3, n_dec h1]) rfl rfl, rb_go]
  refine ⟨_, _, rfl, rfe.up I (Or.inr ⟨by omega, by omega⟩) _ _, ?_⟩
  rw [it_10]
  unfold rIt
  dsimp only
  rw [he]
  refine ⟨fun z => ⟨rg_it.1 z, ?_⟩, rg_it.2⟩
  · show rZ _ ((am_up X.1.1 5 (X.1.1 0 3 - 1) (bV B ln a), X.1.2), _) W
    unfold rZ
    dsimp only
    refine ⟨⟨by rw [up_row _ _ _ (by omega), up_row _ _ _ (by omega)]; exact z0, by rw [up_row _ _ _ (by omega), up_row _ _ _ (by omega)]; exact z1, by rw [up_row _ _ _ (by omega), up_row _ _ _ (by omega)]; exact z2, by rw [up_row _ _ _ (by omega), up_row _ _ _ (by omega)]; exact z3, by rw [up_row _ _ _ (by omega), up_row _ _ _ (by omega)]; exact z4, by rw [up_row _ _ _ (by omega), up_row _ _ _ (by omega)]; exact z13⟩, ⟨fun k => by rw [up_row _ _ _ (by omega), up_row _ _ _ (by omega)]; exact y1 k, fun k => by rw [up_row _ _ _ (by omega), up_row _ _ _ (by omega)]; exact y2 k, fun k => by rw [up_row _ _ _ (by omega), up_row _ _ _ (by omega)]; exact y3 k, fun k => by rw [up_row _ _ _ (by omega), up_row _ _ _ (by omega)]; exact y7 k, fun k => by rw [up_row _ _ _ (by omega), up_row _ _ _ (by omega)]; exact y4 k, fun k => rw_eq (y5 k), fun k => by rw [up_row _ _ _ (by omega), up_row _ _ _ (by omega)]; exact y8 k, fun k => by rw [up_row _ _ _ (by omega), up_row _ _ _ (by omega)]; exact y6 k⟩, fun k => ?_, fun k => ?_, fun b k hbk => ?_⟩
    · rw [up_row _ _ _ (by omega)]; exact zb k
    · rw [up_row _ _ _ (by omega), up_row _ _ _ (by omega)]; exact zW k
    · rw [up_row _ _ _ (by omega)]; exact zM b k hbk
theorem r_it11 {I : am_I} {ρ : Nat → Nat} {X : sX} {W : Nat → Nat × Nat} {a : Nat} (h : rTK B ln T ρ I) (hZ : rZ I X W) (he : X.2.1 = none) (hx : xl X) (hL : X.1.2 6 = rls ρ 3 0 a ∧ X.1.2 9 = rls ρ 8 0 a ∧ X.1.2 16 = rls ρ 12 0 a) (hn : ∀ k, k < a → (ρ k = 3 ∨ ρ k = 8 ∨ ρ k = 12) → tKK B ln k = 39) (ha : a ≤ T) (hρ : ρ a = 11) (hw : iw (tKK B ln) X (11, a)) : ∃ (err : Int32) (I' : am_I), R_X14_errorOf_79 I G (Int32.ofNat a) = some (err, I', G) ∧ rfe I I' ∧ rIt I' a (it (tKK B ln) (bV B ln) (bC B ln) X (11, a)) (itW (tKK B ln) (bC B ln) X W (11, a)) err := by
  have hT := h.2.1
  have hin : vp_in (Int32.ofNat a) 401 := (n_in (by omega)).mpr (by omega)
  have ec : (Int32.ofNat a).toNatClampNeg = a := n_cl (by omega)
  have e84 : I 84 a = Int32.ofNat 11 := by rw [(h.2.2.2 a ha).1, hρ]
  have hvv := bV_le h.1 a
  obtain ⟨⟨z0, z1, z2, z3, z4, z13⟩, ⟨y1, y2, y3, y7, y4, y5, y8, y6⟩, zb, zW, zM⟩ := hZ
  obtain ⟨⟨x1, x1b⟩, ⟨x2, x2b⟩, ⟨x3, x3b⟩, x4⟩ := hx
  unfold R_X14_errorOf_79
  rw [rg_pos hin, ec, e84, if_neg (show ¬ Int32.ofNat 11 = (1 : Int32) by decide), if_neg (show ¬ Int32.ofNat 11 = (2 : Int32) by decide), if_neg (show ¬ Int32.ofNat 11 = (3 : Int32) by decide), if_neg (show ¬ Int32.ofNat 11 = (4 : Int32) by decide), if_neg (show ¬ Int32.ofNat 11 = (5 : Int32) by decide), if_neg (show ¬ Int32.ofNat 11 = (6 : Int32) by decide), if_neg (show ¬ Int32.ofNat 11 = (7 : Int32) by decide), if_neg (show ¬ Int32.ofNat 11 = (8 : Int32) by decide), if_neg (show ¬ Int32.ofNat 11 = (9 : Int32) by decide), if_neg (show ¬ Int32.ofNat 11 = (10 : Int32) by decide), if_pos (show Int32.ofNat 11 = (11 : Int32) from rfl)]
  have hk := hw.1 (by omega)
  have h1 : 1 ≤ X.1.1 0 3 := hw.2.2.2.2.2.1 (by omega)
  rw [r_nm130 (G := G) (lo := 0) (hi2 := 16) (i := X.1.1 0 3 - 1) (z := I 123 3 - (1 : Int32)) (x := (0 : Int32)) (y := (16 : Int32)) h ha hk (by omega) (by omega) (by omega) (by rw [z3, n_dec h1]) rfl rfl, rb_go]
  refine ⟨_, _, rfl, rfe.up I (Or.inr ⟨by omega, by omega⟩) _ _, ?_⟩
  rw [it_11]
  unfold rIt
  dsimp only
  rw [he]
  refine ⟨fun z => ⟨rg_it.1 z, ?_⟩, rg_it.2⟩
  · show rZ _ ((am_up X.1.1 8 (X.1.1 0 3 - 1) (bV B ln a), X.1.2), _) W
    unfold rZ
    dsimp only
    refine ⟨⟨by rw [up_row _ _ _ (by omega), up_row _ _ _ (by omega)]; exact z0, by rw [up_row _ _ _ (by omega), up_row _ _ _ (by omega)]; exact z1, by rw [up_row _ _ _ (by omega), up_row _ _ _ (by omega)]; exact z2, by rw [up_row _ _ _ (by omega), up_row _ _ _ (by omega)]; exact z3, by rw [up_row _ _ _ (by omega), up_row _ _ _ (by omega)]; exact z4, by rw [up_row _ _ _ (by omega), up_row _ _ _ (by omega)]; exact z13⟩, ⟨fun k => by rw [up_row _ _ _ (by omega), up_row _ _ _ (by omega)]; exact y1 k, fun k => by rw [up_row _ _ _ (by omega), up_row _ _ _ (by omega)]; exact y2 k, fun k => by rw [up_row _ _ _ (by omega), up_row _ _ _ (by omega)]; exact y3 k, fun k => by rw [up_row _ _ _ (by omega), up_row _ _ _ (by omega)]; exact y7 k, fun k => by rw [up_row _ _ _ (by omega), up_row _ _ _ (by omega)]; exact y4 k, fun k => by rw [up_row _ _ _ (by omega), up_row _ _ _ (by omega)]; exact y5 k, fun k => rw_eq (y8 k), fun k => by rw [up_row _ _ _ (by omega), up_row _ _ _ (by omega)]; exact y6 k⟩, fun k => ?_, fun k => ?_, fun b k hbk => ?_⟩
    · rw [up_row _ _ _ (by omega)]; exact zb k
    · rw [up_row _ _ _ (by omega), up_row _ _ _ (by omega)]; exact zW k
    · rw [up_row _ _ _ (by omega)]; exact zM b k hbk
theorem r_it1 {I : am_I} {ρ : Nat → Nat} {X : sX} {W : Nat → Nat × Nat} {a : Nat} (h : rTK B ln T ρ I) (hZ : rZ I X W) (he : X.2.1 = none) (hx : xl X) (hL : X.1.2 6 = rls ρ 3 0 a ∧ X.1.2 9 = rls ρ 8 0 a ∧ X.1.2 16 = rls ρ 12 0 a) (hn : ∀ k, k < a → (ρ k = 3 ∨ ρ k = 8 ∨ ρ k = 12) → tKK B ln k = 39) (ha : a ≤ T) (hρ : ρ a = 1) (hw : iw (tKK B ln) X (1, a)) : ∃ (err : Int32) (I' : am_I), R_X14_errorOf_79 I G (Int32.ofNat a) = some (err, I', G) ∧ rfe I I' ∧ rIt I' a (it (tKK B ln) (bV B ln) (bC B ln) X (1, a)) (itW (tKK B ln) (bC B ln) X W (1, a)) err := by
  have hT := h.2.1
  have hin : vp_in (Int32.ofNat a) 401 := (n_in (by omega)).mpr (by omega)
  have ec : (Int32.ofNat a).toNatClampNeg = a := n_cl (by omega)
  have e84 : I 84 a = Int32.ofNat 1 := by rw [(h.2.2.2 a ha).1, hρ]
  have hvv := bV_le h.1 a
  obtain ⟨⟨z0, z1, z2, z3, z4, z13⟩, ⟨y1, y2, y3, y7, y4, y5, y8, y6⟩, zb, zW, zM⟩ := hZ
  obtain ⟨⟨x1, x1b⟩, ⟨x2, x2b⟩, ⟨x3, x3b⟩, x4⟩ := hx
  unfold R_X14_errorOf_79
  rw [rg_pos hin, ec, e84, if_pos (show Int32.ofNat 1 = (1 : Int32) from rfl), rg_pos hin, if_pos (show Int32.ofNat 1 = (1 : Int32) from rfl)]
  have hk := hw.1 (by omega)
  unfold R_X14_paper_79
  rw [if_neg (by decide), r_numV h ha hk, rb_go, r_inR (G := G) (lo := 4) (hi := 24) (x := (4 : Int32)) (y := (24 : Int32)) (h.e (rfe.u3 I (j := 0) (Or.inl (by omega)) _)) ha hk (by omega) (by omega) rfl rfl, rb_go, rb_go]
  refine ⟨_, _, rfl, rfe.u3 I (Or.inl (by omega)) _, ?_⟩
  rw [it_1]
  unfold rIt
  dsimp only
  rw [he]
  refine ⟨fun z => ⟨rg_it.1 z, ?_⟩, rg_it.2⟩
  · show rZ _ ((am_up X.1.1 0 0 (bV B ln a), X.1.2), _) W
    unfold rZ
    dsimp only
    refine ⟨⟨by rw [am_up_self, am_up_self], by rw [up_in, if_neg (by omega), up_in, if_neg (by omega)]; exact z1, by rw [up_in, if_neg (by omega), up_in, if_neg (by omega)]; exact z2, by rw [up_in, if_neg (by omega), up_in, if_neg (by omega)]; exact z3, by rw [up_in, if_neg (by omega), up_in, if_neg (by omega)]; exact z4, by rw [up_in, if_neg (by omega), up_in, if_neg (by omega)]; exact z13⟩, ⟨fun k => by rw [up_row _ _ _ (by omega), up_row _ _ _ (by omega)]; exact y1 k, fun k => by rw [up_row _ _ _ (by omega), up_row _ _ _ (by omega)]; exact y2 k, fun k => by rw [up_row _ _ _ (by omega), up_row _ _ _ (by omega)]; exact y3 k, fun k => by rw [up_row _ _ _ (by omega), up_row _ _ _ (by omega)]; exact y7 k, fun k => by rw [up_row _ _ _ (by omega), up_row _ _ _ (by omega)]; exact y4 k, fun k => by rw [up_row _ _ _ (by omega), up_row _ _ _ (by omega)]; exact y5 k, fun k => by rw [up_row _ _ _ (by omega), up_row _ _ _ (by omega)]; exact y8 k, fun k => by rw [up_row _ _ _ (by omega), up_row _ _ _ (by omega)]; exact y6 k⟩, fun k => ?_, fun k => ?_, fun b k hbk => ?_⟩
    · rw [up_row _ _ _ (by omega)]; exact zb k
    · rw [up_row _ _ _ (by omega), up_row _ _ _ (by omega)]; exact zW k
    · rw [up_row _ _ _ (by omega)]; exact zM b k hbk
theorem r_it2 {I : am_I} {ρ : Nat → Nat} {X : sX} {W : Nat → Nat × Nat} {a : Nat} (h : rTK B ln T ρ I) (hZ : rZ I X W) (he : X.2.1 = none) (hx : xl X) (hL : X.1.2 6 = rls ρ 3 0 a ∧ X.1.2 9 = rls ρ 8 0 a ∧ X.1.2 16 = rls ρ 12 0 a) (hn : ∀ k, k < a → (ρ k = 3 ∨ ρ k = 8 ∨ ρ k = 12) → tKK B ln k = 39) (ha : a ≤ T) (hρ : ρ a = 2) (hw : iw (tKK B ln) X (2, a)) : ∃ (err : Int32) (I' : am_I), R_X14_errorOf_79 I G (Int32.ofNat a) = some (err, I', G) ∧ rfe I I' ∧ rIt I' a (it (tKK B ln) (bV B ln) (bC B ln) X (2, a)) (itW (tKK B ln) (bC B ln) X W (2, a)) err := by
  have hT := h.2.1
  have hin : vp_in (Int32.ofNat a) 401 := (n_in (by omega)).mpr (by omega)
  have ec : (Int32.ofNat a).toNatClampNeg = a := n_cl (by omega)
  have e84 : I 84 a = Int32.ofNat 2 := by rw [(h.2.2.2 a ha).1, hρ]
  have hvv := bV_le h.1 a
  obtain ⟨⟨z0, z1, z2, z3, z4, z13⟩, ⟨y1, y2, y3, y7, y4, y5, y8, y6⟩, zb, zW, zM⟩ := hZ
  obtain ⟨⟨x1, x1b⟩, ⟨x2, x2b⟩, ⟨x3, x3b⟩, x4⟩ := hx
  unfold R_X14_errorOf_79
  rw [rg_pos hin, ec, e84, if_neg (show ¬ Int32.ofNat 2 = (1 : Int32) by decide), if_pos (show Int32.ofNat 2 = (2 : Int32) from rfl), rg_pos hin, if_neg (show ¬ Int32.ofNat 2 = (1 : Int32) by decide)]
  have hk := hw.1 (by omega)
  unfold R_X14_paper_79
  rw [if_pos rfl, r_numV h ha hk, rb_go, r_inR (G := G) (lo := 4) (hi := 24) (x := (4 : Int32)) (y := (24 : Int32)) (h.e (rfe.u3 I (j := 1) (Or.inl (by omega)) _)) ha hk (by omega) (by omega) rfl rfl, rb_go, rb_go]
  refine ⟨_, _, rfl, rfe.u3 I (Or.inl (by omega)) _, ?_⟩
  rw [it_2]
  unfold rIt
  dsimp only
  rw [he]
  refine ⟨fun z => ⟨rg_it.1 z, ?_⟩, rg_it.2⟩
  · show rZ _ ((am_up X.1.1 0 1 (bV B ln a), X.1.2), _) W
    unfold rZ
    dsimp only
    refine ⟨⟨by rw [up_in, if_neg (by omega), up_in, if_neg (by omega)]; exact z0, by rw [am_up_self, am_up_self], by rw [up_in, if_neg (by omega), up_in, if_neg (by omega)]; exact z2, by rw [up_in, if_neg (by omega), up_in, if_neg (by omega)]; exact z3, by rw [up_in, if_neg (by omega), up_in, if_neg (by omega)]; exact z4, by rw [up_in, if_neg (by omega), up_in, if_neg (by omega)]; exact z13⟩, ⟨fun k => by rw [up_row _ _ _ (by omega), up_row _ _ _ (by omega)]; exact y1 k, fun k => by rw [up_row _ _ _ (by omega), up_row _ _ _ (by omega)]; exact y2 k, fun k => by rw [up_row _ _ _ (by omega), up_row _ _ _ (by omega)]; exact y3 k, fun k => by rw [up_row _ _ _ (by omega), up_row _ _ _ (by omega)]; exact y7 k, fun k => by rw [up_row _ _ _ (by omega), up_row _ _ _ (by omega)]; exact y4 k, fun k => by rw [up_row _ _ _ (by omega), up_row _ _ _ (by omega)]; exact y5 k, fun k => by rw [up_row _ _ _ (by omega), up_row _ _ _ (by omega)]; exact y8 k, fun k => by rw [up_row _ _ _ (by omega), up_row _ _ _ (by omega)]; exact y6 k⟩, fun k => ?_, fun k => ?_, fun b k hbk => ?_⟩
    · rw [up_row _ _ _ (by omega)]; exact zb k
    · rw [up_row _ _ _ (by omega), up_row _ _ _ (by omega)]; exact zW k
    · rw [up_row _ _ _ (by omega)]; exact zM b k hbk
theorem r_it3 {I : am_I} {ρ : Nat → Nat} {X : sX} {W : Nat → Nat × Nat} {a : Nat} (h : rTK B ln T ρ I) (hZ : rZ I X W) (he : X.2.1 = none) (hx : xl X) (hL : X.1.2 6 = rls ρ 3 0 a ∧ X.1.2 9 = rls ρ 8 0 a ∧ X.1.2 16 = rls ρ 12 0 a) (hn : ∀ k, k < a → (ρ k = 3 ∨ ρ k = 8 ∨ ρ k = 12) → tKK B ln k = 39) (ha : a ≤ T) (hρ : ρ a = 3) (hw : iw (tKK B ln) X (3, a)) : ∃ (err : Int32) (I' : am_I), R_X14_errorOf_79 I G (Int32.ofNat a) = some (err, I', G) ∧ rfe I I' ∧ rIt I' a (it (tKK B ln) (bV B ln) (bC B ln) X (3, a)) (itW (tKK B ln) (bC B ln) X W (3, a)) err := by
  have hT := h.2.1
  have hin : vp_in (Int32.ofNat a) 401 := (n_in (by omega)).mpr (by omega)
  have ec : (Int32.ofNat a).toNatClampNeg = a := n_cl (by omega)
  have e84 : I 84 a = Int32.ofNat 3 := by rw [(h.2.2.2 a ha).1, hρ]
  have hvv := bV_le h.1 a
  obtain ⟨⟨z0, z1, z2, z3, z4, z13⟩, ⟨y1, y2, y3, y7, y4, y5, y8, y6⟩, zb, zW, zM⟩ := hZ
  obtain ⟨⟨x1, x1b⟩, ⟨x2, x2b⟩, ⟨x3, x3b⟩, x4⟩ := hx
  unfold R_X14_errorOf_79
  rw [rg_pos hin, ec, e84, if_neg (show ¬ Int32.ofNat 3 = (1 : Int32) by decide), if_neg (show ¬ Int32.ofNat 3 = (2 : Int32) by decide), if_pos (show Int32.ofNat 3 = (3 : Int32) from rfl)]
  have hk := hw.2.1 (by omega)
  unfold R_X14_newOctave_79
  rw [r_isNew (G := G) (l := X.1.2 6) (cap := 4) (x := I 123 2) (y := (4 : Int32)) h ha hρ hk (by omega) (fun k h1 h2 => hn k h1 (by omega)) hL.1 (by omega) (by omega) (by rw [z2, x1]) rfl, rb_go, it_3]
  unfold rIt
  dsimp only
  rw [he]
  obtain ⟨w1', w2⟩ := eo_it (k := nwE (bC B ln) (X.1.2 6) 4 a) (a := a) nwE_v
  by_cases h0 : nwE (bC B ln) (X.1.2 6) 4 a = 0
  · rw [if_pos (show Int32.ofNat (nwE (bC B ln) (X.1.2 6) 4 a) = 0 by rw [h0]; rfl), rb_go]
    refine ⟨_, _, rfl, rfe.u3 I (Or.inl (by omega)) _, fun z => ⟨w1' z, ?_⟩, w2⟩
    rw [z2, n_inc]
    show rZ _ ((am_up X.1.1 0 2 (X.1.1 0 2 + 1), _), _) W
    unfold rZ
    dsimp only
    refine ⟨⟨by rw [up_in, if_neg (by omega), up_in, if_neg (by omega)]; exact z0, by rw [up_in, if_neg (by omega), up_in, if_neg (by omega)]; exact z1, by rw [am_up_self, am_up_self], by rw [up_in, if_neg (by omega), up_in, if_neg (by omega)]; exact z3, by rw [up_in, if_neg (by omega), up_in, if_neg (by omega)]; exact z4, by rw [up_in, if_neg (by omega), up_in, if_neg (by omega)]; exact z13⟩, ⟨fun k => by rw [up_row _ _ _ (by omega), up_row _ _ _ (by omega)]; exact y1 k, fun k => by rw [up_row _ _ _ (by omega), up_row _ _ _ (by omega)]; exact y2 k, fun k => by rw [up_row _ _ _ (by omega), up_row _ _ _ (by omega)]; exact y3 k, fun k => by rw [up_row _ _ _ (by omega), up_row _ _ _ (by omega)]; exact y7 k, fun k => by rw [up_row _ _ _ (by omega), up_row _ _ _ (by omega)]; exact y4 k, fun k => by rw [up_row _ _ _ (by omega), up_row _ _ _ (by omega)]; exact y5 k, fun k => by rw [up_row _ _ _ (by omega), up_row _ _ _ (by omega)]; exact y8 k, fun k => by rw [up_row _ _ _ (by omega), up_row _ _ _ (by omega)]; exact y6 k⟩, fun k => ?_, fun k => ?_, fun b k hbk => ?_⟩
    · rw [up_row _ _ _ (by omega)]; exact zb k
    · rw [up_row _ _ _ (by omega), up_row _ _ _ (by omega)]; exact zW k
    · rw [up_row _ _ _ (by omega)]; exact zM b k hbk
  · rw [if_neg (show ¬ Int32.ofNat (nwE (bC B ln) (X.1.2 6) 4 a) = 0 from fun z => h0 ((n_eq (b := 0) (by rcases nwE_v (C := bC B ln) (l := X.1.2 6) (cap := 4) (a := a) with q | q <;> omega) (by omega)).mp z)), rb_go]
    refine ⟨_, _, rfl, rfe.u3 I (Or.inl (by omega)) _, fun z => ?_, w2⟩
    exact absurd (eo_n z).2 h0
theorem r_it8 {I : am_I} {ρ : Nat → Nat} {X : sX} {W : Nat → Nat × Nat} {a : Nat} (h : rTK B ln T ρ I) (hZ : rZ I X W) (he : X.2.1 = none) (hx : xl X) (hL : X.1.2 6 = rls ρ 3 0 a ∧ X.1.2 9 = rls ρ 8 0 a ∧ X.1.2 16 = rls ρ 12 0 a) (hn : ∀ k, k < a → (ρ k = 3 ∨ ρ k = 8 ∨ ρ k = 12) → tKK B ln k = 39) (ha : a ≤ T) (hρ : ρ a = 8) (hw : iw (tKK B ln) X (8, a)) : ∃ (err : Int32) (I' : am_I), R_X14_errorOf_79 I G (Int32.ofNat a) = some (err, I', G) ∧ rfe I I' ∧ rIt I' a (it (tKK B ln) (bV B ln) (bC B ln) X (8, a)) (itW (tKK B ln) (bC B ln) X W (8, a)) err := by
  have hT := h.2.1
  have hin : vp_in (Int32.ofNat a) 401 := (n_in (by omega)).mpr (by omega)
  have ec : (Int32.ofNat a).toNatClampNeg = a := n_cl (by omega)
  have e84 : I 84 a = Int32.ofNat 8 := by rw [(h.2.2.2 a ha).1, hρ]
  have hvv := bV_le h.1 a
  obtain ⟨⟨z0, z1, z2, z3, z4, z13⟩, ⟨y1, y2, y3, y7, y4, y5, y8, y6⟩, zb, zW, zM⟩ := hZ
  obtain ⟨⟨x1, x1b⟩, ⟨x2, x2b⟩, ⟨x3, x3b⟩, x4⟩ := hx
  unfold R_X14_errorOf_79
  rw [rg_pos hin, ec, e84, if_neg (show ¬ Int32.ofNat 8 = (1 : Int32) by decide), if_neg (show ¬ Int32.ofNat 8 = (2 : Int32) by decide), if_neg (show ¬ Int32.ofNat 8 = (3 : Int32) by decide), if_neg (show ¬ Int32.ofNat 8 = (4 : Int32) by decide), if_neg (show ¬ Int32.ofNat 8 = (5 : Int32) by decide), if_neg (show ¬ Int32.ofNat 8 = (6 : Int32) by decide), if_neg (show ¬ Int32.ofNat 8 = (7 : Int32) by decide), if_pos (show Int32.ofNat 8 = (8 : Int32) from rfl)]
  have hk := hw.2.1 (by omega)
  unfold R_X14_newComb_79
  rw [r_isNew (G := G) (l := X.1.2 9) (cap := 4) (x := I 123 3) (y := (4 : Int32)) h ha hρ hk (by omega) (fun k h1 h2 => hn k h1 (by omega)) hL.2.1 (by omega) (by omega) (by rw [z3, x2]) rfl, rb_go, it_8]
  unfold rIt
  dsimp only
  rw [he]
  obtain ⟨w1', w2⟩ := eo_it (k := nwE (bC B ln) (X.1.2 9) 4 a) (a := a) nwE_v
  by_cases h0 : nwE (bC B ln) (X.1.2 9) 4 a = 0
  · rw [if_pos (show Int32.ofNat (nwE (bC B ln) (X.1.2 9) 4 a) = 0 by rw [h0]; rfl), rb_go]
    refine ⟨_, _, rfl, rfe.u3 I (Or.inl (by omega)) _, fun z => ⟨w1' z, ?_⟩, w2⟩
    rw [z3, n_inc]
    show rZ _ ((am_up X.1.1 0 3 (X.1.1 0 3 + 1), _), _) W
    unfold rZ
    dsimp only
    refine ⟨⟨by rw [up_in, if_neg (by omega), up_in, if_neg (by omega)]; exact z0, by rw [up_in, if_neg (by omega), up_in, if_neg (by omega)]; exact z1, by rw [up_in, if_neg (by omega), up_in, if_neg (by omega)]; exact z2, by rw [am_up_self, am_up_self], by rw [up_in, if_neg (by omega), up_in, if_neg (by omega)]; exact z4, by rw [up_in, if_neg (by omega), up_in, if_neg (by omega)]; exact z13⟩, ⟨fun k => by rw [up_row _ _ _ (by omega), up_row _ _ _ (by omega)]; exact y1 k, fun k => by rw [up_row _ _ _ (by omega), up_row _ _ _ (by omega)]; exact y2 k, fun k => by rw [up_row _ _ _ (by omega), up_row _ _ _ (by omega)]; exact y3 k, fun k => by rw [up_row _ _ _ (by omega), up_row _ _ _ (by omega)]; exact y7 k, fun k => by rw [up_row _ _ _ (by omega), up_row _ _ _ (by omega)]; exact y4 k, fun k => by rw [up_row _ _ _ (by omega), up_row _ _ _ (by omega)]; exact y5 k, fun k => by rw [up_row _ _ _ (by omega), up_row _ _ _ (by omega)]; exact y8 k, fun k => by rw [up_row _ _ _ (by omega), up_row _ _ _ (by omega)]; exact y6 k⟩, fun k => ?_, fun k => ?_, fun b k hbk => ?_⟩
    · rw [up_row _ _ _ (by omega)]; exact zb k
    · rw [up_row _ _ _ (by omega), up_row _ _ _ (by omega)]; exact zW k
    · rw [up_row _ _ _ (by omega)]; exact zM b k hbk
  · rw [if_neg (show ¬ Int32.ofNat (nwE (bC B ln) (X.1.2 9) 4 a) = 0 from fun z => h0 ((n_eq (b := 0) (by rcases nwE_v (C := bC B ln) (l := X.1.2 9) (cap := 4) (a := a) with q | q <;> omega) (by omega)).mp z)), rb_go]
    refine ⟨_, _, rfl, rfe.u3 I (Or.inl (by omega)) _, fun z => ?_, w2⟩
    exact absurd (eo_n z).2 h0
theorem r_it12 {I : am_I} {ρ : Nat → Nat} {X : sX} {W : Nat → Nat × Nat} {a : Nat} (h : rTK B ln T ρ I) (hZ : rZ I X W) (he : X.2.1 = none) (hx : xl X) (hL : X.1.2 6 = rls ρ 3 0 a ∧ X.1.2 9 = rls ρ 8 0 a ∧ X.1.2 16 = rls ρ 12 0 a) (hn : ∀ k, k < a → (ρ k = 3 ∨ ρ k = 8 ∨ ρ k = 12) → tKK B ln k = 39) (ha : a ≤ T) (hρ : ρ a = 12) (hw : iw (tKK B ln) X (12, a)) : ∃ (err : Int32) (I' : am_I), R_X14_errorOf_79 I G (Int32.ofNat a) = some (err, I', G) ∧ rfe I I' ∧ rIt I' a (it (tKK B ln) (bV B ln) (bC B ln) X (12, a)) (itW (tKK B ln) (bC B ln) X W (12, a)) err := by
  have hT := h.2.1
  have hin : vp_in (Int32.ofNat a) 401 := (n_in (by omega)).mpr (by omega)
  have ec : (Int32.ofNat a).toNatClampNeg = a := n_cl (by omega)
  have e84 : I 84 a = Int32.ofNat 12 := by rw [(h.2.2.2 a ha).1, hρ]
  have hvv := bV_le h.1 a
  obtain ⟨⟨z0, z1, z2, z3, z4, z13⟩, ⟨y1, y2, y3, y7, y4, y5, y8, y6⟩, zb, zW, zM⟩ := hZ
  obtain ⟨⟨x1, x1b⟩, ⟨x2, x2b⟩, ⟨x3, x3b⟩, x4⟩ := hx
  unfold R_X14_errorOf_79
  rw [rg_pos hin, ec, e84, if_neg (show ¬ Int32.ofNat 12 = (1 : Int32) by decide), if_neg (show ¬ Int32.ofNat 12 = (2 : Int32) by decide), if_neg (show ¬ Int32.ofNat 12 = (3 : Int32) by decide), if_neg (show ¬ Int32.ofNat 12 = (4 : Int32) by decide), if_neg (show ¬ Int32.ofNat 12 = (5 : Int32) by decide), if_neg (show ¬ Int32.ofNat 12 = (6 : Int32) by decide), if_neg (show ¬ Int32.ofNat 12 = (7 : Int32) by decide), if_neg (show ¬ Int32.ofNat 12 = (8 : Int32) by decide), if_neg (show ¬ Int32.ofNat 12 = (9 : Int32) by decide), if_neg (show ¬ Int32.ofNat 12 = (10 : Int32) by decide), if_neg (show ¬ Int32.ofNat 12 = (11 : Int32) by decide), if_pos (show Int32.ofNat 12 = (12 : Int32) from rfl)]
  have hk := hw.2.1 (by omega)
  unfold R_X14_newInk_79
  rw [r_isNew (G := G) (l := X.1.2 16) (cap := 5) (x := I 123 4) (y := (5 : Int32)) h ha hρ hk (by omega) (fun k h1 h2 => hn k h1 (by omega)) hL.2.2 (by omega) (by omega) (by rw [z4, x3]) rfl, rb_go, it_12]
  unfold rIt
  dsimp only
  rw [he]
  obtain ⟨w1', w2⟩ := eo_it (k := nwE (bC B ln) (X.1.2 16) 5 a) (a := a) nwE_v
  by_cases h0 : nwE (bC B ln) (X.1.2 16) 5 a = 0
  · rw [if_pos (show Int32.ofNat (nwE (bC B ln) (X.1.2 16) 5 a) = 0 by rw [h0]; rfl), rb_go]
    refine ⟨_, _, rfl, rfe.u3 I (Or.inl (by omega)) _, fun z => ⟨w1' z, ?_⟩, w2⟩
    rw [z4, n_inc]
    show rZ _ ((am_up X.1.1 0 4 (X.1.1 0 4 + 1), _), _) W
    unfold rZ
    dsimp only
    refine ⟨⟨by rw [up_in, if_neg (by omega), up_in, if_neg (by omega)]; exact z0, by rw [up_in, if_neg (by omega), up_in, if_neg (by omega)]; exact z1, by rw [up_in, if_neg (by omega), up_in, if_neg (by omega)]; exact z2, by rw [up_in, if_neg (by omega), up_in, if_neg (by omega)]; exact z3, by rw [am_up_self, am_up_self], by rw [up_in, if_neg (by omega), up_in, if_neg (by omega)]; exact z13⟩, ⟨fun k => by rw [up_row _ _ _ (by omega), up_row _ _ _ (by omega)]; exact y1 k, fun k => by rw [up_row _ _ _ (by omega), up_row _ _ _ (by omega)]; exact y2 k, fun k => by rw [up_row _ _ _ (by omega), up_row _ _ _ (by omega)]; exact y3 k, fun k => by rw [up_row _ _ _ (by omega), up_row _ _ _ (by omega)]; exact y7 k, fun k => by rw [up_row _ _ _ (by omega), up_row _ _ _ (by omega)]; exact y4 k, fun k => by rw [up_row _ _ _ (by omega), up_row _ _ _ (by omega)]; exact y5 k, fun k => by rw [up_row _ _ _ (by omega), up_row _ _ _ (by omega)]; exact y8 k, fun k => by rw [up_row _ _ _ (by omega), up_row _ _ _ (by omega)]; exact y6 k⟩, fun k => ?_, fun k => ?_, fun b k hbk => ?_⟩
    · rw [up_row _ _ _ (by omega)]; exact zb k
    · rw [up_row _ _ _ (by omega), up_row _ _ _ (by omega)]; exact zW k
    · rw [up_row _ _ _ (by omega)]; exact zM b k hbk
  · rw [if_neg (show ¬ Int32.ofNat (nwE (bC B ln) (X.1.2 16) 5 a) = 0 from fun z => h0 ((n_eq (b := 0) (by rcases nwE_v (C := bC B ln) (l := X.1.2 16) (cap := 5) (a := a) with q | q <;> omega) (by omega)).mp z)), rb_go]
    refine ⟨_, _, rfl, rfe.u3 I (Or.inl (by omega)) _, fun z => ?_, w2⟩
    exact absurd (eo_n z).2 h0
end RIU
