/-! the tape: feed, trim -/
section KC4
theorem kI.tape {p t : sP} {od : sO} {dp ca : Int32} {ln ln' : Nat} {I I2 : am_I} {G G2 : am_G} (h : kI p t od dp ca ln I G) (hz : ∀ b, b ≠ 1 → b ≠ 2 → b ≠ 79 → b ≠ 80 → b < 123 → I2 b = I b) (h79 : ∀ k, k ≠ 0 → k ≠ 2 → I2 79 k = I 79 k) (e1 : I2 1 5 = Int32.ofNat ln') (e2 : I2 79 2 = Int32.ofNat ln') (hl : ln' ≤ 2000) (hb : ∀ k, k < ln' → I2 2 k = I2 80 k ∧ 0 ≤ (I2 2 k).toInt ∧ (I2 2 k).toInt ≤ 255) (hG : G2 3 = G 3) : kI p t od dp ca ln' I2 G2 := by
  obtain ⟨a1, ⟨b1, b2⟩, ⟨c1, c2⟩, d1, _, _, g1, h1⟩ := h
  exact ⟨a1, ⟨b1.kept (fun b z1 z2 => hz b (by omega) (by omega) (by omega) (by omega) (by omega)), b2.kept (fun b z1 z2 => hz b (by omega) (by omega) (by omega) (by omega) (by omega)) (by rw [hz 86 (by omega) (by omega) (by omega) (by omega) (by omega)])⟩, ⟨c1.kept (fun b hb => hz b (by omega) (by omega) (by omega) (by omega) (by omega)), c2.kept (fun b hb => hz b (by omega) (by omega) (by omega) (by omega) (by omega))⟩, by unfold rB_112'; rw [hz 116 (by omega) (by omega) (by omega) (by omega) (by omega)]; exact d1, ⟨e1, e2, hl⟩, hb, by rw [hz 0 (by omega) (by omega) (by omega) (by omega) (by omega), h79 3 (by omega) (by omega)]; exact g1, by rw [hG]; exact h1⟩
theorem k_trim_ok : k_trim kV := by
  intro I G x hV
  show kGoal hn_trim (fun I1 G1 bb I2 G2 => f_X14_trim_79 I1 G1 x = bb ∧ g_X14_trim_79 I1 G1 x = I2 ∧ G1 = G2) (R_X11_trim_0 I G x) (fun k => k = 71) I G
  have hV0 := hV
  obtain ⟨p, t, od, dp, ca, ln, h⟩ := hV
  have e5 := h.2.2.2.2.1.1
  have e2 := h.2.2.2.2.1.2.1
  have hl := h.2.2.2.2.1.2.2
  by_cases hx : 0 ≤ x.toInt ∧ x.toInt ≤ ln
  · obtain ⟨n, hn, rfl⟩ := n_ofl hx
    obtain ⟨G', hG⟩ : ∃ G' : am_G, G' = am_up G 122 0 (Int32.ofNat n).toInt64 := ⟨_, rfl⟩
    have in1 : f_X14_isIn (am_up (am_up I 1 5 (Int32.ofNat n)) 79 0 0) G' (Int32.ofNat n) (0 : Int32) (am_up I 1 5 (Int32.ofNat n) 79 2) = 1 := by
      rw [up_row _ _ _ (by omega), e2, isIn_y (by rw [i_0, n_ti (k := ln) (by omega)]; exact hx)]
    refine kG_ret (I1 := am_up I 1 5 (Int32.ofNat n)) (I2 := am_up (am_up (am_up I 1 5 (Int32.ofNat n)) 79 0 0) 79 2 (Int32.ofNat n)) hG ?_ ⟨?_, ?_, rfl⟩ ?_ ⟨p, t, od, dp, ca, n, h.tape (fun b z1 z2 z3 z4 z5 => by rw [up_row _ _ _ z3, up_row _ _ _ z3, up_row _ _ _ z1]) (fun k z1 z2 => by rw [up_in, if_neg z2, up_in, if_neg z1, up_row _ _ _ (by omega)]) (by rw [up_row _ _ _ (by omega), up_row _ _ _ (by omega), am_up_self]) (am_up_self _ _ _ _) (by omega) (fun k hk => ?_) (g3_up hG)⟩
    · unfold R_X11_trim_0
      rw [if_neg (n_nlt0 n (by omega)), e5, if_pos ((n_le (by omega) (by omega)).mpr hn)]
    · unfold f_X14_trim_79
      rw [in1, if_neg (by decide)]
    · unfold g_X14_trim_79
      rw [in1, if_neg (by decide)]
    · rw [up_in, if_neg (by omega), am_up_self]
    · rw [up_row _ _ _ (by omega), up_row _ _ _ (by omega), up_row _ _ _ (by omega), up_row _ _ _ (by omega), up_row _ _ _ (by omega), up_row _ _ _ (by omega)]
      exact h.2.2.2.2.2.1 k (by omega)
  · refine kG_thr hV0 (k := 71) (n := 1) ?_ rfl rfl (by decide) ?_
    · unfold R_X11_trim_0
      by_cases h1 : x < 0
      · rw [if_pos h1]
      · rw [if_neg h1, e5, if_neg (by rw [i_lt, i_0] at h1; rw [i_le, n_ti (by omega)]; omega)]
    · show f_X14_trim_79 I G x = 0 ∧ g_X14_trim_79 I G x = _ ∧ G = G
      unfold f_X14_trim_79 g_X14_trim_79
      rw [e2, isIn_n (by rw [i_0, n_ti (by omega)]; exact hx), if_pos rfl, if_pos rfl]
      exact ⟨rfl, rfl, rfl⟩
def by_s (x : Int32) (r : Nat) : Int32 := (x >>> (((24 : Int32) - (8 : Int32) * Int32.ofNat r) &&& 31)) &&& (255 : Int32)
theorem and255 (y : Int32) : 0 ≤ (y &&& (255 : Int32)).toInt ∧ (y &&& (255 : Int32)).toInt ≤ 255 := by
  have h1 : (y &&& (255 : Int32)).toBitVec = y.toBitVec &&& 255#32 := rfl
  have h2 : (y.toBitVec &&& 255#32).toNat ≤ 255 := by
    rw [BitVec.toNat_and]
    exact Nat.and_le_right
  have h3 : (y &&& (255 : Int32)).toInt = (y &&& (255 : Int32)).toBitVec.toInt := rfl
  rw [h3, h1, BitVec.toInt_eq_toNat_of_lt (by omega)]
  omega
theorem by_b (x : Int32) (r : Nat) : 0 ≤ (by_s x r).toInt ∧ (by_s x r).toInt ≤ 255 := and255 _
theorem c_ap1 {ln : Nat} {I : am_I} {G : am_G} (x s : Int32) (n : Nat) (h : I 1 5 = Int32.ofNat ln) (hl : ln < 2000) (hs : ¬ s < 0) : L_X9_append_1 (n + 1) 0 I G x s = L_X9_append_1 n 0 (am_up (am_up I 2 ln ((x >>> (s &&& 31)) &&& (255 : Int32))) 1 5 (Int32.ofNat (ln + 1))) G x (s + (-8 : Int32)) := by
  rw [L_X9_append_1_0, if_neg hs, h, if_neg (n_nlt0 ln (by omega)), if_neg (fun q => absurd ((n_le (by omega) (by omega)).mp q) (by omega)), rg_pos ((n_in (by omega)).mpr hl), n_cl (by omega), n_inc]
theorem c_ap {ln : Nat} {I : am_I} {G : am_G} (x : Int32) (h : I 1 5 = Int32.ofNat ln) (hl : ln + 4 ≤ 2000) : ∃ I' : am_I, R_X9_append_1 I G x = some ((), I', G) ∧ I' 1 5 = Int32.ofNat (ln + 4) ∧ (∀ b, b ≠ 1 → b ≠ 2 → I' b = I b) ∧ (∀ r, r < 4 → I' 2 (ln + r) = by_s x r) ∧ ∀ j, j < ln → I' 2 j = I 2 j := by
  obtain ⟨n0, hn0⟩ : ∃ n0, FU = n0 + 1 + 1 + 1 + 1 + 1 := ⟨FU - 5, by unfold FU; omega⟩
  unfold R_X9_append_1
  rw [hn0, c_ap1 x 24 _ h (by omega) (by decide), c_ap1 x _ _ (am_up_self _ _ _ _) (by omega) (by decide), c_ap1 x _ _ (am_up_self _ _ _ _) (by omega) (by decide), c_ap1 x _ _ (am_up_self _ _ _ _) (by omega) (by decide), L_X9_append_1_0, if_pos (by decide)]
  refine ⟨_, rfl, am_up_self _ _ _ _, fun b z1 z2 => ?_, fun r hr => ?_, fun j hj => ?_⟩
  · rw [up_row _ _ _ z1, up_row _ _ _ z2, up_row _ _ _ z1, up_row _ _ _ z2, up_row _ _ _ z1, up_row _ _ _ z2, up_row _ _ _ z1, up_row _ _ _ z2]
  · rw [up_row _ _ _ (by omega), up_in, up_row _ _ _ (by omega), up_in, up_row _ _ _ (by omega), up_in, up_row _ _ _ (by omega), up_in]
    rcases (show r = 0 ∨ r = 1 ∨ r = 2 ∨ r = 3 by omega) with rfl | rfl | rfl | rfl
    · rw [if_neg (by omega), if_neg (by omega), if_neg (by omega), if_pos (by omega)]; rfl
    · rw [if_neg (by omega), if_neg (by omega), if_pos (by omega)]; rfl
    · rw [if_neg (by omega), if_pos (by omega)]; rfl
    · rw [if_pos (by omega)]; rfl
  · rw [up_row _ _ _ (by omega), up_in, up_row _ _ _ (by omega), up_in, up_row _ _ _ (by omega), up_in, up_row _ _ _ (by omega), up_in, if_neg (by omega), if_neg (by omega), if_neg (by omega), if_neg (by omega)]
def x5 (a b c d e : Int32) (k : Nat) : Int32 := if k = 0 then a else if k = 1 then b else if k = 2 then c else if k = 3 then d else e
theorem r_feL {ln : Nat} {G : am_G} (y : Nat → Int32) (v1 v2 v3 v4 v5 : Int32) (hl : ln + 20 ≤ 2000) : ∀ (m k n : Nat) (I : am_I), I 79 2 = Int32.ofNat ln → (∀ j, j < 5 → I 123 j = y j) → k + m = 20 → m < n → ∃ I' : am_I, L_X14_feed_79 n 0 I G v1 v2 v3 v4 v5 (Int32.ofNat k) = some (Int32.ofNat (ln + 20), I', G) ∧ I' 79 2 = Int32.ofNat (ln + 20) ∧ (∀ j, j ≠ 2 → I' 79 j = I 79 j) ∧ (∀ b, b ≠ 79 → b ≠ 80 → I' b = I b) ∧ ∀ j, I' 80 j = if ln + k ≤ j ∧ j < ln + 20 then by_s (y ((j - ln) / 4)) ((j - ln) % 4) else I 80 j := by
  intro m
  induction m with
  | zero =>
    intro k n I h hy hk hn
    obtain ⟨n, rfl⟩ : ∃ n', n = n' + 1 := ⟨n - 1, by omega⟩
    rw [L_X14_feed_79_0, if_pos (show (20 : Int32) ≤ Int32.ofNat k from (n_le (a := 20) (by omega) (by omega)).mpr (by omega)), h, show Int32.ofNat ln + (20 : Int32) = Int32.ofNat (ln + 20) from n_add ln 20]
    exact ⟨_, rfl, am_up_self _ _ _ _, fun j hj => by rw [up_in, if_neg hj], fun b z1 z2 => up_row _ _ _ z1, fun j => by rw [up_row _ _ _ (by omega), if_neg (by omega)]⟩
  | succ m ih =>
    intro k n I h hy hk hn
    obtain ⟨n, rfl⟩ : ∃ n', n = n' + 1 := ⟨n - 1, by omega⟩
    obtain ⟨I', a1, a2, a3, a4, a5⟩ := ih (k + 1) n (am_up I 80 (ln + k) (by_s (y (k / 4)) (k % 4))) (by rw [up_row _ _ _ (by omega)]; exact h) (fun j hj => by rw [up_row _ _ _ (by omega)]; exact hy j hj) (by omega) (by omega)
    have d4 : Int32.ofNat k / (4 : Int32) = Int32.ofNat (k / 4) := n_div (b := 4) (by omega) (by omega)
    have m4 : Int32.ofNat k - Int32.ofNat k / (4 : Int32) * (4 : Int32) = Int32.ofNat (k % 4) := n_mod (b := 4) (by omega) (by omega)
    rw [L_X14_feed_79_0, if_neg (show ¬ (20 : Int32) ≤ Int32.ofNat k from fun q => absurd ((n_le (a := 20) (by omega) (by omega)).mp q) (by omega)), rg_pos (by decide), m4, d4, rg_pos ((n_in (by omega)).mpr (by omega)), rg_pos (by decide), h, n_add, rg_pos ((n_in (by omega)).mpr (by omega)), n_cl (by omega), n_cl (by omega), hy _ (by omega), n_inc]
    refine ⟨I', a1, a2, fun j hj => (a3 j hj).trans (by rw [up_row _ _ _ (by omega)]), fun b z1 z2 => (a4 b z1 z2).trans (up_row _ _ _ z2), fun j => ?_⟩
    rw [a5, up_in]
    by_cases h1 : j = ln + k
    · subst h1
      rw [if_neg (by omega), if_pos rfl, if_pos (by omega), Nat.add_sub_cancel_left]
    · rw [if_neg h1]
      by_cases h2 : ln + k ≤ j ∧ j < ln + 20
      · rw [if_pos (by omega), if_pos h2]
      · rw [if_neg (by omega), if_neg h2]
theorem k_feed_ok : k_feed kV := by
  intro I G x1 x2 x3 x4 x5' hV
  show kGoal hn_feed (fun I1 G1 bb I2 G2 => R_X14_feed_79 I1 G1 x1 x2 x3 x4 x5' = some (bb, I2, G2)) (R_X11_feed_0 I G x1 x2 x3 x4 x5') (fun k => k = 60) I G
  have hV0 := hV
  obtain ⟨p, t, od, dp, ca, ln, h⟩ := hV
  have e5 := h.2.2.2.2.1.1
  have e2 := h.2.2.2.2.1.2.1
  have hl := h.2.2.2.2.1.2.2
  have e20 : Int32.ofNat ln + (20 : Int32) = Int32.ofNat (ln + 20) := n_add ln 20
  by_cases hx : ln + 20 ≤ 2000
  · obtain ⟨I1, a1, a2, a3, a4, a5⟩ := c_ap (I := I) (G := G) x1 e5 (by omega)
    obtain ⟨I2, b1, b2, b3, b4, b5⟩ := c_ap (I := I1) (G := G) x2 a2 (by omega)
    obtain ⟨I3, c1, c2, c3, c4, c5⟩ := c_ap (I := I2) (G := G) x3 b2 (by omega)
    obtain ⟨I4, d1, d2, d3, d4, d5⟩ := c_ap (I := I3) (G := G) x4 c2 (by omega)
    obtain ⟨I5, f1, f2, f3, f4, f5⟩ := c_ap (I := I4) (G := G) x5' d2 (by omega)
    have eb : ∀ b, b ≠ 1 → b ≠ 2 → I5 b = I b := fun b z1 z2 => by rw [f3 b z1 z2, d3 b z1 z2, c3 b z1 z2, b3 b z1 z2, a3 b z1 z2]
    have eo : ∀ j, j < ln → I5 2 j = I 2 j := fun j hj => by rw [f5 j (by omega), d5 j (by omega), c5 j (by omega), b5 j (by omega), a5 j (by omega)]
    have en : ∀ k, k < 20 → I5 2 (ln + k) = by_s (x5 x1 x2 x3 x4 x5' (k / 4)) (k % 4) := by
      intro k hk
      unfold x5
      rcases (show k / 4 = 0 ∨ k / 4 = 1 ∨ k / 4 = 2 ∨ k / 4 = 3 ∨ k / 4 = 4 by omega) with q | q | q | q | q
      · rw [q, if_pos rfl, f5 _ (by omega), d5 _ (by omega), c5 _ (by omega), b5 _ (by omega), show ln + k = ln + k % 4 by omega]
        exact a4 _ (by omega)
      · rw [q, if_neg (by omega), if_pos rfl, f5 _ (by omega), d5 _ (by omega), c5 _ (by omega), show ln + k = ln + 4 + k % 4 by omega]
        exact b4 _ (by omega)
      · rw [q, if_neg (by omega), if_neg (by omega), if_pos rfl, f5 _ (by omega), d5 _ (by omega), show ln + k = ln + 4 + 4 + k % 4 by omega]
        exact c4 _ (by omega)
      · rw [q, if_neg (by omega), if_neg (by omega), if_neg (by omega), if_pos rfl, f5 _ (by omega), show ln + k = ln + 4 + 4 + 4 + k % 4 by omega]
        exact d4 _ (by omega)
      · rw [q, if_neg (by omega), if_neg (by omega), if_neg (by omega), if_neg (by omega), show ln + k = ln + 4 + 4 + 4 + 4 + k % 4 by omega]
        exact f4 _ (by omega)
    have f2' : I5 1 5 = Int32.ofNat (ln + 20) := f2
    obtain ⟨J, hJ⟩ : ∃ J : am_I, J = (am_up (am_up (am_up (am_up (am_up (am_z (am_up I5 79 0 (0 : Int32)) 123 0) 123 (0 : Int32).toNatClampNeg x1) 123 (1 : Int32).toNatClampNeg x2) 123 (2 : Int32).toNatClampNeg x3) 123 (3 : Int32).toNatClampNeg x4) 123 (4 : Int32).toNatClampNeg x5') := ⟨_, rfl⟩
    have eJ : ∀ b, b ≠ 123 → b ≠ 79 → J b = I5 b := fun b z1 z2 => by rw [hJ, up_row _ _ _ z1, up_row _ _ _ z1, up_row _ _ _ z1, up_row _ _ _ z1, up_row _ _ _ z1, am_z_row _ _ z1, up_row _ _ _ z2]
    have eJ79 : J 79 = am_up I5 79 0 (0 : Int32) 79 := by rw [hJ, up_row _ _ _ (by omega), up_row _ _ _ (by omega), up_row _ _ _ (by omega), up_row _ _ _ (by omega), up_row _ _ _ (by omega), am_z_row _ _ (by omega)]
    have eJn : ∀ k, k ≠ 0 → J 79 k = I 79 k := fun k hk => by rw [eJ79, up_in, if_neg hk, eb 79 (by omega) (by omega)]
    have eJ0 : J 79 0 = 0 := by rw [eJ79, am_up_self]
    have eJx : ∀ j, j < 5 → J 123 j = x5 x1 x2 x3 x4 x5' j := by
      intro j hj
      rw [hJ]
      rcases (show j = 0 ∨ j = 1 ∨ j = 2 ∨ j = 3 ∨ j = 4 by omega) with rfl | rfl | rfl | rfl | rfl <;> rfl
    obtain ⟨G', hG⟩ : ∃ G' : am_G, G' = am_up G 122 0 (Int32.ofNat (ln + 20)).toInt64 := ⟨_, rfl⟩
    obtain ⟨K, k1, k2, k3, k4, k5⟩ := r_feL (G := G') (x5 x1 x2 x3 x4 x5') x1 x2 x3 x4 x5' hx 20 0 FU J (by rw [eJn 2 (by omega)]; exact e2) eJx (by omega) (by unfold FU; omega)
    refine kG_ret (I1 := I5) (I2 := K) hG ?_ ?_ ?_ ⟨p, t, od, dp, ca, ln + 20, h.tape (fun b z1 z2 z3 z4 z5 => by rw [k4 b z3 z4, eJ b (by omega) z3, eb b z1 z2]) (fun k z1 z2 => by rw [k3 k z2, eJn k z1]) (by rw [k4 1 (by omega) (by omega), eJ 1 (by omega) (by omega)]; exact f2') k2 hx (fun k hk => ?_) (g3_up hG)⟩
    · unfold R_X11_feed_0
      rw [e5, e20, if_pos (show Int32.ofNat (ln + 20) ≤ (2000 : Int32) from (n_le (b := 2000) (by omega) (by omega)).mpr hx), a1, rb_go, b1, rb_go, c1, rb_go, d1, rb_go, f1, rb_go, f2']
    · show R_X14_feed_79 I5 G' x1 x2 x3 x4 x5' = _
      unfold R_X14_feed_79
      rw [eb 79 (by omega) (by omega), e2, if_pos (show Int32.ofNat ln ≤ (1980 : Int32) from (n_le (b := 1980) (by omega) (by omega)).mpr (by omega)), rg_pos ((i_in (0 : Int32) 5).mpr (by decide)), rg_pos ((i_in (1 : Int32) 5).mpr (by decide)), rg_pos ((i_in (2 : Int32) 5).mpr (by decide)), rg_pos ((i_in (3 : Int32) 5).mpr (by decide)), rg_pos ((i_in (4 : Int32) 5).mpr (by decide)), ← hJ]
      exact k1
    · rw [k3 0 (by omega), eJ0]
    · rw [k4 2 (by omega) (by omega), eJ 2 (by omega) (by omega), k5, eJ 80 (by omega) (by omega), eb 80 (by omega) (by omega)]
      by_cases hk1 : k < ln
      · rw [if_neg (by omega), eo k hk1]
        exact h.2.2.2.2.2.1 k hk1
      · obtain ⟨j, rfl⟩ : ∃ j, k = ln + j := ⟨k - ln, by omega⟩
        rw [if_pos (by omega), en j (by omega), Nat.add_sub_cancel_left]
        exact ⟨rfl, by_b _ _⟩
  · refine kG_thr hV0 (k := 60) (n := 1) ?_ rfl rfl (by decide) ?_
    · unfold R_X11_feed_0
      rw [e5, e20, if_neg (show ¬ Int32.ofNat (ln + 20) ≤ (2000 : Int32) from fun q => hx ((n_le (b := 2000) (by omega) (by omega)).mp q))]
    · show R_X14_feed_79 I G x1 x2 x3 x4 x5' = _
      unfold R_X14_feed_79
      rw [e2, if_neg (show ¬ Int32.ofNat ln ≤ (1980 : Int32) from fun q => absurd ((n_le (b := 1980) (by omega) (by omega)).mp q) (by omega))]
      rfl
end KC4
