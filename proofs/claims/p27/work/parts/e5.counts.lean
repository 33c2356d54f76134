/-! the law's own paper: counts -/
section E5
variable {p t : sP} {dp ca : Int32} {I : am_I} {nd : Nat}
theorem i_ctL (hp : p_ok p) (h : iS p t dp ca I) {N : Nat} (hN : 84 + p 0 2 + p 0 3 ≤ N) {F0 F1 F2 : Nat → Int32} {g : Nat → Nat} (h0 : ∀ q, q < s_S p → F0 q = s_ht p t q) (h1 : ∀ q, q < s_S p → F1 q = Int32.ofNat (s_ik p t q)) (h2 : ∀ q, q < s_S p → F2 q = Int32.ofNat (g q) ∧ g q < s_S p) (h3 : ∀ q, q < s_S p → (g q = q ↔ s_new (p 0 0) (s_S p) (s_ik p t) q)) : ∀ (m k n : Nat), k + m = s_S p → m < n → ∃ F, L_X12_counts n 0 N I (p 0 4) (p 0 2) (p 0 3) nd F0 (s_S p) F1 (s_S p) F2 (s_S p) (Int32.ofNat (s_cts (p 0 0) (s_S p) (s_ik p t) k)) (s_mn p t k) (s_mx p t k) (Int32.ofNat (s_pat (p 0 0) (s_S p) (s_ik p t) k)) (Int32.ofNat k) = some (F, 15) ∧ (F 0 = dp ∧ F 1 = Int32.ofNat (p 0 0) ∧ F 2 = Int32.ofNat (p 0 1) ∧ F 3 = Int32.ofNat (p 0 2) ∧ F 4 = Int32.ofNat (p 0 3) ∧ F 5 = Int32.ofNat (p 0 4) ∧ F 6 = Int32.ofNat nd) ∧ (F 7 = Int32.ofNat (s_pat (p 0 0) (s_S p) (s_ik p t) (s_S p)) ∧ F 8 = Int32.ofNat (s_cts (p 0 0) (s_S p) (s_ik p t) (s_S p)) ∧ F 9 = s_mn p t (s_S p) ∧ F 10 = s_mx p t (s_S p)) ∧ F 11 = Int32.ofNat (t 0 0) ∧ F 12 = Int32.ofNat (t 0 1) ∧ F 13 = ca ∧ F 14 = 0 := by
  have hp0 := hp.1
  have hS := s_S_le hp
  intro m
  induction m with
  | zero =>
    intro k n hk hn
    obtain ⟨n, rfl⟩ : ∃ n', n = n' + 1 := ⟨n - 1, by omega⟩
    obtain rfl : k = s_S p := by omega
    rw [L_X12_counts_0, if_pos ((n_le (by omega) (by omega)).mpr (Nat.le_refl _)), h.1.1, h.1.2.1, h.1.2.2.1, h.1.2.2.2.1, h.1.2.2.2.2.1, h.1.2.2.2.2.2]
    exact ⟨_, rfl, ⟨rfl, rfl, rfl, rfl, rfl, rfl, rfl⟩, ⟨rfl, rfl, rfl, rfl⟩, rfl, rfl, rfl, rfl⟩
  | succ m ih =>
    intro k n hk hn
    obtain ⟨n, rfl⟩ : ∃ n', n = n' + 1 := ⟨n - 1, by omega⟩
    have ih2 := ih (k + 1) n (by omega) (by omega)
    have hr : iS p t dp ca (am_row (am_row (am_row I N F0) (N + 1) F1) (N + 2) F2) := ((h.row hN).row (by omega)).row (by omega)
    have kl : k < s_S p := by omega
    have n0 : s_nb (p 0 0) (s_S p) 0 k < s_S p := s_nb_lt (by omega) (show k < p 0 0 * p 0 1 from kl)
    have n1 : s_nb (p 0 0) (s_S p) 1 k < s_S p := s_nb_lt (by omega) (show k < p 0 0 * p 0 1 from kl)
    have kin : vp_in (Int32.ofNat k) (s_S p) := (n_in (by omega)).mpr kl
    have i0 : vp_in (Int32.ofNat (s_nb (p 0 0) (s_S p) 0 k)) (s_S p) := (n_in (by omega)).mpr n0
    have i1 : vp_in (Int32.ofNat (s_nb (p 0 0) (s_S p) 1 k)) (s_S p) := (n_in (by omega)).mpr n1
    have b0 := s_ik_b p t k
    have b1 := s_ik_b p t (s_nb (p 0 0) (s_S p) 0 k)
    have b2 := s_ik_b p t (s_nb (p 0 0) (s_S p) 1 k)
    have g2 := (h2 k kl).2
    have eC : s_cts (p 0 0) (s_S p) (s_ik p t) (k + 1) = s_cts (p 0 0) (s_S p) (s_ik p t) k + ((if s_ik p t k = s_ik p t (s_nb (p 0 0) (s_S p) 0 k) then 0 else 1) + (if s_ik p t k = s_ik p t (s_nb (p 0 0) (s_S p) 1 k) then 0 else 1)) := rfl
    have eP : s_pat (p 0 0) (s_S p) (s_ik p t) (k + 1) = s_pat (p 0 0) (s_S p) (s_ik p t) k + (if g k = k then 1 else 0) := by
      unfold s_pat
      by_cases c : g k = k
      · rw [if_pos c, s_num_y ((h3 k kl).mp c)]
      · rw [if_neg c, s_num_n (fun z => c ((h3 k kl).mpr z))]; rfl
    have eM : s_mn p t (k + 1) = if s_ht p t k < s_mn p t k then s_ht p t k else s_mn p t k := rfl
    have eX : s_mx p t (k + 1) = if s_mx p t k < s_ht p t k then s_ht p t k else s_mx p t k := rfl
    rw [eC, eP, eM, eX] at ih2
    have q0 : (Int32.ofNat (s_ik p t k) = Int32.ofNat (s_ik p t (s_nb (p 0 0) (s_S p) 0 k))) ↔ s_ik p t k = s_ik p t (s_nb (p 0 0) (s_S p) 0 k) := n_eq (by omega) (by omega)
    have q1 : (Int32.ofNat (s_ik p t k) = Int32.ofNat (s_ik p t (s_nb (p 0 0) (s_S p) 1 k))) ↔ s_ik p t k = s_ik p t (s_nb (p 0 0) (s_S p) 1 k) := n_eq (by omega) (by omega)
    have q2 : (Int32.ofNat (g k) = Int32.ofNat k) ↔ g k = k := n_eq (by omega) (by omega)
    rw [L_X12_counts_0, if_neg (fun q => absurd ((n_le (by omega) (by omega)).mp q) (by omega))]
    simp only [rg_pos kin, i_right hr hp (show k < 100000 by omega), i_under hr hp kl, Option.bind_some, rg_pos i0, rg_pos i1, n_cl (show k < 2147483648 by omega), n_cl (show s_nb (p 0 0) (s_S p) 0 k < 2147483648 by omega), n_cl (show s_nb (p 0 0) (s_S p) 1 k < 2147483648 by omega), h0 k kl, h1 k kl, h1 _ n0, h1 _ n1, (h2 k kl).1, q0, q1, q2, n_inc]
    by_cases c0 : s_ik p t k = s_ik p t (s_nb (p 0 0) (s_S p) 0 k)
    · by_cases c1 : s_ik p t k = s_ik p t (s_nb (p 0 0) (s_S p) 1 k)
      · by_cases c2 : g k = k
        · rw [if_pos c0, if_pos c1, if_pos c2, ← n_add (s_cts (p 0 0) (s_S p) (s_ik p t) k) (0 + 0)] at ih2
          rw [if_pos c0, if_pos c1, if_pos c2]
          exact ih2
        · rw [if_pos c0, if_pos c1, if_neg c2, ← n_add (s_cts (p 0 0) (s_S p) (s_ik p t) k) (0 + 0)] at ih2
          rw [if_pos c0, if_pos c1, if_neg c2, Int32.add_zero (Int32.ofNat (s_pat (p 0 0) (s_S p) (s_ik p t) k))]
          exact ih2
      · by_cases c2 : g k = k
        · rw [if_pos c0, if_neg c1, if_pos c2, ← n_add (s_cts (p 0 0) (s_S p) (s_ik p t) k) (0 + 1)] at ih2
          rw [if_pos c0, if_neg c1, if_pos c2]
          exact ih2
        · rw [if_pos c0, if_neg c1, if_neg c2, ← n_add (s_cts (p 0 0) (s_S p) (s_ik p t) k) (0 + 1)] at ih2
          rw [if_pos c0, if_neg c1, if_neg c2, Int32.add_zero (Int32.ofNat (s_pat (p 0 0) (s_S p) (s_ik p t) k))]
          exact ih2
    · by_cases c1 : s_ik p t k = s_ik p t (s_nb (p 0 0) (s_S p) 1 k)
      · by_cases c2 : g k = k
        · rw [if_neg c0, if_pos c1, if_pos c2, ← n_add (s_cts (p 0 0) (s_S p) (s_ik p t) k) (1 + 0)] at ih2
          rw [if_neg c0, if_pos c1, if_pos c2]
          exact ih2
        · rw [if_neg c0, if_pos c1, if_neg c2, ← n_add (s_cts (p 0 0) (s_S p) (s_ik p t) k) (1 + 0)] at ih2
          rw [if_neg c0, if_pos c1, if_neg c2, Int32.add_zero (Int32.ofNat (s_pat (p 0 0) (s_S p) (s_ik p t) k))]
          exact ih2
      · by_cases c2 : g k = k
        · rw [if_neg c0, if_neg c1, if_pos c2, ← n_add (s_cts (p 0 0) (s_S p) (s_ik p t) k) (1 + 1)] at ih2
          rw [if_neg c0, if_neg c1, if_pos c2]
          exact ih2
        · rw [if_neg c0, if_neg c1, if_neg c2, ← n_add (s_cts (p 0 0) (s_S p) (s_ik p t) k) (1 + 1)] at ih2
          rw [if_neg c0, if_neg c1, if_neg c2, Int32.add_zero (Int32.ofNat (s_pat (p 0 0) (s_S p) (s_ik p t) k))]
          exact ih2
theorem i_ct (hp : p_ok p) (ht : t_ok p t) (hS2 : s_S p ≤ 200) (h : iS p t dp ca I) {N : Nat} (hN : 84 + p 0 2 + p 0 3 ≤ N) : ∃ F, R_X12_counts N I (p 0 4) (p 0 2) (p 0 3) nd = some (F, 15) ∧ (F 0 = dp ∧ F 1 = Int32.ofNat (p 0 0) ∧ F 2 = Int32.ofNat (p 0 1) ∧ F 3 = Int32.ofNat (p 0 2) ∧ F 4 = Int32.ofNat (p 0 3) ∧ F 5 = Int32.ofNat (p 0 4) ∧ F 6 = Int32.ofNat nd) ∧ (F 7 = Int32.ofNat (s_pat (p 0 0) (s_S p) (s_ik p t) (s_S p)) ∧ F 8 = Int32.ofNat (s_cts (p 0 0) (s_S p) (s_ik p t) (s_S p)) ∧ F 9 = s_mn p t (s_S p) ∧ F 10 = s_mx p t (s_S p)) ∧ F 11 = Int32.ofNat (t 0 0) ∧ F 12 = Int32.ofNat (t 0 1) ∧ F 13 = ca ∧ F 14 = 0 := by
  obtain ⟨F0, e0, f0⟩ := i_hs (ni := p 0 4) (nd := nd) hp ht hS2 h hN
  have hr1 := h.row (f := F0) hN
  obtain ⟨F1, e1, f1⟩ := i_in_ (no := p 0 2) (nc := p 0 3) (nd := nd) (a := N) hp hr1 hS2 (show 84 + p 0 2 + p 0 3 ≤ N + 1 by omega)
  have g1 : ∀ q, q < s_S p → F1 q = Int32.ofNat (s_ik p t q) := fun q hq => by rw [f1 q hq, am_row_self, f0 q hq]; rfl
  have hr2 := hr1.row (N := N + 1) (f := F1) (by omega)
  obtain ⟨F2, g, e2, f2, f3, f4⟩ := i_pt (ni := p 0 4) (no := p 0 2) (nc := p 0 3) (nd := nd) (k := s_ik p t) (a := N + 1) hp hS2 hr2 (show 84 + p 0 2 + p 0 3 ≤ N + 2 by omega) (by omega) (fun y hy => ⟨by rw [am_row_self]; exact g1 y hy, by have := s_ik_b p t y; have := hp.1; omega⟩)
  obtain ⟨F, q1, q2⟩ := i_ctL (nd := nd) hp h hN f0 g1 f2 f4 (s_S p) 0 FU (by omega) (by unfold FU; omega)
  refine ⟨F, ?_, q2⟩
  unfold R_X12_counts
  rw [e0, Option.bind_some, e1, Option.bind_some, e2, Option.bind_some]
  exact q1
end E5
