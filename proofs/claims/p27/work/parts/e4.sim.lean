/-! the law's own paper: heights, inks, patches, counts -/
section E4
variable {p t : sP} {dp ca : Int32} {I : am_I} {ni no nc nd : Nat}
theorem i_hsL (hp : p_ok p) (ht : t_ok p t) (h : iS p t dp ca I) {N : Nat} (hN : 84 + p 0 2 + p 0 3 ≤ N) : ∀ (m k n : Nat) (F : Nat → Int32), k + m = s_S p → m < n → (∀ q, q < k → F q = s_ht p t q) → (∀ q, k ≤ q → q < s_S p → F q = Int32.ofNat (s_src p t (q % p 0 0) (q / p 0 0))) → ∃ F', L_X12_heights n 0 N I ni (p 0 2) nc nd F (s_S p) (Int32.ofNat k) = some (F', s_S p) ∧ ∀ q, q < s_S p → F' q = s_ht p t q := by
  have h0 := hp.1
  have hS := s_S_le hp
  intro m
  induction m with
  | zero =>
    intro k n F hk hn h1 h2
    obtain ⟨n, rfl⟩ : ∃ n', n = n' + 1 := ⟨n - 1, by omega⟩
    refine ⟨F, ?_, fun q hq => h1 q (by omega)⟩
    rw [L_X12_heights_0, if_pos ((n_le (by omega) (by omega)).mpr (by omega))]
  | succ m ih =>
    intro k n F hk hn h1 h2
    obtain ⟨n, rfl⟩ : ∃ n', n = n' + 1 := ⟨n - 1, by omega⟩
    have hb := s_src_b (t := t) hp (k % p 0 0) (k / p 0 0)
    have hx : s_src p t (k % p 0 0) (k / p 0 0) % p 0 0 < p 0 0 := Nat.mod_lt _ (by omega)
    have hy : s_src p t (k % p 0 0) (k / p 0 0) / p 0 0 < p 0 1 := s_y_lt hb
    have e9 : s_src p t (k % p 0 0) (k / p 0 0) / p 0 0 * p 0 0 + s_src p t (k % p 0 0) (k / p 0 0) % p 0 0 = s_src p t (k % p 0 0) (k / p 0 0) := (s_xy (p 0 0) _ (by omega)).1.symm
    obtain ⟨F', f1, f2⟩ := ih (k + 1) n (r_up F k (s_ht p t k)) (by omega) (by omega) (fun q hq => by
      unfold r_up
      by_cases e : q = k
      · rw [if_pos e, e]
      · rw [if_neg e]; exact h1 q (by omega)) (fun q hq1 hq2 => by
      unfold r_up
      rw [if_neg (by omega)]; exact h2 q (by omega) hq2)
    refine ⟨F', ?_, f2⟩
    have kin : vp_in (Int32.ofNat k) (s_S p) := (n_in (by omega)).mpr (by omega)
    rw [L_X12_heights_0, if_neg (fun q => absurd ((n_le (by omega) (by omega)).mp q) (by omega)), rg_pos kin, h.1.1, rg_pos (n_ne0 (by omega) (by omega)), rg_pos kin, rg_pos (n_ne0 (by omega) (by omega)), n_cl (by omega), h2 k (by omega) (by omega), n_mod (by omega) (by omega), n_div (by omega) (by omega), i_ht hp ht (h.row hN) hx hy, Option.bind_some, rg_pos kin, n_inc, e9]
    exact f1
theorem i_hs (hp : p_ok p) (ht : t_ok p t) (hS2 : s_S p ≤ 200) (h : iS p t dp ca I) {N : Nat} (hN : 84 + p 0 2 + p 0 3 ≤ N) : ∃ F, R_X12_heights N I ni (p 0 2) (p 0 3) nd = some (F, s_S p) ∧ ∀ q, q < s_S p → F q = s_ht p t q := by
  obtain ⟨F1, e1, e2⟩ := i_cm (ni := ni) (nd := nd) hp ht hS2 h hN
  obtain ⟨F, f1, f2⟩ := i_hsL (ni := ni) (nc := p 0 3) (nd := nd) hp ht h hN (s_S p) 0 FU F1 (by omega) (by unfold FU; omega) (fun q hq => absurd hq (Nat.not_lt_zero _)) (fun q _ hq => e2 q hq)
  refine ⟨F, ?_, f2⟩
  unfold R_X12_heights
  rw [e1, Option.bind_some]
  exact f1
theorem i_inL (hp : p_ok p) (h : iS p t dp ca I) {N a na : Nat} (hna : na ≤ 1000) (hN : 84 + p 0 2 + p 0 3 ≤ N) : ∀ (m k n : Nat) (F : Nat → Int32), k + m = na → m < n → (∀ q, q < k → F q = Int32.ofNat (s_cnt p (I a q) (p 0 4))) → ∃ F', L_X12_inks_ n 0 N I (p 0 4) no nc nd a na F na (Int32.ofNat k) = some (F', na) ∧ ∀ q, q < na → F' q = Int32.ofNat (s_cnt p (I a q) (p 0 4)) := by
  intro m
  induction m with
  | zero =>
    intro k n F hk hn h1
    obtain ⟨n, rfl⟩ : ∃ n', n = n' + 1 := ⟨n - 1, by omega⟩
    refine ⟨F, ?_, fun q hq => h1 q (by omega)⟩
    rw [L_X12_inks__0, if_pos ((n_le (by omega) (by omega)).mpr (by omega))]
  | succ m ih =>
    intro k n F hk hn h1
    obtain ⟨n, rfl⟩ : ∃ n', n = n' + 1 := ⟨n - 1, by omega⟩
    obtain ⟨F', f1, f2⟩ := ih (k + 1) n (r_up F k (Int32.ofNat (s_cnt p (I a k) (p 0 4)))) (by omega) (by omega) (fun q hq => by
      unfold r_up
      by_cases e : q = k
      · rw [if_pos e, e]
      · rw [if_neg e]; exact h1 q (by omega))
    refine ⟨F', ?_, f2⟩
    have kin : vp_in (Int32.ofNat k) na := (n_in (by omega)).mpr (by omega)
    rw [L_X12_inks__0, if_neg (fun q => absurd ((n_le (by omega) (by omega)).mp q) (by omega)), rg_pos kin, n_cl (by omega), i_ik hp (h.row hN), Option.bind_some, rg_pos kin, n_inc]
    exact f1
theorem i_in_ (hp : p_ok p) (h : iS p t dp ca I) {N a na : Nat} (hna : na ≤ 200) (hN : 84 + p 0 2 + p 0 3 ≤ N) : ∃ F, R_X12_inks_ N I (p 0 4) no nc nd a na = some (F, na) ∧ ∀ q, q < na → F q = Int32.ofNat (s_cnt p (I a q) (p 0 4)) := by
  obtain ⟨F, f1, f2⟩ := i_inL (no := no) (nc := nc) (nd := nd) (a := a) hp h (show na ≤ 1000 by omega) hN na 0 FU (fun _ => 0) (by omega) (by unfold FU; omega) (fun q hq => absurd hq (Nat.not_lt_zero _))
  refine ⟨F, ?_, f2⟩
  unfold R_X12_inks_
  rw [rg_pos ⟨by rw [n_ti (by omega)]; omega, by rw [n_ti (by omega)]; omega⟩, n_cl (by omega)]
  exact f1
theorem i_ins (hp : p_ok p) (ht : t_ok p t) (hS2 : s_S p ≤ 200) (h : iS p t dp ca I) {N : Nat} (hN : 84 + p 0 2 + p 0 3 ≤ N) : ∃ F, R_X12_inks N I (p 0 4) (p 0 2) (p 0 3) nd = some (F, s_S p) ∧ ∀ q, q < s_S p → F q = Int32.ofNat (s_ik p t q) := by
  obtain ⟨F1, e1, e2⟩ := i_hs (ni := p 0 4) (nd := nd) hp ht hS2 h hN
  obtain ⟨F, f1, f2⟩ := i_in_ (no := p 0 2) (nc := p 0 3) (nd := nd) (a := N) hp (h.row (f := F1) hN) hS2 (show 84 + p 0 2 + p 0 3 ≤ N + 1 by omega)
  refine ⟨F, ?_, fun q hq => ?_⟩
  · unfold R_X12_inks
    rw [e1, Option.bind_some, f1, Option.bind_some]
  · rw [f2 q hq, am_row_self, e2 q hq]; rfl
theorem i_right (h : iS p t dp ca I) (hp : p_ok p) {x : Nat} (hx : x < 100000) : R_X12_right I ni no nc nd (Int32.ofNat x) = some (Int32.ofNat (s_nb (p 0 0) (s_S p) 0 x)) := by
  have h0 := hp.1
  have hm := Nat.mod_lt x (show 0 < p 0 0 by omega)
  unfold R_X12_right
  rw [h.1.1, rg_pos (n_ne0 (by omega) (by omega)), n_mod (by omega) (by omega), show Int32.ofNat (p 0 0) - (1 : Int32) = Int32.ofNat (p 0 0 - 1) from n_dec (by omega), s_nb0]
  by_cases e : x % p 0 0 = p 0 0 - 1
  · have := Nat.div_add_mod x (p 0 0)
    have hle : p 0 0 ≤ x + 1 := by have := Nat.mod_le x (p 0 0); omega
    rw [if_pos (by rw [e]), if_pos e, n_sac, n_inc, n_sub hle]
  · rw [if_neg (fun q => e ((n_eq (by omega) (by omega)).mp q)), if_neg e, n_inc]
theorem i_under (h : iS p t dp ca I) (hp : p_ok p) {x : Nat} (hx : x < s_S p) : R_X12_under I ni no nc nd (Int32.ofNat x) = some (Int32.ofNat (s_nb (p 0 0) (s_S p) 1 x)) := by
  have h0 := hp.1
  have hS := s_S_le hp
  have hS1 := s_S_pos hp
  have hCS : p 0 0 ≤ s_S p := Nat.le_mul_of_pos_right _ (by omega)
  unfold R_X12_under
  rw [h.1.1, h.1.2.1, n_mul, show p 0 0 * p 0 1 = s_S p from rfl, rg_pos (n_ne0 (by omega) (by omega)), n_add, n_mod (by omega) (by omega), s_nb1]
  congr 2
  split
  · rw [Nat.mod_eq_sub_mod (by omega), Nat.mod_eq_of_lt (by omega)]
  · exact Nat.mod_eq_of_lt (by omega)
theorem i_manyL {a na : Nat} (hna : na ≤ 1000) (x : Int32) (f : Nat → Prop) (hf : ∀ q, q < na → (I a q = x ↔ f q)) : ∀ (m k n : Nat), k + m = na → m < n → L_X12_many n 0 I ni no nc nd a x na (Int32.ofNat (s_num f k)) (Int32.ofNat na) (Int32.ofNat k) = some (Int32.ofNat (s_num f na)) := by
  intro m
  induction m with
  | zero =>
    intro k n hk hn
    obtain ⟨n, rfl⟩ : ∃ n', n = n' + 1 := ⟨n - 1, by omega⟩
    obtain rfl : k = na := by omega
    rw [L_X12_many_0, if_pos ((n_le (by omega) (by omega)).mpr (Nat.le_refl _))]
  | succ m ih =>
    intro k n hk hn
    obtain ⟨n, rfl⟩ : ∃ n', n = n' + 1 := ⟨n - 1, by omega⟩
    have ih2 := ih (k + 1) n (by omega) (by omega)
    rw [L_X12_many_0, if_neg (fun q => absurd ((n_le (by omega) (by omega)).mp q) (by omega)), rg_pos ((n_in (by omega)).mpr (by omega)), n_cl (by omega), n_inc, n_inc]
    by_cases q : I a k = x
    · rw [if_pos q]
      rw [s_num_y ((hf k (by omega)).mp q)] at ih2
      exact ih2
    · rw [if_neg q, Int32.add_zero]
      rw [s_num_n (fun z => q ((hf k (by omega)).mpr z))] at ih2
      exact ih2
theorem i_many {a na : Nat} (hna : na ≤ 1000) (x : Int32) (f : Nat → Prop) (hf : ∀ q, q < na → (I a q = x ↔ f q)) : R_X12_many I ni no nc nd a x na = some (Int32.ofNat (s_num f na)) :=
  i_manyL hna x f hf na 0 FU (by omega) (by unfold FU; omega)
end E4
theorem s_shr_num (p t : sP) (j : Nat) : ∀ k, s_shr p t j k = s_num (fun q => s_ik p t q = j) k
  | 0 => rfl
  | k + 1 => by
    unfold s_shr
    rw [s_shr_num p t j k]
    by_cases h : s_ik p t k = j
    · rw [if_pos h, s_num_y (f := fun q => s_ik p t q = j) h]
    · rw [if_neg h, s_num_n (f := fun q => s_ik p t q = j) h]; exact Nat.add_zero _
/-! patches: the labels -/
def fl (b : Bool) : Int32 := if b then 1 else 0
section E4p
variable {p t : sP} {dp ca : Int32} {I : am_I} {ni no nc nd : Nat} {k : Nat → Nat}
theorem i_prA {S a n N x z : Nat} {F : Nat → Int32} {w : (Nat → Nat) × Bool} {v5 : Int32} (hS : S ≤ 576) (hx : x < S) (hz : z < S) (hk : ∀ y, y < S → I a y = Int32.ofNat (k y) ∧ k y ≤ 5) (hw : ∀ y, y < S → F y = Int32.ofNat (w.1 y) ∧ w.1 y ≤ y) : ∃ F', (∀ y, y < S → F' y = Int32.ofNat ((pr k x z w).1 y) ∧ (pr k x z w).1 y ≤ y) ∧ (rg (vp_in (Int32.ofNat x) S) ((rg (vp_in (Int32.ofNat z) S) ((if (I a (Int32.ofNat x).toNatClampNeg) = (I a (Int32.ofNat z).toNatClampNeg) then (rg (vp_in (Int32.ofNat x) S) ((rg (vp_in (Int32.ofNat z) S) ((if (F (Int32.ofNat x).toNatClampNeg) = (F (Int32.ofNat z).toNatClampNeg) then L_X12_patches n 3 N I ni no nc nd a S F S (fl w.2) (Int32.ofNat x) v5 else (rg (vp_in (Int32.ofNat x) S) ((rg (vp_in (Int32.ofNat z) S) ((rg (vp_in (Int32.ofNat x) S) ((rg (vp_in (Int32.ofNat x) S) ((rg (vp_in (Int32.ofNat z) S) (L_X12_patches n 3 N I ni no nc nd a S (r_up (r_up F (Int32.ofNat x).toNatClampNeg (if (F (Int32.ofNat z).toNatClampNeg) < (F (Int32.ofNat x).toNatClampNeg) then (F (Int32.ofNat z).toNatClampNeg) else (F (Int32.ofNat x).toNatClampNeg))) (Int32.ofNat z).toNatClampNeg ((r_up F (Int32.ofNat x).toNatClampNeg (if (F (Int32.ofNat z).toNatClampNeg) < (F (Int32.ofNat x).toNatClampNeg) then (F (Int32.ofNat z).toNatClampNeg) else (F (Int32.ofNat x).toNatClampNeg))) (Int32.ofNat x).toNatClampNeg)) S (1 : Int32) (Int32.ofNat x) v5))))))))))))))) else L_X12_patches n 3 N I ni no nc nd a S F S (fl w.2) (Int32.ofNat x) v5))))) = L_X12_patches n 3 N I ni no nc nd a S F' S (fl (pr k x z w).2) (Int32.ofNat x) v5 := by
  have xin : vp_in (Int32.ofNat x) S := (n_in (by omega)).mpr hx
  have zin : vp_in (Int32.ofNat z) S := (n_in (by omega)).mpr hz
  obtain ⟨kx, kx5⟩ := hk x hx
  obtain ⟨kz, kz5⟩ := hk z hz
  obtain ⟨fx, fx1⟩ := hw x hx
  obtain ⟨fz, fz1⟩ := hw z hz
  simp only [rg_pos xin, rg_pos zin, n_cl (show x < 2147483648 by omega), n_cl (show z < 2147483648 by omega), kx, kz, fx, fz]
  by_cases e1 : k x = k z
  · rw [if_pos (by rw [e1])]
    by_cases e2 : w.1 x = w.1 z
    · have e3 : pr k x z w = w := pr_id (fun _ => e2)
      rw [if_pos (by rw [e2]), e3]
      exact ⟨F, hw, rfl⟩
    · have e3 : pr k x z w = (fun y => if y = z then min (w.1 x) (w.1 z) else if y = x then min (w.1 x) (w.1 z) else w.1 y, true) := if_pos ⟨e1, e2⟩
      rw [if_neg (fun q => e2 ((n_eq (by omega) (by omega)).mp q))]
      have em : (if Int32.ofNat (w.1 z) < Int32.ofNat (w.1 x) then Int32.ofNat (w.1 z) else Int32.ofNat (w.1 x)) = Int32.ofNat (min (w.1 x) (w.1 z)) := by
        by_cases c : w.1 z < w.1 x
        · rw [if_pos ((n_lt (by omega) (by omega)).mpr c), Nat.min_eq_right (by omega)]
        · rw [if_neg (fun q => c ((n_lt (by omega) (by omega)).mp q)), Nat.min_eq_left (by omega)]
      rw [em]
      refine ⟨_, fun y hy => ⟨?_, Nat.le_trans pr_le (hw y hy).2⟩, by rw [e3]; rfl⟩
      rw [e3]
      show r_up (r_up F x (Int32.ofNat (min (w.1 x) (w.1 z)))) z (r_up F x (Int32.ofNat (min (w.1 x) (w.1 z))) x) y = Int32.ofNat (if y = z then min (w.1 x) (w.1 z) else if y = x then min (w.1 x) (w.1 z) else w.1 y)
      unfold r_up
      by_cases c1 : y = z
      · rw [if_pos c1, if_pos rfl, if_pos c1]
      · rw [if_neg c1, if_neg c1]
        by_cases c2 : y = x
        · rw [if_pos c2, if_pos c2]
        · rw [if_neg c2, if_neg c2]; exact (hw y hy).1
  · have e3 : pr k x z w = w := pr_id (fun q => absurd q e1)
    rw [if_neg (fun q => e1 ((n_eq (by omega) (by omega)).mp q)), e3]
    exact ⟨F, hw, rfl⟩
theorem i_pp (hp : p_ok p) (h : iS p t dp ca I) {N a : Nat} (hN : 84 + p 0 2 + p 0 3 ≤ N) (haN : a ≠ N) (hk : ∀ y, y < s_S p → I a y = Int32.ofNat (k y) ∧ k y ≤ 5) : ∀ (m x n : Nat) (F : Nat → Int32) (w : (Nat → Nat) × Bool), x + m = s_S p → (∀ y, y < s_S p → F y = Int32.ofNat (w.1 y) ∧ w.1 y ≤ y) → ∃ F', (∀ y, y < s_S p → F' y = Int32.ofNat ((pp (p 0 0) (s_S p) k m x w).1 y) ∧ (pp (p 0 0) (s_S p) k m x w).1 y ≤ y) ∧ L_X12_patches (n + 4 * m + 1) 2 N I ni no nc nd a (s_S p) F (s_S p) (fl w.2) (Int32.ofNat x) 0 = L_X12_patches n 1 N I ni no nc nd a (s_S p) F' (s_S p) (fl (pp (p 0 0) (s_S p) k m x w).2) 0 0 := by
  have h0 := hp.1
  have hS := s_S_le hp
  intro m
  induction m with
  | zero =>
    intro x n F w hx hw
    refine ⟨F, hw, ?_⟩
    rw [L_X12_patches_2, if_pos ((n_le (by omega) (by omega)).mpr (by omega))]
    rfl
  | succ m ih =>
    intro x n F w hx hw
    have hr := fun F => h.row (f := F) hN
    have n0 : s_nb (p 0 0) (s_S p) 0 x < s_S p := s_nb_lt (by omega) (show x < p 0 0 * p 0 1 by show x < s_S p; omega)
    have n1 : s_nb (p 0 0) (s_S p) 1 x < s_S p := s_nb_lt (by omega) (show x < p 0 0 * p 0 1 by show x < s_S p; omega)
    obtain ⟨F1, f1, g1⟩ := i_prA (I := I) (a := a) (k := k) (ni := ni) (no := no) (nc := nc) (nd := nd) (n := n + 4 * m + 1 + 1 + 1) (N := N) (F := F) (v5 := (0 : Int32) + 1) hS (show x < s_S p by omega) n0 hk hw
    obtain ⟨F2, f2, g2⟩ := i_prA (I := I) (a := a) (k := k) (ni := ni) (no := no) (nc := nc) (nd := nd) (n := n + 4 * m + 1 + 1) (N := N) (F := F1) (v5 := (1 : Int32) + 1) hS (show x < s_S p by omega) n1 hk f1
    obtain ⟨F3, f3, g3⟩ := ih (x + 1) n F2 (pr k x (s_nb (p 0 0) (s_S p) 1 x) (pr k x (s_nb (p 0 0) (s_S p) 0 x) w)) (by omega) f2
    refine ⟨F3, f3, ?_⟩
    rw [show n + 4 * (m + 1) + 1 = (n + 4 * m + 1 + 1 + 1 + 1) + 1 by omega, L_X12_patches_2, if_neg (fun q => absurd ((n_le (by omega) (by omega)).mp q) (by omega))]
    rw [L_X12_patches_3, if_neg (by decide), if_pos rfl, i_right (hr F) hp (by omega), Option.bind_some, g1, show (0 : Int32) + 1 = 1 from rfl]
    rw [L_X12_patches_3, if_neg (by decide), if_neg (by decide), i_under (hr F1) hp (by omega), Option.bind_some, g2]
    rw [L_X12_patches_3, if_pos (by decide), n_inc]
    exact g3
theorem i_pU (hp : p_ok p) (h : iS p t dp ca I) {N a : Nat} (hN : 84 + p 0 2 + p 0 3 ≤ N) (haN : a ≠ N) (hk : ∀ y, y < s_S p → I a y = Int32.ofNat (k y) ∧ k y ≤ 5) : ∀ (u n : Nat) (F : Nat → Int32) (g : Nat → Nat), p_U (p 0 0) (s_S p) k g ≤ u → p_inv (p 0 0) (s_S p) k g → (∀ y, y < s_S p → F y = Int32.ofNat (g y)) → ∃ F' g', L_X12_patches (n + (u + 1) * (4 * s_S p + 2) + 1) 1 N I ni no nc nd a (s_S p) F (s_S p) (1 : Int32) 0 0 = some (F', s_S p) ∧ (∀ y, y < s_S p → F' y = Int32.ofNat (g' y)) ∧ p_inv (p 0 0) (s_S p) k g' ∧ ∀ v d, v < s_S p → d < 2 → k v = k (s_nb (p 0 0) (s_S p) d v) → g' v = g' (s_nb (p 0 0) (s_S p) d v) := by
  have h0 := hp.1
  intro u
  induction u with
  | zero =>
    intro n F g hu hg hF
    obtain ⟨F1, f1, e1⟩ := i_pp (ni := ni) (no := no) (nc := nc) (nd := nd) hp h hN haN hk (s_S p) 0 (n + 1) F (g, false) (by omega) (fun y hy => ⟨hF y hy, (hg y hy).1⟩)
    obtain ⟨a1, a2, a3, a4⟩ := pp_all (C := p 0 0) (R := p 0 1) (S := s_S p) (k := k) (by omega) (by omega) rfl (s_S p) 0 (g, false) (by omega) hg
    have hfl : (pp (p 0 0) (s_S p) k (s_S p) 0 (g, false)).2 = false := by
      cases hb : (pp (p 0 0) (s_S p) k (s_S p) 0 (g, false)).2 with
      | false => rfl
      | true =>
        have := pp_U (C := p 0 0) (R := p 0 1) (S := s_S p) (k := k) (by omega) (by omega) rfl hg hb
        omega
    obtain ⟨b1, b2⟩ := a4 hfl
    refine ⟨F1, g, ?_, fun y hy => ?_, hg, fun v d hv hd hkk => b2 v d (by omega) (by omega) hd hkk⟩
    · rw [show n + (0 + 1) * (4 * s_S p + 2) + 1 = ((n + 1) + 4 * s_S p + 1) + 1 by omega, L_X12_patches_1, if_neg (by decide)]
      rw [hfl] at e1
      exact e1.trans (by rw [L_X12_patches_1]; exact if_pos rfl)
    · rw [(f1 y hy).1, b1]
  | succ u ih =>
    intro n F g hu hg hF
    obtain ⟨F1, f1, e1⟩ := i_pp (ni := ni) (no := no) (nc := nc) (nd := nd) hp h hN haN hk (s_S p) 0 (n + (u + 1) * (4 * s_S p + 2) + 1) F (g, false) (by omega) (fun y hy => ⟨hF y hy, (hg y hy).1⟩)
    obtain ⟨a1, a2, a3, a4⟩ := pp_all (C := p 0 0) (R := p 0 1) (S := s_S p) (k := k) (by omega) (by omega) rfl (s_S p) 0 (g, false) (by omega) hg
    have en : n + (u + 1 + 1) * (4 * s_S p + 2) + 1 = ((n + (u + 1) * (4 * s_S p + 2) + 1) + 4 * s_S p + 1) + 1 := by rw [Nat.succ_mul (u + 1)]; omega
    cases hb : (pp (p 0 0) (s_S p) k (s_S p) 0 (g, false)).2 with
    | false =>
      obtain ⟨b1, b2⟩ := a4 hb
      refine ⟨F1, g, ?_, fun y hy => by rw [(f1 y hy).1, b1], hg, fun v d hv hd hkk => b2 v d (by omega) (by omega) hd hkk⟩
      rw [en, L_X12_patches_1, if_neg (by decide)]
      rw [hb] at e1
      exact e1.trans (by rw [L_X12_patches_1]; exact if_pos rfl)
    | true =>
      have hU := pp_U (C := p 0 0) (R := p 0 1) (S := s_S p) (k := k) (by omega) (by omega) rfl hg hb
      obtain ⟨F', g', c1, c2, c3, c4⟩ := ih n F1 (pp (p 0 0) (s_S p) k (s_S p) 0 (g, false)).1 (by omega) a1 (fun y hy => (f1 y hy).1)
      refine ⟨F', g', ?_, c2, c3, c4⟩
      rw [en, L_X12_patches_1, if_neg (by decide)]
      rw [hb] at e1
      exact e1.trans c1
theorem i_p0 {S N a : Nat} (hS : S ≤ 1000) : ∀ (m x n : Nat) (F : Nat → Int32), x + m = S → (∀ y, y < x → F y = Int32.ofNat y) → ∃ F', L_X12_patches (n + m + 1) 0 N I ni no nc nd a S F S (Int32.ofNat x) 0 0 = L_X12_patches n 1 N I ni no nc nd a S F' S (1 : Int32) 0 0 ∧ ∀ y, y < S → F' y = Int32.ofNat y := by
  intro m
  induction m with
  | zero =>
    intro x n F hx hF
    refine ⟨F, ?_, fun y hy => hF y (by omega)⟩
    rw [L_X12_patches_0, if_pos ((n_le (by omega) (by omega)).mpr (by omega))]
  | succ m ih =>
    intro x n F hx hF
    obtain ⟨F', e1, e2⟩ := ih (x + 1) n (r_up F x (Int32.ofNat x)) (by omega) (fun y hy => by
      unfold r_up
      by_cases c : y = x
      · rw [if_pos c, c]
      · rw [if_neg c]; exact hF y (by omega))
    refine ⟨F', ?_, e2⟩
    rw [show n + (m + 1) + 1 = (n + m + 1) + 1 by omega, L_X12_patches_0, if_neg (fun q => absurd ((n_le (by omega) (by omega)).mp q) (by omega)), rg_pos ((n_in (by omega)).mpr (by omega)), n_cl (by omega), n_inc]
    exact e1
/-- of each spot a label: the same just in one patch, its own just for the first of a patch -/
theorem i_pt (hp : p_ok p) (hS2 : s_S p ≤ 200) (h : iS p t dp ca I) {N a : Nat} (hN : 84 + p 0 2 + p 0 3 ≤ N) (haN : a ≠ N) (hk : ∀ y, y < s_S p → I a y = Int32.ofNat (k y) ∧ k y ≤ 5) : ∃ (F : Nat → Int32) (g : Nat → Nat), R_X12_patches N I ni no nc nd a (s_S p) = some (F, s_S p) ∧ (∀ y, y < s_S p → F y = Int32.ofNat (g y) ∧ g y < s_S p) ∧ (∀ x y, x < s_S p → y < s_S p → (g x = g y ↔ s_con (p 0 0) (s_S p) k x y)) ∧ ∀ x, x < s_S p → (g x = x ↔ s_new (p 0 0) (s_S p) k x) := by
  have h0 := hp.1
  have hU : p_U (p 0 0) (s_S p) k (fun y => y) ≤ 200 := Nat.le_trans (s_num_le _ _) hS2
  have hi : p_inv (p 0 0) (s_S p) k (fun y => y) := fun x _ => ⟨Nat.le_refl _, s_con_rf _⟩
  have hc : (200 + 1) * (4 * s_S p + 2) ≤ 201 * 802 := Nat.mul_le_mul (by omega) (by omega)
  obtain ⟨n, hn⟩ : ∃ n, FU = (n + (200 + 1) * (4 * s_S p + 2) + 1) + s_S p + 1 := ⟨FU - ((200 + 1) * (4 * s_S p + 2) + 1 + s_S p + 1), by unfold FU; omega⟩
  obtain ⟨F1, e1, e2⟩ := i_p0 (I := I) (ni := ni) (no := no) (nc := nc) (nd := nd) (N := N) (a := a) (show s_S p ≤ 1000 by omega) (s_S p) 0 (n + (200 + 1) * (4 * s_S p + 2) + 1) (fun _ => 0) (by omega) (fun y hy => absurd hy (Nat.not_lt_zero _))
  obtain ⟨F, g, f1, f2, f3, f4⟩ := i_pU (ni := ni) (no := no) (nc := nc) (nd := nd) hp h hN haN hk 200 n F1 (fun y => y) hU hi e2
  obtain ⟨q1, q2⟩ := p_fin (C := p 0 0) (R := p 0 1) (S := s_S p) (k := k) (by omega) (by omega) rfl f3 f4
  refine ⟨F, g, ?_, fun y hy => ⟨f2 y hy, by have := (f3 y hy).1; omega⟩, q1, q2⟩
  unfold R_X12_patches
  rw [rg_pos ⟨by rw [n_ti (by omega)]; omega, by rw [n_ti (by omega)]; omega⟩, n_cl (by omega), hn]
  exact e1.trans f1
end E4p
