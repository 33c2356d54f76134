/-! least and greatest heights; the edge -/
def s_mn (p t : sP) : Nat → Int32
  | 0 => 999
  | k + 1 => if s_ht p t k < s_mn p t k then s_ht p t k else s_mn p t k
def s_mx (p t : sP) : Nat → Int32
  | 0 => 0
  | k + 1 => if s_mx p t k < s_ht p t k then s_ht p t k else s_mx p t k
theorem s_ht_b (p t : sP) (k : Nat) : 0 ≤ (s_ht p t k).toInt ∧ (s_ht p t k).toInt ≤ 999 := gHo_b _
theorem s_mn_1 (p t : sP) : s_mn p t 1 = s_ht p t 0 := by
  have h := s_ht_b p t 0
  have h9 : (999 : Int32).toInt = 999 := rfl
  show (if s_ht p t 0 < (999 : Int32) then s_ht p t 0 else (999 : Int32)) = s_ht p t 0
  by_cases h1 : s_ht p t 0 < (999 : Int32)
  · rw [if_pos h1]
  · rw [if_neg h1, i_eq]
    rw [i_lt] at h1
    omega
theorem s_mx_1 (p t : sP) : s_mx p t 1 = s_ht p t 0 := by
  have h := s_ht_b p t 0
  have h9 : (0 : Int32).toInt = 0 := rfl
  show (if (0 : Int32) < s_ht p t 0 then s_ht p t 0 else (0 : Int32)) = s_ht p t 0
  by_cases h1 : (0 : Int32) < s_ht p t 0
  · rw [if_pos h1]
  · rw [if_neg h1, i_eq]
    rw [i_lt] at h1
    omega
def s_eg (p t : sP) (j : Nat) : Nat → Nat → Int32
  | 0, _ => 0
  | m + 1, y => if s_ik p t (y * p 0 0) = j then 1 else s_eg p t j m (y + 1)
theorem s_row_lt {p : sP} (hp : p_ok p) {y : Nat} (hy : y < p 0 1) : y * p 0 0 < s_S p := by
  have := s_pair_b (C := p 0 0) (R := p 0 1) (a := 0) (b := y) (by have := hp.1; omega) hy
  rw [Nat.add_zero] at this
  exact this
/-- beside, by columns and rows -/
theorem s_be (C R d s : Nat) (hC : 2 ≤ C) (hR : 2 ≤ R) (hd : d < 4) (hs : s < C * R) :
    s_md (((s / C : Nat) : Int) + ([0, 1, 0, -1] : List Int).getD d 0) R * C + s_md (((s % C : Nat) : Int) + ([1, 0, -1, 0] : List Int).getD d 0) C = s_nb C (C * R) d s := by
  obtain ⟨e, hx⟩ := s_xy C s (by omega)
  have hy := s_y_lt hs
  generalize s % C = x at e hx ⊢
  generalize s / C = y at e hy ⊢
  subst e
  have up : ∀ n a : Nat, 2 ≤ n → a < n → s_md ((a : Int) + 1) n = if a = n - 1 then 0 else a + 1 := by
    intro n a hn ha
    rw [show (a : Int) + 1 = ((a + 1 : Nat) : Int) by omega, s_md_nat]
    by_cases h : a = n - 1
    · rw [if_pos h, show a + 1 = n by omega, Nat.mod_self]
    · rw [if_neg h, Nat.mod_eq_of_lt (by omega)]
  have dn : ∀ n a : Nat, 2 ≤ n → a < n → s_md ((a : Int) + -1) n = if a = 0 then n - 1 else a - 1 := by
    intro n a hn ha
    by_cases h : a = 0
    · subst h
      rw [if_pos rfl]
      unfold s_md
      rw [show ((0 : Nat) : Int) + -1 = ((n - 1 : Nat) : Int) + (-1) * (n : Int) by omega, Int.add_mul_emod_self_right, ← Int.natCast_emod, Nat.mod_eq_of_lt (by omega)]
      rfl
    · rw [if_neg h, show (a : Int) + -1 = ((a - 1 : Nat) : Int) by omega, s_md_id (by omega)]
  have ze : ∀ n a : Nat, a < n → s_md ((a : Int) + 0) n = a := fun n a ha => by rw [Int.add_zero, s_md_id ha]
  have hd4 : d = 0 ∨ d = 1 ∨ d = 2 ∨ d = 3 := by omega
  rcases hd4 with rfl | rfl | rfl | rfl
  · show s_md ((y : Int) + 0) R * C + s_md ((x : Int) + 1) C = _
    rw [ze R y hy, up C x hC hx, s_nb0_xy hx]
  · show s_md ((y : Int) + 1) R * C + s_md ((x : Int) + 0) C = _
    rw [ze C x hx, up R y hR hy, s_nb1_xy hx hy]
  · show s_md ((y : Int) + 0) R * C + s_md ((x : Int) + -1) C = _
    rw [ze R y hy, dn C x hC hx, s_nb2_xy hx]
  · show s_md ((y : Int) + -1) R * C + s_md ((x : Int) + 0) C = _
    rw [ze C x hx, dn R y hR hy, s_nb3_xy hx hy]
theorem am_XY (d : Nat) (hd : d < 4) : ((am_sT.getD 4 ("", "", [])).2.2.getD d 0).toInt = ([1, 0, -1, 0] : List Int).getD d 0 ∧ ((am_sT.getD 5 ("", "", [])).2.2.getD d 0).toInt = ([0, 1, 0, -1] : List Int).getD d 0 := by
  have hd4 : d = 0 ∨ d = 1 ∨ d = 2 ∨ d = 3 := by omega
  rcases hd4 with rfl | rfl | rfl | rfl <;> decide
theorem s_XYb (d : Nat) (hd : d < 4) : (-1 ≤ ([1, 0, -1, 0] : List Int).getD d 0 ∧ ([1, 0, -1, 0] : List Int).getD d 0 ≤ 1) ∧ (-1 ≤ ([0, 1, 0, -1] : List Int).getD d 0 ∧ ([0, 1, 0, -1] : List Int).getD d 0 ≤ 1) := by
  have hd4 : d = 0 ∨ d = 1 ∨ d = 2 ∨ d = 3 := by omega
  rcases hd4 with rfl | rfl | rfl | rfl <;> decide
theorem n_adi {a : Nat} {x : Int32} {z : Int} (ha : a < 100000) (hx : x.toInt = z) (hz : -1 ≤ z ∧ z ≤ 1) : (Int32.ofNat a + x).toInt = (a : Int) + z := by
  rw [Int32.toInt_add, n_ti (by omega), hx]
  exact Int.bmod_eq_of_le_mul_two (by omega) (by omega)
section MS102
variable {p t : sP} {G : am_G}
theorem rA_102.gone {I I' : am_I} (h : rA_102 I p t) (hk : ∀ b, b ≠ 110 → b ≠ 111 → I' b = I b) : rA_102 I' p t := by
  obtain ⟨h1, h2, h3, h4, h5⟩ := h
  refine ⟨h1.kept (fun b z1 z2 => hk b (by omega) (by omega)), h2.kept ⟨by rw [hk 102 (by omega) (by omega)], by rw [hk 102 (by omega) (by omega)]⟩ ⟨hk _ (by omega) (by omega), hk _ (by omega) (by omega)⟩, ?_, ?_, ?_⟩
  · unfold rV_102; rw [hk 105 (by omega) (by omega), hk 106 (by omega) (by omega)]; exact h3
  · unfold rB_102; rw [hk 106 (by omega) (by omega)]; exact h4
  · unfold rF_102; rw [hk 102 (by omega) (by omega), hk 107 (by omega) (by omega), hk 108 (by omega) (by omega)]; exact h5
theorem r_shL_102 (hp : p_ok p) (ht : t_ok p t) {j : Nat} (hj : j < 100) : ∀ (m k n : Nat) (I : am_I), rA_102 I p t → k + m = s_S p → m < n →
    ∃ I' : am_I, L_X13_share_102 n 0 I G (Int32.ofNat j) (Int32.ofNat (s_shr p t j k)) (Int32.ofNat k) = some (Int32.ofNat (s_shr p t j (s_S p)), I', G) ∧ rW_102 I I' ∧ rA_102 I' p t := by
  have hS := s_S_le hp
  intro m
  induction m with
  | zero =>
    intro k n I h hk hn
    obtain ⟨n, rfl⟩ : ∃ n', n = n' + 1 := ⟨n - 1, by omega⟩
    rw [L_X13_share_102_0, r_spots h.1, if_pos ((n_le (by omega) (by omega)).mpr (by omega)), show k = s_S p by omega]
    exact ⟨I, rfl, rW_102.rf I, h⟩
  | succ m ih =>
    intro k n I h hk hn
    obtain ⟨n, rfl⟩ : ∃ n', n = n' + 1 := ⟨n - 1, by omega⟩
    have hb := s_shr_b p t j k
    have hi := s_ik_b p t k
    have h0 := hp.1
    obtain ⟨I1, a1, a2, a3, a4⟩ := r_ik_102 (G := G) hp ht h (k := k) (by omega)
    rw [L_X13_share_102_0, r_spots h.1, if_neg (fun z => absurd ((n_le (by omega) (by omega)).mp z) (by omega)), a1, rb_go, n_inc, n_inc]
    obtain ⟨I', b1, b2, b3⟩ := ih (k + 1) n I1 a3 (by omega) (by omega)
    refine ⟨I', ?_, a2.tr b2, b3⟩
    by_cases he : s_ik p t k = j
    · rw [if_pos (by rw [he]), ← b1, s_shr, if_pos he]
    · rw [if_neg (fun z => he ((n_eq (by omega) (by omega)).mp z)), ← b1, s_shr, if_neg he, Int32.add_zero]; rfl
theorem r_sh_102 {I : am_I} (hp : p_ok p) (ht : t_ok p t) (h : rA_102 I p t) {j : Nat} (hj : j < 100) : ∃ I' : am_I, R_X13_share_102 I G (Int32.ofNat j) = some (Int32.ofNat (s_shr p t j (s_S p)), I', G) ∧ rW_102 I I' ∧ rA_102 I' p t := by
  have hS := s_S_le hp
  exact r_shL_102 hp ht hj (s_S p) 0 FU I h (by omega) (by unfold FU; omega)
theorem r_egL_102 (hp : p_ok p) (ht : t_ok p t) {j : Nat} (hj : j < 100) : ∀ (m y n : Nat) (I : am_I), rA_102 I p t → y + m = p 0 1 → m < n →
    ∃ I' : am_I, L_X13_isAtEdge_102 n 0 I G (Int32.ofNat j) (Int32.ofNat y) = some (s_eg p t j m y, I', G) ∧ rW_102 I I' ∧ rA_102 I' p t := by
  have h0 := hp.1
  intro m
  induction m with
  | zero =>
    intro y n I h hk hn
    obtain ⟨n, rfl⟩ : ∃ n', n = n' + 1 := ⟨n - 1, by omega⟩
    rw [L_X13_isAtEdge_102_0, h.1.1.2.1, if_pos ((n_le (by omega) (by omega)).mpr (by omega))]
    exact ⟨I, rfl, rW_102.rf I, h⟩
  | succ m ih =>
    intro y n I h hk hn
    obtain ⟨n, rfl⟩ : ∃ n', n = n' + 1 := ⟨n - 1, by omega⟩
    have hr := s_row_lt hp (y := y) (by omega)
    have hi := s_ik_b p t (y * p 0 0)
    obtain ⟨I1, a1, a2, a3, a4⟩ := r_ik_102 (G := G) hp ht h hr
    rw [L_X13_isAtEdge_102_0, h.1.1.2.1, if_neg (fun z => absurd ((n_le (by omega) (by omega)).mp z) (by omega)), h.1.1.1, n_mul, Nat.mul_comm (p 0 0) y, a1, rb_go, n_inc]
    obtain ⟨I', b1, b2, b3⟩ := ih (y + 1) n I1 a3 (by omega) (by omega)
    by_cases he : s_ik p t (y * p 0 0) = j
    · rw [if_pos (by rw [he]), s_eg, if_pos he]
      exact ⟨I1, rfl, a2, a3⟩
    · rw [if_neg (fun z => he ((n_eq (by omega) (by omega)).mp z)), s_eg, if_neg he]
      exact ⟨I', b1, a2.tr b2, b3⟩
theorem r_eg_102 {I : am_I} (hp : p_ok p) (ht : t_ok p t) (h : rA_102 I p t) {j : Nat} (hj : j < 100) : ∃ I' : am_I, R_X13_isAtEdge_102 I G (Int32.ofNat j) = some (s_eg p t j (p 0 1) 0, I', G) ∧ rW_102 I I' ∧ rA_102 I' p t := by
  have h0 := hp.1
  exact r_egL_102 hp ht hj (p 0 1) 0 FU I h (by omega) (by unfold FU; omega)
theorem r_mnL_102 (hp : p_ok p) (ht : t_ok p t) : ∀ (m k n : Nat) (I : am_I), rA_102 I p t → k + m = s_S p → m < n →
    ∃ I' : am_I, L_X13_highest_102 n 0 I G 0 (s_mn p t k) (Int32.ofNat k) = some (s_mn p t (s_S p), I', G) ∧ rW_102 I I' ∧ rA_102 I' p t := by
  have hS := s_S_le hp
  intro m
  induction m with
  | zero =>
    intro k n I h hk hn
    obtain ⟨n, rfl⟩ : ∃ n', n = n' + 1 := ⟨n - 1, by omega⟩
    rw [L_X13_highest_102_0, r_spots h.1, if_pos ((n_le (by omega) (by omega)).mpr (by omega)), show k = s_S p by omega]
    exact ⟨I, rfl, rW_102.rf I, h⟩
  | succ m ih =>
    intro k n I h hk hn
    obtain ⟨n, rfl⟩ : ∃ n', n = n' + 1 := ⟨n - 1, by omega⟩
    obtain ⟨I1, a1, a2, a3, a4⟩ := r_ht_102 (G := G) hp ht h (k := k) (by omega)
    rw [L_X13_highest_102_0, r_spots h.1, if_neg (fun z => absurd ((n_le (by omega) (by omega)).mp z) (by omega)), if_pos rfl, a1, rb_go, n_inc]
    obtain ⟨I', b1, b2, b3⟩ := ih (k + 1) n I1 a3 (by omega) (by omega)
    exact ⟨I', b1, a2.tr b2, b3⟩
theorem r_mxL_102 (hp : p_ok p) (ht : t_ok p t) : ∀ (m k n : Nat) (I : am_I), rA_102 I p t → k + m = s_S p → m < n →
    ∃ I' : am_I, L_X13_highest_102 n 0 I G 1 (s_mx p t k) (Int32.ofNat k) = some (s_mx p t (s_S p), I', G) ∧ rW_102 I I' ∧ rA_102 I' p t := by
  have hS := s_S_le hp
  intro m
  induction m with
  | zero =>
    intro k n I h hk hn
    obtain ⟨n, rfl⟩ : ∃ n', n = n' + 1 := ⟨n - 1, by omega⟩
    rw [L_X13_highest_102_0, r_spots h.1, if_pos ((n_le (by omega) (by omega)).mpr (by omega)), show k = s_S p by omega]
    exact ⟨I, rfl, rW_102.rf I, h⟩
  | succ m ih =>
    intro k n I h hk hn
    obtain ⟨n, rfl⟩ : ∃ n', n = n' + 1 := ⟨n - 1, by omega⟩
    obtain ⟨I1, a1, a2, a3, a4⟩ := r_ht_102 (G := G) hp ht h (k := k) (by omega)
    rw [L_X13_highest_102_0, r_spots h.1, if_neg (fun z => absurd ((n_le (by omega) (by omega)).mp z) (by omega)), if_neg (by decide), a1, rb_go, n_inc]
    obtain ⟨I', b1, b2, b3⟩ := ih (k + 1) n I1 a3 (by omega) (by omega)
    exact ⟨I', b1, a2.tr b2, b3⟩
theorem r_mn_102 {I : am_I} (hp : p_ok p) (ht : t_ok p t) (h : rA_102 I p t) : ∃ I' : am_I, R_X13_highest_102 I G 0 = some (s_mn p t (s_S p), I', G) ∧ rW_102 I I' ∧ rA_102 I' p t := by
  have hS := s_S_le hp
  have hS2 := s_S_pos hp
  obtain ⟨I1, a1, a2, a3, a4⟩ := r_ht_102 (G := G) hp ht h (k := 0) (by omega)
  obtain ⟨I', b1, b2, b3⟩ := r_mnL_102 (G := G) hp ht (s_S p - 1) 1 FU I1 a3 (by omega) (by unfold FU; omega)
  refine ⟨I', ?_, a2.tr b2, b3⟩
  unfold R_X13_highest_102
  rw [n_0, a1, rb_go, ← s_mn_1]
  exact b1
theorem r_mx_102 {I : am_I} (hp : p_ok p) (ht : t_ok p t) (h : rA_102 I p t) : ∃ I' : am_I, R_X13_highest_102 I G 1 = some (s_mx p t (s_S p), I', G) ∧ rW_102 I I' ∧ rA_102 I' p t := by
  have hS := s_S_le hp
  have hS2 := s_S_pos hp
  obtain ⟨I1, a1, a2, a3, a4⟩ := r_ht_102 (G := G) hp ht h (k := 0) (by omega)
  obtain ⟨I', b1, b2, b3⟩ := r_mxL_102 (G := G) hp ht (s_S p - 1) 1 FU I1 a3 (by omega) (by unfold FU; omega)
  refine ⟨I', ?_, a2.tr b2, b3⟩
  unfold R_X13_highest_102
  rw [n_0, a1, rb_go, ← s_mx_1]
  exact b1
theorem r_be_102 {I : am_I} (h : rP I p) (hp : p_ok p) {k d : Nat} (hk : k < s_S p) (hd : d < 4) : f_X13_beside_102 I G (Int32.ofNat k) (Int32.ofNat d) = Int32.ofNat (s_nb (p 0 0) (s_S p) d k) := by
  have h0 := hp.1
  have hS := s_S_le hp
  obtain ⟨x1, x2⟩ := am_XY d hd
  obtain ⟨y1, y2⟩ := s_XYb d hd
  have hm := Nat.mod_lt k (show 0 < p 0 0 by omega)
  have hdv := s_y_lt (show k < p 0 0 * p 0 1 from hk)
  unfold f_X13_beside_102
  rw [r_spot h hp, h.1.1, n_mod (by omega) (by omega), n_div (by omega) (by omega), n_cl (by omega), n_adi (by omega) x1 y1, n_adi (by omega) x2 y2]
  congr 1
  exact s_be (p 0 0) (p 0 1) d k (by omega) (by omega) hd hk
theorem r_beq_102 {I : am_I} (h : rP I p) (hp : p_ok p) (k : Int32) {d : Nat} (hd : d < 4) : q_X13_beside_102 I G k (Int32.ofNat d) := by
  have h0 := hp.1
  unfold q_X13_beside_102
  have a : vp_in (Int32.ofNat d) 4 := (n_in (by omega)).mpr hd
  have b : ¬ I 86 0 = 0 := by rw [h.1.1]; exact n_ne0 (by omega) (by omega)
  exact ⟨b, a, b, a, r_spotq h hp _ _, trivial⟩
/-- what a walk over a patch has changed -/
def rG_102 (I0 I : am_I) : Prop := (∀ b, b ≠ 105 → b ≠ 106 → b ≠ 107 → b ≠ 108 → b ≠ 102 → b ≠ 110 → b ≠ 111 → I b = I0 b) ∧ ∀ k, k ≠ 10 → I 102 k = I0 102 k
theorem rG_102.ofW {I0 I I' : am_I} (h : rG_102 I0 I) (hw : rW_102 I I') : rG_102 I0 I' := ⟨fun b z1 z2 z3 z4 z5 z6 z7 => (hw.1 b z1 z2 z3 z4 z5).trans (h.1 b z1 z2 z3 z4 z5 z6 z7), fun k hk => (hw.2.1 k hk).trans (h.2 k hk)⟩
theorem rG_102.tr {I0 I I' : am_I} (h : rG_102 I0 I) (hw : rG_102 I I') : rG_102 I0 I' := ⟨fun b z1 z2 z3 z4 z5 z6 z7 => (hw.1 b z1 z2 z3 z4 z5 z6 z7).trans (h.1 b z1 z2 z3 z4 z5 z6 z7), fun k hk => (hw.2 k hk).trans (h.2 k hk)⟩
theorem rG_102.rf (I : am_I) : rG_102 I I := ⟨fun _ _ _ _ _ _ _ _ => rfl, fun _ _ => rfl⟩
def rJ_102 (p t : sP) (I0 I : am_I) (f : Nat) (M : Nat → Prop) (q : Nat) : Prop :=
  (rA_102 I p t ∧ rG_102 I0 I) ∧
  (q = s_num M (s_S p) ∧ (∀ x, M x → x < s_S p ∧ s_con (p 0 0) (s_S p) (s_ik p t) f x ∧ ∃ i, i < q ∧ I 111 i = Int32.ofNat x) ∧ ∀ i, i < q → ∃ x, M x ∧ I 111 i = Int32.ofNat x) ∧
  ∀ x, x < s_S p → (M x → ¬ I 110 x = 0) ∧ (¬ M x → I 110 x = I0 110 x)
theorem rJ_102.ofW {I0 I I' : am_I} {f q : Nat} {M : Nat → Prop} (h : rJ_102 p t I0 I f M q) (hw : rW_102 I I') (ha : rA_102 I' p t) : rJ_102 p t I0 I' f M q := by
  have e1 : I' 111 = I 111 := hw.1 _ (by omega) (by omega) (by omega) (by omega) (by omega)
  have e2 : I' 110 = I 110 := hw.1 _ (by omega) (by omega) (by omega) (by omega) (by omega)
  refine ⟨⟨ha, h.1.2.ofW hw⟩, ?_, ?_⟩
  · rw [e1]; exact h.2.1
  · rw [e2]; exact h.2.2
/-- one side -/
theorem r_sd_102 (hp : p_ok p) (ht : t_ok p t) {I0 I : am_I} {f q nx d : Nat} {M : Nat → Prop} (hf : f < s_S p) (hZ : ∀ x, x < s_S p → s_con (p 0 0) (s_S p) (s_ik p t) f x → I0 110 x = 0) (h : rJ_102 p t I0 I f M q) {x : Nat} (hM : M x) (hx : I 111 nx = Int32.ofNat x) (hnx : nx < q) (hd : d < 4) (n : Nat) :
    ∃ (I' : am_I) (M' : Nat → Prop) (q' : Nat), L_X13_goOver_102 (n + 1) 1 I G (Int32.ofNat f) (Int32.ofNat q) (Int32.ofNat nx) (Int32.ofNat d) = L_X13_goOver_102 n 1 I' G (Int32.ofNat f) (Int32.ofNat q') (Int32.ofNat nx) (Int32.ofNat (d + 1)) ∧ rJ_102 p t I0 I' f M' q' ∧ (∀ y, M y → M' y) ∧ (s_ik p t (s_nb (p 0 0) (s_S p) d x) = s_ik p t f → M' (s_nb (p 0 0) (s_S p) d x)) ∧ q ≤ q' ∧ ∀ i, i < q → I' 111 i = I 111 i := by
  have h0 := hp.1
  have hS := s_S_le hp
  have hxS := (h.2.1.2.1 x hM)
  have hqS : q ≤ s_S p := by rw [h.2.1.1]; exact s_num_le M _
  have hy : s_nb (p 0 0) (s_S p) d x < s_S p := s_nb_lt (R := p 0 1) (by omega) hxS.1
  have h4 : ¬ (4 : Int32) ≤ Int32.ofNat d := fun z => absurd ((n_le (a := 4) (by omega) (by omega)).mp z) (by omega)
  rw [L_X13_goOver_102_1, if_neg h4, rg_pos ((n_in (by omega)).mpr (by omega)), n_cl (k := nx) (by omega), hx, rg_pos (r_beq_102 h.1.1.1 hp _ hd), r_be_102 h.1.1.1 hp hxS.1 hd, rg_pos ((n_in (by omega)).mpr (by omega)), n_cl (by omega)]
  by_cases hg : I 110 (s_nb (p 0 0) (s_S p) d x) = 0
  · rw [if_pos hg]
    have hMy : ¬ M (s_nb (p 0 0) (s_S p) d x) := fun z => (h.2.2 _ hy).1 z hg
    obtain ⟨I1, a1, a2, a3, a4⟩ := r_ik_102 (G := G) hp ht h.1.1 hy
    obtain ⟨I2, b1, b2, b3, b4⟩ := r_ik_102 (G := G) hp ht a3 hf
    have h2 := (h.ofW a2 a3).ofW b2 b3
    rw [a1, rb_go, b1, rb_go]
    have k1 := s_ik_b p t (s_nb (p 0 0) (s_S p) d x)
    have k2 := s_ik_b p t f
    have eq2 : I2 111 = I 111 := by rw [b2.1 _ (by omega) (by omega) (by omega) (by omega) (by omega), a2.1 _ (by omega) (by omega) (by omega) (by omega) (by omega)]
    by_cases he : s_ik p t (s_nb (p 0 0) (s_S p) d x) = s_ik p t f
    · have hc : s_con (p 0 0) (s_S p) (s_ik p t) f (s_nb (p 0 0) (s_S p) d x) := s_con_tr hxS.2.1 (s_con_st hd (by rw [he, s_con_ink hxS.2.1]))
      have ha : s_num (fun y => M y ∨ y = s_nb (p 0 0) (s_S p) d x) (s_S p) = s_num M (s_S p) + 1 := s_num_add hMy (fun y => Iff.rfl) hy
      have hb := s_num_le (fun y => M y ∨ y = s_nb (p 0 0) (s_S p) d x) (s_S p)
      have hq1 := h.2.1.1
      rw [if_pos (by rw [he]), rg_pos ⟨(n_in (by omega)).mpr (by omega), Or.inr rfl⟩, rg_pos ((n_in (by omega)).mpr (by omega)), n_cl (k := q) (by omega), n_inc, n_inc]
      refine ⟨_, fun y => M y ∨ y = s_nb (p 0 0) (s_S p) d x, q + 1, rfl, ⟨⟨h2.1.1.gone (fun b z1 z2 => by rw [up_row _ _ _ z2, up_row _ _ _ z1]), ⟨fun b z1 z2 z3 z4 z5 z6 z7 => by rw [up_row _ _ _ z7, up_row _ _ _ z6, h2.1.2.1 b z1 z2 z3 z4 z5 z6 z7], fun k hk => by rw [up_row _ _ _ (by omega), up_row _ _ _ (by omega), h2.1.2.2 k hk]⟩⟩, ⟨by omega, fun y hyM => ?_, fun i hi => ?_⟩, fun y hyS => ⟨fun hM' => ?_, fun hM' => ?_⟩⟩, fun y hyM => Or.inl hyM, fun _ => Or.inr rfl, by omega, fun i hi => by rw [up_in, if_neg (by omega), up_row _ _ _ (by omega), eq2]⟩
      · by_cases hyx : y = s_nb (p 0 0) (s_S p) d x
        · subst hyx
          exact ⟨hy, hc, q, by omega, by rw [up_in, if_pos rfl]⟩
        · obtain ⟨c1, c2, i, c3, c4⟩ := h2.2.1.2.1 y (hyM.resolve_right hyx)
          exact ⟨c1, c2, i, by omega, by rw [up_in, if_neg (by omega), up_row _ _ _ (by omega), c4]⟩
      · by_cases hiq : i = q
        · subst hiq
          exact ⟨_, Or.inr rfl, by rw [up_in, if_pos rfl]⟩
        · obtain ⟨y, c1, c2⟩ := h2.2.1.2.2 i (by omega)
          exact ⟨y, Or.inl c1, by rw [up_in, if_neg hiq, up_row _ _ _ (by omega), c2]⟩
      · rw [up_row _ _ _ (by omega), up_in]
        by_cases hyx : y = s_nb (p 0 0) (s_S p) d x
        · rw [if_pos hyx]; decide
        · rw [if_neg hyx]; exact (h2.2.2 y hyS).1 (hM'.resolve_right hyx)
      · rw [up_row _ _ _ (by omega), up_in, if_neg (fun z => hM' (Or.inr z))]
        exact (h2.2.2 y hyS).2 (fun z => hM' (Or.inl z))
    · rw [if_neg (fun z => he ((n_eq (by omega) (by omega)).mp z)), n_inc]
      exact ⟨I2, M, q, rfl, h2, fun y hy => hy, fun z => absurd z he, Nat.le_refl _, fun i _ => by rw [eq2]⟩
  · rw [if_neg hg, n_inc]
    refine ⟨I, M, q, rfl, h, fun y hy => hy, fun he => ?_, Nat.le_refl _, fun i _ => rfl⟩
    have hc : s_con (p 0 0) (s_S p) (s_ik p t) f (s_nb (p 0 0) (s_S p) d x) := s_con_tr hxS.2.1 (s_con_st hd (by rw [he, s_con_ink hxS.2.1]))
    apply Classical.byContradiction
    intro hno
    exact hg (((h.2.2 _ hy).2 hno).trans (hZ _ hy hc))
theorem r_goL_102 (hp : p_ok p) (ht : t_ok p t) {I0 : am_I} {f : Nat} (hf : f < s_S p) (hZ : ∀ x, x < s_S p → s_con (p 0 0) (s_S p) (s_ik p t) f x → I0 110 x = 0) : ∀ (m nx n : Nat) (I : am_I) (M : Nat → Prop) (q : Nat), rJ_102 p t I0 I f M q → M f → nx ≤ q →
    (∀ i x, i < nx → M x → I 111 i = Int32.ofNat x → ∀ d, d < 4 → s_ik p t (s_nb (p 0 0) (s_S p) d x) = s_ik p t f → M (s_nb (p 0 0) (s_S p) d x)) → nx + m = s_S p → m * 6 < n →
    ∃ (I' : am_I) (q' : Nat), L_X13_goOver_102 n 0 I G (Int32.ofNat f) (Int32.ofNat q) (Int32.ofNat nx) 0 = some (Int32.ofNat q', I', G) ∧ rJ_102 p t I0 I' f (fun x => s_con (p 0 0) (s_S p) (s_ik p t) f x) q' := by
  have h0 := hp.1
  have hS := s_S_le hp
  have fin : ∀ (nx : Nat) (I : am_I) (M : Nat → Prop) (q : Nat), rJ_102 p t I0 I f M q → M f → nx = q → (∀ i x, i < nx → M x → I 111 i = Int32.ofNat x → ∀ d, d < 4 → s_ik p t (s_nb (p 0 0) (s_S p) d x) = s_ik p t f → M (s_nb (p 0 0) (s_S p) d x)) → rJ_102 p t I0 I f (fun x => s_con (p 0 0) (s_S p) (s_ik p t) f x) q := by
    intro nx I M q h hMf hnx hpr
    have hM : ∀ x, M x ↔ s_con (p 0 0) (s_S p) (s_ik p t) f x := fun x => ⟨fun z => (h.2.1.2.1 x z).2.1, fun z => s_con_cl hMf (fun y d hy hd hke => by
      obtain ⟨b1, b2, i, b3, b4⟩ := h.2.1.2.1 y hy
      exact hpr i y (by omega) hy b4 d hd hke) z⟩
    exact ⟨h.1, ⟨by rw [h.2.1.1]; exact s_num_eq (fun x _ => hM x), fun x hx => h.2.1.2.1 x ((hM x).mpr hx), fun i hi => by obtain ⟨x, c1, c2⟩ := h.2.1.2.2 i hi; exact ⟨x, (hM x).mp c1, c2⟩⟩, fun x hx => ⟨fun z => (h.2.2 x hx).1 ((hM x).mpr z), fun z => (h.2.2 x hx).2 (fun y => z ((hM x).mp y))⟩⟩
  intro m
  induction m with
  | zero =>
    intro nx n I M q h hMf hnq hpr hk2 hn
    obtain ⟨n, rfl⟩ : ∃ n', n = n' + 1 := ⟨n - 1, by omega⟩
    have hqS : q ≤ s_S p := by rw [h.2.1.1]; exact s_num_le M _
    rw [L_X13_goOver_102_0, if_pos ((n_le (by omega) (by omega)).mpr (by omega))]
    exact ⟨I, q, rfl, fin nx I M q h hMf (by omega) hpr⟩
  | succ m ih =>
    intro nx n I M q h hMf hnq hpr hk2 hn
    have hqS : q ≤ s_S p := by rw [h.2.1.1]; exact s_num_le M _
    by_cases hnx : nx = q
    · obtain ⟨n, rfl⟩ : ∃ n', n = n' + 1 := ⟨n - 1, by omega⟩
      rw [L_X13_goOver_102_0, if_pos ((n_le (by omega) (by omega)).mpr (by omega))]
      exact ⟨I, q, rfl, fin nx I M q h hMf hnx hpr⟩
    · obtain ⟨n, rfl⟩ : ∃ n', n = n' + 6 := ⟨n - 6, by omega⟩
      obtain ⟨x, hMx, hQx⟩ := h.2.1.2.2 nx (by omega)
      rw [show n + 6 = (n + 5) + 1 by omega, L_X13_goOver_102_0, if_neg (fun z => absurd ((n_le (by omega) (by omega)).mp z) (by omega))]
      obtain ⟨I1, M1, q1, a1, a2, a3, a4, a5, a6⟩ := r_sd_102 (G := G) hp ht hf hZ h hMx hQx (by omega) (d := 0) (by omega) (n + 4)
      obtain ⟨I2, M2, q2, b1, b2, b3, b4, b5, b6⟩ := r_sd_102 (G := G) hp ht hf hZ a2 (a3 x hMx) (by rw [a6 nx (by omega)]; exact hQx) (by omega) (d := 1) (by omega) (n + 3)
      obtain ⟨I3, M3, q3, e1, e2, e3, e4, e5, e6⟩ := r_sd_102 (G := G) hp ht hf hZ b2 (b3 x (a3 x hMx)) (by rw [b6 nx (by omega), a6 nx (by omega)]; exact hQx) (by omega) (d := 2) (by omega) (n + 2)
      obtain ⟨I4, M4, q4, g1, g2, g3, g4, g5, g6⟩ := r_sd_102 (G := G) hp ht hf hZ e2 (e3 x (b3 x (a3 x hMx))) (by rw [e6 nx (by omega), b6 nx (by omega), a6 nx (by omega)]; exact hQx) (by omega) (d := 3) (by omega) (n + 1)
      have ch : L_X13_goOver_102 (n + 5) 1 I G (Int32.ofNat f) (Int32.ofNat q) (Int32.ofNat nx) 0 = L_X13_goOver_102 n 0 I4 G (Int32.ofNat f) (Int32.ofNat q4) (Int32.ofNat (nx + 1)) 0 := by
        refine a1.trans (b1.trans (e1.trans (g1.trans ?_)))
        rw [L_X13_goOver_102_1, if_pos (by decide), n_inc]
      rw [ch]
      have mono : ∀ y, M y → M4 y := fun y hy => g3 y (e3 y (b3 y (a3 y hy)))
      have same : ∀ i, i < q → I4 111 i = I 111 i := fun i hi => by rw [g6 i (by omega), e6 i (by omega), b6 i (by omega), a6 i hi]
      refine ih (nx + 1) n I4 M4 q4 g2 (mono f hMf) (by omega) (fun i y hi hy hQ d hd hke => ?_) (by omega) (by omega)
      have hyS := (g2.2.1.2.1 y hy).1
      have hxS := (h.2.1.2.1 x hMx).1
      rw [same i (by omega)] at hQ
      obtain ⟨z, hMz, hQz⟩ := h.2.1.2.2 i (by omega)
      have hzS := (h.2.1.2.1 z hMz).1
      rw [hQz] at hQ
      have hzy : z = y := (n_eq (by omega) (by omega)).mp hQ
      subst hzy
      by_cases hin : i = nx
      · subst hin
        rw [hQx] at hQz
        have hxz : x = z := (n_eq (by omega) (by omega)).mp hQz
        subst hxz
        have hd4 : d = 0 ∨ d = 1 ∨ d = 2 ∨ d = 3 := by omega
        rcases hd4 with rfl | rfl | rfl | rfl
        · exact g3 _ (e3 _ (b3 _ (a4 hke)))
        · exact g3 _ (e3 _ (b4 hke))
        · exact g3 _ (e4 hke)
        · exact g4 hke
      · exact mono _ (hpr i z (by omega) hMz hQz d hd hke)
/-- goOver -/
theorem r_go_102 (hp : p_ok p) (ht : t_ok p t) {I : am_I} (h : rA_102 I p t) {f : Nat} (hf : f < s_S p) (hZ : ∀ x, x < s_S p → s_con (p 0 0) (s_S p) (s_ik p t) f x → I 110 x = 0) :
    ∃ I' : am_I, R_X13_goOver_102 I G (Int32.ofNat f) = some (Int32.ofNat (s_sz (p 0 0) (s_S p) (s_ik p t) f), I', G) ∧ rA_102 I' p t ∧ rG_102 I I' ∧ ∀ x, x < s_S p → (s_con (p 0 0) (s_S p) (s_ik p t) f x → ¬ I' 110 x = 0) ∧ (¬ s_con (p 0 0) (s_S p) (s_ik p t) f x → I' 110 x = I 110 x) := by
  have hS := s_S_le hp
  have h1 : rJ_102 p t I (am_up (am_up I 111 0 (Int32.ofNat f)) 110 f 1) f (fun x => x = f) 1 := by
    refine ⟨⟨h.gone (fun b z1 z2 => by rw [up_row _ _ _ z1, up_row _ _ _ z2]), ⟨fun b z1 z2 z3 z4 z5 z6 z7 => by rw [up_row _ _ _ z6, up_row _ _ _ z7], fun k hk => by rw [up_row _ _ _ (by omega), up_row _ _ _ (by omega)]⟩⟩, ⟨?_, fun x hx => ?_, fun i hi => ?_⟩, fun x hx => ⟨fun z => ?_, fun z => ?_⟩⟩
    · have := s_num_add (f := fun _ => False) (g := fun x => x = f) (x := f) (fun z => z) (fun y => ⟨Or.inr, fun z => z.elim False.elim (fun w => w)⟩) hf
      rw [this, s_num_z (fun _ z => z)]
    · subst hx
      exact ⟨hf, s_con_rf _, 0, by omega, by rw [up_row _ _ _ (by omega), up_in, if_pos rfl]⟩
    · exact ⟨f, rfl, by rw [show i = 0 by omega, up_row _ _ _ (by omega), up_in, if_pos rfl]⟩
    · rw [up_in, if_pos z]; decide
    · rw [up_in, if_neg z, up_row _ _ _ (by omega)]
  obtain ⟨I', q, b1, b2⟩ := r_goL_102 (G := G) hp ht hf hZ (s_S p) 0 FU _ _ 1 h1 rfl (by omega) (fun i x hi => absurd hi (by omega)) (by omega) (by unfold FU; omega)
  refine ⟨I', ?_, b2.1.1, b2.1.2, b2.2.2⟩
  unfold R_X13_goOver_102
  have v0 : vp_in (0 : Int32) 576 := (n_in (k := 0) (by omega)).mpr (by omega)
  rw [rg_pos v0, rg_pos ⟨(n_in (by omega)).mpr (by omega), Or.inr rfl⟩, n_cl (by omega), show (0 : Int32).toNatClampNeg = 0 from rfl, show s_sz (p 0 0) (s_S p) (s_ik p t) f = q from b2.2.1.1.symm]
  exact b1
theorem r_fgL_102 : ∀ (m k n : Nat) (I : am_I), k + m = 576 → m < n → ∃ I' : am_I, L_X13_forget_102 n 0 I G (Int32.ofNat k) = some ((), I', G) ∧ (∀ b, b ≠ 110 → I' b = I b) ∧ ∀ j, I' 110 j = if k ≤ j ∧ j < 576 then 0 else I 110 j := by
  intro m
  induction m with
  | zero =>
    intro k n I hk hn
    obtain ⟨n, rfl⟩ : ∃ n', n = n' + 1 := ⟨n - 1, by omega⟩
    have h4 : (576 : Int32) ≤ Int32.ofNat k := (n_le (a := 576) (by omega) (by omega)).mpr (by omega)
    rw [L_X13_forget_102_0, if_pos h4]
    exact ⟨I, rfl, fun b _ => rfl, fun j => by rw [if_neg (by omega)]⟩
  | succ m ih =>
    intro k n I hk hn
    obtain ⟨n, rfl⟩ : ∃ n', n = n' + 1 := ⟨n - 1, by omega⟩
    have h4 : ¬ (576 : Int32) ≤ Int32.ofNat k := fun z => absurd ((n_le (a := 576) (by omega) (by omega)).mp z) (by omega)
    rw [L_X13_forget_102_0, if_neg h4, rg_pos ⟨(n_in (by omega)).mpr (by omega), Or.inl rfl⟩, n_cl (by omega), n_inc]
    obtain ⟨I', b1, b2, b3⟩ := ih (k + 1) n (am_up I 110 k 0) (by omega) (by omega)
    refine ⟨I', b1, fun b hb => (b2 b hb).trans (up_row _ _ _ hb), fun j => ?_⟩
    rw [b3, up_in]
    by_cases hj : j = k
    · rw [if_neg (by omega), if_pos hj, if_pos (by omega)]
    · rw [if_neg hj]
      by_cases h2 : k + 1 ≤ j ∧ j < 576
      · rw [if_pos h2, if_pos (by omega)]
      · rw [if_neg h2, if_neg (by omega)]
theorem r_fg_102 {I : am_I} (h : rA_102 I p t) : ∃ I' : am_I, R_X13_forget_102 I G = some ((), I', G) ∧ rA_102 I' p t ∧ rG_102 I I' ∧ ∀ j, j < 576 → I' 110 j = 0 := by
  obtain ⟨I', b1, b2, b3⟩ := r_fgL_102 (G := G) 576 0 FU I (by omega) (by unfold FU; omega)
  exact ⟨I', b1, h.gone (fun b z1 z2 => b2 b z1), ⟨fun b z1 z2 z3 z4 z5 z6 z7 => b2 b z6, fun k hk => by rw [b2 102 (by omega)]⟩, fun j hj => by rw [b3, if_pos (by omega)]⟩
/-- patch -/
theorem r_pa_102 (hp : p_ok p) (ht : t_ok p t) {I : am_I} (h : rA_102 I p t) {f : Nat} (hf : f < s_S p) : ∃ I' : am_I, R_X13_patch_102 I G (Int32.ofNat f) = some (Int32.ofNat (s_sz (p 0 0) (s_S p) (s_ik p t) f), I', G) ∧ rA_102 I' p t ∧ rG_102 I I' := by
  have hS := s_S_le hp
  obtain ⟨I1, a1, a2, a3, a4⟩ := r_fg_102 (G := G) h
  obtain ⟨I2, b1, b2, b3, b4⟩ := r_go_102 (G := G) hp ht a2 hf (fun x hx _ => a4 x (by omega))
  refine ⟨I2, ?_, b2, a3.tr b3⟩
  unfold R_X13_patch_102
  rw [a1, rb_go, b1, rb_go]
theorem r_psL_102 (hp : p_ok p) (ht : t_ok p t) : ∀ (m k n : Nat) (I : am_I), rA_102 I p t → (∀ x, x < s_S p → ((∃ j, j < k ∧ s_con (p 0 0) (s_S p) (s_ik p t) j x) ↔ ¬ I 110 x = 0)) → k + m = s_S p → m < n →
    ∃ I' : am_I, L_X13_patches_102 n 0 I G (Int32.ofNat (s_pat (p 0 0) (s_S p) (s_ik p t) k)) (Int32.ofNat k) = some (Int32.ofNat (s_pat (p 0 0) (s_S p) (s_ik p t) (s_S p)), I', G) ∧ rA_102 I' p t ∧ rG_102 I I' := by
  have hS := s_S_le hp
  have h0 := hp.1
  intro m
  induction m with
  | zero =>
    intro k n I h hg hk hn
    obtain ⟨n, rfl⟩ : ∃ n', n = n' + 1 := ⟨n - 1, by omega⟩
    rw [L_X13_patches_102_0, r_spots h.1, if_pos ((n_le (by omega) (by omega)).mpr (by omega)), show k = s_S p by omega]
    exact ⟨I, rfl, h, rG_102.rf I⟩
  | succ m ih =>
    intro k n I h hg hk hn
    obtain ⟨n, rfl⟩ : ∃ n', n = n' + 1 := ⟨n - 1, by omega⟩
    rw [L_X13_patches_102_0, r_spots h.1, if_neg (fun z => absurd ((n_le (by omega) (by omega)).mp z) (by omega)), rg_pos ((n_in (by omega)).mpr (by omega)), n_cl (by omega)]
    have hkS : k < s_S p := by omega
    by_cases hz : I 110 k = 0
    · rw [if_pos hz]
      have hno : ¬ ∃ j, j < k ∧ s_con (p 0 0) (s_S p) (s_ik p t) j k := fun z => (hg k hkS).mp z hz
      have hnew : s_new (p 0 0) (s_S p) (s_ik p t) k := fun j hj hc => hno ⟨j, hj, hc⟩
      have hpe : s_pat (p 0 0) (s_S p) (s_ik p t) (k + 1) = s_pat (p 0 0) (s_S p) (s_ik p t) k + 1 := s_num_y hnew
      have hfree : ∀ x, x < s_S p → s_con (p 0 0) (s_S p) (s_ik p t) k x → I 110 x = 0 := by
        intro x hx hc
        apply Classical.byContradiction
        intro hne
        obtain ⟨j, j1, j2⟩ := (hg x hx).mpr hne
        exact hno ⟨j, j1, s_con_tr j2 (s_con_sy (R := p 0 1) (by omega) (by omega) rfl hkS hc)⟩
      obtain ⟨I1, a1, a2, a3, a4⟩ := r_go_102 (G := G) hp ht h hkS hfree
      have hpos : 1 ≤ s_sz (p 0 0) (s_S p) (s_ik p t) k := s_num_pos (s_con_rf k) hkS
      have hle : s_sz (p 0 0) (s_S p) (s_ik p t) k ≤ s_S p := s_num_le _ _
      rw [a1, rb_go, if_neg (n_nle0 (by omega) (by omega)), n_inc, n_inc]
      obtain ⟨I', b1, b2, b3⟩ := ih (k + 1) n I1 a2 (fun x hx => by
        by_cases hc : s_con (p 0 0) (s_S p) (s_ik p t) k x
        · exact ⟨fun _ => (a4 x hx).1 hc, fun _ => ⟨k, by omega, hc⟩⟩
        · rw [(a4 x hx).2 hc, ← hg x hx]
          constructor
          · rintro ⟨j, j1, j2⟩
            by_cases hj : j = k
            · subst hj; exact absurd j2 hc
            · exact ⟨j, by omega, j2⟩
          · rintro ⟨j, j1, j2⟩
            exact ⟨j, by omega, j2⟩) (by omega) (by omega)
      rw [hpe] at b1
      exact ⟨I', b1, b2, a3.tr b3⟩
    · rw [if_neg hz, Int32.add_zero, n_inc]
      have hyes := (hg k hkS).mpr hz
      have hnew : ¬ s_new (p 0 0) (s_S p) (s_ik p t) k := fun z => by obtain ⟨j, j1, j2⟩ := hyes; exact z j j1 j2
      have hpe : s_pat (p 0 0) (s_S p) (s_ik p t) (k + 1) = s_pat (p 0 0) (s_S p) (s_ik p t) k := s_num_n hnew
      obtain ⟨I', b1, b2, b3⟩ := ih (k + 1) n I h (fun x hx => by
        rw [← hg x hx]
        constructor
        · rintro ⟨j, j1, j2⟩
          by_cases hj : j = k
          · subst hj
            obtain ⟨i, i1, i2⟩ := hyes
            exact ⟨i, i1, s_con_tr i2 j2⟩
          · exact ⟨j, by omega, j2⟩
        · rintro ⟨j, j1, j2⟩
          exact ⟨j, by omega, j2⟩) (by omega) (by omega)
      rw [hpe] at b1
      exact ⟨I', b1, b2, b3⟩
/-- patches -/
theorem r_ps_102 (hp : p_ok p) (ht : t_ok p t) {I : am_I} (h : rA_102 I p t) : ∃ I' : am_I, R_X13_patches_102 I G = some (Int32.ofNat (s_pat (p 0 0) (s_S p) (s_ik p t) (s_S p)), I', G) ∧ rA_102 I' p t ∧ rG_102 I I' := by
  have hS := s_S_le hp
  obtain ⟨I1, a1, a2, a3, a4⟩ := r_fg_102 (G := G) h
  obtain ⟨I2, b1, b2, b3⟩ := r_psL_102 (G := G) hp ht (s_S p) 0 FU I1 a2 (fun x hx => ⟨fun ⟨j, hj, _⟩ => absurd hj (by omega), fun z => absurd (a4 x (by omega)) z⟩) (by omega) (by unfold FU; omega)
  refine ⟨I2, ?_, b2, a3.tr b3⟩
  unfold R_X13_patches_102
  rw [a1, rb_go]
  exact b1
theorem r_ctL_102 (hp : p_ok p) (ht : t_ok p t) : ∀ (m k n : Nat) (I : am_I), rA_102 I p t → k + m = s_S p → m * 4 < n →
    ∃ I' : am_I, L_X13_contours_102 n 0 I G (Int32.ofNat (s_cts (p 0 0) (s_S p) (s_ik p t) k)) (Int32.ofNat k) 0 = some (Int32.ofNat (s_cts (p 0 0) (s_S p) (s_ik p t) (s_S p)), I', G) ∧ rW_102 I I' ∧ rA_102 I' p t := by
  have hS := s_S_le hp
  have h0 := hp.1
  have one : ∀ (k d n c : Nat) (I : am_I), rA_102 I p t → k < s_S p → d < 2 → ∃ I' : am_I, L_X13_contours_102 (n + 1) 1 I G (Int32.ofNat c) (Int32.ofNat k) (Int32.ofNat d) = L_X13_contours_102 n 1 I' G (Int32.ofNat (c + if s_ik p t k = s_ik p t (s_nb (p 0 0) (s_S p) d k) then 0 else 1)) (Int32.ofNat k) (Int32.ofNat (d + 1)) ∧ rW_102 I I' ∧ rA_102 I' p t := by
    intro k d n c I h hk hd
    have hy : s_nb (p 0 0) (s_S p) d k < s_S p := s_nb_lt (R := p 0 1) (by omega) hk
    obtain ⟨I1, a1, a2, a3, a4⟩ := r_ik_102 (G := G) hp ht h hk
    obtain ⟨I2, b1, b2, b3, b4⟩ := r_ik_102 (G := G) hp ht a3 hy
    have k1 := s_ik_b p t k
    have k2 := s_ik_b p t (s_nb (p 0 0) (s_S p) d k)
    have h4 : ¬ (2 : Int32) ≤ Int32.ofNat d := fun z => absurd ((n_le (a := 2) (by omega) (by omega)).mp z) (by omega)
    rw [L_X13_contours_102_1, if_neg h4, a1, rb_go, rg_pos (r_beq_102 a3.1 hp _ (by omega)), r_be_102 a3.1 hp hk (by omega), b1, rb_go]
    refine ⟨I2, ?_, a2.tr b2, b3⟩
    by_cases he : s_ik p t k = s_ik p t (s_nb (p 0 0) (s_S p) d k)
    · rw [if_pos (by rw [he]), if_pos he, Int32.add_zero, n_inc]; rfl
    · rw [if_neg (fun z => he ((n_eq (by omega) (by omega)).mp z)), if_neg he, n_inc, n_inc]
  intro m
  induction m with
  | zero =>
    intro k n I h hk hn
    obtain ⟨n, rfl⟩ : ∃ n', n = n' + 1 := ⟨n - 1, by omega⟩
    rw [L_X13_contours_102_0, r_spots h.1, if_pos ((n_le (by omega) (by omega)).mpr (by omega)), show k = s_S p by omega]
    exact ⟨I, rfl, rW_102.rf I, h⟩
  | succ m ih =>
    intro k n I h hk hn
    obtain ⟨n, rfl⟩ : ∃ n', n = n' + 4 := ⟨n - 4, by omega⟩
    rw [show n + 4 = (n + 3) + 1 by omega, L_X13_contours_102_0, r_spots h.1, if_neg (fun z => absurd ((n_le (by omega) (by omega)).mp z) (by omega))]
    obtain ⟨I1, a1, a2, a3⟩ := one k 0 (n + 2) _ I h (by omega) (by omega)
    obtain ⟨I2, b1, b2, b3⟩ := one k 1 (n + 1) _ I1 a3 (by omega) (by omega)
    obtain ⟨I', c1, c2, c3⟩ := ih (k + 1) n I2 b3 (by omega) (by omega)
    refine ⟨I', ?_, (a2.tr b2).tr c2, c3⟩
    refine a1.trans (b1.trans ?_)
    rw [L_X13_contours_102_1, if_pos (by decide), n_inc, Nat.add_assoc]
    exact c1
theorem r_ct_102 (hp : p_ok p) (ht : t_ok p t) {I : am_I} (h : rA_102 I p t) : ∃ I' : am_I, R_X13_contours_102 I G = some (Int32.ofNat (s_cts (p 0 0) (s_S p) (s_ik p t) (s_S p)), I', G) ∧ rW_102 I I' ∧ rA_102 I' p t := by
  have hS := s_S_le hp
  exact r_ctL_102 hp ht (s_S p) 0 FU I h (by omega) (by unfold FU; omega)
end MS102
section MS112
variable {p t : sP} {G : am_G}
theorem rA_112.gone {I I' : am_I} (h : rA_112 I p t) (hk : ∀ b, b ≠ 120 → b ≠ 121 → I' b = I b) : rA_112 I' p t := by
  obtain ⟨h1, h2, h3, h4, h5⟩ := h
  refine ⟨h1.kept (fun b z1 z2 => hk b (by omega) (by omega)), h2.kept ⟨by rw [hk 112 (by omega) (by omega)], by rw [hk 112 (by omega) (by omega)]⟩ ⟨hk _ (by omega) (by omega), hk _ (by omega) (by omega)⟩, ?_, ?_, ?_⟩
  · unfold rV_112; rw [hk 115 (by omega) (by omega), hk 116 (by omega) (by omega)]; exact h3
  · unfold rB_112; rw [hk 116 (by omega) (by omega)]; exact h4
  · unfold rF_112; rw [hk 112 (by omega) (by omega), hk 117 (by omega) (by omega), hk 118 (by omega) (by omega)]; exact h5
theorem r_shL_112 (hp : p_ok p) (ht : t_ok p t) {j : Nat} (hj : j < 100) : ∀ (m k n : Nat) (I : am_I), rA_112 I p t → k + m = s_S p → m < n →
    ∃ I' : am_I, L_X13_share_112 n 0 I G (Int32.ofNat j) (Int32.ofNat (s_shr p t j k)) (Int32.ofNat k) = some (Int32.ofNat (s_shr p t j (s_S p)), I', G) ∧ rW_112 I I' ∧ rA_112 I' p t := by
  have hS := s_S_le hp
  intro m
  induction m with
  | zero =>
    intro k n I h hk hn
    obtain ⟨n, rfl⟩ : ∃ n', n = n' + 1 := ⟨n - 1, by omega⟩
    rw [L_X13_share_112_0, r_spots h.1, if_pos ((n_le (by omega) (by omega)).mpr (by omega)), show k = s_S p by omega]
    exact ⟨I, rfl, rW_112.rf I, h⟩
  | succ m ih =>
    intro k n I h hk hn
    obtain ⟨n, rfl⟩ : ∃ n', n = n' + 1 := ⟨n - 1, by omega⟩
    have hb := s_shr_b p t j k
    have hi := s_ik_b p t k
    have h0 := hp.1
    obtain ⟨I1, a1, a2, a3, a4⟩ := r_ik_112 (G := G) hp ht h (k := k) (by omega)
    rw [L_X13_share_112_0, r_spots h.1, if_neg (fun z => absurd ((n_le (by omega) (by omega)).mp z) (by omega)), a1, rb_go, n_inc, n_inc]
    obtain ⟨I', b1, b2, b3⟩ := ih (k + 1) n I1 a3 (by omega) (by omega)
    refine ⟨I', ?_, a2.tr b2, b3⟩
    by_cases he : s_ik p t k = j
    · rw [if_pos (by rw [he]), ← b1, s_shr, if_pos he]
    · rw [if_neg (fun z => he ((n_eq (by omega) (by omega)).mp z)), ← b1, s_shr, if_neg he, Int32.add_zero]; rfl
theorem r_sh_112 {I : am_I} (hp : p_ok p) (ht : t_ok p t) (h : rA_112 I p t) {j : Nat} (hj : j < 100) : ∃ I' : am_I, R_X13_share_112 I G (Int32.ofNat j) = some (Int32.ofNat (s_shr p t j (s_S p)), I', G) ∧ rW_112 I I' ∧ rA_112 I' p t := by
  have hS := s_S_le hp
  exact r_shL_112 hp ht hj (s_S p) 0 FU I h (by omega) (by unfold FU; omega)
theorem r_egL_112 (hp : p_ok p) (ht : t_ok p t) {j : Nat} (hj : j < 100) : ∀ (m y n : Nat) (I : am_I), rA_112 I p t → y + m = p 0 1 → m < n →
    ∃ I' : am_I, L_X13_isAtEdge_112 n 0 I G (Int32.ofNat j) (Int32.ofNat y) = some (s_eg p t j m y, I', G) ∧ rW_112 I I' ∧ rA_112 I' p t := by
  have h0 := hp.1
  intro m
  induction m with
  | zero =>
    intro y n I h hk hn
    obtain ⟨n, rfl⟩ : ∃ n', n = n' + 1 := ⟨n - 1, by omega⟩
    rw [L_X13_isAtEdge_112_0, h.1.1.2.1, if_pos ((n_le (by omega) (by omega)).mpr (by omega))]
    exact ⟨I, rfl, rW_112.rf I, h⟩
  | succ m ih =>
    intro y n I h hk hn
    obtain ⟨n, rfl⟩ : ∃ n', n = n' + 1 := ⟨n - 1, by omega⟩
    have hr := s_row_lt hp (y := y) (by omega)
    have hi := s_ik_b p t (y * p 0 0)
    obtain ⟨I1, a1, a2, a3, a4⟩ := r_ik_112 (G := G) hp ht h hr
    rw [L_X13_isAtEdge_112_0, h.1.1.2.1, if_neg (fun z => absurd ((n_le (by omega) (by omega)).mp z) (by omega)), h.1.1.1, n_mul, Nat.mul_comm (p 0 0) y, a1, rb_go, n_inc]
    obtain ⟨I', b1, b2, b3⟩ := ih (y + 1) n I1 a3 (by omega) (by omega)
    by_cases he : s_ik p t (y * p 0 0) = j
    · rw [if_pos (by rw [he]), s_eg, if_pos he]
      exact ⟨I1, rfl, a2, a3⟩
    · rw [if_neg (fun z => he ((n_eq (by omega) (by omega)).mp z)), s_eg, if_neg he]
      exact ⟨I', b1, a2.tr b2, b3⟩
theorem r_eg_112 {I : am_I} (hp : p_ok p) (ht : t_ok p t) (h : rA_112 I p t) {j : Nat} (hj : j < 100) : ∃ I' : am_I, R_X13_isAtEdge_112 I G (Int32.ofNat j) = some (s_eg p t j (p 0 1) 0, I', G) ∧ rW_112 I I' ∧ rA_112 I' p t := by
  have h0 := hp.1
  exact r_egL_112 hp ht hj (p 0 1) 0 FU I h (by omega) (by unfold FU; omega)
theorem r_mnL_112 (hp : p_ok p) (ht : t_ok p t) : ∀ (m k n : Nat) (I : am_I), rA_112 I p t → k + m = s_S p → m < n →
    ∃ I' : am_I, L_X13_highest_112 n 0 I G 0 (s_mn p t k) (Int32.ofNat k) = some (s_mn p t (s_S p), I', G) ∧ rW_112 I I' ∧ rA_112 I' p t := by
  have hS := s_S_le hp
  intro m
  induction m with
  | zero =>
    intro k n I h hk hn
    obtain ⟨n, rfl⟩ : ∃ n', n = n' + 1 := ⟨n - 1, by omega⟩
    rw [L_X13_highest_112_0, r_spots h.1, if_pos ((n_le (by omega) (by omega)).mpr (by omega)), show k = s_S p by omega]
    exact ⟨I, rfl, rW_112.rf I, h⟩
  | succ m ih =>
    intro k n I h hk hn
    obtain ⟨n, rfl⟩ : ∃ n', n = n' + 1 := ⟨n - 1, by omega⟩
    obtain ⟨I1, a1, a2, a3, a4⟩ := r_ht_112 (G := G) hp ht h (k := k) (by omega)
    rw [L_X13_highest_112_0, r_spots h.1, if_neg (fun z => absurd ((n_le (by omega) (by omega)).mp z) (by omega)), if_pos rfl, a1, rb_go, n_inc]
    obtain ⟨I', b1, b2, b3⟩ := ih (k + 1) n I1 a3 (by omega) (by omega)
    exact ⟨I', b1, a2.tr b2, b3⟩
theorem r_mxL_112 (hp : p_ok p) (ht : t_ok p t) : ∀ (m k n : Nat) (I : am_I), rA_112 I p t → k + m = s_S p → m < n →
    ∃ I' : am_I, L_X13_highest_112 n 0 I G 1 (s_mx p t k) (Int32.ofNat k) = some (s_mx p t (s_S p), I', G) ∧ rW_112 I I' ∧ rA_112 I' p t := by
  have hS := s_S_le hp
  intro m
  induction m with
  | zero =>
    intro k n I h hk hn
    obtain ⟨n, rfl⟩ : ∃ n', n = n' + 1 := ⟨n - 1, by omega⟩
    rw [L_X13_highest_112_0, r_spots h.1, if_pos ((n_le (by omega) (by omega)).mpr (by omega)), show k = s_S p by omega]
    exact ⟨I, rfl, rW_112.rf I, h⟩
  | succ m ih =>
    intro k n I h hk hn
    obtain ⟨n, rfl⟩ : ∃ n', n = n' + 1 := ⟨n - 1, by omega⟩
    obtain ⟨I1, a1, a2, a3, a4⟩ := r_ht_112 (G := G) hp ht h (k := k) (by omega)
    rw [L_X13_highest_112_0, r_spots h.1, if_neg (fun z => absurd ((n_le (by omega) (by omega)).mp z) (by omega)), if_neg (by decide), a1, rb_go, n_inc]
    obtain ⟨I', b1, b2, b3⟩ := ih (k + 1) n I1 a3 (by omega) (by omega)
    exact ⟨I', b1, a2.tr b2, b3⟩
theorem r_mn_112 {I : am_I} (hp : p_ok p) (ht : t_ok p t) (h : rA_112 I p t) : ∃ I' : am_I, R_X13_highest_112 I G 0 = some (s_mn p t (s_S p), I', G) ∧ rW_112 I I' ∧ rA_112 I' p t := by
  have hS := s_S_le hp
  have hS2 := s_S_pos hp
  obtain ⟨I1, a1, a2, a3, a4⟩ := r_ht_112 (G := G) hp ht h (k := 0) (by omega)
  obtain ⟨I', b1, b2, b3⟩ := r_mnL_112 (G := G) hp ht (s_S p - 1) 1 FU I1 a3 (by omega) (by unfold FU; omega)
  refine ⟨I', ?_, a2.tr b2, b3⟩
  unfold R_X13_highest_112
  rw [n_0, a1, rb_go, ← s_mn_1]
  exact b1
theorem r_mx_112 {I : am_I} (hp : p_ok p) (ht : t_ok p t) (h : rA_112 I p t) : ∃ I' : am_I, R_X13_highest_112 I G 1 = some (s_mx p t (s_S p), I', G) ∧ rW_112 I I' ∧ rA_112 I' p t := by
  have hS := s_S_le hp
  have hS2 := s_S_pos hp
  obtain ⟨I1, a1, a2, a3, a4⟩ := r_ht_112 (G := G) hp ht h (k := 0) (by omega)
  obtain ⟨I', b1, b2, b3⟩ := r_mxL_112 (G := G) hp ht (s_S p - 1) 1 FU I1 a3 (by omega) (by unfold FU; omega)
  refine ⟨I', ?_, a2.tr b2, b3⟩
  unfold R_X13_highest_112
  rw [n_0, a1, rb_go, ← s_mx_1]
  exact b1
theorem r_be_112 {I : am_I} (h : rP I p) (hp : p_ok p) {k d : Nat} (hk : k < s_S p) (hd : d < 4) : f_X13_beside_112 I G (Int32.ofNat k) (Int32.ofNat d) = Int32.ofNat (s_nb (p 0 0) (s_S p) d k) := by
  have h0 := hp.1
  have hS := s_S_le hp
  obtain ⟨x1, x2⟩ := am_XY d hd
  obtain ⟨y1, y2⟩ := s_XYb d hd
  have hm := Nat.mod_lt k (show 0 < p 0 0 by omega)
  have hdv := s_y_lt (show k < p 0 0 * p 0 1 from hk)
  unfold f_X13_beside_112
  rw [r_spot h hp, h.1.1, n_mod (by omega) (by omega), n_div (by omega) (by omega), n_cl (by omega), n_adi (by omega) x1 y1, n_adi (by omega) x2 y2]
  congr 1
  exact s_be (p 0 0) (p 0 1) d k (by omega) (by omega) hd hk
theorem r_beq_112 {I : am_I} (h : rP I p) (hp : p_ok p) (k : Int32) {d : Nat} (hd : d < 4) : q_X13_beside_112 I G k (Int32.ofNat d) := by
  have h0 := hp.1
  unfold q_X13_beside_112
  have a : vp_in (Int32.ofNat d) 4 := (n_in (by omega)).mpr hd
  have b : ¬ I 86 0 = 0 := by rw [h.1.1]; exact n_ne0 (by omega) (by omega)
  exact ⟨b, a, b, a, r_spotq h hp _ _, trivial⟩
/-- what a walk over a patch has changed -/
def rG_112 (I0 I : am_I) : Prop := (∀ b, b ≠ 115 → b ≠ 116 → b ≠ 117 → b ≠ 118 → b ≠ 112 → b ≠ 120 → b ≠ 121 → I b = I0 b) ∧ ∀ k, k ≠ 10 → I 112 k = I0 112 k
theorem rG_112.ofW {I0 I I' : am_I} (h : rG_112 I0 I) (hw : rW_112 I I') : rG_112 I0 I' := ⟨fun b z1 z2 z3 z4 z5 z6 z7 => (hw.1 b z1 z2 z3 z4 z5).trans (h.1 b z1 z2 z3 z4 z5 z6 z7), fun k hk => (hw.2.1 k hk).trans (h.2 k hk)⟩
theorem rG_112.tr {I0 I I' : am_I} (h : rG_112 I0 I) (hw : rG_112 I I') : rG_112 I0 I' := ⟨fun b z1 z2 z3 z4 z5 z6 z7 => (hw.1 b z1 z2 z3 z4 z5 z6 z7).trans (h.1 b z1 z2 z3 z4 z5 z6 z7), fun k hk => (hw.2 k hk).trans (h.2 k hk)⟩
theorem rG_112.rf (I : am_I) : rG_112 I I := ⟨fun _ _ _ _ _ _ _ _ => rfl, fun _ _ => rfl⟩
def rJ_112 (p t : sP) (I0 I : am_I) (f : Nat) (M : Nat → Prop) (q : Nat) : Prop :=
  (rA_112 I p t ∧ rG_112 I0 I) ∧
  (q = s_num M (s_S p) ∧ (∀ x, M x → x < s_S p ∧ s_con (p 0 0) (s_S p) (s_ik p t) f x ∧ ∃ i, i < q ∧ I 121 i = Int32.ofNat x) ∧ ∀ i, i < q → ∃ x, M x ∧ I 121 i = Int32.ofNat x) ∧
  ∀ x, x < s_S p → (M x → ¬ I 120 x = 0) ∧ (¬ M x → I 120 x = I0 120 x)
theorem rJ_112.ofW {I0 I I' : am_I} {f q : Nat} {M : Nat → Prop} (h : rJ_112 p t I0 I f M q) (hw : rW_112 I I') (ha : rA_112 I' p t) : rJ_112 p t I0 I' f M q := by
  have e1 : I' 121 = I 121 := hw.1 _ (by omega) (by omega) (by omega) (by omega) (by omega)
  have e2 : I' 120 = I 120 := hw.1 _ (by omega) (by omega) (by omega) (by omega) (by omega)
  refine ⟨⟨ha, h.1.2.ofW hw⟩, ?_, ?_⟩
  · rw [e1]; exact h.2.1
  · rw [e2]; exact h.2.2
/-- one side -/
theorem r_sd_112 (hp : p_ok p) (ht : t_ok p t) {I0 I : am_I} {f q nx d : Nat} {M : Nat → Prop} (hf : f < s_S p) (hZ : ∀ x, x < s_S p → s_con (p 0 0) (s_S p) (s_ik p t) f x → I0 120 x = 0) (h : rJ_112 p t I0 I f M q) {x : Nat} (hM : M x) (hx : I 121 nx = Int32.ofNat x) (hnx : nx < q) (hd : d < 4) (n : Nat) :
    ∃ (I' : am_I) (M' : Nat → Prop) (q' : Nat), L_X13_goOver_112 (n + 1) 1 I G (Int32.ofNat f) (Int32.ofNat q) (Int32.ofNat nx) (Int32.ofNat d) = L_X13_goOver_112 n 1 I' G (Int32.ofNat f) (Int32.ofNat q') (Int32.ofNat nx) (Int32.ofNat (d + 1)) ∧ rJ_112 p t I0 I' f M' q' ∧ (∀ y, M y → M' y) ∧ (s_ik p t (s_nb (p 0 0) (s_S p) d x) = s_ik p t f → M' (s_nb (p 0 0) (s_S p) d x)) ∧ q ≤ q' ∧ ∀ i, i < q → I' 121 i = I 121 i := by
  have h0 := hp.1
  have hS := s_S_le hp
  have hxS := (h.2.1.2.1 x hM)
  have hqS : q ≤ s_S p := by rw [h.2.1.1]; exact s_num_le M _
  have hy : s_nb (p 0 0) (s_S p) d x < s_S p := s_nb_lt (R := p 0 1) (by omega) hxS.1
  have h4 : ¬ (4 : Int32) ≤ Int32.ofNat d := fun z => absurd ((n_le (a := 4) (by omega) (by omega)).mp z) (by omega)
  rw [L_X13_goOver_112_1, if_neg h4, rg_pos ((n_in (by omega)).mpr (by omega)), n_cl (k := nx) (by omega), hx, rg_pos (r_beq_112 h.1.1.1 hp _ hd), r_be_112 h.1.1.1 hp hxS.1 hd, rg_pos ((n_in (by omega)).mpr (by omega)), n_cl (by omega)]
  by_cases hg : I 120 (s_nb (p 0 0) (s_S p) d x) = 0
  · rw [if_pos hg]
    have hMy : ¬ M (s_nb (p 0 0) (s_S p) d x) := fun z => (h.2.2 _ hy).1 z hg
    obtain ⟨I1, a1, a2, a3, a4⟩ := r_ik_112 (G := G) hp ht h.1.1 hy
    obtain ⟨I2, b1, b2, b3, b4⟩ := r_ik_112 (G := G) hp ht a3 hf
    have h2 := (h.ofW a2 a3).ofW b2 b3
    rw [a1, rb_go, b1, rb_go]
    have k1 := s_ik_b p t (s_nb (p 0 0) (s_S p) d x)
    have k2 := s_ik_b p t f
    have eq2 : I2 121 = I 121 := by rw [b2.1 _ (by omega) (by omega) (by omega) (by omega) (by omega), a2.1 _ (by omega) (by omega) (by omega) (by omega) (by omega)]
    by_cases he : s_ik p t (s_nb (p 0 0) (s_S p) d x) = s_ik p t f
    · have hc : s_con (p 0 0) (s_S p) (s_ik p t) f (s_nb (p 0 0) (s_S p) d x) := s_con_tr hxS.2.1 (s_con_st hd (by rw [he, s_con_ink hxS.2.1]))
      have ha : s_num (fun y => M y ∨ y = s_nb (p 0 0) (s_S p) d x) (s_S p) = s_num M (s_S p) + 1 := s_num_add hMy (fun y => Iff.rfl) hy
      have hb := s_num_le (fun y => M y ∨ y = s_nb (p 0 0) (s_S p) d x) (s_S p)
      have hq1 := h.2.1.1
      rw [if_pos (by rw [he]), rg_pos ⟨(n_in (by omega)).mpr (by omega), Or.inr rfl⟩, rg_pos ((n_in (by omega)).mpr (by omega)), n_cl (k := q) (by omega), n_inc, n_inc]
      refine ⟨_, fun y => M y ∨ y = s_nb (p 0 0) (s_S p) d x, q + 1, rfl, ⟨⟨h2.1.1.gone (fun b z1 z2 => by rw [up_row _ _ _ z2, up_row _ _ _ z1]), ⟨fun b z1 z2 z3 z4 z5 z6 z7 => by rw [up_row _ _ _ z7, up_row _ _ _ z6, h2.1.2.1 b z1 z2 z3 z4 z5 z6 z7], fun k hk => by rw [up_row _ _ _ (by omega), up_row _ _ _ (by omega), h2.1.2.2 k hk]⟩⟩, ⟨by omega, fun y hyM => ?_, fun i hi => ?_⟩, fun y hyS => ⟨fun hM' => ?_, fun hM' => ?_⟩⟩, fun y hyM => Or.inl hyM, fun _ => Or.inr rfl, by omega, fun i hi => by rw [up_in, if_neg (by omega), up_row _ _ _ (by omega), eq2]⟩
      · by_cases hyx : y = s_nb (p 0 0) (s_S p) d x
        · subst hyx
          exact ⟨hy, hc, q, by omega, by rw [up_in, if_pos rfl]⟩
        · obtain ⟨c1, c2, i, c3, c4⟩ := h2.2.1.2.1 y (hyM.resolve_right hyx)
          exact ⟨c1, c2, i, by omega, by rw [up_in, if_neg (by omega), up_row _ _ _ (by omega), c4]⟩
      · by_cases hiq : i = q
        · subst hiq
          exact ⟨_, Or.inr rfl, by rw [up_in, if_pos rfl]⟩
        · obtain ⟨y, c1, c2⟩ := h2.2.1.2.2 i (by omega)
          exact ⟨y, Or.inl c1, by rw [up_in, if_neg hiq, up_row _ _ _ (by omega), c2]⟩
      · rw [up_row _ _ _ (by omega), up_in]
        by_cases hyx : y = s_nb (p 0 0) (s_S p) d x
        · rw [if_pos hyx]; decide
        · rw [if_neg hyx]; exact (h2.2.2 y hyS).1 (hM'.resolve_right hyx)
      · rw [up_row _ _ _ (by omega), up_in, if_neg (fun z => hM' (Or.inr z))]
        exact (h2.2.2 y hyS).2 (fun z => hM' (Or.inl z))
    · rw [if_neg (fun z => he ((n_eq (by omega) (by omega)).mp z)), n_inc]
      exact ⟨I2, M, q, rfl, h2, fun y hy => hy, fun z => absurd z he, Nat.le_refl _, fun i _ => by rw [eq2]⟩
  · rw [if_neg hg, n_inc]
    refine ⟨I, M, q, rfl, h, fun y hy => hy, fun he => ?_, Nat.le_refl _, fun i _ => rfl⟩
    have hc : s_con (p 0 0) (s_S p) (s_ik p t) f (s_nb (p 0 0) (s_S p) d x) := s_con_tr hxS.2.1 (s_con_st hd (by rw [he, s_con_ink hxS.2.1]))
    apply Classical.byContradiction
    intro hno
    exact hg (((h.2.2 _ hy).2 hno).trans (hZ _ hy hc))
theorem r_goL_112 (hp : p_ok p) (ht : t_ok p t) {I0 : am_I} {f : Nat} (hf : f < s_S p) (hZ : ∀ x, x < s_S p → s_con (p 0 0) (s_S p) (s_ik p t) f x → I0 120 x = 0) : ∀ (m nx n : Nat) (I : am_I) (M : Nat → Prop) (q : Nat), rJ_112 p t I0 I f M q → M f → nx ≤ q →
    (∀ i x, i < nx → M x → I 121 i = Int32.ofNat x → ∀ d, d < 4 → s_ik p t (s_nb (p 0 0) (s_S p) d x) = s_ik p t f → M (s_nb (p 0 0) (s_S p) d x)) → nx + m = s_S p → m * 6 < n →
    ∃ (I' : am_I) (q' : Nat), L_X13_goOver_112 n 0 I G (Int32.ofNat f) (Int32.ofNat q) (Int32.ofNat nx) 0 = some (Int32.ofNat q', I', G) ∧ rJ_112 p t I0 I' f (fun x => s_con (p 0 0) (s_S p) (s_ik p t) f x) q' := by
  have h0 := hp.1
  have hS := s_S_le hp
  have fin : ∀ (nx : Nat) (I : am_I) (M : Nat → Prop) (q : Nat), rJ_112 p t I0 I f M q → M f → nx = q → (∀ i x, i < nx → M x → I 121 i = Int32.ofNat x → ∀ d, d < 4 → s_ik p t (s_nb (p 0 0) (s_S p) d x) = s_ik p t f → M (s_nb (p 0 0) (s_S p) d x)) → rJ_112 p t I0 I f (fun x => s_con (p 0 0) (s_S p) (s_ik p t) f x) q := by
    intro nx I M q h hMf hnx hpr
    have hM : ∀ x, M x ↔ s_con (p 0 0) (s_S p) (s_ik p t) f x := fun x => ⟨fun z => (h.2.1.2.1 x z).2.1, fun z => s_con_cl hMf (fun y d hy hd hke => by
      obtain ⟨b1, b2, i, b3, b4⟩ := h.2.1.2.1 y hy
      exact hpr i y (by omega) hy b4 d hd hke) z⟩
    exact ⟨h.1, ⟨by rw [h.2.1.1]; exact s_num_eq (fun x _ => hM x), fun x hx => h.2.1.2.1 x ((hM x).mpr hx), fun i hi => by obtain ⟨x, c1, c2⟩ := h.2.1.2.2 i hi; exact ⟨x, (hM x).mp c1, c2⟩⟩, fun x hx => ⟨fun z => (h.2.2 x hx).1 ((hM x).mpr z), fun z => (h.2.2 x hx).2 (fun y => z ((hM x).mp y))⟩⟩
  intro m
  induction m with
  | zero =>
    intro nx n I M q h hMf hnq hpr hk2 hn
    obtain ⟨n, rfl⟩ : ∃ n', n = n' + 1 := ⟨n - 1, by omega⟩
    have hqS : q ≤ s_S p := by rw [h.2.1.1]; exact s_num_le M _
    rw [L_X13_goOver_112_0, if_pos ((n_le (by omega) (by omega)).mpr (by omega))]
    exact ⟨I, q, rfl, fin nx I M q h hMf (by omega) hpr⟩
  | succ m ih =>
    intro nx n I M q h hMf hnq hpr hk2 hn
    have hqS : q ≤ s_S p := by rw [h.2.1.1]; exact s_num_le M _
    by_cases hnx : nx = q
    · obtain ⟨n, rfl⟩ : ∃ n', n = n' + 1 := ⟨n - 1, by omega⟩
      rw [L_X13_goOver_112_0, if_pos ((n_le (by omega) (by omega)).mpr (by omega))]
      exact ⟨I, q, rfl, fin nx I M q h hMf hnx hpr⟩
    · obtain ⟨n, rfl⟩ : ∃ n', n = n' + 6 := ⟨n - 6, by omega⟩
      obtain ⟨x, hMx, hQx⟩ := h.2.1.2.2 nx (by omega)
      rw [show n + 6 = (n + 5) + 1 by omega, L_X13_goOver_112_0, if_neg (fun z => absurd ((n_le (by omega) (by omega)).mp z) (by omega))]
      obtain ⟨I1, M1, q1, a1, a2, a3, a4, a5, a6⟩ := r_sd_112 (G := G) hp ht hf hZ h hMx hQx (by omega) (d := 0) (by omega) (n + 4)
      obtain ⟨I2, M2, q2, b1, b2, b3, b4, b5, b6⟩ := r_sd_112 (G := G) hp ht hf hZ a2 (a3 x hMx) (by rw [a6 nx (by omega)]; exact hQx) (by omega) (d := 1) (by omega) (n + 3)
      obtain ⟨I3, M3, q3, e1, e2, e3, e4, e5, e6⟩ := r_sd_112 (G := G) hp ht hf hZ b2 (b3 x (a3 x hMx)) (by rw [b6 nx (by omega), a6 nx (by omega)]; exact hQx) (by omega) (d := 2) (by omega) (n + 2)
      obtain ⟨I4, M4, q4, g1, g2, g3, g4, g5, g6⟩ := r_sd_112 (G := G) hp ht hf hZ e2 (e3 x (b3 x (a3 x hMx))) (by rw [e6 nx (by omega), b6 nx (by omega), a6 nx (by omega)]; exact hQx) (by omega) (d := 3) (by omega) (n + 1)
      have ch : L_X13_goOver_112 (n + 5) 1 I G (Int32.ofNat f) (Int32.ofNat q) (Int32.ofNat nx) 0 = L_X13_goOver_112 n 0 I4 G (Int32.ofNat f) (Int32.ofNat q4) (Int32.ofNat (nx + 1)) 0 := by
        refine a1.trans (b1.trans (e1.trans (g1.trans ?_)))
        rw [L_X13_goOver_112_1, if_pos (by decide), n_inc]
      rw [ch]
      have mono : ∀ y, M y → M4 y := fun y hy => g3 y (e3 y (b3 y (a3 y hy)))
      have same : ∀ i, i < q → I4 121 i = I 121 i := fun i hi => by rw [g6 i (by omega), e6 i (by omega), b6 i (by omega), a6 i hi]
      refine ih (nx + 1) n I4 M4 q4 g2 (mono f hMf) (by omega) (fun i y hi hy hQ d hd hke => ?_) (by omega) (by omega)
      have hyS := (g2.2.1.2.1 y hy).1
      have hxS := (h.2.1.2.1 x hMx).1
      rw [same i (by omega)] at hQ
      obtain ⟨z, hMz, hQz⟩ := h.2.1.2.2 i (by omega)
      have hzS := (h.2.1.2.1 z hMz).1
      rw [hQz] at hQ
      have hzy : z = y := (n_eq (by omega) (by omega)).mp hQ
      subst hzy
      by_cases hin : i = nx
      · subst hin
        rw [hQx] at hQz
        have hxz : x = z := (n_eq (by omega) (by omega)).mp hQz
        subst hxz
        have hd4 : d = 0 ∨ d = 1 ∨ d = 2 ∨ d = 3 := by omega
        rcases hd4 with rfl | rfl | rfl | rfl
        · exact g3 _ (e3 _ (b3 _ (a4 hke)))
        · exact g3 _ (e3 _ (b4 hke))
        · exact g3 _ (e4 hke)
        · exact g4 hke
      · exact mono _ (hpr i z (by omega) hMz hQz d hd hke)
/-- goOver -/
theorem r_go_112 (hp : p_ok p) (ht : t_ok p t) {I : am_I} (h : rA_112 I p t) {f : Nat} (hf : f < s_S p) (hZ : ∀ x, x < s_S p → s_con (p 0 0) (s_S p) (s_ik p t) f x → I 120 x = 0) :
    ∃ I' : am_I, R_X13_goOver_112 I G (Int32.ofNat f) = some (Int32.ofNat (s_sz (p 0 0) (s_S p) (s_ik p t) f), I', G) ∧ rA_112 I' p t ∧ rG_112 I I' ∧ ∀ x, x < s_S p → (s_con (p 0 0) (s_S p) (s_ik p t) f x → ¬ I' 120 x = 0) ∧ (¬ s_con (p 0 0) (s_S p) (s_ik p t) f x → I' 120 x = I 120 x) := by
  have hS := s_S_le hp
  have h1 : rJ_112 p t I (am_up (am_up I 121 0 (Int32.ofNat f)) 120 f 1) f (fun x => x = f) 1 := by
    refine ⟨⟨h.gone (fun b z1 z2 => by rw [up_row _ _ _ z1, up_row _ _ _ z2]), ⟨fun b z1 z2 z3 z4 z5 z6 z7 => by rw [up_row _ _ _ z6, up_row _ _ _ z7], fun k hk => by rw [up_row _ _ _ (by omega), up_row _ _ _ (by omega)]⟩⟩, ⟨?_, fun x hx => ?_, fun i hi => ?_⟩, fun x hx => ⟨fun z => ?_, fun z => ?_⟩⟩
    · have := s_num_add (f := fun _ => False) (g := fun x => x = f) (x := f) (fun z => z) (fun y => ⟨Or.inr, fun z => z.elim False.elim (fun w => w)⟩) hf
      rw [this, s_num_z (fun _ z => z)]
    · subst hx
      exact ⟨hf, s_con_rf _, 0, by omega, by rw [up_row _ _ _ (by omega), up_in, if_pos rfl]⟩
    · exact ⟨f, rfl, by rw [show i = 0 by omega, up_row _ _ _ (by omega), up_in, if_pos rfl]⟩
    · rw [up_in, if_pos z]; decide
    · rw [up_in, if_neg z, up_row _ _ _ (by omega)]
  obtain ⟨I', q, b1, b2⟩ := r_goL_112 (G := G) hp ht hf hZ (s_S p) 0 FU _ _ 1 h1 rfl (by omega) (fun i x hi => absurd hi (by omega)) (by omega) (by unfold FU; omega)
  refine ⟨I', ?_, b2.1.1, b2.1.2, b2.2.2⟩
  unfold R_X13_goOver_112
  have v0 : vp_in (0 : Int32) 576 := (n_in (k := 0) (by omega)).mpr (by omega)
  rw [rg_pos v0, rg_pos ⟨(n_in (by omega)).mpr (by omega), Or.inr rfl⟩, n_cl (by omega), show (0 : Int32).toNatClampNeg = 0 from rfl, show s_sz (p 0 0) (s_S p) (s_ik p t) f = q from b2.2.1.1.symm]
  exact b1
theorem r_fgL_112 : ∀ (m k n : Nat) (I : am_I), k + m = 576 → m < n → ∃ I' : am_I, L_X13_forget_112 n 0 I G (Int32.ofNat k) = some ((), I', G) ∧ (∀ b, b ≠ 120 → I' b = I b) ∧ ∀ j, I' 120 j = if k ≤ j ∧ j < 576 then 0 else I 120 j := by
  intro m
  induction m with
  | zero =>
    intro k n I hk hn
    obtain ⟨n, rfl⟩ : ∃ n', n = n' + 1 := ⟨n - 1, by omega⟩
    have h4 : (576 : Int32) ≤ Int32.ofNat k := (n_le (a := 576) (by omega) (by omega)).mpr (by omega)
    rw [L_X13_forget_112_0, if_pos h4]
    exact ⟨I, rfl, fun b _ => rfl, fun j => by rw [if_neg (by omega)]⟩
  | succ m ih =>
    intro k n I hk hn
    obtain ⟨n, rfl⟩ : ∃ n', n = n' + 1 := ⟨n - 1, by omega⟩
    have h4 : ¬ (576 : Int32) ≤ Int32.ofNat k := fun z => absurd ((n_le (a := 576) (by omega) (by omega)).mp z) (by omega)
    rw [L_X13_forget_112_0, if_neg h4, rg_pos ⟨(n_in (by omega)).mpr (by omega), Or.inl rfl⟩, n_cl (by omega), n_inc]
    obtain ⟨I', b1, b2, b3⟩ := ih (k + 1) n (am_up I 120 k 0) (by omega) (by omega)
    refine ⟨I', b1, fun b hb => (b2 b hb).trans (up_row _ _ _ hb), fun j => ?_⟩
    rw [b3, up_in]
    by_cases hj : j = k
    · rw [if_neg (by omega), if_pos hj, if_pos (by omega)]
    · rw [if_neg hj]
      by_cases h2 : k + 1 ≤ j ∧ j < 576
      · rw [if_pos h2, if_pos (by omega)]
      · rw [if_neg h2, if_neg (by omega)]
theorem r_fg_112 {I : am_I} (h : rA_112 I p t) : ∃ I' : am_I, R_X13_forget_112 I G = some ((), I', G) ∧ rA_112 I' p t ∧ rG_112 I I' ∧ ∀ j, j < 576 → I' 120 j = 0 := by
  obtain ⟨I', b1, b2, b3⟩ := r_fgL_112 (G := G) 576 0 FU I (by omega) (by unfold FU; omega)
  exact ⟨I', b1, h.gone (fun b z1 z2 => b2 b z1), ⟨fun b z1 z2 z3 z4 z5 z6 z7 => b2 b z6, fun k hk => by rw [b2 112 (by omega)]⟩, fun j hj => by rw [b3, if_pos (by omega)]⟩
/-- patch -/
theorem r_pa_112 (hp : p_ok p) (ht : t_ok p t) {I : am_I} (h : rA_112 I p t) {f : Nat} (hf : f < s_S p) : ∃ I' : am_I, R_X13_patch_112 I G (Int32.ofNat f) = some (Int32.ofNat (s_sz (p 0 0) (s_S p) (s_ik p t) f), I', G) ∧ rA_112 I' p t ∧ rG_112 I I' := by
  have hS := s_S_le hp
  obtain ⟨I1, a1, a2, a3, a4⟩ := r_fg_112 (G := G) h
  obtain ⟨I2, b1, b2, b3, b4⟩ := r_go_112 (G := G) hp ht a2 hf (fun x hx _ => a4 x (by omega))
  refine ⟨I2, ?_, b2, a3.tr b3⟩
  unfold R_X13_patch_112
  rw [a1, rb_go, b1, rb_go]
theorem r_psL_112 (hp : p_ok p) (ht : t_ok p t) : ∀ (m k n : Nat) (I : am_I), rA_112 I p t → (∀ x, x < s_S p → ((∃ j, j < k ∧ s_con (p 0 0) (s_S p) (s_ik p t) j x) ↔ ¬ I 120 x = 0)) → k + m = s_S p → m < n →
    ∃ I' : am_I, L_X13_patches_112 n 0 I G (Int32.ofNat (s_pat (p 0 0) (s_S p) (s_ik p t) k)) (Int32.ofNat k) = some (Int32.ofNat (s_pat (p 0 0) (s_S p) (s_ik p t) (s_S p)), I', G) ∧ rA_112 I' p t ∧ rG_112 I I' := by
  have hS := s_S_le hp
  have h0 := hp.1
  intro m
  induction m with
  | zero =>
    intro k n I h hg hk hn
    obtain ⟨n, rfl⟩ : ∃ n', n = n' + 1 := ⟨n - 1, by omega⟩
    rw [L_X13_patches_112_0, r_spots h.1, if_pos ((n_le (by omega) (by omega)).mpr (by omega)), show k = s_S p by omega]
    exact ⟨I, rfl, h, rG_112.rf I⟩
  | succ m ih =>
    intro k n I h hg hk hn
    obtain ⟨n, rfl⟩ : ∃ n', n = n' + 1 := ⟨n - 1, by omega⟩
    rw [L_X13_patches_112_0, r_spots h.1, if_neg (fun z => absurd ((n_le (by omega) (by omega)).mp z) (by omega)), rg_pos ((n_in (by omega)).mpr (by omega)), n_cl (by omega)]
    have hkS : k < s_S p := by omega
    by_cases hz : I 120 k = 0
    · rw [if_pos hz]
      have hno : ¬ ∃ j, j < k ∧ s_con (p 0 0) (s_S p) (s_ik p t) j k := fun z => (hg k hkS).mp z hz
      have hnew : s_new (p 0 0) (s_S p) (s_ik p t) k := fun j hj hc => hno ⟨j, hj, hc⟩
      have hpe : s_pat (p 0 0) (s_S p) (s_ik p t) (k + 1) = s_pat (p 0 0) (s_S p) (s_ik p t) k + 1 := s_num_y hnew
      have hfree : ∀ x, x < s_S p → s_con (p 0 0) (s_S p) (s_ik p t) k x → I 120 x = 0 := by
        intro x hx hc
        apply Classical.byContradiction
        intro hne
        obtain ⟨j, j1, j2⟩ := (hg x hx).mpr hne
        exact hno ⟨j, j1, s_con_tr j2 (s_con_sy (R := p 0 1) (by omega) (by omega) rfl hkS hc)⟩
      obtain ⟨I1, a1, a2, a3, a4⟩ := r_go_112 (G := G) hp ht h hkS hfree
      have hpos : 1 ≤ s_sz (p 0 0) (s_S p) (s_ik p t) k := s_num_pos (s_con_rf k) hkS
      have hle : s_sz (p 0 0) (s_S p) (s_ik p t) k ≤ s_S p := s_num_le _ _
      rw [a1, rb_go, if_neg (n_nle0 (by omega) (by omega)), n_inc, n_inc]
      obtain ⟨I', b1, b2, b3⟩ := ih (k + 1) n I1 a2 (fun x hx => by
        by_cases hc : s_con (p 0 0) (s_S p) (s_ik p t) k x
        · exact ⟨fun _ => (a4 x hx).1 hc, fun _ => ⟨k, by omega, hc⟩⟩
        · rw [(a4 x hx).2 hc, ← hg x hx]
          constructor
          · rintro ⟨j, j1, j2⟩
            by_cases hj : j = k
            · subst hj; exact absurd j2 hc
            · exact ⟨j, by omega, j2⟩
          · rintro ⟨j, j1, j2⟩
            exact ⟨j, by omega, j2⟩) (by omega) (by omega)
      rw [hpe] at b1
      exact ⟨I', b1, b2, a3.tr b3⟩
    · rw [if_neg hz, Int32.add_zero, n_inc]
      have hyes := (hg k hkS).mpr hz
      have hnew : ¬ s_new (p 0 0) (s_S p) (s_ik p t) k := fun z => by obtain ⟨j, j1, j2⟩ := hyes; exact z j j1 j2
      have hpe : s_pat (p 0 0) (s_S p) (s_ik p t) (k + 1) = s_pat (p 0 0) (s_S p) (s_ik p t) k := s_num_n hnew
      obtain ⟨I', b1, b2, b3⟩ := ih (k + 1) n I h (fun x hx => by
        rw [← hg x hx]
        constructor
        · rintro ⟨j, j1, j2⟩
          by_cases hj : j = k
          · subst hj
            obtain ⟨i, i1, i2⟩ := hyes
            exact ⟨i, i1, s_con_tr i2 j2⟩
          · exact ⟨j, by omega, j2⟩
        · rintro ⟨j, j1, j2⟩
          exact ⟨j, by omega, j2⟩) (by omega) (by omega)
      rw [hpe] at b1
      exact ⟨I', b1, b2, b3⟩
/-- patches -/
theorem r_ps_112 (hp : p_ok p) (ht : t_ok p t) {I : am_I} (h : rA_112 I p t) : ∃ I' : am_I, R_X13_patches_112 I G = some (Int32.ofNat (s_pat (p 0 0) (s_S p) (s_ik p t) (s_S p)), I', G) ∧ rA_112 I' p t ∧ rG_112 I I' := by
  have hS := s_S_le hp
  obtain ⟨I1, a1, a2, a3, a4⟩ := r_fg_112 (G := G) h
  obtain ⟨I2, b1, b2, b3⟩ := r_psL_112 (G := G) hp ht (s_S p) 0 FU I1 a2 (fun x hx => ⟨fun ⟨j, hj, _⟩ => absurd hj (by omega), fun z => absurd (a4 x (by omega)) z⟩) (by omega) (by unfold FU; omega)
  refine ⟨I2, ?_, b2, a3.tr b3⟩
  unfold R_X13_patches_112
  rw [a1, rb_go]
  exact b1
theorem r_ctL_112 (hp : p_ok p) (ht : t_ok p t) : ∀ (m k n : Nat) (I : am_I), rA_112 I p t → k + m = s_S p → m * 4 < n →
    ∃ I' : am_I, L_X13_contours_112 n 0 I G (Int32.ofNat (s_cts (p 0 0) (s_S p) (s_ik p t) k)) (Int32.ofNat k) 0 = some (Int32.ofNat (s_cts (p 0 0) (s_S p) (s_ik p t) (s_S p)), I', G) ∧ rW_112 I I' ∧ rA_112 I' p t := by
  have hS := s_S_le hp
  have h0 := hp.1
  have one : ∀ (k d n c : Nat) (I : am_I), rA_112 I p t → k < s_S p → d < 2 → ∃ I' : am_I, L_X13_contours_112 (n + 1) 1 I G (Int32.ofNat c) (Int32.ofNat k) (Int32.ofNat d) = L_X13_contours_112 n 1 I' G (Int32.ofNat (c + if s_ik p t k = s_ik p t (s_nb (p 0 0) (s_S p) d k) then 0 else 1)) (Int32.ofNat k) (Int32.ofNat (d + 1)) ∧ rW_112 I I' ∧ rA_112 I' p t := by
    intro k d n c I h hk hd
    have hy : s_nb (p 0 0) (s_S p) d k < s_S p := s_nb_lt (R := p 0 1) (by omega) hk
    obtain ⟨I1, a1, a2, a3, a4⟩ := r_ik_112 (G := G) hp ht h hk
    obtain ⟨I2, b1, b2, b3, b4⟩ := r_ik_112 (G := G) hp ht a3 hy
    have k1 := s_ik_b p t k
    have k2 := s_ik_b p t (s_nb (p 0 0) (s_S p) d k)
    have h4 : ¬ (2 : Int32) ≤ Int32.ofNat d := fun z => absurd ((n_le (a := 2) (by omega) (by omega)).mp z) (by omega)
    rw [L_X13_contours_112_1, if_neg h4, a1, rb_go, rg_pos (r_beq_112 a3.1 hp _ (by omega)), r_be_112 a3.1 hp hk (by omega), b1, rb_go]
    refine ⟨I2, ?_, a2.tr b2, b3⟩
    by_cases he : s_ik p t k = s_ik p t (s_nb (p 0 0) (s_S p) d k)
    · rw [if_pos (by rw [he]), if_pos he, Int32.add_zero, n_inc]; rfl
    · rw [if_neg (fun z => he ((n_eq (by omega) (by omega)).mp z)), if_neg he, n_inc, n_inc]
  intro m
  induction m with
  | zero =>
    intro k n I h hk hn
    obtain ⟨n, rfl⟩ : ∃ n', n = n' + 1 := ⟨n - 1, by omega⟩
    rw [L_X13_contours_112_0, r_spots h.1, if_pos ((n_le (by omega) (by omega)).mpr (by omega)), show k = s_S p by omega]
    exact ⟨I, rfl, rW_112.rf I, h⟩
  | succ m ih =>
    intro k n I h hk hn
    obtain ⟨n, rfl⟩ : ∃ n', n = n' + 4 := ⟨n - 4, by omega⟩
    rw [show n + 4 = (n + 3) + 1 by omega, L_X13_contours_112_0, r_spots h.1, if_neg (fun z => absurd ((n_le (by omega) (by omega)).mp z) (by omega))]
    obtain ⟨I1, a1, a2, a3⟩ := one k 0 (n + 2) _ I h (by omega) (by omega)
    obtain ⟨I2, b1, b2, b3⟩ := one k 1 (n + 1) _ I1 a3 (by omega) (by omega)
    obtain ⟨I', c1, c2, c3⟩ := ih (k + 1) n I2 b3 (by omega) (by omega)
    refine ⟨I', ?_, (a2.tr b2).tr c2, c3⟩
    refine a1.trans (b1.trans ?_)
    rw [L_X13_contours_112_1, if_pos (by decide), n_inc, Nat.add_assoc]
    exact c1
theorem r_ct_112 (hp : p_ok p) (ht : t_ok p t) {I : am_I} (h : rA_112 I p t) : ∃ I' : am_I, R_X13_contours_112 I G = some (Int32.ofNat (s_cts (p 0 0) (s_S p) (s_ik p t) (s_S p)), I', G) ∧ rW_112 I I' ∧ rA_112 I' p t := by
  have hS := s_S_le hp
  exact r_ctL_112 hp ht (s_S p) 0 FU I h (by omega) (by unfold FU; omega)
end MS112
