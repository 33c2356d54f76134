/-! the reference: its plan -/
def rP (I : am_I) (p : sP) : Prop := (I 86 0 = Int32.ofNat (p 0 0) ∧ I 86 1 = Int32.ofNat (p 0 1) ∧ I 86 2 = Int32.ofNat (p 0 2) ∧ I 86 3 = Int32.ofNat (p 0 3) ∧ I 86 4 = Int32.ofNat (p 0 4)) ∧
  (∀ k, k < p 0 2 → I 87 k = Int32.ofNat (p 1 k) ∧ I 88 k = Int32.ofNat (p 2 k) ∧ I 89 k = Int32.ofNat (p 3 k) ∧ I 90 k = Int32.ofNat (p 7 k)) ∧
  (∀ k, k < p 0 3 → I 91 k = Int32.ofNat (p 4 k) ∧ I 92 k = Int32.ofNat (p 5 k) ∧ I 93 k = Int32.ofNat (p 8 k)) ∧ (∀ k, k < p 0 4 → I 94 k = Int32.ofNat (p 6 k))
theorem rP.kept {I I' : am_I} {p : sP} (h : rP I p) (hk : ∀ b, 86 ≤ b → b ≤ 94 → I' b = I b) : rP I' p := by
  unfold rP
  rw [hk 86 (by omega) (by omega), hk 87 (by omega) (by omega), hk 88 (by omega) (by omega), hk 89 (by omega) (by omega), hk 90 (by omega) (by omega), hk 91 (by omega) (by omega), hk 92 (by omega) (by omega), hk 93 (by omega) (by omega), hk 94 (by omega) (by omega)]
  exact h
theorem r_hold (x : Int32) : (if (0 : Int32) < (if x < (999 : Int32) then x else (999 : Int32)) then (if x < (999 : Int32) then x else (999 : Int32)) else (0 : Int32)) = gHo x 0 999 := by
  have e : (if x < (999 : Int32) then x else (999 : Int32)) = (if (999 : Int32) < x then (999 : Int32) else x) := by
    by_cases h1 : x < (999 : Int32)
    · rw [if_pos h1, if_neg (by rw [i_lt] at h1 ⊢; omega)]
    · rw [if_neg h1]
      by_cases h2 : (999 : Int32) < x
      · rw [if_pos h2]
      · rw [if_neg h2, i_eq]; rw [i_lt] at h1 h2; omega
  rw [e]; rfl
theorem s_cnt_all {p : sP} {h : Int32} : ∀ {i : Nat}, (∀ j, j < i → Int32.ofNat (p 6 j) ≤ h) → s_cnt p h i = i
  | 0, _ => rfl
  | i + 1, hh => by rw [s_cnt, s_cnt_all (fun j hj => hh j (by omega)), if_pos (hh i (by omega))]
theorem s_cnt_stop {p : sP} (hp : p_ok p) {h : Int32} {i : Nat} (hh : ∀ j, j < i → Int32.ofNat (p 6 j) ≤ h) (hs : ¬ Int32.ofNat (p 6 i) ≤ h) : ∀ m, i + m ≤ p 0 4 → s_cnt p h (i + m) = i
  | 0, _ => s_cnt_all hh
  | m + 1, hm => by
    have h1 := s_cnt_stop hp hh hs m (by omega)
    have h2 : ¬ Int32.ofNat (p 6 (i + m)) ≤ h := by
      have b1 := (hp.2.1 (i + m)).2.2.2.2.2.2.2.2.2.1
      have b2 := (hp.2.1 i).2.2.2.2.2.2.2.2.2.1
      have hle : p 6 i ≤ p 6 (i + m) := by
        rcases Nat.eq_zero_or_pos m with z | z
        · subst z; exact Nat.le_refl _
        · exact Nat.le_of_lt (hp.2.2 i (i + m) (by omega) (by omega))
      rw [i_le, n_ti (by omega)] at hs ⊢
      omega
    rw [← Nat.add_assoc, s_cnt, h1, if_neg h2]; rfl
section MR
variable {I : am_I} {G : am_G} {p : sP}
theorem r_spot (h : rP I p) (hp : p_ok p) (x y : Int32) : f_X12_spot_86 I G x y = Int32.ofNat (s_md y.toInt (p 0 1) * p 0 0 + s_md x.toInt (p 0 0)) := by
  have h0 := hp.1
  unfold f_X12_spot_86
  rw [h.1.1, h.1.2.1, n_fm (by omega) (by omega), n_fm (by omega) (by omega), n_mul, n_add]
theorem r_spotq (h : rP I p) (hp : p_ok p) (x y : Int32) : q_X12_spot_86 I G x y := by
  have h0 := hp.1
  unfold q_X12_spot_86
  rw [h.1.1, h.1.2.1]
  exact ⟨n_pos (by omega) (by omega), n_pos (by omega) (by omega), trivial⟩
theorem r_spots (h : rP I p) : f_X12_spots_86 I G = Int32.ofNat (s_S p) := by
  unfold f_X12_spots_86
  rw [h.1.1, h.1.2.1, n_mul]; rfl
theorem r_grad (h : rP I p) (hp : p_ok p) {o seed i j : Nat} (ho : o < p 0 2) (hs : seed ≤ 999) (hi : i < 1000) (hj : j < 1000) : f_X12_gradient_86 I G (Int32.ofNat o) (Int32.ofNat seed) (Int32.ofNat i) (Int32.ofNat j) = Int32.ofNat (s_gr (p 1 o) (p 2 o) seed i j) := by
  have h0 := hp.1
  have h1 := hp.2.1 o
  have a1 := Nat.mod_lt i (show 0 < p 1 o by omega)
  have a2 := Nat.mod_lt j (show 0 < p 2 o by omega)
  have b1 : i % p 1 o * (i % p 1 o) ≤ 7 * 7 := Nat.mul_le_mul (by omega) (by omega)
  have b2 : i % p 1 o * (j % p 2 o) ≤ 7 * 7 := Nat.mul_le_mul (by omega) (by omega)
  have b3 : 3 * (i % p 1 o) * (i % p 1 o) ≤ 3 * 7 * 7 := Nat.mul_le_mul (by omega) (by omega)
  unfold f_X12_gradient_86
  rw [n_cl (by omega), (h.2.1 o ho).1, (h.2.1 o ho).2.1, n_mod (by omega) (by omega), n_mod (by omega) (by omega),
    show (3 : Int32) = Int32.ofNat 3 from rfl, show (5 : Int32) = Int32.ofNat 5 from rfl, show (8 : Int32) = Int32.ofNat 8 from rfl]
  simp only [n_mul, n_add]
  rw [n_mod (by omega) (by omega)]
  rfl
theorem r_gradq (h : rP I p) (hp : p_ok p) {o : Nat} (ho : o < p 0 2) (s i j : Int32) : q_X12_gradient_86 I G (Int32.ofNat o) s i j := by
  have h0 := hp.1
  have h1 := hp.2.1 o
  unfold q_X12_gradient_86
  rw [n_cl (by omega), (h.2.1 o ho).1, (h.2.1 o ho).2.1]
  exact ⟨(n_in (by omega)).mpr (by omega), n_ne0 (by omega) (by omega), (n_in (by omega)).mpr (by omega), n_ne0 (by omega) (by omega), by decide, trivial⟩
end MR
/-! the reference's state 102 -/
def rT_102 (I : am_I) (p t : sP) : Prop := (I 102 2 = Int32.ofNat (t 0 0) ∧ I 102 3 = Int32.ofNat (t 0 1)) ∧ (∀ o, o < p 0 2 → I 103 o = Int32.ofNat (t 1 o)) ∧ ∀ c, c < p 0 3 → I 104 c = Int32.ofNat (t 2 c)
def rV_102 (I : am_I) (p t : sP) : Prop := ∀ o, o < p 0 2 → ¬ I 106 o = 0 → ∀ k, k < s_S p → I 105 (576 * o + k) = s_v p o (t 1 o) k
def rB_102 (I : am_I) : Prop := ∀ k, I 106 k = 0 ∨ I 106 k = 1
def rF_102 (I : am_I) (p t : sP) : Prop := ¬ I 102 10 = 0 → ∀ k, k < s_S p → I 107 k = s_ht p t k ∧ I 108 k = Int32.ofNat (s_ik p t k)
/-- all that is known of it -/
def rA_102 (I : am_I) (p t : sP) : Prop := rP I p ∧ rT_102 I p t ∧ rV_102 I p t ∧ rB_102 I ∧ rF_102 I p t
/-- only what is kept has changed -/
def rW_102 (I I' : am_I) : Prop := (∀ b, b ≠ 105 → b ≠ 106 → b ≠ 107 → b ≠ 108 → b ≠ 102 → I' b = I b) ∧ (∀ k, k ≠ 10 → I' 102 k = I 102 k) ∧ (¬ I 102 10 = 0 → I' = I)
theorem rW_102.rf (I : am_I) : rW_102 I I := ⟨fun _ _ _ _ _ _ => rfl, fun _ _ => rfl, fun _ => rfl⟩
theorem rW_102.tr {I I1 I2 : am_I} (h1 : rW_102 I I1) (h2 : rW_102 I1 I2) : rW_102 I I2 :=
  ⟨fun b z1 z2 z3 z4 z5 => (h2.1 b z1 z2 z3 z4 z5).trans (h1.1 b z1 z2 z3 z4 z5), fun k hk => (h2.2.1 k hk).trans (h1.2.1 k hk), fun z => by
    have e := h1.2.2 z
    subst e
    exact h2.2.2 z⟩
section MR102
variable {p t : sP} {G : am_G}
theorem rT_102.kept {I I' : am_I} (h : rT_102 I p t) (h1 : I' 102 2 = I 102 2 ∧ I' 102 3 = I 102 3) (h2 : I' 103 = I 103 ∧ I' 104 = I 104) : rT_102 I' p t := by
  unfold rT_102
  rw [h1.1, h1.2, h2.1, h2.2]
  exact h
theorem r_mov_102 {I : am_I} (h : rP I p) (hp : p_ok p) (hT : rT_102 I p t) (ht : t_ok p t) {c : Nat} (hc : c < p 0 3) (x : Int32) : f_X13_moves_102 I G (Int32.ofNat c) x = Int32.ofNat (s_shift p t c (s_md x.toInt (s_lines p c))) := by
  have h0 := hp.1
  have h1 := hp.2.1 c
  have hu := (ht.2.2 c).2
  have key : ∀ n : Nat, 4 ≤ n → n ≤ 24 → ((((Int32.ofNat (t 2 c)) * (2 : Int32)) * (if ((Int32.ofNat n) - (((Int32.ofNat (s_md x.toInt n)) * (Int32.ofNat (p 5 c))) - ((Int32.ofNat (s_md x.toInt n)) * (Int32.ofNat (p 5 c))) / (Int32.ofNat n) * (Int32.ofNat n))) < (((Int32.ofNat (s_md x.toInt n)) * (Int32.ofNat (p 5 c))) - ((Int32.ofNat (s_md x.toInt n)) * (Int32.ofNat (p 5 c))) / (Int32.ofNat n) * (Int32.ofNat n)) then ((Int32.ofNat n) - (((Int32.ofNat (s_md x.toInt n)) * (Int32.ofNat (p 5 c))) - ((Int32.ofNat (s_md x.toInt n)) * (Int32.ofNat (p 5 c))) / (Int32.ofNat n) * (Int32.ofNat n))) else (((Int32.ofNat (s_md x.toInt n)) * (Int32.ofNat (p 5 c))) - ((Int32.ofNat (s_md x.toInt n)) * (Int32.ofNat (p 5 c))) / (Int32.ofNat n) * (Int32.ofNat n)))) / (Int32.ofNat n)) = Int32.ofNat (s_sh n (p 5 c) (t 2 c) (s_md x.toInt n)) := by
    intro n hn1 hn2
    have hm := s_md_lt x.toInt (show 0 < n by omega)
    have hlt : s_md x.toInt n * p 5 c ≤ 24 * 8 := Nat.mul_le_mul (by omega) (by omega)
    have hmm := Nat.mod_lt (s_md x.toInt n * p 5 c) (show 0 < n by omega)
    rw [n_mul, n_mod (by omega) (by omega), n_sub (by omega), show (2 : Int32) = Int32.ofNat 2 from rfl, n_mul]
    unfold s_sh
    by_cases hq : n - s_md x.toInt n * p 5 c % n < s_md x.toInt n * p 5 c % n
    · have hb : t 2 c * 2 * (n - s_md x.toInt n * p 5 c % n) ≤ 32 * 24 := Nat.mul_le_mul (by omega) (by omega)
      rw [if_pos ((n_lt (by omega) (by omega)).mpr hq), if_pos hq, n_mul, n_div (by omega) (by omega)]
    · have hb : t 2 c * 2 * (s_md x.toInt n * p 5 c % n) ≤ 32 * 24 := Nat.mul_le_mul (by omega) (by omega)
      rw [if_neg (fun z => hq ((n_lt (by omega) (by omega)).mp z)), if_neg hq, n_mul, n_div (by omega) (by omega)]
  unfold f_X13_moves_102
  rw [n_cl (by omega), (h.2.2.1 c hc).1, (h.2.2.1 c hc).2.1, hT.2.2 c hc, h.1.1, h.1.2.1, n_fm (by omega) (by omega), n_fm (by omega) (by omega)]
  unfold s_shift s_lines
  by_cases hz : p 4 c = 0
  · rw [if_neg (by rw [hz]; decide), if_pos hz]
    exact key (p 0 1) (by omega) (by omega)
  · rw [if_pos (by rw [show p 4 c = 1 by omega]; rfl), if_neg hz]
    exact key (p 0 0) (by omega) (by omega)
theorem r_movq_102 {I : am_I} (h : rP I p) (hp : p_ok p) {c : Nat} (hc : c < p 0 3) (x : Int32) : q_X13_moves_102 I G (Int32.ofNat c) x := by
  have h0 := hp.1
  unfold q_X13_moves_102
  rw [h.1.1, h.1.2.1]
  have a : vp_in (Int32.ofNat c) 4 := (n_in (by omega)).mpr (by omega)
  exact ⟨a, fun _ => ⟨n_pos (by omega) (by omega), a, n_ne0 (by omega) (by omega), a, n_ne0 (by omega) (by omega), trivial⟩, fun _ => ⟨n_pos (by omega) (by omega), a, n_ne0 (by omega) (by omega), a, n_ne0 (by omega) (by omega), trivial⟩⟩
theorem r_whL_102 {I : am_I} (h : rP I p) (hp : p_ok p) (hT : rT_102 I p t) (ht : t_ok p t) (v1 : Int32) : ∀ (c n x y : Nat), c < n → c ≤ p 0 3 → x < p 0 0 → y < p 0 1 →
    L_X13_whence_102 n 0 I G v1 (Int32.ofNat x) (Int32.ofNat y) (Int32.ofNat c + (-1 : Int32)) = some (Int32.ofNat (s_md (((s_back p t c x y).2 : Int) - (t 0 1 : Int)) (p 0 1) * p 0 0 + s_md (((s_back p t c x y).1 : Int) - (t 0 0 : Int)) (p 0 0)), I, G) := by
  have h0 := hp.1
  intro c
  induction c with
  | zero =>
    intro n x y hn hc hx hy
    obtain ⟨n, rfl⟩ : ∃ n', n = n' + 1 := ⟨n - 1, by omega⟩
    rw [L_X13_whence_102_0, if_pos (show Int32.ofNat 0 + (-1 : Int32) < 0 by decide), rg_pos (r_spotq h hp _ _), r_spot h hp, hT.1.1, hT.1.2, n_sti (by omega) (by have := ht.1; have := ht.2.1; omega), n_sti (by omega) (by have := ht.1; have := ht.2.1; omega)]
    rfl
  | succ c ih =>
    intro n x y hn hc hx hy
    obtain ⟨n, rfl⟩ : ∃ n', n = n' + 1 := ⟨n - 1, by omega⟩
    have h1 := hp.2.1 c
    rw [L_X13_whence_102_0, n_decm, if_neg (n_nlt0 c (by omega)), rg_pos ((n_in (by omega)).mpr (by omega)), n_cl (by omega), (h.2.2.1 c (by omega)).1, s_back]
    by_cases hw : p 4 c = 0
    · have hb := s_shift_b hp ht c y
      rw [if_neg (by rw [hw]; decide), if_pos hw, rg_pos (r_movq_102 h hp (by omega) _), r_mov_102 h hp hT ht (by omega), n_ti (by omega), show s_md (y : Int) (s_lines p c) = y from s_md_id (by unfold s_lines; rw [if_pos hw]; exact hy), n_sti (by omega) (by omega), h.1.1, rg_pos (n_pos (by omega) (by omega)), n_fm (by omega) (by omega)]
      exact ih n _ y (by omega) (by omega) (s_md_lt _ (by omega)) hy
    · have hb := s_shift_b hp ht c x
      rw [if_pos (by rw [show p 4 c = 1 by omega]; rfl), if_neg hw, rg_pos (r_movq_102 h hp (by omega) _), r_mov_102 h hp hT ht (by omega), n_ti (by omega), show s_md (x : Int) (s_lines p c) = x from s_md_id (by unfold s_lines; rw [if_neg hw]; exact hx), n_sti (by omega) (by omega), h.1.2.1, rg_pos (n_pos (by omega) (by omega)), n_fm (by omega) (by omega)]
      exact ih n x _ (by omega) (by omega) hx (s_md_lt _ (by omega))
theorem r_wh_102 {I : am_I} (h : rP I p) (hp : p_ok p) (hT : rT_102 I p t) (ht : t_ok p t) {k : Nat} (hk : k < s_S p) : R_X13_whence_102 I G (Int32.ofNat k) = some (Int32.ofNat (s_src p t (k % p 0 0) (k / p 0 0)), I, G) := by
  have h0 := hp.1
  have hS := s_S_le hp
  unfold R_X13_whence_102
  rw [h.1.1, rg_pos (n_ne0 (by omega) (by omega)), rg_pos (n_ne0 (by omega) (by omega)), n_mod (by omega) (by omega), n_div (by omega) (by omega), h.1.2.2.2.1, Int32.sub_eq_add_neg, show -(1 : Int32) = (-1 : Int32) from rfl]
  exact r_whL_102 h hp hT ht _ (p 0 3) FU _ _ (by unfold FU; omega) (Nat.le_refl _) (Nat.mod_lt _ (by omega)) (s_y_lt hk)
theorem r_pull_102 {I : am_I} (h : rP I p) (hp : p_ok p) (hT : rT_102 I p t) (ht : t_ok p t) {o i j : Nat} (ho : o < p 0 2) (hi : i < 1000) (hj : j < 1000) (f g : Int32) : R_X13_pullOf_102 I G (Int32.ofNat o) (Int32.ofNat i) (Int32.ofNat j) f g = some (s_pl (s_gr (p 1 o) (p 2 o) (t 1 o) i j) f g, I, G) := by
  have h0 := hp.1
  have hs := (ht.2.2 o).1
  have h8 := s_gr_b (p 1 o) (p 2 o) (t 1 o) i j
  unfold R_X13_pullOf_102
  rw [rg_pos ((n_in (by omega)).mpr (by omega)), n_cl (k := o) (by omega), hT.2.1 o ho, rg_pos (r_gradq h hp ho _ _ _), r_grad h hp ho hs hi hj, rg_pos ((n_in (by omega)).mpr (by omega)), rg_pos ((n_in (by omega)).mpr (by omega)), n_cl (by omega)]
  rfl
theorem r_val_102 {I : am_I} (h : rP I p) (hp : p_ok p) (hT : rT_102 I p t) (ht : t_ok p t) {o x y : Nat} (ho : o < p 0 2) (hx : x < p 0 0) (hy : y < p 0 1) : R_X13_valueAt_102 I G (Int32.ofNat o) (Int32.ofNat x) (Int32.ofNat y) = some (s_val (p 0 0) (p 0 1) (p 1 o) (p 2 o) (t 1 o) x y, I, G) := by
  have h0 := hp.1
  have h1 := hp.2.1 o
  have w1 := s_w_b (a := p 1 o) hx (by omega) (by omega)
  have w2 := s_w_b (a := p 2 o) hy (by omega) (by omega)
  have d256 : ¬ (256 : Int32) = 0 := by decide
  have a : vp_in (Int32.ofNat o) 4 := (n_in (by omega)).mpr (by omega)
  have qf : ∀ (I : am_I) (G : am_G) (z : Int32), q_X14_fade I G z := fun _ _ _ => ⟨by decide, trivial⟩
  have qb : ∀ (I : am_I) (G : am_G) (z1 z2 z3 : Int32), q_X14_between I G z1 z2 z3 := fun _ _ _ _ _ => ⟨by decide, trivial⟩
  unfold R_X13_valueAt_102
  rw [n_cl (by omega), (h.2.1 o ho).1, (h.2.1 o ho).2.1, h.1.1, h.1.2.1]
  rw [show ((256 : Int32) * Int32.ofNat x) * Int32.ofNat (p 1 o) = Int32.ofNat (256 * x * p 1 o) from by rw [show (256 : Int32) = Int32.ofNat 256 from rfl, n_mul, n_mul],
    show ((256 : Int32) * Int32.ofNat y) * Int32.ofNat (p 2 o) = Int32.ofNat (256 * y * p 2 o) from by rw [show (256 : Int32) = Int32.ofNat 256 from rfl, n_mul, n_mul],
    n_div (a := 256 * x * p 1 o) (by omega) (by omega), n_div (a := 256 * y * p 2 o) (by omega) (by omega)]
  rw [show Int32.ofNat (256 * x * p 1 o / p 0 0) - Int32.ofNat (256 * x * p 1 o / p 0 0) / (256 : Int32) * (256 : Int32) = Int32.ofNat (256 * x * p 1 o / p 0 0 % 256) from n_mod (b := 256) (by omega) (by omega),
    show Int32.ofNat (256 * y * p 2 o / p 0 1) - Int32.ofNat (256 * y * p 2 o / p 0 1) / (256 : Int32) * (256 : Int32) = Int32.ofNat (256 * y * p 2 o / p 0 1 % 256) from n_mod (b := 256) (by omega) (by omega),
    show Int32.ofNat (256 * x * p 1 o / p 0 0) / (256 : Int32) = Int32.ofNat (256 * x * p 1 o / p 0 0 / 256) from n_div (b := 256) (by omega) (by omega),
    show Int32.ofNat (256 * y * p 2 o / p 0 1) / (256 : Int32) = Int32.ofNat (256 * y * p 2 o / p 0 1 / 256) from n_div (b := 256) (by omega) (by omega), n_inc, n_inc]
  rw [rg_pos a, rg_pos (n_ne0 (by omega) (by omega)), rg_pos a, rg_pos (n_ne0 (by omega) (by omega)), rg_pos d256, rg_pos d256, rg_pos d256, rg_pos d256,
    r_pull_102 h hp hT ht ho (by omega) (by omega), rb_go, r_pull_102 h hp hT ht ho (by omega) (by omega), rb_go, rg_pos (qf _ _ _), rg_pos (qb _ _ _ _ _),
    r_pull_102 h hp hT ht ho (by omega) (by omega), rb_go, r_pull_102 h hp hT ht ho (by omega) (by omega), rb_go, rg_pos (qf _ _ _), rg_pos (qb _ _ _ _ _), rg_pos (qf _ _ _), rg_pos (qb _ _ _ _ _)]
  rfl
theorem r_knL_102 (hp : p_ok p) (ht : t_ok p t) {o : Nat} (ho : o < p 0 2) : ∀ (m k n : Nat) (I : am_I), rP I p → rT_102 I p t → k + m = s_S p → m < n →
    ∃ I' : am_I, L_X13_know_102 n 0 I G (Int32.ofNat o) (Int32.ofNat k) = some ((), I', G) ∧ (∀ b, b ≠ 105 → I' b = I b) ∧ ∀ j, I' 105 j = if 576 * o + k ≤ j ∧ j < 576 * o + s_S p then s_v p o (t 1 o) (j - 576 * o) else I 105 j := by
  have h0 := hp.1
  have hS := s_S_le hp
  intro m
  induction m with
  | zero =>
    intro k n I h hT hk hn
    obtain ⟨n, rfl⟩ : ∃ n', n = n' + 1 := ⟨n - 1, by omega⟩
    rw [L_X13_know_102_0, r_spots h, if_pos ((n_le (by omega) (by omega)).mpr (by omega))]
    exact ⟨I, rfl, fun b _ => rfl, fun j => by rw [if_neg (by omega)]⟩
  | succ m ih =>
    intro k n I h hT hk hn
    obtain ⟨n, rfl⟩ : ∃ n', n = n' + 1 := ⟨n - 1, by omega⟩
    rw [L_X13_know_102_0, r_spots h, if_neg (fun z => absurd ((n_le (by omega) (by omega)).mp z) (by omega)), h.1.1, rg_pos (n_ne0 (by omega) (by omega)), rg_pos (n_ne0 (by omega) (by omega)), n_mod (by omega) (by omega), n_div (by omega) (by omega), r_val_102 h hp hT ht ho (Nat.mod_lt _ (by omega)) (s_y_lt (show k < p 0 0 * p 0 1 from show k < s_S p by omega)), rb_go,
      show (576 : Int32) = Int32.ofNat 576 from rfl, n_mul, n_add, rg_pos ((n_in (by omega)).mpr (by omega)), n_cl (by omega), n_inc]
    obtain ⟨I', b1, b2, b3⟩ := ih (k + 1) n (am_up I 105 (576 * o + k) (s_val (p 0 0) (p 0 1) (p 1 o) (p 2 o) (t 1 o) (k % p 0 0) (k / p 0 0))) (h.kept (fun b z1 z2 => up_row _ _ _ (by omega))) (hT.kept ⟨by rw [up_row _ _ _ (by omega)], by rw [up_row _ _ _ (by omega)]⟩ ⟨up_row _ _ _ (by omega), up_row _ _ _ (by omega)⟩) (by omega) (by omega)
    refine ⟨I', b1, fun b hb => (b2 b hb).trans (up_row _ _ _ hb), fun j => ?_⟩
    rw [b3, up_in]
    by_cases hj : j = 576 * o + k
    · subst hj
      rw [if_neg (by omega), if_pos rfl, if_pos (by omega), show 576 * o + k - 576 * o = k by omega]; rfl
    · rw [if_neg hj]
      by_cases h2 : 576 * o + (k + 1) ≤ j ∧ j < 576 * o + s_S p
      · rw [if_pos h2, if_pos (by omega)]
      · rw [if_neg h2, if_neg (by omega)]
/-- the values of an octave get known -/
theorem r_kn_102 {I : am_I} (h : rP I p) (hp : p_ok p) (hT : rT_102 I p t) (ht : t_ok p t) (hV : rV_102 I p t) (hB : rB_102 I) {o : Nat} (ho : o < p 0 2) :
    ∃ I' : am_I, R_X13_know_102 I G (Int32.ofNat o) = some ((), I', G) ∧ (∀ b, b ≠ 105 → b ≠ 106 → I' b = I b) ∧ rV_102 I' p t ∧ rB_102 I' ∧ ¬ I' 106 o = 0 := by
  have h0 := hp.1
  have hS := s_S_le hp
  unfold R_X13_know_102
  rw [rg_pos ((n_in (by omega)).mpr (by omega)), n_cl (by omega)]
  by_cases hk : I 106 o = 0
  · rw [if_pos hk, rg_pos ⟨(n_in (by omega)).mpr (by omega), Or.inr rfl⟩]
    obtain ⟨I', b1, b2, b3⟩ := r_knL_102 (G := G) hp ht ho (s_S p) 0 FU (am_up I 106 o 1) (h.kept (fun b z1 z2 => up_row _ _ _ (by omega))) (hT.kept ⟨by rw [up_row _ _ _ (by omega)], by rw [up_row _ _ _ (by omega)]⟩ ⟨up_row _ _ _ (by omega), up_row _ _ _ (by omega)⟩) (by omega) (by unfold FU; omega)
    refine ⟨I', b1, fun b z1 z2 => (b2 b z1).trans (up_row _ _ _ z2), fun o' ho' hk' k hkS => ?_, fun k => ?_, by rw [b2 106 (by omega), up_in, if_pos rfl]; decide⟩
    · rw [b3]
      by_cases he : o' = o
      · subst he; rw [if_pos (by omega), show 576 * o' + k - 576 * o' = k by omega]
      · rw [b2 106 (by omega), up_in, if_neg he] at hk'
        rw [if_neg (by omega), up_row _ _ _ (by omega)]
        exact hV o' ho' hk' k hkS
    · rw [b2 106 (by omega), up_in]
      by_cases he : k = o
      · rw [if_pos he]; exact Or.inr rfl
      · rw [if_neg he]; exact hB k
  · rw [if_neg hk]
    exact ⟨I, rfl, fun b _ _ => rfl, hV, hB, hk⟩
/-- value -/
theorem r_v_102 {I : am_I} (h : rP I p) (hp : p_ok p) (hT : rT_102 I p t) (ht : t_ok p t) (hV : rV_102 I p t) (hB : rB_102 I) {o k : Nat} (ho : o < p 0 2) (hk : k < s_S p) :
    ∃ I' : am_I, R_X13_value_102 I G (Int32.ofNat o) (Int32.ofNat k) = some (s_v p o (t 1 o) k, I', G) ∧ (∀ b, b ≠ 105 → b ≠ 106 → I' b = I b) ∧ rV_102 I' p t ∧ rB_102 I' := by
  have h0 := hp.1
  have hS := s_S_le hp
  obtain ⟨I', a1, a2, a3, a4, a5⟩ := r_kn_102 (G := G) h hp hT ht hV hB ho
  refine ⟨I', ?_, a2, a3, a4⟩
  unfold R_X13_value_102
  rw [a1, rb_go, show (576 : Int32) = Int32.ofNat 576 from rfl, n_mul, n_add, rg_pos ((n_in (by omega)).mpr (by omega)), n_cl (by omega), a3 o ho a5 k hk]
theorem r_hbL_102 (hp : p_ok p) (ht : t_ok p t) (v1 : Int32) {q : Nat} (hq : q < s_S p) : ∀ (m o n : Nat) (I : am_I), rP I p → rT_102 I p t → rV_102 I p t → rB_102 I → o + m = p 0 2 → m < n →
    ∃ I' : am_I, L_X13_heightBy_102 n 0 I G v1 (Int32.ofNat q) (s_sum p t q o) (Int32.ofNat o) = some (s_hq p t q, I', G) ∧ (∀ b, b ≠ 105 → b ≠ 106 → I' b = I b) ∧ rV_102 I' p t ∧ rB_102 I' := by
  have h0 := hp.1
  intro m
  induction m with
  | zero =>
    intro o n I h hT hV hB hk hn
    obtain ⟨n, rfl⟩ : ∃ n', n = n' + 1 := ⟨n - 1, by omega⟩
    rw [L_X13_heightBy_102_0, h.1.2.2.1, if_pos ((n_le (by omega) (by omega)).mpr (by omega)), rg_pos (by decide), r_hold]
    refine ⟨I, ?_, fun b _ _ => rfl, hV, hB⟩
    rw [show o = p 0 2 by omega]; rfl
  | succ m ih =>
    intro o n I h hT hV hB hk hn
    obtain ⟨n, rfl⟩ : ∃ n', n = n' + 1 := ⟨n - 1, by omega⟩
    obtain ⟨I1, a1, a2, a3, a4⟩ := r_v_102 (G := G) h hp hT ht hV hB (o := o) (k := q) (by omega) hq
    rw [L_X13_heightBy_102_0, h.1.2.2.1, if_neg (fun z => absurd ((n_le (by omega) (by omega)).mp z) (by omega)), rg_pos ((n_in (by omega)).mpr (by omega)), a1, rb_go, n_cl (by omega), (h.2.1 o (by omega)).2.2.1, n_inc]
    obtain ⟨I', b1, b2, b3, b4⟩ := ih (o + 1) n I1 (h.kept (fun b z1 z2 => a2 b (by omega) (by omega))) (hT.kept ⟨by rw [a2 102 (by omega) (by omega)], by rw [a2 102 (by omega) (by omega)]⟩ ⟨a2 _ (by omega) (by omega), a2 _ (by omega) (by omega)⟩) a3 a4 (by omega) (by omega)
    exact ⟨I', b1, fun b z1 z2 => (b2 b z1 z2).trans (a2 b z1 z2), b3, b4⟩
theorem r_hb_102 {I : am_I} (h : rP I p) (hp : p_ok p) (hT : rT_102 I p t) (ht : t_ok p t) (hV : rV_102 I p t) (hB : rB_102 I) {k : Nat} (hk : k < s_S p) :
    ∃ I' : am_I, R_X13_heightBy_102 I G (Int32.ofNat k) = some (s_ht p t k, I', G) ∧ (∀ b, b ≠ 105 → b ≠ 106 → I' b = I b) ∧ rV_102 I' p t ∧ rB_102 I' := by
  have h0 := hp.1
  unfold R_X13_heightBy_102
  rw [r_wh_102 h hp hT ht hk, rb_go]
  exact r_hbL_102 hp ht _ (s_src_b hp _ _) (p 0 2) 0 FU I h hT hV hB (by omega) (by unfold FU; omega)
theorem r_ikL_102 (hp : p_ok p) {k : Nat} (hk : k < 576) {x : Int32} : ∀ (m i n : Nat) (I : am_I), rP I p → I 107 k = x → I 108 k = Int32.ofNat i → (∀ j, j < i → Int32.ofNat (p 6 j) ≤ x) → i + m = p 0 4 → m + 1 < n →
    ∃ (I' : am_I) (u : Nat), L_X13_know__102 n 1 I G (Int32.ofNat k) = L_X13_know__102 (n - u) 0 I' G (Int32.ofNat (k + 1)) ∧ u ≤ m + 1 ∧ (∀ b, b ≠ 108 → I' b = I b) ∧ (∀ j, j ≠ k → I' 108 j = I 108 j) ∧ I' 108 k = Int32.ofNat (s_cnt p x (p 0 4)) := by
  have h0 := hp.1
  intro m
  induction m with
  | zero =>
    intro i n I h hH hI hj hi hn
    obtain ⟨n, rfl⟩ : ∃ n', n = n' + 1 := ⟨n - 1, by omega⟩
    rw [L_X13_know__102_1, rg_pos ((n_in (by omega)).mpr (by omega)), n_cl (by omega), h.1.2.2.2.2, hI, if_pos ((n_le (by omega) (by omega)).mpr (by omega)), n_inc]
    refine ⟨I, 1, rfl, by omega, fun b _ => rfl, fun j _ => rfl, ?_⟩
    have e := s_cnt_all hj
    have e2 : i = p 0 4 := by omega
    rw [hI, ← e2, e]
  | succ m ih =>
    intro i n I h hH hI hj hi hn
    obtain ⟨n, rfl⟩ : ∃ n', n = n' + 1 := ⟨n - 1, by omega⟩
    have b1 := hp.2.1 i
    rw [L_X13_know__102_1, rg_pos ((n_in (by omega)).mpr (by omega)), n_cl (k := k) (by omega), h.1.2.2.2.2, hI, if_neg (fun z => absurd ((n_le (by omega) (by omega)).mp z) (by omega)), rg_pos ((n_in (by omega)).mpr (by omega)), rg_pos ((n_in (by omega)).mpr (by omega)), rg_pos ((n_in (by omega)).mpr (by omega)), n_cl (k := i) (by omega), h.2.2.2 i (by omega), hH]
    by_cases hq : Int32.ofNat (p 6 i) ≤ x
    · rw [if_neg (by rw [i_lt]; rw [i_le] at hq; omega), rg_pos ((n_in (by omega)).mpr (by omega)), rg_pos ((n_in (by omega)).mpr (by omega)), n_inc]
      obtain ⟨I', u, c1, c2, c3, c4, c5⟩ := ih (i + 1) n (am_up I 108 k (Int32.ofNat (i + 1))) (h.kept (fun b z1 z2 => up_row _ _ _ (by omega))) (by rw [up_row _ _ _ (by omega)]; exact hH) (by rw [up_in, if_pos rfl]) (fun j hj2 => by
        by_cases he : j = i
        · subst he; exact hq
        · exact hj j (by omega)) (by omega) (by omega)
      exact ⟨I', u + 1, by rw [c1, show n + 1 - (u + 1) = n - u by omega], by omega, fun b hb => (c3 b hb).trans (up_row _ _ _ hb), fun j hj2 => by rw [c4 j hj2, up_in, if_neg hj2], c5⟩
    · rw [if_pos (by rw [i_lt]; rw [i_le] at hq; omega), n_inc]
      refine ⟨I, 1, rfl, by omega, fun b _ => rfl, fun j _ => rfl, ?_⟩
      have e := s_cnt_stop hp hj hq (m + 1) (by omega)
      rw [hi] at e
      rw [hI, e]
theorem r_kaL_102 (hp : p_ok p) (ht : t_ok p t) : ∀ (m k n : Nat) (I : am_I), rP I p → rT_102 I p t → rV_102 I p t → rB_102 I → (∀ j, j < k → I 107 j = s_ht p t j ∧ I 108 j = Int32.ofNat (s_ik p t j)) → k + m = s_S p → m * 8 < n →
    ∃ I' : am_I, L_X13_know__102 n 0 I G (Int32.ofNat k) = some ((), I', G) ∧ (∀ b, b ≠ 105 → b ≠ 106 → b ≠ 107 → b ≠ 108 → I' b = I b) ∧ rV_102 I' p t ∧ rB_102 I' ∧ ∀ j, j < s_S p → I' 107 j = s_ht p t j ∧ I' 108 j = Int32.ofNat (s_ik p t j) := by
  have h0 := hp.1
  have hS := s_S_le hp
  intro m
  induction m with
  | zero =>
    intro k n I h hT hV hB hK hk hn
    obtain ⟨n, rfl⟩ : ∃ n', n = n' + 1 := ⟨n - 1, by omega⟩
    rw [L_X13_know__102_0, r_spots h, if_pos ((n_le (by omega) (by omega)).mpr (by omega))]
    exact ⟨I, rfl, fun b _ _ _ _ => rfl, hV, hB, fun j hj => hK j (by omega)⟩
  | succ m ih =>
    intro k n I h hT hV hB hK hk hn
    obtain ⟨n, rfl⟩ : ∃ n', n = n' + 1 := ⟨n - 1, by omega⟩
    obtain ⟨I1, a1, a2, a3, a4⟩ := r_hb_102 (G := G) h hp hT ht hV hB (k := k) (by omega)
    rw [L_X13_know__102_0, r_spots h, if_neg (fun z => absurd ((n_le (by omega) (by omega)).mp z) (by omega)), a1, rb_go, rg_pos ((n_in (by omega)).mpr (by omega)), rg_pos ((n_in (by omega)).mpr (by omega)), n_cl (by omega)]
    have h1 : rP (am_up (am_up I1 107 k (s_ht p t k)) 108 k 0) p := h.kept (fun b z1 z2 => by rw [up_row _ _ _ (by omega), up_row _ _ _ (by omega), a2 b (by omega) (by omega)])
    obtain ⟨I2, u, c1, c2, c3, c4, c5⟩ := r_ikL_102 (G := G) hp (k := k) (by omega) (x := s_ht p t k) (p 0 4) 0 n _ h1 (by rw [up_row _ _ _ (by omega), up_in, if_pos rfl]) (by rw [up_in, if_pos rfl]; rfl) (fun j hj => absurd hj (by omega)) (by omega) (by omega)
    rw [c1]
    have f2 : ∀ b, b ≠ 105 → b ≠ 106 → b ≠ 107 → b ≠ 108 → I2 b = I b := fun b z1 z2 z3 z4 => by rw [c3 b z4, up_row _ _ _ z4, up_row _ _ _ z3, a2 b z1 z2]
    have g1 : I2 105 = I1 105 := by rw [c3 _ (by omega), up_row _ _ _ (by omega), up_row _ _ _ (by omega)]
    have g2 : I2 106 = I1 106 := by rw [c3 _ (by omega), up_row _ _ _ (by omega), up_row _ _ _ (by omega)]
    obtain ⟨I', b1, b2, b3, b4, b5⟩ := ih (k + 1) (n - u) I2 (h.kept (fun b z1 z2 => f2 b (by omega) (by omega) (by omega) (by omega))) (hT.kept ⟨by rw [f2 102 (by omega) (by omega) (by omega) (by omega)], by rw [f2 102 (by omega) (by omega) (by omega) (by omega)]⟩ ⟨f2 _ (by omega) (by omega) (by omega) (by omega), f2 _ (by omega) (by omega) (by omega) (by omega)⟩)
      (by unfold rV_102; rw [g1, g2]; exact a3) (by unfold rB_102; rw [g2]; exact a4) (fun j hj => by
        rw [c3 107 (by omega), up_row _ _ _ (by omega), up_in]
        by_cases he : j = k
        · subst he; rw [if_pos rfl, c5]; exact ⟨rfl, rfl⟩
        · rw [if_neg he, c4 j he, up_in, if_neg he, up_row _ _ _ (by omega), a2 107 (by omega) (by omega), a2 108 (by omega) (by omega)]; exact hK j (by omega)) (by omega) (by omega)
    exact ⟨I', b1, fun b z1 z2 z3 z4 => (b2 b z1 z2 z3 z4).trans (f2 b z1 z2 z3 z4), b3, b4, b5⟩
/-- all heights and inks get known -/
theorem r_ka_102 {I : am_I} (hp : p_ok p) (ht : t_ok p t) (h : rA_102 I p t) : ∃ I' : am_I, R_X13_know__102 I G = some ((), I', G) ∧ rW_102 I I' ∧ rA_102 I' p t ∧ ¬ I' 102 10 = 0 := by
  obtain ⟨h1, h2, h3, h4, h5⟩ := h
  have hS := s_S_le hp
  unfold R_X13_know__102
  by_cases hk : I 102 10 = 0
  · rw [if_pos hk, rg_pos (Or.inr rfl)]
    obtain ⟨I', b1, b2, b3, b4, b5⟩ := r_kaL_102 (G := G) hp ht (s_S p) 0 FU (am_up I 102 10 1) (h1.kept (fun b z1 z2 => up_row _ _ _ (by omega))) (h2.kept ⟨by rw [up_in, if_neg (by omega)], by rw [up_in, if_neg (by omega)]⟩ ⟨up_row _ _ _ (by omega), up_row _ _ _ (by omega)⟩)
      (by unfold rV_102; rw [up_row _ _ _ (by omega), up_row _ _ _ (by omega)]; exact h3) (by unfold rB_102; rw [up_row _ _ _ (by omega)]; exact h4) (fun j hj => absurd hj (by omega)) (by omega) (by unfold FU; omega)
    have e : I' 102 = am_up I 102 10 1 102 := b2 102 (by omega) (by omega) (by omega) (by omega)
    have f : ∀ b, b ≠ 105 → b ≠ 106 → b ≠ 107 → b ≠ 108 → b ≠ 102 → I' b = I b := fun b z1 z2 z3 z4 z5 => (b2 b z1 z2 z3 z4).trans (up_row _ _ _ z5)
    have kn : ¬ I' 102 10 = 0 := by rw [e, up_in, if_pos rfl]; decide
    exact ⟨I', b1, ⟨f, fun k hk2 => by rw [e, up_in, if_neg hk2], fun z => absurd hk z⟩, ⟨h1.kept (fun b z1 z2 => f b (by omega) (by omega) (by omega) (by omega) (by omega)), h2.kept ⟨by rw [e, up_in, if_neg (by omega)], by rw [e, up_in, if_neg (by omega)]⟩ ⟨f _ (by omega) (by omega) (by omega) (by omega) (by omega), f _ (by omega) (by omega) (by omega) (by omega) (by omega)⟩, b3, b4, fun _ => b5⟩, kn⟩
  · rw [if_neg hk]
    exact ⟨I, rfl, rW_102.rf I, ⟨h1, h2, h3, h4, h5⟩, hk⟩
theorem r_ht_102 {I : am_I} (hp : p_ok p) (ht : t_ok p t) (h : rA_102 I p t) {k : Nat} (hk : k < s_S p) : ∃ I' : am_I, R_X13_height_102 I G (Int32.ofNat k) = some (s_ht p t k, I', G) ∧ rW_102 I I' ∧ rA_102 I' p t ∧ ¬ I' 102 10 = 0 := by
  have hS := s_S_le hp
  obtain ⟨I', a1, a2, a3, a4⟩ := r_ka_102 (G := G) hp ht h
  refine ⟨I', ?_, a2, a3, a4⟩
  unfold R_X13_height_102
  rw [a1, rb_go, rg_pos ((n_in (by omega)).mpr (by omega)), n_cl (by omega), (a3.2.2.2.2 a4 k hk).1]
theorem r_ik_102 {I : am_I} (hp : p_ok p) (ht : t_ok p t) (h : rA_102 I p t) {k : Nat} (hk : k < s_S p) : ∃ I' : am_I, R_X13_ink_102 I G (Int32.ofNat k) = some (Int32.ofNat (s_ik p t k), I', G) ∧ rW_102 I I' ∧ rA_102 I' p t ∧ ¬ I' 102 10 = 0 := by
  have hS := s_S_le hp
  obtain ⟨I', a1, a2, a3, a4⟩ := r_ka_102 (G := G) hp ht h
  refine ⟨I', ?_, a2, a3, a4⟩
  unfold R_X13_ink_102
  rw [a1, rb_go, rg_pos ((n_in (by omega)).mpr (by omega)), n_cl (by omega), (a3.2.2.2.2 a4 k hk).2]
end MR102
/-! the reference's state 112 -/
def rT_112 (I : am_I) (p t : sP) : Prop := (I 112 2 = Int32.ofNat (t 0 0) ∧ I 112 3 = Int32.ofNat (t 0 1)) ∧ (∀ o, o < p 0 2 → I 113 o = Int32.ofNat (t 1 o)) ∧ ∀ c, c < p 0 3 → I 114 c = Int32.ofNat (t 2 c)
def rV_112 (I : am_I) (p t : sP) : Prop := ∀ o, o < p 0 2 → ¬ I 116 o = 0 → ∀ k, k < s_S p → I 115 (576 * o + k) = s_v p o (t 1 o) k
def rB_112 (I : am_I) : Prop := ∀ k, I 116 k = 0 ∨ I 116 k = 1
def rF_112 (I : am_I) (p t : sP) : Prop := ¬ I 112 10 = 0 → ∀ k, k < s_S p → I 117 k = s_ht p t k ∧ I 118 k = Int32.ofNat (s_ik p t k)
/-- all that is known of it -/
def rA_112 (I : am_I) (p t : sP) : Prop := rP I p ∧ rT_112 I p t ∧ rV_112 I p t ∧ rB_112 I ∧ rF_112 I p t
/-- only what is kept has changed -/
def rW_112 (I I' : am_I) : Prop := (∀ b, b ≠ 115 → b ≠ 116 → b ≠ 117 → b ≠ 118 → b ≠ 112 → I' b = I b) ∧ (∀ k, k ≠ 10 → I' 112 k = I 112 k) ∧ (¬ I 112 10 = 0 → I' = I)
theorem rW_112.rf (I : am_I) : rW_112 I I := ⟨fun _ _ _ _ _ _ => rfl, fun _ _ => rfl, fun _ => rfl⟩
theorem rW_112.tr {I I1 I2 : am_I} (h1 : rW_112 I I1) (h2 : rW_112 I1 I2) : rW_112 I I2 :=
  ⟨fun b z1 z2 z3 z4 z5 => (h2.1 b z1 z2 z3 z4 z5).trans (h1.1 b z1 z2 z3 z4 z5), fun k hk => (h2.2.1 k hk).trans (h1.2.1 k hk), fun z => by
    have e := h1.2.2 z
    subst e
    exact h2.2.2 z⟩
section MR112
variable {p t : sP} {G : am_G}
theorem rT_112.kept {I I' : am_I} (h : rT_112 I p t) (h1 : I' 112 2 = I 112 2 ∧ I' 112 3 = I 112 3) (h2 : I' 113 = I 113 ∧ I' 114 = I 114) : rT_112 I' p t := by
  unfold rT_112
  rw [h1.1, h1.2, h2.1, h2.2]
  exact h
theorem r_mov_112 {I : am_I} (h : rP I p) (hp : p_ok p) (hT : rT_112 I p t) (ht : t_ok p t) {c : Nat} (hc : c < p 0 3) (x : Int32) : f_X13_moves_112 I G (Int32.ofNat c) x = Int32.ofNat (s_shift p t c (s_md x.toInt (s_lines p c))) := by
  have h0 := hp.1
  have h1 := hp.2.1 c
  have hu := (ht.2.2 c).2
  have key : ∀ n : Nat, 4 ≤ n → n ≤ 24 → ((((Int32.ofNat (t 2 c)) * (2 : Int32)) * (if ((Int32.ofNat n) - (((Int32.ofNat (s_md x.toInt n)) * (Int32.ofNat (p 5 c))) - ((Int32.ofNat (s_md x.toInt n)) * (Int32.ofNat (p 5 c))) / (Int32.ofNat n) * (Int32.ofNat n))) < (((Int32.ofNat (s_md x.toInt n)) * (Int32.ofNat (p 5 c))) - ((Int32.ofNat (s_md x.toInt n)) * (Int32.ofNat (p 5 c))) / (Int32.ofNat n) * (Int32.ofNat n)) then ((Int32.ofNat n) - (((Int32.ofNat (s_md x.toInt n)) * (Int32.ofNat (p 5 c))) - ((Int32.ofNat (s_md x.toInt n)) * (Int32.ofNat (p 5 c))) / (Int32.ofNat n) * (Int32.ofNat n))) else (((Int32.ofNat (s_md x.toInt n)) * (Int32.ofNat (p 5 c))) - ((Int32.ofNat (s_md x.toInt n)) * (Int32.ofNat (p 5 c))) / (Int32.ofNat n) * (Int32.ofNat n)))) / (Int32.ofNat n)) = Int32.ofNat (s_sh n (p 5 c) (t 2 c) (s_md x.toInt n)) := by
    intro n hn1 hn2
    have hm := s_md_lt x.toInt (show 0 < n by omega)
    have hlt : s_md x.toInt n * p 5 c ≤ 24 * 8 := Nat.mul_le_mul (by omega) (by omega)
    have hmm := Nat.mod_lt (s_md x.toInt n * p 5 c) (show 0 < n by omega)
    rw [n_mul, n_mod (by omega) (by omega), n_sub (by omega), show (2 : Int32) = Int32.ofNat 2 from rfl, n_mul]
    unfold s_sh
    by_cases hq : n - s_md x.toInt n * p 5 c % n < s_md x.toInt n * p 5 c % n
    · have hb : t 2 c * 2 * (n - s_md x.toInt n * p 5 c % n) ≤ 32 * 24 := Nat.mul_le_mul (by omega) (by omega)
      rw [if_pos ((n_lt (by omega) (by omega)).mpr hq), if_pos hq, n_mul, n_div (by omega) (by omega)]
    · have hb : t 2 c * 2 * (s_md x.toInt n * p 5 c % n) ≤ 32 * 24 := Nat.mul_le_mul (by omega) (by omega)
      rw [if_neg (fun z => hq ((n_lt (by omega) (by omega)).mp z)), if_neg hq, n_mul, n_div (by omega) (by omega)]
  unfold f_X13_moves_112
  rw [n_cl (by omega), (h.2.2.1 c hc).1, (h.2.2.1 c hc).2.1, hT.2.2 c hc, h.1.1, h.1.2.1, n_fm (by omega) (by omega), n_fm (by omega) (by omega)]
  unfold s_shift s_lines
  by_cases hz : p 4 c = 0
  · rw [if_neg (by rw [hz]; decide), if_pos hz]
    exact key (p 0 1) (by omega) (by omega)
  · rw [if_pos (by rw [show p 4 c = 1 by omega]; rfl), if_neg hz]
    exact key (p 0 0) (by omega) (by omega)
theorem r_movq_112 {I : am_I} (h : rP I p) (hp : p_ok p) {c : Nat} (hc : c < p 0 3) (x : Int32) : q_X13_moves_112 I G (Int32.ofNat c) x := by
  have h0 := hp.1
  unfold q_X13_moves_112
  rw [h.1.1, h.1.2.1]
  have a : vp_in (Int32.ofNat c) 4 := (n_in (by omega)).mpr (by omega)
  exact ⟨a, fun _ => ⟨n_pos (by omega) (by omega), a, n_ne0 (by omega) (by omega), a, n_ne0 (by omega) (by omega), trivial⟩, fun _ => ⟨n_pos (by omega) (by omega), a, n_ne0 (by omega) (by omega), a, n_ne0 (by omega) (by omega), trivial⟩⟩
theorem r_whL_112 {I : am_I} (h : rP I p) (hp : p_ok p) (hT : rT_112 I p t) (ht : t_ok p t) (v1 : Int32) : ∀ (c n x y : Nat), c < n → c ≤ p 0 3 → x < p 0 0 → y < p 0 1 →
    L_X13_whence_112 n 0 I G v1 (Int32.ofNat x) (Int32.ofNat y) (Int32.ofNat c + (-1 : Int32)) = some (Int32.ofNat (s_md (((s_back p t c x y).2 : Int) - (t 0 1 : Int)) (p 0 1) * p 0 0 + s_md (((s_back p t c x y).1 : Int) - (t 0 0 : Int)) (p 0 0)), I, G) := by
  have h0 := hp.1
  intro c
  induction c with
  | zero =>
    intro n x y hn hc hx hy
    obtain ⟨n, rfl⟩ : ∃ n', n = n' + 1 := ⟨n - 1, by omega⟩
    rw [L_X13_whence_112_0, if_pos (show Int32.ofNat 0 + (-1 : Int32) < 0 by decide), rg_pos (r_spotq h hp _ _), r_spot h hp, hT.1.1, hT.1.2, n_sti (by omega) (by have := ht.1; have := ht.2.1; omega), n_sti (by omega) (by have := ht.1; have := ht.2.1; omega)]
    rfl
  | succ c ih =>
    intro n x y hn hc hx hy
    obtain ⟨n, rfl⟩ : ∃ n', n = n' + 1 := ⟨n - 1, by omega⟩
    have h1 := hp.2.1 c
    rw [L_X13_whence_112_0, n_decm, if_neg (n_nlt0 c (by omega)), rg_pos ((n_in (by omega)).mpr (by omega)), n_cl (by omega), (h.2.2.1 c (by omega)).1, s_back]
    by_cases hw : p 4 c = 0
    · have hb := s_shift_b hp ht c y
      rw [if_neg (by rw [hw]; decide), if_pos hw, rg_pos (r_movq_112 h hp (by omega) _), r_mov_112 h hp hT ht (by omega), n_ti (by omega), show s_md (y : Int) (s_lines p c) = y from s_md_id (by unfold s_lines; rw [if_pos hw]; exact hy), n_sti (by omega) (by omega), h.1.1, rg_pos (n_pos (by omega) (by omega)), n_fm (by omega) (by omega)]
      exact ih n _ y (by omega) (by omega) (s_md_lt _ (by omega)) hy
    · have hb := s_shift_b hp ht c x
      rw [if_pos (by rw [show p 4 c = 1 by omega]; rfl), if_neg hw, rg_pos (r_movq_112 h hp (by omega) _), r_mov_112 h hp hT ht (by omega), n_ti (by omega), show s_md (x : Int) (s_lines p c) = x from s_md_id (by unfold s_lines; rw [if_neg hw]; exact hx), n_sti (by omega) (by omega), h.1.2.1, rg_pos (n_pos (by omega) (by omega)), n_fm (by omega) (by omega)]
      exact ih n x _ (by omega) (by omega) hx (s_md_lt _ (by omega))
theorem r_wh_112 {I : am_I} (h : rP I p) (hp : p_ok p) (hT : rT_112 I p t) (ht : t_ok p t) {k : Nat} (hk : k < s_S p) : R_X13_whence_112 I G (Int32.ofNat k) = some (Int32.ofNat (s_src p t (k % p 0 0) (k / p 0 0)), I, G) := by
  have h0 := hp.1
  have hS := s_S_le hp
  unfold R_X13_whence_112
  rw [h.1.1, rg_pos (n_ne0 (by omega) (by omega)), rg_pos (n_ne0 (by omega) (by omega)), n_mod (by omega) (by omega), n_div (by omega) (by omega), h.1.2.2.2.1, Int32.sub_eq_add_neg, show -(1 : Int32) = (-1 : Int32) from rfl]
  exact r_whL_112 h hp hT ht _ (p 0 3) FU _ _ (by unfold FU; omega) (Nat.le_refl _) (Nat.mod_lt _ (by omega)) (s_y_lt hk)
theorem r_pull_112 {I : am_I} (h : rP I p) (hp : p_ok p) (hT : rT_112 I p t) (ht : t_ok p t) {o i j : Nat} (ho : o < p 0 2) (hi : i < 1000) (hj : j < 1000) (f g : Int32) : R_X13_pullOf_112 I G (Int32.ofNat o) (Int32.ofNat i) (Int32.ofNat j) f g = some (s_pl (s_gr (p 1 o) (p 2 o) (t 1 o) i j) f g, I, G) := by
  have h0 := hp.1
  have hs := (ht.2.2 o).1
  have h8 := s_gr_b (p 1 o) (p 2 o) (t 1 o) i j
  unfold R_X13_pullOf_112
  rw [rg_pos ((n_in (by omega)).mpr (by omega)), n_cl (k := o) (by omega), hT.2.1 o ho, rg_pos (r_gradq h hp ho _ _ _), r_grad h hp ho hs hi hj, rg_pos ((n_in (by omega)).mpr (by omega)), rg_pos ((n_in (by omega)).mpr (by omega)), n_cl (by omega)]
  rfl
theorem r_val_112 {I : am_I} (h : rP I p) (hp : p_ok p) (hT : rT_112 I p t) (ht : t_ok p t) {o x y : Nat} (ho : o < p 0 2) (hx : x < p 0 0) (hy : y < p 0 1) : R_X13_valueAt_112 I G (Int32.ofNat o) (Int32.ofNat x) (Int32.ofNat y) = some (s_val (p 0 0) (p 0 1) (p 1 o) (p 2 o) (t 1 o) x y, I, G) := by
  have h0 := hp.1
  have h1 := hp.2.1 o
  have w1 := s_w_b (a := p 1 o) hx (by omega) (by omega)
  have w2 := s_w_b (a := p 2 o) hy (by omega) (by omega)
  have d256 : ¬ (256 : Int32) = 0 := by decide
  have a : vp_in (Int32.ofNat o) 4 := (n_in (by omega)).mpr (by omega)
  have qf : ∀ (I : am_I) (G : am_G) (z : Int32), q_X14_fade I G z := fun _ _ _ => ⟨by decide, trivial⟩
  have qb : ∀ (I : am_I) (G : am_G) (z1 z2 z3 : Int32), q_X14_between I G z1 z2 z3 := fun _ _ _ _ _ => ⟨by decide, trivial⟩
  unfold R_X13_valueAt_112
  rw [n_cl (by omega), (h.2.1 o ho).1, (h.2.1 o ho).2.1, h.1.1, h.1.2.1]
  rw [show ((256 : Int32) * Int32.ofNat x) * Int32.ofNat (p 1 o) = Int32.ofNat (256 * x * p 1 o) from by rw [show (256 : Int32) = Int32.ofNat 256 from rfl, n_mul, n_mul],
    show ((256 : Int32) * Int32.ofNat y) * Int32.ofNat (p 2 o) = Int32.ofNat (256 * y * p 2 o) from by rw [show (256 : Int32) = Int32.ofNat 256 from rfl, n_mul, n_mul],
    n_div (a := 256 * x * p 1 o) (by omega) (by omega), n_div (a := 256 * y * p 2 o) (by omega) (by omega)]
  rw [show Int32.ofNat (256 * x * p 1 o / p 0 0) - Int32.ofNat (256 * x * p 1 o / p 0 0) / (256 : Int32) * (256 : Int32) = Int32.ofNat (256 * x * p 1 o / p 0 0 % 256) from n_mod (b := 256) (by omega) (by omega),
    show Int32.ofNat (256 * y * p 2 o / p 0 1) - Int32.ofNat (256 * y * p 2 o / p 0 1) / (256 : Int32) * (256 : Int32) = Int32.ofNat (256 * y * p 2 o / p 0 1 % 256) from n_mod (b := 256) (by omega) (by omega),
    show Int32.ofNat (256 * x * p 1 o / p 0 0) / (256 : Int32) = Int32.ofNat (256 * x * p 1 o / p 0 0 / 256) from n_div (b := 256) (by omega) (by omega),
    show Int32.ofNat (256 * y * p 2 o / p 0 1) / (256 : Int32) = Int32.ofNat (256 * y * p 2 o / p 0 1 / 256) from n_div (b := 256) (by omega) (by omega), n_inc, n_inc]
  rw [rg_pos a, rg_pos (n_ne0 (by omega) (by omega)), rg_pos a, rg_pos (n_ne0 (by omega) (by omega)), rg_pos d256, rg_pos d256, rg_pos d256, rg_pos d256,
    r_pull_112 h hp hT ht ho (by omega) (by omega), rb_go, r_pull_112 h hp hT ht ho (by omega) (by omega), rb_go, rg_pos (qf _ _ _), rg_pos (qb _ _ _ _ _),
    r_pull_112 h hp hT ht ho (by omega) (by omega), rb_go, r_pull_112 h hp hT ht ho (by omega) (by omega), rb_go, rg_pos (qf _ _ _), rg_pos (qb _ _ _ _ _), rg_pos (qf _ _ _), rg_pos (qb _ _ _ _ _)]
  rfl
theorem r_knL_112 (hp : p_ok p) (ht : t_ok p t) {o : Nat} (ho : o < p 0 2) : ∀ (m k n : Nat) (I : am_I), rP I p → rT_112 I p t → k + m = s_S p → m < n →
    ∃ I' : am_I, L_X13_know_112 n 0 I G (Int32.ofNat o) (Int32.ofNat k) = some ((), I', G) ∧ (∀ b, b ≠ 115 → I' b = I b) ∧ ∀ j, I' 115 j = if 576 * o + k ≤ j ∧ j < 576 * o + s_S p then s_v p o (t 1 o) (j - 576 * o) else I 115 j := by
  have h0 := hp.1
  have hS := s_S_le hp
  intro m
  induction m with
  | zero =>
    intro k n I h hT hk hn
    obtain ⟨n, rfl⟩ : ∃ n', n = n' + 1 := ⟨n - 1, by omega⟩
    rw [L_X13_know_112_0, r_spots h, if_pos ((n_le (by omega) (by omega)).mpr (by omega))]
    exact ⟨I, rfl, fun b _ => rfl, fun j => by rw [if_neg (by omega)]⟩
  | succ m ih =>
    intro k n I h hT hk hn
    obtain ⟨n, rfl⟩ : ∃ n', n = n' + 1 := ⟨n - 1, by omega⟩
    rw [L_X13_know_112_0, r_spots h, if_neg (fun z => absurd ((n_le (by omega) (by omega)).mp z) (by omega)), h.1.1, rg_pos (n_ne0 (by omega) (by omega)), rg_pos (n_ne0 (by omega) (by omega)), n_mod (by omega) (by omega), n_div (by omega) (by omega), r_val_112 h hp hT ht ho (Nat.mod_lt _ (by omega)) (s_y_lt (show k < p 0 0 * p 0 1 from show k < s_S p by omega)), rb_go,
      show (576 : Int32) = Int32.ofNat 576 from rfl, n_mul, n_add, rg_pos ((n_in (by omega)).mpr (by omega)), n_cl (by omega), n_inc]
    obtain ⟨I', b1, b2, b3⟩ := ih (k + 1) n (am_up I 115 (576 * o + k) (s_val (p 0 0) (p 0 1) (p 1 o) (p 2 o) (t 1 o) (k % p 0 0) (k / p 0 0))) (h.kept (fun b z1 z2 => up_row _ _ _ (by omega))) (hT.kept ⟨by rw [up_row _ _ _ (by omega)], by rw [up_row _ _ _ (by omega)]⟩ ⟨up_row _ _ _ (by omega), up_row _ _ _ (by omega)⟩) (by omega) (by omega)
    refine ⟨I', b1, fun b hb => (b2 b hb).trans (up_row _ _ _ hb), fun j => ?_⟩
    rw [b3, up_in]
    by_cases hj : j = 576 * o + k
    · subst hj
      rw [if_neg (by omega), if_pos rfl, if_pos (by omega), show 576 * o + k - 576 * o = k by omega]; rfl
    · rw [if_neg hj]
      by_cases h2 : 576 * o + (k + 1) ≤ j ∧ j < 576 * o + s_S p
      · rw [if_pos h2, if_pos (by omega)]
      · rw [if_neg h2, if_neg (by omega)]
/-- the values of an octave get known -/
theorem r_kn_112 {I : am_I} (h : rP I p) (hp : p_ok p) (hT : rT_112 I p t) (ht : t_ok p t) (hV : rV_112 I p t) (hB : rB_112 I) {o : Nat} (ho : o < p 0 2) :
    ∃ I' : am_I, R_X13_know_112 I G (Int32.ofNat o) = some ((), I', G) ∧ (∀ b, b ≠ 115 → b ≠ 116 → I' b = I b) ∧ rV_112 I' p t ∧ rB_112 I' ∧ ¬ I' 116 o = 0 := by
  have h0 := hp.1
  have hS := s_S_le hp
  unfold R_X13_know_112
  rw [rg_pos ((n_in (by omega)).mpr (by omega)), n_cl (by omega)]
  by_cases hk : I 116 o = 0
  · rw [if_pos hk, rg_pos ⟨(n_in (by omega)).mpr (by omega), Or.inr rfl⟩]
    obtain ⟨I', b1, b2, b3⟩ := r_knL_112 (G := G) hp ht ho (s_S p) 0 FU (am_up I 116 o 1) (h.kept (fun b z1 z2 => up_row _ _ _ (by omega))) (hT.kept ⟨by rw [up_row _ _ _ (by omega)], by rw [up_row _ _ _ (by omega)]⟩ ⟨up_row _ _ _ (by omega), up_row _ _ _ (by omega)⟩) (by omega) (by unfold FU; omega)
    refine ⟨I', b1, fun b z1 z2 => (b2 b z1).trans (up_row _ _ _ z2), fun o' ho' hk' k hkS => ?_, fun k => ?_, by rw [b2 116 (by omega), up_in, if_pos rfl]; decide⟩
    · rw [b3]
      by_cases he : o' = o
      · subst he; rw [if_pos (by omega), show 576 * o' + k - 576 * o' = k by omega]
      · rw [b2 116 (by omega), up_in, if_neg he] at hk'
        rw [if_neg (by omega), up_row _ _ _ (by omega)]
        exact hV o' ho' hk' k hkS
    · rw [b2 116 (by omega), up_in]
      by_cases he : k = o
      · rw [if_pos he]; exact Or.inr rfl
      · rw [if_neg he]; exact hB k
  · rw [if_neg hk]
    exact ⟨I, rfl, fun b _ _ => rfl, hV, hB, hk⟩
/-- value -/
theorem r_v_112 {I : am_I} (h : rP I p) (hp : p_ok p) (hT : rT_112 I p t) (ht : t_ok p t) (hV : rV_112 I p t) (hB : rB_112 I) {o k : Nat} (ho : o < p 0 2) (hk : k < s_S p) :
    ∃ I' : am_I, R_X13_value_112 I G (Int32.ofNat o) (Int32.ofNat k) = some (s_v p o (t 1 o) k, I', G) ∧ (∀ b, b ≠ 115 → b ≠ 116 → I' b = I b) ∧ rV_112 I' p t ∧ rB_112 I' := by
  have h0 := hp.1
  have hS := s_S_le hp
  obtain ⟨I', a1, a2, a3, a4, a5⟩ := r_kn_112 (G := G) h hp hT ht hV hB ho
  refine ⟨I', ?_, a2, a3, a4⟩
  unfold R_X13_value_112
  rw [a1, rb_go, show (576 : Int32) = Int32.ofNat 576 from rfl, n_mul, n_add, rg_pos ((n_in (by omega)).mpr (by omega)), n_cl (by omega), a3 o ho a5 k hk]
theorem r_hbL_112 (hp : p_ok p) (ht : t_ok p t) (v1 : Int32) {q : Nat} (hq : q < s_S p) : ∀ (m o n : Nat) (I : am_I), rP I p → rT_112 I p t → rV_112 I p t → rB_112 I → o + m = p 0 2 → m < n →
    ∃ I' : am_I, L_X13_heightBy_112 n 0 I G v1 (Int32.ofNat q) (s_sum p t q o) (Int32.ofNat o) = some (s_hq p t q, I', G) ∧ (∀ b, b ≠ 115 → b ≠ 116 → I' b = I b) ∧ rV_112 I' p t ∧ rB_112 I' := by
  have h0 := hp.1
  intro m
  induction m with
  | zero =>
    intro o n I h hT hV hB hk hn
    obtain ⟨n, rfl⟩ : ∃ n', n = n' + 1 := ⟨n - 1, by omega⟩
    rw [L_X13_heightBy_112_0, h.1.2.2.1, if_pos ((n_le (by omega) (by omega)).mpr (by omega)), rg_pos (by decide), r_hold]
    refine ⟨I, ?_, fun b _ _ => rfl, hV, hB⟩
    rw [show o = p 0 2 by omega]; rfl
  | succ m ih =>
    intro o n I h hT hV hB hk hn
    obtain ⟨n, rfl⟩ : ∃ n', n = n' + 1 := ⟨n - 1, by omega⟩
    obtain ⟨I1, a1, a2, a3, a4⟩ := r_v_112 (G := G) h hp hT ht hV hB (o := o) (k := q) (by omega) hq
    rw [L_X13_heightBy_112_0, h.1.2.2.1, if_neg (fun z => absurd ((n_le (by omega) (by omega)).mp z) (by omega)), rg_pos ((n_in (by omega)).mpr (by omega)), a1, rb_go, n_cl (by omega), (h.2.1 o (by omega)).2.2.1, n_inc]
    obtain ⟨I', b1, b2, b3, b4⟩ := ih (o + 1) n I1 (h.kept (fun b z1 z2 => a2 b (by omega) (by omega))) (hT.kept ⟨by rw [a2 112 (by omega) (by omega)], by rw [a2 112 (by omega) (by omega)]⟩ ⟨a2 _ (by omega) (by omega), a2 _ (by omega) (by omega)⟩) a3 a4 (by omega) (by omega)
    exact ⟨I', b1, fun b z1 z2 => (b2 b z1 z2).trans (a2 b z1 z2), b3, b4⟩
theorem r_hb_112 {I : am_I} (h : rP I p) (hp : p_ok p) (hT : rT_112 I p t) (ht : t_ok p t) (hV : rV_112 I p t) (hB : rB_112 I) {k : Nat} (hk : k < s_S p) :
    ∃ I' : am_I, R_X13_heightBy_112 I G (Int32.ofNat k) = some (s_ht p t k, I', G) ∧ (∀ b, b ≠ 115 → b ≠ 116 → I' b = I b) ∧ rV_112 I' p t ∧ rB_112 I' := by
  have h0 := hp.1
  unfold R_X13_heightBy_112
  rw [r_wh_112 h hp hT ht hk, rb_go]
  exact r_hbL_112 hp ht _ (s_src_b hp _ _) (p 0 2) 0 FU I h hT hV hB (by omega) (by unfold FU; omega)
theorem r_ikL_112 (hp : p_ok p) {k : Nat} (hk : k < 576) {x : Int32} : ∀ (m i n : Nat) (I : am_I), rP I p → I 117 k = x → I 118 k = Int32.ofNat i → (∀ j, j < i → Int32.ofNat (p 6 j) ≤ x) → i + m = p 0 4 → m + 1 < n →
    ∃ (I' : am_I) (u : Nat), L_X13_know__112 n 1 I G (Int32.ofNat k) = L_X13_know__112 (n - u) 0 I' G (Int32.ofNat (k + 1)) ∧ u ≤ m + 1 ∧ (∀ b, b ≠ 118 → I' b = I b) ∧ (∀ j, j ≠ k → I' 118 j = I 118 j) ∧ I' 118 k = Int32.ofNat (s_cnt p x (p 0 4)) := by
  have h0 := hp.1
  intro m
  induction m with
  | zero =>
    intro i n I h hH hI hj hi hn
    obtain ⟨n, rfl⟩ : ∃ n', n = n' + 1 := ⟨n - 1, by omega⟩
    rw [L_X13_know__112_1, rg_pos ((n_in (by omega)).mpr (by omega)), n_cl (by omega), h.1.2.2.2.2, hI, if_pos ((n_le (by omega) (by omega)).mpr (by omega)), n_inc]
    refine ⟨I, 1, rfl, by omega, fun b _ => rfl, fun j _ => rfl, ?_⟩
    have e := s_cnt_all hj
    have e2 : i = p 0 4 := by omega
    rw [hI, ← e2, e]
  | succ m ih =>
    intro i n I h hH hI hj hi hn
    obtain ⟨n, rfl⟩ : ∃ n', n = n' + 1 := ⟨n - 1, by omega⟩
    have b1 := hp.2.1 i
    rw [L_X13_know__112_1, rg_pos ((n_in (by omega)).mpr (by omega)), n_cl (k := k) (by omega), h.1.2.2.2.2, hI, if_neg (fun z => absurd ((n_le (by omega) (by omega)).mp z) (by omega)), rg_pos ((n_in (by omega)).mpr (by omega)), rg_pos ((n_in (by omega)).mpr (by omega)), rg_pos ((n_in (by omega)).mpr (by omega)), n_cl (k := i) (by omega), h.2.2.2 i (by omega), hH]
    by_cases hq : Int32.ofNat (p 6 i) ≤ x
    · rw [if_neg (by rw [i_lt]; rw [i_le] at hq; omega), rg_pos ((n_in (by omega)).mpr (by omega)), rg_pos ((n_in (by omega)).mpr (by omega)), n_inc]
      obtain ⟨I', u, c1, c2, c3, c4, c5⟩ := ih (i + 1) n (am_up I 118 k (Int32.ofNat (i + 1))) (h.kept (fun b z1 z2 => up_row _ _ _ (by omega))) (by rw [up_row _ _ _ (by omega)]; exact hH) (by rw [up_in, if_pos rfl]) (fun j hj2 => by
        by_cases he : j = i
        · subst he; exact hq
        · exact hj j (by omega)) (by omega) (by omega)
      exact ⟨I', u + 1, by rw [c1, show n + 1 - (u + 1) = n - u by omega], by omega, fun b hb => (c3 b hb).trans (up_row _ _ _ hb), fun j hj2 => by rw [c4 j hj2, up_in, if_neg hj2], c5⟩
    · rw [if_pos (by rw [i_lt]; rw [i_le] at hq; omega), n_inc]
      refine ⟨I, 1, rfl, by omega, fun b _ => rfl, fun j _ => rfl, ?_⟩
      have e := s_cnt_stop hp hj hq (m + 1) (by omega)
      rw [hi] at e
      rw [hI, e]
theorem r_kaL_112 (hp : p_ok p) (ht : t_ok p t) : ∀ (m k n : Nat) (I : am_I), rP I p → rT_112 I p t → rV_112 I p t → rB_112 I → (∀ j, j < k → I 117 j = s_ht p t j ∧ I 118 j = Int32.ofNat (s_ik p t j)) → k + m = s_S p → m * 8 < n →
    ∃ I' : am_I, L_X13_know__112 n 0 I G (Int32.ofNat k) = some ((), I', G) ∧ (∀ b, b ≠ 115 → b ≠ 116 → b ≠ 117 → b ≠ 118 → I' b = I b) ∧ rV_112 I' p t ∧ rB_112 I' ∧ ∀ j, j < s_S p → I' 117 j = s_ht p t j ∧ I' 118 j = Int32.ofNat (s_ik p t j) := by
  have h0 := hp.1
  have hS := s_S_le hp
  intro m
  induction m with
  | zero =>
    intro k n I h hT hV hB hK hk hn
    obtain ⟨n, rfl⟩ : ∃ n', n = n' + 1 := ⟨n - 1, by omega⟩
    rw [L_X13_know__112_0, r_spots h, if_pos ((n_le (by omega) (by omega)).mpr (by omega))]
    exact ⟨I, rfl, fun b _ _ _ _ => rfl, hV, hB, fun j hj => hK j (by omega)⟩
  | succ m ih =>
    intro k n I h hT hV hB hK hk hn
    obtain ⟨n, rfl⟩ : ∃ n', n = n' + 1 := ⟨n - 1, by omega⟩
    obtain ⟨I1, a1, a2, a3, a4⟩ := r_hb_112 (G := G) h hp hT ht hV hB (k := k) (by omega)
    rw [L_X13_know__112_0, r_spots h, if_neg (fun z => absurd ((n_le (by omega) (by omega)).mp z) (by omega)), a1, rb_go, rg_pos ((n_in (by omega)).mpr (by omega)), rg_pos ((n_in (by omega)).mpr (by omega)), n_cl (by omega)]
    have h1 : rP (am_up (am_up I1 117 k (s_ht p t k)) 118 k 0) p := h.kept (fun b z1 z2 => by rw [up_row _ _ _ (by omega), up_row _ _ _ (by omega), a2 b (by omega) (by omega)])
    obtain ⟨I2, u, c1, c2, c3, c4, c5⟩ := r_ikL_112 (G := G) hp (k := k) (by omega) (x := s_ht p t k) (p 0 4) 0 n _ h1 (by rw [up_row _ _ _ (by omega), up_in, if_pos rfl]) (by rw [up_in, if_pos rfl]; rfl) (fun j hj => absurd hj (by omega)) (by omega) (by omega)
    rw [c1]
    have f2 : ∀ b, b ≠ 115 → b ≠ 116 → b ≠ 117 → b ≠ 118 → I2 b = I b := fun b z1 z2 z3 z4 => by rw [c3 b z4, up_row _ _ _ z4, up_row _ _ _ z3, a2 b z1 z2]
    have g1 : I2 115 = I1 115 := by rw [c3 _ (by omega), up_row _ _ _ (by omega), up_row _ _ _ (by omega)]
    have g2 : I2 116 = I1 116 := by rw [c3 _ (by omega), up_row _ _ _ (by omega), up_row _ _ _ (by omega)]
    obtain ⟨I', b1, b2, b3, b4, b5⟩ := ih (k + 1) (n - u) I2 (h.kept (fun b z1 z2 => f2 b (by omega) (by omega) (by omega) (by omega))) (hT.kept ⟨by rw [f2 112 (by omega) (by omega) (by omega) (by omega)], by rw [f2 112 (by omega) (by omega) (by omega) (by omega)]⟩ ⟨f2 _ (by omega) (by omega) (by omega) (by omega), f2 _ (by omega) (by omega) (by omega) (by omega)⟩)
      (by unfold rV_112; rw [g1, g2]; exact a3) (by unfold rB_112; rw [g2]; exact a4) (fun j hj => by
        rw [c3 117 (by omega), up_row _ _ _ (by omega), up_in]
        by_cases he : j = k
        · subst he; rw [if_pos rfl, c5]; exact ⟨rfl, rfl⟩
        · rw [if_neg he, c4 j he, up_in, if_neg he, up_row _ _ _ (by omega), a2 117 (by omega) (by omega), a2 118 (by omega) (by omega)]; exact hK j (by omega)) (by omega) (by omega)
    exact ⟨I', b1, fun b z1 z2 z3 z4 => (b2 b z1 z2 z3 z4).trans (f2 b z1 z2 z3 z4), b3, b4, b5⟩
/-- all heights and inks get known -/
theorem r_ka_112 {I : am_I} (hp : p_ok p) (ht : t_ok p t) (h : rA_112 I p t) : ∃ I' : am_I, R_X13_know__112 I G = some ((), I', G) ∧ rW_112 I I' ∧ rA_112 I' p t ∧ ¬ I' 112 10 = 0 := by
  obtain ⟨h1, h2, h3, h4, h5⟩ := h
  have hS := s_S_le hp
  unfold R_X13_know__112
  by_cases hk : I 112 10 = 0
  · rw [if_pos hk, rg_pos (Or.inr rfl)]
    obtain ⟨I', b1, b2, b3, b4, b5⟩ := r_kaL_112 (G := G) hp ht (s_S p) 0 FU (am_up I 112 10 1) (h1.kept (fun b z1 z2 => up_row _ _ _ (by omega))) (h2.kept ⟨by rw [up_in, if_neg (by omega)], by rw [up_in, if_neg (by omega)]⟩ ⟨up_row _ _ _ (by omega), up_row _ _ _ (by omega)⟩)
      (by unfold rV_112; rw [up_row _ _ _ (by omega), up_row _ _ _ (by omega)]; exact h3) (by unfold rB_112; rw [up_row _ _ _ (by omega)]; exact h4) (fun j hj => absurd hj (by omega)) (by omega) (by unfold FU; omega)
    have e : I' 112 = am_up I 112 10 1 112 := b2 112 (by omega) (by omega) (by omega) (by omega)
    have f : ∀ b, b ≠ 115 → b ≠ 116 → b ≠ 117 → b ≠ 118 → b ≠ 112 → I' b = I b := fun b z1 z2 z3 z4 z5 => (b2 b z1 z2 z3 z4).trans (up_row _ _ _ z5)
    have kn : ¬ I' 112 10 = 0 := by rw [e, up_in, if_pos rfl]; decide
    exact ⟨I', b1, ⟨f, fun k hk2 => by rw [e, up_in, if_neg hk2], fun z => absurd hk z⟩, ⟨h1.kept (fun b z1 z2 => f b (by omega) (by omega) (by omega) (by omega) (by omega)), h2.kept ⟨by rw [e, up_in, if_neg (by omega)], by rw [e, up_in, if_neg (by omega)]⟩ ⟨f _ (by omega) (by omega) (by omega) (by omega) (by omega), f _ (by omega) (by omega) (by omega) (by omega) (by omega)⟩, b3, b4, fun _ => b5⟩, kn⟩
  · rw [if_neg hk]
    exact ⟨I, rfl, rW_112.rf I, ⟨h1, h2, h3, h4, h5⟩, hk⟩
theorem r_ht_112 {I : am_I} (hp : p_ok p) (ht : t_ok p t) (h : rA_112 I p t) {k : Nat} (hk : k < s_S p) : ∃ I' : am_I, R_X13_height_112 I G (Int32.ofNat k) = some (s_ht p t k, I', G) ∧ rW_112 I I' ∧ rA_112 I' p t ∧ ¬ I' 112 10 = 0 := by
  have hS := s_S_le hp
  obtain ⟨I', a1, a2, a3, a4⟩ := r_ka_112 (G := G) hp ht h
  refine ⟨I', ?_, a2, a3, a4⟩
  unfold R_X13_height_112
  rw [a1, rb_go, rg_pos ((n_in (by omega)).mpr (by omega)), n_cl (by omega), (a3.2.2.2.2 a4 k hk).1]
theorem r_ik_112 {I : am_I} (hp : p_ok p) (ht : t_ok p t) (h : rA_112 I p t) {k : Nat} (hk : k < s_S p) : ∃ I' : am_I, R_X13_ink_112 I G (Int32.ofNat k) = some (Int32.ofNat (s_ik p t k), I', G) ∧ rW_112 I I' ∧ rA_112 I' p t ∧ ¬ I' 112 10 = 0 := by
  have hS := s_S_le hp
  obtain ⟨I', a1, a2, a3, a4⟩ := r_ka_112 (G := G) hp ht h
  refine ⟨I', ?_, a2, a3, a4⟩
  unfold R_X13_ink_112
  rw [a1, rb_go, rg_pos ((n_in (by omega)).mpr (by omega)), n_cl (by omega), (a3.2.2.2.2 a4 k hk).2]
end MR112
