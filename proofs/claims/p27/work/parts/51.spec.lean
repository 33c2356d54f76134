/-! the paper as numbers: what a list tells (p), and what dips change (t) -/
abbrev sP : Type := Nat → Nat → Nat
def p_ok (p : sP) : Prop := (4 ≤ p 0 0 ∧ p 0 0 ≤ 24 ∧ 4 ≤ p 0 1 ∧ p 0 1 ≤ 24 ∧ p 0 2 ≤ 4 ∧ p 0 3 ≤ 4 ∧ p 0 4 ≤ 5) ∧
  (∀ k, 1 ≤ p 1 k ∧ p 1 k ≤ 8 ∧ 1 ≤ p 2 k ∧ p 2 k ≤ 8 ∧ 1 ≤ p 3 k ∧ p 3 k ≤ 9 ∧ p 4 k ≤ 1 ∧ 1 ≤ p 5 k ∧ p 5 k ≤ 8 ∧ p 6 k ≤ 999 ∧ p 7 k ≤ 999 ∧ p 8 k ≤ 16) ∧ ∀ i j, i < j → j < p 0 4 → p 6 i < p 6 j
def t_ok (p t : sP) : Prop := t 0 0 < p 0 0 ∧ t 0 1 < p 0 1 ∧ ∀ k, t 1 k ≤ 999 ∧ t 2 k ≤ 16
def s_S (p : sP) : Nat := p 0 0 * p 0 1
theorem s_S_le {p : sP} (h : p_ok p) : s_S p ≤ 576 := Nat.mul_le_mul h.1.2.1 h.1.2.2.2.1
theorem s_S_pos {p : sP} (h : p_ok p) : 16 ≤ s_S p := Nat.mul_le_mul h.1.1 h.1.2.2.1
def s_lines (p : sP) (c : Nat) : Nat := if p 4 c = 0 then p 0 1 else p 0 0
theorem s_lines_b {p : sP} (h : p_ok p) (c : Nat) : 4 ≤ s_lines p c ∧ s_lines p c ≤ 24 := by
  unfold s_lines; split
  · exact ⟨h.1.2.2.1, h.1.2.2.2.1⟩
  · exact ⟨h.1.1, h.1.2.1⟩
def s_sh (n teeth pull line : Nat) : Nat := pull * 2 * (if n - line * teeth % n < line * teeth % n then n - line * teeth % n else line * teeth % n) / n
theorem s_sh_b {n teeth pull line : Nat} (hn : 0 < n) : s_sh n teeth pull line ≤ pull * 2 := by
  have h1 := Nat.mod_lt (line * teeth) hn
  have h2 : (if n - line * teeth % n < line * teeth % n then n - line * teeth % n else line * teeth % n) ≤ n := by split <;> omega
  unfold s_sh
  exact Nat.div_le_of_le_mul (by rw [Nat.mul_comm n]; exact Nat.mul_le_mul (Nat.le_refl _) h2)
def s_shift (p t : sP) (c line : Nat) : Nat := s_sh (s_lines p c) (p 5 c) (t 2 c) line
theorem s_shift_b {p t : sP} (h : p_ok p) (ht : t_ok p t) (c line : Nat) : s_shift p t c line ≤ 32 := by
  have h1 := s_sh_b (teeth := p 5 c) (pull := t 2 c) (line := line) (show 0 < s_lines p c by have := s_lines_b h c; omega)
  have h2 := (ht.2.2 c).2
  unfold s_shift; omega
def s_back (p t : sP) : Nat → Nat → Nat → Nat × Nat
  | 0, x, y => (x, y)
  | c + 1, x, y => if p 4 c = 0 then s_back p t c (s_md ((x : Int) - (s_shift p t c y : Int)) (p 0 0)) y else s_back p t c x (s_md ((y : Int) - (s_shift p t c x : Int)) (p 0 1))
theorem s_back_b {p t : sP} (h : p_ok p) : ∀ (c x y : Nat), x < p 0 0 → y < p 0 1 → (s_back p t c x y).1 < p 0 0 ∧ (s_back p t c x y).2 < p 0 1
  | 0, x, y, hx, hy => ⟨hx, hy⟩
  | c + 1, x, y, hx, hy => by
    have h0 := h.1
    unfold s_back
    split
    · exact s_back_b h c _ y (s_md_lt _ (by omega)) hy
    · exact s_back_b h c x _ hx (s_md_lt _ (by omega))
/-- whence the spot came -/
def s_src (p t : sP) (x y : Nat) : Nat := s_md (((s_back p t (p 0 3) x y).2 : Int) - (t 0 1 : Int)) (p 0 1) * p 0 0 + s_md (((s_back p t (p 0 3) x y).1 : Int) - (t 0 0 : Int)) (p 0 0)
theorem s_pair_b {C R a b : Nat} (ha : a < C) (hb : b < R) : b * C + a < C * R := by
  have : (b + 1) * C ≤ R * C := Nat.mul_le_mul_right C hb
  rw [Nat.add_mul, Nat.one_mul] at this
  rw [Nat.mul_comm C R]; omega
theorem s_src_b {p t : sP} (h : p_ok p) (x y : Nat) : s_src p t x y < s_S p := s_pair_b (s_md_lt _ (by have := h.1; omega)) (s_md_lt _ (by have := h.1; omega))
def s_fade (z : Int32) : Int32 := z * z * ((768 : Int32) - (2 : Int32) * z) / (65536 : Int32)
def s_btw (a b u : Int32) : Int32 := a + (b - a) * u / (256 : Int32)
def s_gr (a b seed i j : Nat) : Nat := (seed + 3 * (i % a) * (i % a) + 5 * (j % b) + i % a * (j % b)) % 8
def s_pl (g : Nat) (f h : Int32) : Int32 := ([3, 2, 0, -2, -3, -2, 0, 2] : List Int32).getD g 0 * f + ([0, 2, 3, 2, 0, -2, -3, -2] : List Int32).getD g 0 * h
def s_val (C R a b seed x y : Nat) : Int32 :=
  s_btw (s_btw (s_pl (s_gr a b seed (256 * x * a / C / 256) (256 * y * b / R / 256)) (Int32.ofNat (256 * x * a / C % 256)) (Int32.ofNat (256 * y * b / R % 256)))
      (s_pl (s_gr a b seed (256 * x * a / C / 256 + 1) (256 * y * b / R / 256)) (Int32.ofNat (256 * x * a / C % 256) - (256 : Int32)) (Int32.ofNat (256 * y * b / R % 256))) (s_fade (Int32.ofNat (256 * x * a / C % 256))))
    (s_btw (s_pl (s_gr a b seed (256 * x * a / C / 256) (256 * y * b / R / 256 + 1)) (Int32.ofNat (256 * x * a / C % 256)) (Int32.ofNat (256 * y * b / R % 256) - (256 : Int32)))
      (s_pl (s_gr a b seed (256 * x * a / C / 256 + 1) (256 * y * b / R / 256 + 1)) (Int32.ofNat (256 * x * a / C % 256) - (256 : Int32)) (Int32.ofNat (256 * y * b / R % 256) - (256 : Int32))) (s_fade (Int32.ofNat (256 * x * a / C % 256))))
    (s_fade (Int32.ofNat (256 * y * b / R % 256)))
theorem s_gr_mod (a b seed i j : Nat) : s_gr a b (seed % 8) i j = s_gr a b seed i j := by unfold s_gr; omega
theorem s_val_mod (C R a b seed x y : Nat) : s_val C R a b (seed % 8) x y = s_val C R a b seed x y := by unfold s_val; simp only [s_gr_mod]
def s_v (p : sP) (o seed k : Nat) : Int32 := s_val (p 0 0) (p 0 1) (p 1 o) (p 2 o) seed (k % p 0 0) (k / p 0 0)
def s_sum (p t : sP) (q : Nat) : Nat → Int32
  | 0 => 0
  | o + 1 => s_sum p t q o + Int32.ofNat (p 3 o) * s_v p o (t 1 o) q
def s_hq (p t : sP) (q : Nat) : Int32 := gHo ((500 : Int32) + s_sum p t q (p 0 2) / (16 : Int32)) 0 999
theorem gHo_b (x : Int32) : 0 ≤ (gHo x 0 999).toInt ∧ (gHo x 0 999).toInt ≤ 999 := by
  unfold gHo gMax gMin
  have h0 : (0 : Int32).toInt = 0 := rfl
  have h9 : (999 : Int32).toInt = 999 := rfl
  by_cases h1 : (999 : Int32) < x
  · rw [if_pos h1]; decide
  · rw [if_neg h1]
    rw [i_lt, h9] at h1
    by_cases h2 : (0 : Int32) < x
    · rw [if_pos h2]; rw [i_lt, h0] at h2; omega
    · rw [if_neg h2]; decide
/-- the height of a spot -/
def s_ht (p t : sP) (k : Nat) : Int32 := s_hq p t (s_src p t (k % p 0 0) (k / p 0 0))
def s_cnt (p : sP) (h : Int32) : Nat → Nat
  | 0 => 0
  | k + 1 => s_cnt p h k + (if Int32.ofNat (p 6 k) ≤ h then 1 else 0)
theorem s_cnt_b (p : sP) (h : Int32) : ∀ k, s_cnt p h k ≤ k
  | 0 => Nat.le_refl _
  | k + 1 => by
    have := s_cnt_b p h k
    unfold s_cnt; split <;> omega
/-- the ink of a spot -/
def s_ik (p t : sP) (k : Nat) : Nat := s_cnt p (s_ht p t k) (p 0 4)
theorem s_ik_b (p t : sP) (k : Nat) : s_ik p t k ≤ p 0 4 := s_cnt_b _ _ _
/-- how many of the first so many have this ink -/
def s_shr (p t : sP) (j : Nat) : Nat → Nat
  | 0 => 0
  | k + 1 => s_shr p t j k + (if s_ik p t k = j then 1 else 0)
theorem s_shr_b (p t : sP) (j : Nat) : ∀ k, s_shr p t j k ≤ k
  | 0 => Nat.le_refl _
  | k + 1 => by
    have := s_shr_b p t j k
    unfold s_shr; split <;> omega
/-! the plan told, in the class's cells -/
def cP (I : am_I) (p : sP) : Prop := (I 7 9 = Int32.ofNat (p 0 0) ∧ I 7 10 = Int32.ofNat (p 0 1) ∧ I 7 11 = Int32.ofNat (p 0 2) ∧ I 7 12 = Int32.ofNat (p 0 3) ∧ I 7 13 = Int32.ofNat (p 0 4)) ∧
  (∀ k, k < p 0 2 → I 8 k = Int32.ofNat (p 1 k) ∧ I 9 k = Int32.ofNat (p 2 k) ∧ I 10 k = Int32.ofNat (p 3 k) ∧ I 11 k = Int32.ofNat (p 7 k)) ∧
  (∀ k, k < p 0 3 → I 12 k = Int32.ofNat (p 4 k) ∧ I 13 k = Int32.ofNat (p 5 k) ∧ I 14 k = Int32.ofNat (p 8 k)) ∧ (∀ k, k < p 0 4 → I 15 k = Int32.ofNat (p 6 k))
theorem cP.kept {I I' : am_I} {p : sP} (h : cP I p) (hk : ∀ b, 7 ≤ b → b ≤ 15 → I' b = I b) : cP I' p := by
  unfold cP
  rw [hk 7 (by omega) (by omega), hk 8 (by omega) (by omega), hk 9 (by omega) (by omega), hk 10 (by omega) (by omega), hk 11 (by omega) (by omega), hk 12 (by omega) (by omega), hk 13 (by omega) (by omega), hk 14 (by omega) (by omega), hk 15 (by omega) (by omega)]
  exact h
section MC
variable {I : am_I} {G : am_G} {p t : sP}
theorem c_spot (h : cP I p) (hp : p_ok p) (x y : Int32) : f_X5_spot_7 I G x y = Int32.ofNat (s_md y.toInt (p 0 1) * p 0 0 + s_md x.toInt (p 0 0)) := by
  have h0 := hp.1
  unfold f_X5_spot_7
  rw [h.1.1, h.1.2.1, n_l, n_l, n_gWr (by omega) (by omega), n_gWr (by omega) (by omega), n_mul, n_add]
theorem c_lines (h : cP I p) (hp : p_ok p) {c : Nat} (hc : c < p 0 3) : f_X5_linesOf_7 I G (Int32.ofNat c) = Int32.ofNat (s_lines p c) := by
  have h0 := hp.1
  have h1 := (hp.2.1 c)
  unfold f_X5_linesOf_7
  rw [n_gAt (by omega) (by omega), (h.2.2.1 c hc).1, h.1.1, h.1.2.1]
  unfold s_lines
  by_cases hz : p 4 c = 0
  · rw [if_pos (by rw [hz]; rfl), if_pos hz]
  · rw [if_neg (n_ne0 (by omega) (by omega)), if_neg hz]
theorem c_inkL (h : cP I p) (hp : p_ok p) (x : Int32) : ∀ (m k n : Nat), k + m = p 0 4 → m < n → L_X5_inkOf_7 n 0 I G x (Int32.ofNat (s_cnt p x k)) (Int32.ofNat k) = some (Int32.ofNat (s_cnt p x (p 0 4)), I, G) := by
  have h0 := hp.1
  intro m
  induction m with
  | zero =>
    intro k n hk hn
    obtain ⟨n, rfl⟩ : ∃ n', n = n' + 1 := ⟨n - 1, by omega⟩
    rw [L_X5_inkOf_7_0, h.1.2.2.2.2, if_pos ((n_le (by omega) (by omega)).mpr (by omega)), show k = p 0 4 by omega]
  | succ m ih =>
    intro k n hk hn
    obtain ⟨n, rfl⟩ : ∃ n', n = n' + 1 := ⟨n - 1, by omega⟩
    have h1 := hp.2.1 k
    rw [L_X5_inkOf_7_0, h.1.2.2.2.2, if_neg (fun q => absurd ((n_le (by omega) (by omega)).mp q) (by omega)), n_gAt (by omega) (by omega), h.2.2.2 k (by omega), n_inc, n_inc]
    have ih2 := ih (k + 1) n (by omega) (by omega)
    by_cases hq : Int32.ofNat (p 6 k) ≤ x
    · rw [if_neg (by rw [i_lt]; rw [i_le] at hq; omega), ← ih2, s_cnt, if_pos hq]
    · rw [if_pos (by rw [i_lt]; rw [i_le] at hq; omega), ← ih2, s_cnt, if_neg hq]; rfl
theorem c_ink (h : cP I p) (hp : p_ok p) (x : Int32) : R_X5_inkOf_7 I G x = some (Int32.ofNat (s_cnt p x (p 0 4)), I, G) := by
  have h0 := hp.1
  exact c_inkL h hp x (p 0 4) 0 FU (by omega) (by unfold FU; omega)
theorem c_grad (h : cP I p) (hp : p_ok p) {o seed i j : Nat} (ho : o < p 0 2) (hs : seed ≤ 999) (hi : i < 1000) (hj : j < 1000) : f_X10_gradientAt_25 I G (Int32.ofNat o) (Int32.ofNat seed) (Int32.ofNat i) (Int32.ofNat j) = Int32.ofNat (s_gr (p 1 o) (p 2 o) seed i j) := by
  have h0 := hp.1
  have h1 := hp.2.1 o
  have a1 := Nat.mod_lt i (show 0 < p 1 o by omega)
  have a2 := Nat.mod_lt j (show 0 < p 2 o by omega)
  have b1 : i % p 1 o * (i % p 1 o) ≤ 7 * 7 := Nat.mul_le_mul (by omega) (by omega)
  have b2 : i % p 1 o * (j % p 2 o) ≤ 7 * 7 := Nat.mul_le_mul (by omega) (by omega)
  have b3 : 3 * (i % p 1 o) * (i % p 1 o) ≤ 3 * 7 * 7 := Nat.mul_le_mul (by omega) (by omega)
  unfold f_X10_gradientAt_25
  rw [n_gAt (by omega) (by omega), n_gAt (by omega) (by omega), (h.2.1 o ho).1, (h.2.1 o ho).2.1, n_l, n_l, n_ti (by omega), n_ti (by omega), n_gWr (by omega) (by omega), n_gWr (by omega) (by omega), s_md_nat, s_md_nat,
    show (3 : Int32) = Int32.ofNat 3 from rfl, show (5 : Int32) = Int32.ofNat 5 from rfl, show (8 : Int32) = Int32.ofNat 8 from rfl]
  simp only [n_mul, n_add]
  rw [n_mod (by omega) (by omega)]
  rfl
theorem c_pull {g : Nat} (hg : g < 8) (f h : Int32) : f_X10_pullOf I G (Int32.ofNat g) f h = s_pl g f h := by
  unfold f_X10_pullOf
  rw [n_gAt hg (by omega), n_gAt hg (by omega)]
  rfl
theorem s_gr_b (a b seed i j : Nat) : s_gr a b seed i j < 8 := Nat.mod_lt _ (by omega)
theorem s_w_b {x a C : Nat} (hx : x < C) (hC : C ≤ 24) (ha : a ≤ 8) : 256 * x * a ≤ 49152 ∧ 256 * x * a / C ≤ 49152 ∧ 256 * x * a / C / 256 < 1000 - 1 := by
  have h1 : 256 * x * a ≤ 256 * 24 * 8 := Nat.mul_le_mul (by omega) ha
  have h2 : 256 * x * a / C ≤ 256 * x * a := Nat.div_le_self _ _
  omega
theorem c_val (h : cP I p) (hp : p_ok p) {o seed x y : Nat} (ho : o < p 0 2) (hs : seed ≤ 999) (hx : x < p 0 0) (hy : y < p 0 1) : f_X10_valueAt_25 I G (Int32.ofNat o) (Int32.ofNat seed) (Int32.ofNat x) (Int32.ofNat y) = s_val (p 0 0) (p 0 1) (p 1 o) (p 2 o) seed x y := by
  have h0 := hp.1
  have h1 := hp.2.1 o
  have w1 := s_w_b (a := p 1 o) hx (by omega) (by omega)
  have w2 := s_w_b (a := p 2 o) hy (by omega) (by omega)
  unfold f_X10_valueAt_25
  rw [n_gAt (by omega) (by omega), n_gAt (by omega) (by omega), (h.2.1 o ho).1, (h.2.1 o ho).2.1, h.1.1, h.1.2.1]
  rw [show ((256 : Int32) * Int32.ofNat x) * Int32.ofNat (p 1 o) = Int32.ofNat (256 * x * p 1 o) from by rw [show (256 : Int32) = Int32.ofNat 256 from rfl, n_mul, n_mul],
    show ((256 : Int32) * Int32.ofNat y) * Int32.ofNat (p 2 o) = Int32.ofNat (256 * y * p 2 o) from by rw [show (256 : Int32) = Int32.ofNat 256 from rfl, n_mul, n_mul],
    n_gQu (by omega) (by omega) (by omega), n_gQu (by omega) (by omega) (by omega)]
  rw [show Int32.ofNat (256 * x * p 1 o / p 0 0) - Int32.ofNat (256 * x * p 1 o / p 0 0) / (256 : Int32) * (256 : Int32) = Int32.ofNat (256 * x * p 1 o / p 0 0 % 256) from n_mod (b := 256) (by omega) (by omega),
    show Int32.ofNat (256 * y * p 2 o / p 0 1) - Int32.ofNat (256 * y * p 2 o / p 0 1) / (256 : Int32) * (256 : Int32) = Int32.ofNat (256 * y * p 2 o / p 0 1 % 256) from n_mod (b := 256) (by omega) (by omega),
    show Int32.ofNat (256 * x * p 1 o / p 0 0) / (256 : Int32) = Int32.ofNat (256 * x * p 1 o / p 0 0 / 256) from n_div (b := 256) (by omega) (by omega),
    show Int32.ofNat (256 * y * p 2 o / p 0 1) / (256 : Int32) = Int32.ofNat (256 * y * p 2 o / p 0 1 / 256) from n_div (b := 256) (by omega) (by omega), n_inc, n_inc,
    c_grad h hp ho hs (by omega) (by omega), c_grad h hp ho hs (by omega) (by omega), c_grad h hp ho hs (by omega) (by omega), c_grad h hp ho hs (by omega) (by omega),
    c_pull (s_gr_b _ _ _ _ _), c_pull (s_gr_b _ _ _ _ _), c_pull (s_gr_b _ _ _ _ _), c_pull (s_gr_b _ _ _ _ _)]
  rfl
end MC
