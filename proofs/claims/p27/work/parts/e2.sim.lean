/-! the law's own paper: levels, combs, where each spot is seen, heights, inks -/
theorem iS.row {p t : sP} {dp ca : Int32} {I : am_I} {N : Nat} {f : Nat → Int32} (h : iS p t dp ca I) (hN : 84 + p 0 2 + p 0 3 ≤ N) : iS p t dp ca (am_row I N f) := by
  obtain ⟨h1, h2, h3, h4⟩ := h
  refine ⟨by rw [am_row_ne _ _ (by omega)]; exact h1, fun j hj => by rw [am_row_ne _ _ (by omega)]; exact h2 j hj, fun j hj => by rw [am_row_ne _ _ (by omega)]; exact h3 j hj, fun j hj => by rw [am_row_ne _ _ (by omega)]; exact h4 j hj⟩
/-- where a spot is seen, comb by comb -/
def s_fw (p t : sP) : Nat → Nat × Nat → Nat × Nat
  | 0, q => q
  | c + 1, q => if p 4 c = 0 then (((s_fw p t c q).1 + s_shift p t c (s_fw p t c q).2) % p 0 0, (s_fw p t c q).2) else ((s_fw p t c q).1, ((s_fw p t c q).2 + s_shift p t c (s_fw p t c q).1) % p 0 1)
def s_go (p t : sP) (k : Nat) : Nat := p 0 0 * (s_fw p t (p 0 3) ((k % p 0 0 + t 0 0) % p 0 0, (k / p 0 0 + t 0 1) % p 0 1)).2 + (s_fw p t (p 0 3) ((k % p 0 0 + t 0 0) % p 0 0, (k / p 0 0 + t 0 1) % p 0 1)).1
theorem md_fwd {x s C : Nat} (h : x < C) : (s_md ((x : Int) - (s : Int)) C + s) % C = x := by
  have h1 := Int.emod_nonneg ((x : Int) - (s : Int)) (show (C : Int) ≠ 0 by omega)
  have h2 : ((s_md ((x : Int) - (s : Int)) C : Nat) : Int) = ((x : Int) - (s : Int)) % (C : Int) := by unfold s_md; omega
  have h3 : (((s_md ((x : Int) - (s : Int)) C + s) % C : Nat) : Int) = (x : Int) := by
    rw [Int.natCast_emod, Int.natCast_add, h2, Int.emod_add_emod, Int.sub_add_cancel]
    exact Int.emod_eq_of_lt (by omega) (by omega)
  omega
theorem md_back {r s C : Nat} (h : r < C) : s_md ((((r + s) % C : Nat) : Int) - (s : Int)) C = r := by
  have h3 : ((((r + s) % C : Nat) : Int) - (s : Int)) % (C : Int) = (r : Int) := by
    rw [Int.natCast_emod, Int.natCast_add, Int.emod_sub_emod, Int.add_sub_cancel]
    exact Int.emod_eq_of_lt (by omega) (by omega)
  unfold s_md
  rw [h3]
  rfl
section E2a
variable {p t : sP}
theorem s_fw_b (hp : p_ok p) : ∀ (c : Nat) (q : Nat × Nat), q.1 < p 0 0 → q.2 < p 0 1 → (s_fw p t c q).1 < p 0 0 ∧ (s_fw p t c q).2 < p 0 1
  | 0, q, h1, h2 => ⟨h1, h2⟩
  | c + 1, q, h1, h2 => by
    have h0 := hp.1
    obtain ⟨a, b⟩ := s_fw_b hp c q h1 h2
    unfold s_fw
    split
    · exact ⟨Nat.mod_lt _ (by omega), b⟩
    · exact ⟨a, Nat.mod_lt _ (by omega)⟩
theorem s_back_fw (hp : p_ok p) : ∀ (c : Nat) (q : Nat × Nat), q.1 < p 0 0 → q.2 < p 0 1 → s_back p t c (s_fw p t c q).1 (s_fw p t c q).2 = q
  | 0, q, h1, h2 => rfl
  | c + 1, q, h1, h2 => by
    obtain ⟨a, b⟩ := s_fw_b (t := t) hp c q h1 h2
    have ih := s_back_fw hp c q h1 h2
    unfold s_back s_fw
    by_cases h : p 4 c = 0
    · rw [if_pos h, if_pos h]
      show s_back p t c (s_md ((((s_fw p t c q).1 + s_shift p t c (s_fw p t c q).2) % p 0 0 : Nat) - (s_shift p t c (s_fw p t c q).2 : Int)) (p 0 0)) (s_fw p t c q).2 = q
      rw [md_back a]; exact ih
    · rw [if_neg h, if_neg h]
      show s_back p t c (s_fw p t c q).1 (s_md ((((s_fw p t c q).2 + s_shift p t c (s_fw p t c q).1) % p 0 1 : Nat) - (s_shift p t c (s_fw p t c q).1 : Int)) (p 0 1)) = q
      rw [md_back b]; exact ih
theorem s_fw_back (hp : p_ok p) : ∀ (c x y : Nat), x < p 0 0 → y < p 0 1 → s_fw p t c (s_back p t c x y) = (x, y)
  | 0, x, y, h1, h2 => rfl
  | c + 1, x, y, h1, h2 => by
    have h0 := hp.1
    unfold s_back s_fw
    by_cases h : p 4 c = 0
    · rw [if_pos h, if_pos h, s_fw_back hp c _ y (s_md_lt _ (by omega)) h2]
      show (_, y) = (x, y)
      rw [md_fwd h1]
    · rw [if_neg h, if_neg h, s_fw_back hp c x _ h1 (s_md_lt _ (by omega))]
      show (x, _) = (x, y)
      rw [md_fwd h2]
theorem s_go_lt (hp : p_ok p) (k : Nat) : s_go p t k < s_S p := by
  have h0 := hp.1
  obtain ⟨a, b⟩ := s_fw_b (t := t) hp (p 0 3) ((k % p 0 0 + t 0 0) % p 0 0, (k / p 0 0 + t 0 1) % p 0 1) (Nat.mod_lt _ (by omega)) (Nat.mod_lt _ (by omega))
  unfold s_go
  rw [Nat.mul_comm (p 0 0)]
  exact s_pair_b a b
theorem s_src_go (hp : p_ok p) {k : Nat} (hk : k < s_S p) : s_src p t (s_go p t k % p 0 0) (s_go p t k / p 0 0) = k := by
  have h0 := hp.1
  have hx : k % p 0 0 < p 0 0 := Nat.mod_lt _ (by omega)
  have hy : k / p 0 0 < p 0 1 := s_y_lt hk
  have a1 : (k % p 0 0 + t 0 0) % p 0 0 < p 0 0 := Nat.mod_lt _ (by omega)
  have a2 : (k / p 0 0 + t 0 1) % p 0 1 < p 0 1 := Nat.mod_lt _ (by omega)
  obtain ⟨b1, b2⟩ := s_fw_b (t := t) hp (p 0 3) ((k % p 0 0 + t 0 0) % p 0 0, (k / p 0 0 + t 0 1) % p 0 1) a1 a2
  have e := s_back_fw (t := t) hp (p 0 3) ((k % p 0 0 + t 0 0) % p 0 0, (k / p 0 0 + t 0 1) % p 0 1) a1 a2
  unfold s_go
  rw [Nat.mul_comm (p 0 0), (s_mk b1).1, (s_mk b1).2]
  unfold s_src
  rw [e, md_back hx, md_back hy]
  have := s_xy (p 0 0) k (by omega)
  omega
theorem s_go_src (hp : p_ok p) {q : Nat} (hq : q < s_S p) : s_go p t (s_src p t (q % p 0 0) (q / p 0 0)) = q := by
  have h0 := hp.1
  have hx : q % p 0 0 < p 0 0 := Nat.mod_lt _ (by omega)
  have hy : q / p 0 0 < p 0 1 := s_y_lt hq
  obtain ⟨b1, b2⟩ := s_back_b (t := t) hp (p 0 3) (q % p 0 0) (q / p 0 0) hx hy
  unfold s_go s_src
  rw [(s_mk (s_md_lt _ (by omega))).1, (s_mk (s_md_lt _ (by omega))).2, md_fwd b1, md_fwd b2]
  show p 0 0 * (s_fw p t (p 0 3) (s_back p t (p 0 3) (q % p 0 0) (q / p 0 0))).2 + (s_fw p t (p 0 3) (s_back p t (p 0 3) (q % p 0 0) (q / p 0 0))).1 = q
  rw [s_fw_back hp (p 0 3) _ _ hx hy, Nat.mul_comm]
  have := s_xy (p 0 0) q (by omega)
  show q / p 0 0 * p 0 0 + q % p 0 0 = q
  omega
end E2a
section E2b
variable {p t : sP} {dp ca : Int32} {I : am_I} {ni no nc nd : Nat}
theorem i_ikL (hp : p_ok p) (h : iS p t dp ca I) (x : Int32) : ∀ (m k n : Nat), k + m = p 0 4 → m < n → L_X12_inkOf n 0 I (p 0 4) no nc nd x (Int32.ofNat (s_cnt p x k)) (Int32.ofNat (p 0 4)) (Int32.ofNat k) = some (Int32.ofNat (s_cnt p x (p 0 4))) := by
  have h0 := hp.1
  intro m
  induction m with
  | zero =>
    intro k n hk hn
    obtain ⟨n, rfl⟩ : ∃ n', n = n' + 1 := ⟨n - 1, by omega⟩
    obtain rfl : k = p 0 4 := by omega
    rw [L_X12_inkOf_0, if_pos ((n_le (by omega) (by omega)).mpr (Nat.le_refl _))]
  | succ m ih =>
    intro k n hk hn
    obtain ⟨n, rfl⟩ : ∃ n', n = n' + 1 := ⟨n - 1, by omega⟩
    have ih2 := ih (k + 1) n (by omega) (by omega)
    rw [L_X12_inkOf_0, if_neg (fun q => absurd ((n_le (by omega) (by omega)).mp q) (by omega)), rg_pos ((n_in (by omega)).mpr (by omega)), n_cl (by omega), h.2.2.2 k (by omega), n_inc, n_inc]
    by_cases hq : Int32.ofNat (p 6 k) ≤ x
    · rw [if_neg (by rw [i_lt]; rw [i_le] at hq; omega), ← ih2, s_cnt, if_pos hq]
    · rw [if_pos (by rw [i_lt]; rw [i_le] at hq; omega), ← ih2, s_cnt, if_neg hq, Int32.add_zero]; rfl
theorem i_ik (hp : p_ok p) (h : iS p t dp ca I) (x : Int32) : R_X12_inkOf I (p 0 4) no nc nd x = some (Int32.ofNat (s_cnt p x (p 0 4))) :=
  i_ikL hp h x (p 0 4) 0 FU (by omega) (by have := hp.1; unfold FU; omega)
theorem i_mvA {n tt pu l : Nat} (hn : 0 < n ∧ n ≤ 24) (ht : tt ≤ 8) (hpu : pu ≤ 16) (hl : l ≤ 24) : (if (Int32.ofNat l * Int32.ofNat tt - Int32.ofNat l * Int32.ofNat tt / Int32.ofNat n * Int32.ofNat n) ≤ (Int32.ofNat n - (Int32.ofNat l * Int32.ofNat tt - Int32.ofNat l * Int32.ofNat tt / Int32.ofNat n * Int32.ofNat n)) then rg (¬ Int32.ofNat n = 0) (some (Int32.ofNat pu * (2 : Int32) * (Int32.ofNat l * Int32.ofNat tt - Int32.ofNat l * Int32.ofNat tt / Int32.ofNat n * Int32.ofNat n) / Int32.ofNat n)) else rg (¬ Int32.ofNat n = 0) (some (Int32.ofNat pu * (2 : Int32) * (Int32.ofNat n - (Int32.ofNat l * Int32.ofNat tt - Int32.ofNat l * Int32.ofNat tt / Int32.ofNat n * Int32.ofNat n)) / Int32.ofNat n))) = some (Int32.ofNat (s_sh n tt pu l)) := by
  have b1 : l * tt ≤ 24 * 8 := Nat.mul_le_mul hl ht
  have b2 := Nat.mod_lt (l * tt) hn.1
  rw [n_mul, n_mod (by omega) (by omega), n_sub (by omega), rg_pos (n_ne0 hn.1 (by omega)), show (2 : Int32) = Int32.ofNat 2 from rfl, n_mul, n_mul, n_mul]
  have b3 : pu * 2 * (l * tt % n) ≤ 32 * 24 := Nat.mul_le_mul (by omega) (by omega)
  have b4 : pu * 2 * (n - l * tt % n) ≤ 32 * 24 := Nat.mul_le_mul (by omega) (by omega)
  rw [n_div (by omega) (by omega), n_div (by omega) (by omega)]
  unfold s_sh
  by_cases c : l * tt % n ≤ n - l * tt % n
  · rw [if_pos ((n_le (by omega) (by omega)).mpr c), if_neg (by omega)]
  · rw [if_neg (fun q => c ((n_le (by omega) (by omega)).mp q)), if_pos (by omega), rg_pos (n_ne0 hn.1 (by omega))]
theorem i_mv (hp : p_ok p) (ht : t_ok p t) (h : iS p t dp ca I) {c l : Nat} (hc : c < p 0 3) (hl : l ≤ 24) : R_X12_moves I ni no nc nd (84 + p 0 2 + c) (Int32.ofNat l) = some (Int32.ofNat (s_shift p t c l)) := by
  have h0 := hp.1
  have h1 := hp.2.1 c
  obtain ⟨a0, a1, a2⟩ := h.2.2.1 c hc
  have a0 : I (84 + p 0 2 + c) (0 : Int32).toNatClampNeg = Int32.ofNat (p 4 c) := a0
  have a1 : I (84 + p 0 2 + c) (1 : Int32).toNatClampNeg = Int32.ofNat (p 5 c) := a1
  have a2 : I (84 + p 0 2 + c) (2 : Int32).toNatClampNeg = Int32.ofNat (t 2 c) := a2
  unfold R_X12_moves s_shift s_lines
  rw [a0, a1, a2, h.1.1, h.1.2.1]
  by_cases z : p 4 c = 0
  · rw [if_neg (by rw [z]; decide), rg_pos (n_ne0 (by omega) (by omega)), if_pos z]
    exact i_mvA ⟨by omega, by omega⟩ (by omega) (ht.2.2 c).2 hl
  · have z1 : p 4 c = 1 := by omega
    rw [if_pos (by rw [z1]; rfl), rg_pos (n_ne0 (by omega) (by omega)), if_neg z]
    exact i_mvA ⟨by omega, by omega⟩ (by omega) (ht.2.2 c).2 hl
theorem i_cmI (hp : p_ok p) (ht : t_ok p t) (h : iS p t dp ca I) {N : Nat} (hN : 84 + p 0 2 + p 0 3 ≤ N) (F : Nat → Int32) (k : Nat) {q : Nat × Nat} (hq1 : q.1 < p 0 0) (hq2 : q.2 < p 0 1) : ∀ (m c n : Nat), c + m = p 0 3 → L_X12_came (n + m + 1) 1 N I ni (p 0 2) (p 0 3) nd F (s_S p) (Int32.ofNat k) (Int32.ofNat (s_fw p t c q).1) (Int32.ofNat (s_fw p t c q).2) (Int32.ofNat (p 0 3)) (Int32.ofNat c) = L_X12_came n 0 N I ni (p 0 2) (p 0 3) nd (r_up F (p 0 0 * (s_fw p t (p 0 3) q).2 + (s_fw p t (p 0 3) q).1) (Int32.ofNat k)) (s_S p) (Int32.ofNat (k + 1)) 0 0 0 0 := by
  have h0 := hp.1
  have hS := s_S_le hp
  intro m
  induction m with
  | zero =>
    intro c n hc
    obtain rfl : c = p 0 3 := by omega
    obtain ⟨b1, b2⟩ := s_fw_b (t := t) hp (p 0 3) q hq1 hq2
    have hlt : p 0 0 * (s_fw p t (p 0 3) q).2 + (s_fw p t (p 0 3) q).1 < s_S p := by rw [Nat.mul_comm (p 0 0)]; exact s_pair_b b1 b2
    rw [L_X12_came_1, if_pos ((n_le (by omega) (by omega)).mpr (Nat.le_refl _)), h.1.1, n_mul, n_add, rg_pos ((n_in (by omega)).mpr hlt), n_cl (by omega), n_inc]
  | succ m ih =>
    intro c n hc
    obtain ⟨b1, b2⟩ := s_fw_b (t := t) hp c q hq1 hq2
    have hr := h.row (f := F) hN
    have hsh := s_shift_b hp ht c (s_fw p t c q).2
    have hsh2 := s_shift_b hp ht c (s_fw p t c q).1
    obtain ⟨a0, a1, a2⟩ := h.2.2.1 c (by omega)
    have a0 : I (84 + p 0 2 + c) (0 : Int32).toNatClampNeg = Int32.ofNat (p 4 c) := a0
    have h4 := (hp.2.1 c).2.2.2.2.2.2.1
    rw [show n + (m + 1) + 1 = (n + m + 1) + 1 by omega, L_X12_came_1, if_neg (fun z => absurd ((n_le (by omega) (by omega)).mp z) (by omega)), rg_pos ((n_in (by omega)).mpr (by omega)), n_cl (by omega), a0]
    by_cases z : p 4 c = 0
    · have e : s_fw p t (c + 1) q = (((s_fw p t c q).1 + s_shift p t c (s_fw p t c q).2) % p 0 0, (s_fw p t c q).2) := if_pos z
      rw [if_neg (by rw [z]; decide), i_mv hp ht hr (by omega) (by omega), Option.bind_some, h.1.1, rg_pos (n_ne0 (by omega) (by omega)), n_add, n_mod (by omega) (by omega), n_inc]
      have := ih (c + 1) n (by omega)
      rw [e] at this
      exact this
    · have z1 : p 4 c = 1 := by omega
      have e : s_fw p t (c + 1) q = ((s_fw p t c q).1, ((s_fw p t c q).2 + s_shift p t c (s_fw p t c q).1) % p 0 1) := if_neg z
      rw [if_pos (by rw [z1]; rfl), i_mv hp ht hr (by omega) (by omega), Option.bind_some, h.1.2.1, rg_pos (n_ne0 (by omega) (by omega)), n_add, n_mod (by omega) (by omega), n_inc]
      have := ih (c + 1) n (by omega)
      rw [e] at this
      exact this
theorem i_cmL (hp : p_ok p) (ht : t_ok p t) (h : iS p t dp ca I) {N : Nat} (hN : 84 + p 0 2 + p 0 3 ≤ N) : ∀ (m k n : Nat) (F : Nat → Int32), k + m = s_S p → (∀ q, q < s_S p → s_src p t (q % p 0 0) (q / p 0 0) < k → F q = Int32.ofNat (s_src p t (q % p 0 0) (q / p 0 0))) → ∃ F', L_X12_came (n + m * (p 0 3 + 2) + 1) 0 N I ni (p 0 2) (p 0 3) nd F (s_S p) (Int32.ofNat k) 0 0 0 0 = some (F', s_S p) ∧ ∀ q, q < s_S p → F' q = Int32.ofNat (s_src p t (q % p 0 0) (q / p 0 0)) := by
  have h0 := hp.1
  have hS := s_S_le hp
  intro m
  induction m with
  | zero =>
    intro k n F hk hF
    refine ⟨F, ?_, fun q hq => hF q hq (by have := s_src_b (t := t) hp (q % p 0 0) (q / p 0 0); omega)⟩
    rw [L_X12_came_0, if_pos ((n_le (by omega) (by omega)).mpr (by omega))]
  | succ m ih =>
    intro k n F hk hF
    have hx : k % p 0 0 < p 0 0 := Nat.mod_lt _ (by omega)
    have hy : k / p 0 0 < p 0 1 := s_y_lt (show k < s_S p by omega)
    have ht1 := ht.1
    have ht2 := ht.2.1
    have e1 : n + (m + 1) * (p 0 3 + 2) + 1 = ((n + m * (p 0 3 + 2) + 1) + p 0 3 + 1) + 1 := by rw [Nat.succ_mul]; omega
    have hgo : p 0 0 * (s_fw p t (p 0 3) ((k % p 0 0 + t 0 0) % p 0 0, (k / p 0 0 + t 0 1) % p 0 1)).2 + (s_fw p t (p 0 3) ((k % p 0 0 + t 0 0) % p 0 0, (k / p 0 0 + t 0 1) % p 0 1)).1 = s_go p t k := rfl
    have hI := i_cmI (ni := ni) (nd := nd) hp ht h hN F k (q := ((k % p 0 0 + t 0 0) % p 0 0, (k / p 0 0 + t 0 1) % p 0 1)) (Nat.mod_lt _ (by omega)) (Nat.mod_lt _ (by omega)) (p 0 3) 0 (n + m * (p 0 3 + 2) + 1) (by omega)
    rw [hgo] at hI
    obtain ⟨F', f1, f2⟩ := ih (k + 1) n (r_up F (s_go p t k) (Int32.ofNat k)) (by omega) (fun q hq hlt => by
      unfold r_up
      by_cases e : q = s_go p t k
      · rw [if_pos e]
        have := s_src_go (t := t) hp (show k < s_S p by omega)
        rw [← e] at this
        rw [this]
      · rw [if_neg e]
        refine hF q hq ?_
        have h3 := s_go_src (t := t) hp hq
        have h4 : s_src p t (q % p 0 0) (q / p 0 0) ≠ k := fun z => e (by rw [← z, h3])
        omega)
    refine ⟨F', ?_, f2⟩
    have hz := hI.trans f1
    rw [e1, L_X12_came_0, if_neg (fun q => absurd ((n_le (by omega) (by omega)).mp q) (by omega)), h.1.1, h.1.2.1, h.1.2.2.1, h.1.2.2.2.1, rg_pos (n_ne0 (by omega) (by omega)), rg_pos (n_ne0 (by omega) (by omega)), rg_pos (n_ne0 (by omega) (by omega)), rg_pos (n_ne0 (by omega) (by omega))]
    rw [n_mod (by omega) (by omega), n_add, n_mod (by omega) (by omega), n_div (by omega) (by omega), n_add, n_mod (by omega) (by omega)]
    exact hz
theorem i_cm (hp : p_ok p) (ht : t_ok p t) (hS2 : s_S p ≤ 200) (h : iS p t dp ca I) {N : Nat} (hN : 84 + p 0 2 + p 0 3 ≤ N) : ∃ F, R_X12_came N I ni (p 0 2) (p 0 3) nd = some (F, s_S p) ∧ ∀ q, q < s_S p → F q = Int32.ofNat (s_src p t (q % p 0 0) (q / p 0 0)) := by
  have h0 := hp.1
  have hm : s_S p * (p 0 3 + 2) ≤ 200 * 6 := Nat.mul_le_mul hS2 (by omega)
  obtain ⟨n, hn⟩ : ∃ n, FU = n + s_S p * (p 0 3 + 2) + 1 := ⟨FU - (s_S p * (p 0 3 + 2) + 1), by unfold FU; omega⟩
  obtain ⟨F, e1, e2⟩ := i_cmL (ni := ni) (nd := nd) hp ht h hN (s_S p) 0 n (fun _ => 0) (by omega) (fun q hq hlt => absurd hlt (Nat.not_lt_zero _))
  refine ⟨F, ?_, e2⟩
  have eS : (I 79 0) * (I 79 1) = Int32.ofNat (s_S p) := by rw [h.1.1, h.1.2.1, n_mul]; rfl
  unfold R_X12_came
  rw [eS, rg_pos ⟨by rw [n_ti (by omega)]; omega, by rw [n_ti (by omega)]; omega⟩, n_cl (by omega), hn]
  exact e1
end E2b
