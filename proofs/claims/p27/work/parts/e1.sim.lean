/-! the law's own paper: its formulas are the specification's -/
/-- the law's own paper in its cells: the plan p, what dips change t, dips, carried out -/
def iS (p t : sP) (dp ca : Int32) (I : am_I) : Prop :=
  (I 79 0 = Int32.ofNat (p 0 0) ∧ I 79 1 = Int32.ofNat (p 0 1) ∧ I 79 6 = Int32.ofNat (t 0 0) ∧ I 79 7 = Int32.ofNat (t 0 1) ∧ I 79 8 = dp ∧ I 79 9 = ca) ∧
  (∀ j, j < p 0 2 → I (84 + j) 0 = Int32.ofNat (p 1 j) ∧ I (84 + j) 1 = Int32.ofNat (p 2 j) ∧ I (84 + j) 2 = Int32.ofNat (p 3 j) ∧ I (84 + j) 3 = Int32.ofNat (t 1 j)) ∧
  (∀ j, j < p 0 3 → I (84 + p 0 2 + j) 0 = Int32.ofNat (p 4 j) ∧ I (84 + p 0 2 + j) 1 = Int32.ofNat (p 5 j) ∧ I (84 + p 0 2 + j) 2 = Int32.ofNat (t 2 j)) ∧
  ∀ j, j < p 0 4 → I 80 j = Int32.ofNat (p 6 j)
theorem m_asc (a b c : Int32) : a + b - (a + c) = b - c := by
  rw [← Int32.sub_sub, Int32.add_comm a b, Int32.add_sub_cancel]
section E1
variable {I : am_I} {ni no nc nd a A B sd i j : Nat}
theorem i_grad (h0 : I a 0 = Int32.ofNat A) (h1 : I a 1 = Int32.ofNat B) (h3 : I a 3 = Int32.ofNat sd) (hA : 0 < A ∧ A ≤ 16) (hB : 0 < B ∧ B ≤ 16) (hs : sd ≤ 999) (hi : i ≤ 1000) (hj : j ≤ 1000) : R_X12_gradient I ni no nc nd a (Int32.ofNat i) (Int32.ofNat j) = some (Int32.ofNat (s_gr A B sd i j)) := by
  have e0 : I a (0 : Int32).toNatClampNeg = Int32.ofNat A := h0
  have e1 : I a (1 : Int32).toNatClampNeg = Int32.ofNat B := h1
  have e3 : I a (3 : Int32).toNatClampNeg = Int32.ofNat sd := h3
  have b1 := Nat.mod_lt i hA.1
  have b2 := Nat.mod_lt j hB.1
  have b3 : 3 * (i % A) * (i % A) ≤ 3 * 16 * 16 := Nat.mul_le_mul (Nat.mul_le_mul (Nat.le_refl _) (by omega)) (by omega)
  have b4 : (i % A + 5) * (j % B) ≤ 21 * 16 := Nat.mul_le_mul (by omega) (by omega)
  unfold R_X12_gradient
  rw [e0, e1, e3, rg_pos (n_ne0 hA.1 (by omega)), rg_pos (n_ne0 hB.1 (by omega))]
  rw [n_mod (by omega) (by omega), n_mod (by omega) (by omega), show (3 : Int32) = Int32.ofNat 3 from rfl, show (5 : Int32) = Int32.ofNat 5 from rfl, show (8 : Int32) = Int32.ofNat 8 from rfl]
  rw [n_mul, n_mul, n_add, n_add, n_mul, n_add, n_mod (by omega) (by omega)]
  congr 2
  unfold s_gr
  rw [Nat.add_mul]
  congr 1
  omega
theorem i_mix (x y z : Int32) : R_X12_mixed I ni no nc nd x y z = some (s_btw x y (s_fade z)) := by
  unfold R_X12_mixed s_btw s_fade
  rw [show (768 : Int32) - z - z = (768 : Int32) - (2 : Int32) * z from by rw [Int32.sub_sub, show z + z = (2 : Int32) * z from Int32.two_mul.symm]]
theorem i_gT : ∀ g, g < 8 → (am_gT.getD g []).getD 0 0 = ([3, 2, 0, -2, -3, -2, 0, 2] : List Int32).getD g 0 ∧ (am_gT.getD g []).getD 1 0 = ([0, 2, 3, 2, 0, -2, -3, -2] : List Int32).getD g 0 := by decide
theorem i_far (F u : Nat) (hF : F < 1000000) : Int32.ofNat F / (256 : Int32) + Int32.ofNat u = Int32.ofNat (F / 256 + u) := by
  rw [show Int32.ofNat F / (256 : Int32) = Int32.ofNat (F / 256) from n_div (b := 256) (by omega) (by decide), n_add]
theorem i_off0 (F : Nat) : Int32.ofNat F - (256 : Int32) * Int32.ofNat (F / 256 + 0) = Int32.ofNat (F % 256) := by
  rw [show (256 : Int32) = Int32.ofNat 256 from rfl, n_mul, n_sub (by omega)]
  congr 1
  omega
theorem i_off1 (F : Nat) : Int32.ofNat F - (256 : Int32) * Int32.ofNat (F / 256 + 1) = Int32.ofNat (F % 256) - (256 : Int32) := by
  rw [show (256 : Int32) = Int32.ofNat 256 from rfl, n_mul, show F = 256 * (F / 256) + F % 256 by omega, ← n_add]
  have h2 : 256 * ((256 * (F / 256) + F % 256) / 256 + 1) = 256 * (F / 256) + 256 := by omega
  rw [h2, ← n_add, m_asc]
  congr 2
  omega
theorem i_pull (h0 : I a 0 = Int32.ofNat A) (h1 : I a 1 = Int32.ofNat B) (h3 : I a 3 = Int32.ofNat sd) (hA : 0 < A ∧ A ≤ 16) (hB : 0 < B ∧ B ≤ 16) (hs : sd ≤ 999) {F L u v : Nat} (hF : F < 100000) (hL : L < 100000) (hu : u ≤ 1) (hv : v ≤ 1) : R_X12_pulled I ni no nc nd a (Int32.ofNat u) (Int32.ofNat v) (Int32.ofNat F) (Int32.ofNat L) = some (s_pl (s_gr A B sd (F / 256 + u) (L / 256 + v)) (Int32.ofNat F - (256 : Int32) * Int32.ofNat (F / 256 + u)) (Int32.ofNat L - (256 : Int32) * Int32.ofNat (L / 256 + v))) := by
  have hg := s_gr_b A B sd (F / 256 + u) (L / 256 + v)
  obtain ⟨g0, g1⟩ := i_gT _ hg
  unfold R_X12_pulled
  rw [i_far F u (by omega), i_far L v (by omega), i_grad h0 h1 h3 hA hB hs (by omega) (by omega), Option.bind_some, rg_pos ((n_in (by omega)).mpr hg), n_cl (by omega)]
  unfold s_pl
  rw [← g0, ← g1]
  rfl
theorem i_val (h0 : I a 0 = Int32.ofNat A) (h1 : I a 1 = Int32.ofNat B) (h3 : I a 3 = Int32.ofNat sd) (hA : 0 < A ∧ A ≤ 8) (hB : 0 < B ∧ B ≤ 8) (hs : sd ≤ 999) {C R x y : Nat} (hC : I 79 0 = Int32.ofNat C) (hR : I 79 1 = Int32.ofNat R) (bC : 0 < C ∧ C ≤ 24) (bR : 0 < R ∧ R ≤ 24) (hx : x < C) (hy : y < R) : R_X12_value I ni no nc nd a (Int32.ofNat x) (Int32.ofNat y) = some (s_val C R A B sd x y) := by
  have e0 : I a (0 : Int32).toNatClampNeg = Int32.ofNat A := h0
  have e1 : I a (1 : Int32).toNatClampNeg = Int32.ofNat B := h1
  have w1 := s_w_b (a := A) hx bC.2 hA.2
  have w2 := s_w_b (a := B) hy bR.2 hB.2
  have k1 : x * A * 256 = 256 * x * A := by rw [Nat.mul_comm (x * A) 256, Nat.mul_assoc]
  have k2 : y * B * 256 = 256 * y * B := by rw [Nat.mul_comm (y * B) 256, Nat.mul_assoc]
  have eF : Int32.ofNat x * Int32.ofNat A * (256 : Int32) / Int32.ofNat C = Int32.ofNat (256 * x * A / C) := by
    rw [show (256 : Int32) = Int32.ofNat 256 from rfl, n_mul, n_mul, n_div (by omega) (by omega), k1]
  have eL : Int32.ofNat y * Int32.ofNat B * (256 : Int32) / Int32.ofNat R = Int32.ofNat (256 * y * B / R) := by
    rw [show (256 : Int32) = Int32.ofNat 256 from rfl, n_mul, n_mul, n_div (by omega) (by omega), k2]
  have m1 : ∀ F : Nat, F < 100000 → Int32.ofNat F - Int32.ofNat F / (256 : Int32) * (256 : Int32) = Int32.ofNat (F % 256) := fun F hF => n_mod (b := 256) (by omega) (by decide)
  unfold R_X12_value
  rw [hC, hR, e0, e1, rg_pos (n_ne0 bC.1 (by omega)), rg_pos (n_ne0 bR.1 (by omega)), eF, eL]
  generalize hF : 256 * x * A / C = F at *
  generalize hL : 256 * y * B / R = L at *
  have hA' : 0 < A ∧ A ≤ 16 := ⟨hA.1, by omega⟩
  have hB' : 0 < B ∧ B ≤ 16 := ⟨hB.1, by omega⟩
  rw [show R_X12_pulled I ni no nc nd a (0 : Int32) (0 : Int32) (Int32.ofNat F) (Int32.ofNat L) = _ from i_pull (u := 0) (v := 0) h0 h1 h3 hA' hB' hs (by omega) (by omega) (by omega) (by omega), Option.bind_some]
  rw [show R_X12_pulled I ni no nc nd a (1 : Int32) (0 : Int32) (Int32.ofNat F) (Int32.ofNat L) = _ from i_pull (u := 1) (v := 0) h0 h1 h3 hA' hB' hs (by omega) (by omega) (by omega) (by omega), Option.bind_some, i_mix, Option.bind_some]
  rw [show R_X12_pulled I ni no nc nd a (0 : Int32) (1 : Int32) (Int32.ofNat F) (Int32.ofNat L) = _ from i_pull (u := 0) (v := 1) h0 h1 h3 hA' hB' hs (by omega) (by omega) (by omega) (by omega), Option.bind_some]
  rw [show R_X12_pulled I ni no nc nd a (1 : Int32) (1 : Int32) (Int32.ofNat F) (Int32.ofNat L) = _ from i_pull (u := 1) (v := 1) h0 h1 h3 hA' hB' hs (by omega) (by omega) (by omega) (by omega), Option.bind_some, i_mix, Option.bind_some, i_mix, Option.bind_some]
  rw [i_off0, i_off0, i_off1, i_off1, m1 F (by omega), m1 L (by omega)]
  unfold s_val
  rw [hF, hL]
  rfl
end E1
section E1b
variable {p t : sP} {dp ca : Int32} {I : am_I} {ni no nc nd : Nat}
theorem i_value (hp : p_ok p) (ht : t_ok p t) (h : iS p t dp ca I) {o x y : Nat} (ho : o < p 0 2) (hx : x < p 0 0) (hy : y < p 0 1) : R_X12_value I ni no nc nd (84 + o) (Int32.ofNat x) (Int32.ofNat y) = some (s_v p o (t 1 o) (y * p 0 0 + x)) := by
  have h0 := hp.1
  have h1 := hp.2.1 o
  obtain ⟨a0, a1, -, a3⟩ := h.2.1 o ho
  rw [i_val a0 a1 a3 ⟨by omega, by omega⟩ ⟨by omega, by omega⟩ (ht.2.2 o).1 h.1.1 h.1.2.1 ⟨by omega, by omega⟩ ⟨by omega, by omega⟩ hx hy]
  unfold s_v
  rw [(s_mk hx).1, (s_mk hx).2]
theorem i_htL (hp : p_ok p) (ht : t_ok p t) (h : iS p t dp ca I) {x y : Nat} (hx : x < p 0 0) (hy : y < p 0 1) : ∀ (m k n : Nat), k + m = p 0 2 → m < n → L_X12_heightOf n 0 I ni (p 0 2) nc nd (Int32.ofNat x) (Int32.ofNat y) (s_sum p t (y * p 0 0 + x) k) (Int32.ofNat (p 0 2)) (Int32.ofNat k) = some (s_hq p t (y * p 0 0 + x)) := by
  have h0 := hp.1
  intro m
  induction m with
  | zero =>
    intro k n hk hn
    obtain ⟨n, rfl⟩ : ∃ n', n = n' + 1 := ⟨n - 1, by omega⟩
    obtain rfl : k = p 0 2 := by omega
    rw [L_X12_heightOf_0, if_pos ((n_le (by omega) (by omega)).mpr (Nat.le_refl _))]
    unfold s_hq gHo gMax gMin
    generalize (500 : Int32) + s_sum p t (y * p 0 0 + x) (p 0 2) / (16 : Int32) = z
    have z9 : (999 : Int32).toInt = 999 := rfl
    have z0 : (0 : Int32).toInt = 0 := rfl
    by_cases c1 : 0 ≤ z
    · rw [if_pos c1]
      by_cases c2 : z ≤ (999 : Int32)
      · rw [if_pos c2, if_neg (show ¬ (999 : Int32) < z by rw [i_lt]; rw [i_le] at c2; omega)]
        by_cases c3 : (0 : Int32) < z
        · rw [if_pos c3]
        · rw [if_neg c3]
          congr 1
          rw [i_eq]
          rw [i_le] at c1
          rw [i_lt] at c3
          omega
      · rw [if_neg c2, if_pos (show (999 : Int32) < z by rw [i_lt]; rw [i_le] at c2; omega)]
        rfl
    · rw [if_neg c1, if_neg (show ¬ (999 : Int32) < z by rw [i_lt]; rw [i_le] at c1; omega), if_neg (show ¬ (0 : Int32) < z by rw [i_lt]; rw [i_le] at c1; omega)]
  | succ m ih =>
    intro k n hk hn
    obtain ⟨n, rfl⟩ : ∃ n', n = n' + 1 := ⟨n - 1, by omega⟩
    obtain ⟨-, -, a2, -⟩ := h.2.1 k (by omega)
    have a2 : I (84 + k) (2 : Int32).toNatClampNeg = Int32.ofNat (p 3 k) := a2
    rw [L_X12_heightOf_0, if_neg (fun q => absurd ((n_le (by omega) (by omega)).mp q) (by omega)), rg_pos ((n_in (by omega)).mpr (by omega)), n_cl (by omega), i_value hp ht h (by omega) hx hy, Option.bind_some, a2, n_inc]
    exact ih (k + 1) n (by omega) (by omega)
theorem i_ht (hp : p_ok p) (ht : t_ok p t) (h : iS p t dp ca I) {x y : Nat} (hx : x < p 0 0) (hy : y < p 0 1) : R_X12_heightOf I ni (p 0 2) nc nd (Int32.ofNat x) (Int32.ofNat y) = some (s_hq p t (y * p 0 0 + x)) :=
  i_htL hp ht h hx hy (p 0 2) 0 FU (by omega) (by have := hp.1; unfold FU; omega)
end E1b
