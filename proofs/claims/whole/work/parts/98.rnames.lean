/-! the reference looks names up -/
section RNM
variable {B : Nat → Nat} {ln : Nat} {T : Nat} {G : am_G}
/-- tokens, tape, roles in the reference's cells -/
def rTK (B : Nat → Nat) (ln T : Nat) (ρ : Nat → Nat) (I : am_I) : Prop := tpR B ln I ∧ T ≤ 400 ∧ (∀ p, p ≤ T → I 81 p = Int32.ofNat (rk (tKK B ln p)) ∧ I 82 p = Int32.ofNat (tS B ln p) ∧ (tKK B ln p ≤ 40 → I 83 p = Int32.ofNat (tE B ln 0 (tS B ln p) - tS B ln p))) ∧ ∀ p, p ≤ T → I 84 p = Int32.ofNat (ρ p) ∧ ρ p ≤ 20
theorem t_nm {I : am_I} (hR : tpR B ln I) {p : Nat} (h : tKK B ln p = 39) : tE B ln 0 (tS B ln p) = rn B ln qW (tS B ln p) ∧ rn B ln qW (tS B ln p) - tS B ln p ≤ 10 ∧ rn B ln qW (tS B ln p) ≤ ln ∧ tS B ln p ≤ rn B ln qW (tS B ln p) ∧ (∀ i, i < rn B ln qW (tS B ln p) - tS B ln p → qW (B (tS B ln p + i)) = true) ∧ bC B ln p = cd B (tS B ln p) (rn B ln qW (tS B ln p) - tS B ln p) := by
  have hs := tS_le hR p
  obtain ⟨h400, _, h10, hE⟩ := tK_39 hR hs h
  have hrb := ru_b qW B (ln - tS B ln p) (tS B ln p)
  refine ⟨(tK_i (B := B) (ln := ln) (a := tS B ln p) h400).2.symm.trans hE, h10, by show ru qW B _ _ ≤ ln; omega, hrb.1, fun i hi => ru_in qW B (ln - tS B ln p) (tS B ln p) _ (by omega) (by show _ < rn B ln qW (tS B ln p); omega), ?_⟩
  unfold bC
  rw [if_pos h]
  rfl
/-- the same letters: the same code -/
theorem r_saL {I : am_I} (hR : tpR B ln I) {p q s t N : Nat} (hp : p ≤ 400) (hq : q ≤ 400) (h82p : I 82 p = Int32.ofNat s) (h82q : I 82 q = Int32.ofNat t) (h83 : I 83 p = Int32.ofNat N) (hs : s + N ≤ ln) (ht : t + N ≤ ln) : ∀ (m j n : Nat), j + m = N → m < n → L_X14_isSame_79 n 0 I G (Int32.ofNat p) (Int32.ofNat q) (Int32.ofNat j) = some ((if (List.range m).all (fun i => B (s + (j + i)) == B (t + (j + i))) = true then 1 else 0), I, G) := by
  have hl := hR.2.1
  intro m
  induction m with
  | zero =>
    intro j n hj hn
    obtain ⟨n, rfl⟩ : ∃ n', n = n' + 1 := ⟨n - 1, by omega⟩
    rw [L_X14_isSame_79_0, rg_pos ((n_in (by omega)).mpr (by omega)), n_cl (by omega), h83, if_pos ((n_le (by omega) (by omega)).mpr (by omega))]
    rfl
  | succ m ih =>
    intro j n hj hn
    obtain ⟨n, rfl⟩ : ∃ n', n = n' + 1 := ⟨n - 1, by omega⟩
    obtain ⟨f1, f2⟩ := hR.2.2.1 (s + j) (by omega)
    obtain ⟨g1, g2⟩ := hR.2.2.1 (t + j) (by omega)
    have hall : (List.range (m + 1)).all (fun i => B (s + (j + i)) == B (t + (j + i))) = (B (s + j) == B (t + j) && (List.range m).all (fun i => B (s + (j + 1 + i)) == B (t + (j + 1 + i)))) := by
      rw [List.range_succ_eq_map, List.all_cons, List.all_map]
      congr 1
      congr 1
      funext i
      show (B (s + (j + (i + 1))) == B (t + (j + (i + 1)))) = _
      rw [show j + (i + 1) = j + 1 + i by omega]
    rw [L_X14_isSame_79_0, rg_pos ((n_in (by omega)).mpr (by omega)), n_cl (by omega), h83, if_neg (fun z => absurd ((n_le (by omega) (by omega)).mp z) (by omega)), rg_pos ((n_in (by omega)).mpr (by omega)), h82p, n_add, rg_pos ((n_in (by omega)).mpr (by omega)), rg_pos ((n_in (by omega)).mpr (by omega)), n_cl (show q < 2147483648 by omega), h82q, n_add, rg_pos ((n_in (by omega)).mpr (by omega)), n_cl (show s + j < 2147483648 by omega), n_cl (show t + j < 2147483648 by omega), f1, g1, n_inc, hall]
    by_cases hb : B (s + j) = B (t + j)
    · rw [if_pos (by rw [hb]), ih (j + 1) n (by omega) (by omega), hb, beq_self_eq_true, Bool.true_and]
    · rw [if_neg (fun z => hb ((n_eq (by omega) (by omega)).mp z)), if_neg (by rw [show (B (s + j) == B (t + j)) = false from beq_eq_false_iff_ne.mpr hb, Bool.false_and]; decide)]
theorem r_same {I : am_I} {ρ : Nat → Nat} (h : rTK B ln T ρ I) {p q : Nat} (hp : p ≤ T) (hq : q ≤ T) (kp : tKK B ln p = 39) (kq : tKK B ln q = 39) : R_X14_isSame_79 I G (Int32.ofNat p) (Int32.ofNat q) = some ((if bC B ln p = bC B ln q then 1 else 0), I, G) := by
  obtain ⟨hR, hT, h1, _⟩ := h
  obtain ⟨a1, a2, a3, a4, a5, a6⟩ := t_nm hR kp
  obtain ⟨b1, b2, b3, b4, b5, b6⟩ := t_nm hR kq
  obtain ⟨_, p82, p83⟩ := h1 p hp
  obtain ⟨_, q82, q83⟩ := h1 q hq
  have p83 := p83 (by omega)
  have q83 := q83 (by omega)
  rw [a1] at p83
  rw [b1] at q83
  have hl := hR.2.1
  have inj := cd_inj (B := B) (B' := B) (s := tS B ln p) (s' := tS B ln q) (rn B ln qW (tS B ln p) - tS B ln p) (rn B ln qW (tS B ln q) - tS B ln q) (fun i hi => ⟨hR.le _, a5 i hi⟩) (fun i hi => ⟨hR.le _, b5 i hi⟩)
  unfold R_X14_isSame_79
  rw [rg_pos ((n_in (by omega)).mpr (by omega)), rg_pos ((n_in (by omega)).mpr (by omega)), n_cl (by omega), n_cl (by omega), p83, q83]
  by_cases hm : rn B ln qW (tS B ln p) - tS B ln p = rn B ln qW (tS B ln q) - tS B ln q
  · rw [if_pos (by rw [hm]), show (0 : Int32) = Int32.ofNat 0 from rfl, r_saL (G := G) hR (by omega) (by omega) p82 q82 p83 (by omega) (by omega) (rn B ln qW (tS B ln p) - tS B ln p) 0 FU (by omega) (by unfold FU; omega)]
    by_cases hc : bC B ln p = bC B ln q
    · rw [if_pos hc, if_pos (List.all_eq_true.mpr (fun i hi => by
        rw [Nat.zero_add, (inj (by rw [← a6, ← b6]; exact hc)).2 i (List.mem_range.mp hi)]
        exact beq_self_eq_true _))]
    · rw [if_neg hc, if_neg (fun z => hc (by
        rw [a6, b6, ← hm]
        refine cd_cg _ (fun i hi => ?_)
        have := eq_of_beq (List.all_eq_true.mp z i (List.mem_range.mpr hi))
        rw [Nat.zero_add] at this
        exact this))]
      rfl
  · rw [if_neg (fun z => hm ((n_eq (by omega) (by omega)).mp z)), if_neg (fun z => hm (inj (by rw [← a6, ← b6]; exact z)).1)]
/-- names told with a role before a token -/
def rls (ρ : Nat → Nat) (as : Nat) : Nat → Nat → List Nat
  | _, 0 => []
  | k, m + 1 => if ρ k = as then k :: rls ρ as (k + 1) m else rls ρ as (k + 1) m
theorem r_told {I : am_I} {ρ : Nat → Nat} (h : rTK B ln T ρ I) {a as : Nat} (ha : a ≤ T) (ka : tKK B ln a = 39) (has : as ≤ 20) (hn : ∀ k, k < a → ρ k = as → tKK B ln k = 39) : ∀ (m k num n : Nat), k + m = a → m < n → num ≤ k → L_X14_told_79 n 0 I G (Int32.ofNat a) (Int32.ofNat as) (Int32.ofNat num) (Int32.ofNat k) = some (fi (fnd (bC B ln) a (rls ρ as k m) num), I, G) := by
  have hT := h.2.1
  intro m
  induction m with
  | zero =>
    intro k num n hk hn' hnum
    obtain ⟨n, rfl⟩ : ∃ n', n = n' + 1 := ⟨n - 1, by omega⟩
    rw [L_X14_told_79_0, if_pos ((n_le (by omega) (by omega)).mpr (by omega))]
    rfl
  | succ m ih =>
    intro k num n hk hn' hnum
    obtain ⟨n, rfl⟩ : ∃ n', n = n' + 1 := ⟨n - 1, by omega⟩
    obtain ⟨r1, r2⟩ := h.2.2.2 k (by omega)
    rw [L_X14_told_79_0, if_neg (fun z => absurd ((n_le (by omega) (by omega)).mp z) (by omega)), rg_pos ((n_in (by omega)).mpr (by omega)), n_cl (by omega), r1]
    unfold rls
    by_cases hr : ρ k = as
    · rw [if_pos (by rw [hr]), if_pos hr, r_same h (by omega) ha (hn k (by omega) hr) ka, rb_go]
      unfold fnd
      by_cases hc : bC B ln k = bC B ln a
      · rw [if_pos hc, if_pos hc, if_neg (by decide)]
        rfl
      · rw [if_neg hc, if_neg hc, if_pos rfl, n_inc, n_inc]
        exact ih (k + 1) (num + 1) n (by omega) (by omega) (by omega)
    · rw [if_neg (fun z => hr ((n_eq (by omega) (by omega)).mp z)), if_neg hr, n_inc]
      exact ih (k + 1) num n (by omega) (by omega) (by omega)
theorem r_told0 {I : am_I} {ρ : Nat → Nat} (h : rTK B ln T ρ I) {a as : Nat} (ha : a ≤ T) (ka : tKK B ln a = 39) (has : as ≤ 20) (hn : ∀ k, k < a → ρ k = as → tKK B ln k = 39) : R_X14_told_79 I G (Int32.ofNat a) (Int32.ofNat as) = some (fi (fnd (bC B ln) a (rls ρ as 0 a) 0), I, G) := by
  have hT := h.2.1
  exact r_told h ha ka has hn a 0 0 FU (by omega) (by unfold FU; omega) (by omega)
/-- a number's value, by its token -/
theorem r_numV {I : am_I} {ρ : Nat → Nat} (h : rTK B ln T ρ I) {p : Nat} (hp : p ≤ T) (kp : tKK B ln p = 40) : R_X14_numberAt_79 I G (Int32.ofNat p) = some (Int32.ofNat (bV B ln p), I, G) := by
  obtain ⟨hR, hT, h1, _⟩ := h
  have hs := tS_le hR p
  obtain ⟨h400, _, _, h6, hE⟩ := tK_40 hR hs kp
  obtain ⟨_, p82, p83⟩ := h1 p hp
  have p83 := p83 (by omega)
  have e0 : tE B ln 0 (tS B ln p) = rn B ln qD (tS B ln p) := (tK_i (B := B) (ln := ln) (a := tS B ln p) h400).2.symm.trans hE
  rw [e0] at p83
  have hrb := ru_b qD B (ln - tS B ln p) (tS B ln p)
  have hrl : rn B ln qD (tS B ln p) ≤ ln := by show ru qD B _ _ ≤ ln; omega
  have hrg : tS B ln p ≤ rn B ln qD (tS B ln p) := hrb.1
  have e := r_nal (G := G) hR (show p ≤ 400 by omega) p82 p83 (by omega) h6 (fun i hi => ru_in qD B (ln - tS B ln p) (tS B ln p) _ (by omega) (by show _ < rn B ln qD (tS B ln p); omega)) (rn B ln qD (tS B ln p) - tS B ln p) 0 FU (by omega) (by unfold FU; omega)
  unfold R_X14_numberAt_79 bV
  rw [if_pos kp]
  exact e
end RNM
