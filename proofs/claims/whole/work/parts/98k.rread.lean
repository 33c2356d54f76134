/-! the reference reads a list, all of it -/
section RRD
variable {B : Nat → Nat} {ln : Nat} {T : Nat}
def W0D : Nat → Nat × Nat := fun _ => (0, 0)
/-- what read leaves -/
def rfd (I I' : am_I) : Prop := (∀ b, (b < 79 ∨ b = 80 ∨ (86 ≤ b ∧ b < 123)) → I' b = I b) ∧ ∀ k, k ≠ 3 → k ≠ 9 → k ≠ 10 → I' 79 k = I 79 k
theorem cco_mem : ∀ (l : List (List (Nat × Nat) × List (Nat × Nat))) (q : Nat × Nat), q ∈ cco l → ∃ k, k < l.length ∧ q ∈ (l.getD k ([], [])).1 ++ (l.getD k ([], [])).2
  | [], q, h => absurd h List.not_mem_nil
  | c :: l, q, h => by
    have h : q ∈ (c.1 ++ c.2) ++ cco l := h
    rcases List.mem_append.mp h with h | h
    · exact ⟨0, by simp, h⟩
    · obtain ⟨k, h1, h2⟩ := cco_mem l q h
      exact ⟨k + 1, by simp only [List.length_cons]; omega, h2⟩
theorem r_nal2 {I : am_I} {G : am_G} (hl : ln ≤ 2000) (h80 : ∀ i, i < ln → I 80 i = Int32.ofNat (B i)) {p a N : Nat} (hp : p ≤ 400) (h82 : I 82 p = Int32.ofNat a) (h83 : I 83 p = Int32.ofNat N) (ha : a + N ≤ ln) (hN : N ≤ 6) (hd : ∀ i, i < N → qD (B (a + i)) = true) : ∀ (m j n : Nat), j + m = N → m < n → L_X14_numberAt_79 n 0 I G (Int32.ofNat p) (Int32.ofNat (nv B a j)) (Int32.ofNat j) = some (Int32.ofNat (nv B a N), I, G) := by
  intro m
  induction m with
  | zero =>
    intro j n hj hn
    obtain ⟨n, rfl⟩ : ∃ n', n = n' + 1 := ⟨n - 1, by omega⟩
    rw [L_X14_numberAt_79_0, rg_pos ((n_in (by omega)).mpr (by omega)), n_cl (by omega), h83, if_pos ((n_le (by omega) (by omega)).mpr (by omega)), show j = N by omega]
  | succ m ih =>
    intro j n hj hn
    obtain ⟨n, rfl⟩ : ∃ n', n = n' + 1 := ⟨n - 1, by omega⟩
    have hdj : 48 ≤ B (a + j) ∧ B (a + j) ≤ 57 := of_decide_eq_true (hd j (by omega))
    have e8 := h80 (a + j) (by omega)
    rw [L_X14_numberAt_79_0, rg_pos ((n_in (by omega)).mpr (by omega)), n_cl (by omega), h83, if_neg (fun z => absurd ((n_le (by omega) (by omega)).mp z) (by omega)), rg_pos ((n_in (by omega)).mpr (by omega)), h82, n_add, rg_pos ((n_in (by omega)).mpr (by omega)), n_cl (by omega), e8, n_inc]
    rw [show ((10 : Int32) * Int32.ofNat (nv B a j) + Int32.ofNat (B (a + j))) - (48 : Int32) = Int32.ofNat (nv B a (j + 1)) by
      rw [show (10 : Int32) = Int32.ofNat 10 from rfl, n_mul, n_add, show (48 : Int32) = Int32.ofNat 48 from rfl, n_sub (by omega)]
      congr 1
      show _ = nv B a j * 10 + (B (a + j) - 48)
      omega]
    exact ih (j + 1) n (by omega) (by omega)
theorem rX_of {I : am_I} {G : am_G} {ρ : Nat → Nat} (h : rTK B ln T ρ I) (hok : k_ok (tKK B ln) (bV B ln) T) : rX (tKK B ln) (bV B ln) T I G := by
  obtain ⟨hR, hT, h1, _⟩ := h
  refine ⟨hok, fun p hp => (h1 p hp).1, fun I' h80 h82 h83 p hp kp => ?_⟩
  have hs := tS_le hR p
  obtain ⟨h400, _, _, h6, hE⟩ := tK_40 hR hs kp
  obtain ⟨_, p82, p83⟩ := h1 p hp
  have p83 := p83 (by omega)
  have e0 : tE B ln 0 (tS B ln p) = rn B ln qD (tS B ln p) := (tK_i (B := B) (ln := ln) (a := tS B ln p) h400).2.symm.trans hE
  rw [e0] at p83
  have hrb := ru_b qD B (ln - tS B ln p) (tS B ln p)
  have hrl : rn B ln qD (tS B ln p) ≤ ln := by show ru qD B _ _ ≤ ln; omega
  have hrg : tS B ln p ≤ rn B ln qD (tS B ln p) := hrb.1
  have e := r_nal2 (I := I') (G := G) hR.2.1 (fun i hi => by rw [h80]; exact (hR.2.2.1 i hi).1) (show p ≤ 400 by omega) (by rw [h82]; exact p82) (by rw [h83]; exact p83) (by omega) h6 (fun i hi => ru_in qD B (ln - tS B ln p) (tS B ln p) _ (by omega) (by show _ < rn B ln qD (tS B ln p); omega)) (rn B ln qD (tS B ln p) - tS B ln p) 0 FU (by omega) (by unfold FU; omega)
  unfold R_X14_numberAt_79 bV
  rw [if_pos kp]
  exact e
end RRD
