/-! forgetting values, and beginning -/
section RFG
variable {G : am_G}
theorem c_fgL : ∀ (m k n : Nat) (I : am_I), k + m = 32 → m < n → (∀ j, j < k → I 27 j = 0) → ∃ I' : am_I, L_X10_forget_25 n 0 I G (Int32.ofNat k) = some ((), I', G) ∧ (∀ b, b ≠ 27 → I' b = I b) ∧ ∀ j, j < 32 → I' 27 j = 0 := by
  intro m
  induction m with
  | zero =>
    intro k n I hk hn h
    obtain ⟨n, rfl⟩ : ∃ n', n = n' + 1 := ⟨n - 1, by omega⟩
    rw [L_X10_forget_25_0, if_pos ((n_le (by omega) (by omega)).mpr (by omega))]
    exact ⟨I, rfl, fun b _ => rfl, fun j hj => h j (by omega)⟩
  | succ m ih =>
    intro k n I hk hn h
    obtain ⟨n, rfl⟩ : ∃ n', n = n' + 1 := ⟨n - 1, by omega⟩
    rw [L_X10_forget_25_0, if_neg (fun z => absurd ((n_le (by omega) (by omega)).mp z) (by omega)), rg_pos ((n_in (by omega)).mpr (by omega)), n_cl (by omega), n_inc]
    obtain ⟨I', e1, e2, e3⟩ := ih (k + 1) n (am_up I 27 k (0 : Int32)) (by omega) (by omega) (fun j hj => by
      rw [up_in]
      by_cases hjk : j = k
      · rw [if_pos hjk]
      · rw [if_neg hjk]; exact h j (by omega))
    exact ⟨I', e1, fun b hb => by rw [e2 b hb, up_row _ _ _ hb], e3⟩
theorem c_fg (I : am_I) : ∃ I' : am_I, R_X10_forget_25 I G = some ((), I', G) ∧ (∀ b, b ≠ 27 → I' b = I b) ∧ ∀ j, j < 32 → I' 27 j = 0 :=
  c_fgL 32 0 FU I rfl (by unfold FU; omega) (fun j hj => absurd hj (Nat.not_lt_zero j))
end RFG
