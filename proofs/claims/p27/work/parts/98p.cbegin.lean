/-! the class's sheet begins -/
section RCB
variable {G : am_G} {p : sP}
def tpF (I : am_I) (p : sP) (c : Nat) : Prop := I 54 c = Int32.ofNat (p 8 c) ∧ ∀ l, l < s_lines p c → I 55 (c * 24 + l) = Int32.ofNat (s_sh (s_lines p c) (p 5 c) (p 8 c) l)
theorem c_tpL (hp : p_ok p) : ∀ (m c n : Nat) (I : am_I), c + m = p 0 3 → m < n → cP I p → (∀ c', c' < c → tpF I p c') → ∃ I' : am_I, L_X7_takePulls_53_14 n 0 I G (Int32.ofNat c) = some ((), I', G) ∧ (∀ b, b ≠ 54 → b ≠ 55 → I' b = I b) ∧ ∀ c', c' < p 0 3 → tpF I' p c' := by
  have h0 := hp.1
  intro m
  induction m with
  | zero =>
    intro c n I hc hn hP h
    obtain ⟨n, rfl⟩ : ∃ n', n = n' + 1 := ⟨n - 1, by omega⟩
    rw [L_X7_takePulls_53_14_0, hP.1.2.2.2.1, if_pos ((n_le (by omega) (by omega)).mpr (by omega))]
    exact ⟨I, rfl, fun b _ _ => rfl, fun c' hc' => h c' (by omega)⟩
  | succ m ih =>
    intro c n I hc hn hP h
    obtain ⟨n, rfl⟩ : ∃ n', n = n' + 1 := ⟨n - 1, by omega⟩
    have h8 := (hp.2.1 c).2.2.2.2.2.2.2.2.2.2.2
    have hPc := hP.2.2.1 c (by omega)
    rw [L_X7_takePulls_53_14_0, hP.1.2.2.2.1, if_neg (fun z => absurd ((n_le (by omega) (by omega)).mp z) (by omega)), n_gAt (by omega) (by omega), hPc.2.2, n_gPut (by omega) (by omega)]
    have hP1 : cP (am_up I 54 c (Int32.ofNat (p 8 c))) p := hP.kept (fun b b1 b2 => up_row _ _ _ (by omega))
    obtain ⟨I1, e1, e2, e3⟩ := c_rs_53 (G := G) hP1 hp (c := c) (u := p 8 c) (by omega) h8 (am_up_self _ _ _ _)
    rw [e1, rb_go, n_inc]
    have i54 : ∀ j, I1 54 j = if j = c then Int32.ofNat (p 8 c) else I 54 j := fun j => by rw [e2 54 (by omega), up_in]
    have hl := s_lines_b hp
    obtain ⟨I', f1, f2, f3⟩ := ih (c + 1) n I1 (by omega) (by omega) (hP1.kept (fun b b1 b2 => e2 b (by omega))) (fun c' hc' => by
      have hlc := hl c'
      by_cases hcc : c' = c
      · subst hcc
        refine ⟨by rw [i54, if_pos rfl], fun l hll => ?_⟩
        rw [e3, if_pos ⟨by omega, by omega⟩, show c' * 24 + l - c' * 24 = l by omega]
      · obtain ⟨g1, g2⟩ := h c' (by omega)
        refine ⟨by rw [i54, if_neg hcc]; exact g1, fun l hll => ?_⟩
        rw [e3, if_neg (by omega), up_row _ _ _ (by omega)]
        exact g2 l hll)
    exact ⟨I', f1, fun b b1 b2 => by rw [f2 b b1 b2, e2 b b2, up_row _ _ _ b1], f3⟩
/-- what dips change, at the start -/
def tST (p : sP) : sP := fun a k => if a = 0 then 0 else if a = 1 then p 7 k else p 8 k
theorem tST_ok (hp : p_ok p) : t_ok p (tST p) := by
  have h0 := hp.1
  refine ⟨by show 0 < p 0 0; omega, by show 0 < p 0 1; omega, fun k => ⟨?_, ?_⟩⟩
  · have := (hp.2.1 k).2.2.2.2.2.2.2.2.2.2.1
    exact this
  · have := (hp.2.1 k).2.2.2.2.2.2.2.2.2.2.2
    exact this
theorem c_bg (hp : p_ok p) {I : am_I} (hP : cP I p) (h27 : ∀ j, j < 32 → I 27 j = 0) : ∃ I' : am_I, R_X7_begin_53 I G = some ((), I', G) ∧ (∀ b, b ≠ 53 → b ≠ 54 → b ≠ 55 → b ≠ 56 → I' b = I b) ∧ cA_53 I' p (tST p) 0 0 := by
  have h0 := hp.1
  obtain ⟨J, hJ⟩ : ∃ J : am_I, J = am_up (am_up (am_up (am_up I 53 10 (0 : Int32)) 53 11 (0 : Int32)) 53 12 (0 : Int32)) 53 13 (0 : Int32) := ⟨_, rfl⟩
  have jo : ∀ b, b ≠ 53 → J b = I b := fun b hb => by rw [hJ, up_row _ _ _ hb, up_row _ _ _ hb, up_row _ _ _ hb, up_row _ _ _ hb]
  have j53 : J 53 10 = 0 ∧ J 53 11 = 0 ∧ J 53 12 = 0 ∧ J 53 13 = 0 := by
    rw [hJ]
    refine ⟨?_, ?_, ?_, ?_⟩ <;> simp only [up_in] <;> rfl
  have hPJ : cP J p := hP.kept (fun b b1 b2 => jo b (by omega))
  obtain ⟨I1, e1, e2, e3⟩ := c_tpL (G := G) hp (p 0 3) 0 FU J (by omega) (by unfold FU; omega) hPJ (fun c' hc' => absurd hc' (Nat.not_lt_zero c'))
  obtain ⟨I2, hI2⟩ : ∃ I2 : am_I, I2 = g_X7_spoil_53 (am_cp I1 11 56 4) G := ⟨_, rfl⟩
  have i2o : ∀ b, b ≠ 53 → b ≠ 56 → I2 b = I1 b := fun b b1 b2 => by
    rw [hI2]
    unfold g_X7_spoil_53
    rw [up_row _ _ _ b1, up_row _ _ _ b1, cp_o b2]
  have i53 : ∀ k, I2 53 k = if k = 15 then 0 else if k = 14 then 0 else J 53 k := fun k => by
    rw [hI2]
    unfold g_X7_spoil_53
    rw [up_in, up_in, cp_o (by omega), e2 53 (by omega) (by omega)]
  have i56 : ∀ k, k < 4 → I2 56 k = I 11 k := fun k hk => by
    rw [hI2]
    unfold g_X7_spoil_53
    rw [up_row _ _ _ (by omega), up_row _ _ _ (by omega), cp_i hk, e2 11 (by omega) (by omega), jo 11 (by omega)]
  have io : ∀ b, b ≠ 53 → b ≠ 54 → b ≠ 55 → b ≠ 56 → I2 b = I b := fun b b1 b2 b3 b4 => by rw [i2o b b1 b4, e2 b b2 b3, jo b b1]
  refine ⟨I2, ?_, io, ⟨hP.kept (fun b b1 b2 => io b (by omega) (by omega) (by omega) (by omega)), ?_⟩, ⟨⟨⟨?_, ?_⟩, fun o ho => ?_, fun c hc => ⟨?_, fun l hl => ?_⟩⟩, ?_, ?_⟩, ?_, ?_⟩
  · unfold R_X7_begin_53 R_X7_takePulls_53_14
    rw [← hJ, show (0 : Int32) = Int32.ofNat 0 from rfl, e1, rb_go, hI2]
  · intro o ho s hs hne
    rw [io 27 (by omega) (by omega) (by omega) (by omega)] at hne
    exact absurd (h27 (o * 8 + s) (by omega)) hne
  · rw [i53, if_neg (by omega), if_neg (by omega)]; exact j53.1
  · rw [i53, if_neg (by omega), if_neg (by omega)]; exact j53.2.1
  · rw [i56 o (by omega)]
    exact (hP.2.1 o ho).2.2.2
  · rw [i2o 54 (by omega) (by omega)]; exact (e3 c hc).1
  · rw [i2o 55 (by omega) (by omega)]; exact (e3 c hc).2 l hl
  · intro hne
    rw [i53, if_neg (by omega), if_pos rfl] at hne
    exact absurd rfl hne
  · intro hne
    rw [i53, if_pos rfl] at hne
    exact absurd rfl hne
  · rw [i53, if_neg (by omega), if_neg (by omega)]; exact j53.2.2.1
  · rw [i53, if_neg (by omega), if_neg (by omega)]; exact j53.2.2.2
end RCB
