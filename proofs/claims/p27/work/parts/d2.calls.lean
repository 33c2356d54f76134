/-! the class alone: octave, comb, moves, setPull, setSeed, drift (a draft, not built; behind d1; after whole's 74) -/
theorem i_3 : (3 : Int32).toInt = 3 := rfl
theorem i_2 : (2 : Int32).toInt = 2 := rfl
theorem i_16 : (16 : Int32).toInt = 16 := rfl
theorem i_999 : (999 : Int32).toInt = 999 := rfl
theorem i_m999 : (-999 : Int32).toInt = -999 := rfl
section D2
variable {p t : sP} {od : sO} {dp ca : Int32} {ln : Nat} {I I1 : am_I} {G : am_G}
theorem kJ.stepT {t' : sP} (h : kJ p t od dp ca ln I G) (hz : zc I I1) (hc : cA_53 I1 p t' dp ca) (ht : t_ok p t') : kJ p t' od dp ca ln I1 G := by
  obtain ⟨⟨a0, -, a1⟩, a2, -, ⟨a4, a5⟩, a6, a7⟩ := h
  refine ⟨⟨a0, ht, a1⟩, ?_, hc, ⟨by rw [hz 1 (by decide) (by decide) (by decide)]; exact a4, a5⟩, fun k hk => by rw [hz 2 (by decide) (by decide) (by decide)]; exact a6 k hk, a7⟩
  exact a2.kept (fun b _ _ => hz b (by omega) (by omega) (by omega))
theorem j_octave (h : kJ p t od dp ca ln I G) {j : Nat} (hj : j < p 0 2) {w : Int32} (hw : 0 ≤ w.toInt ∧ w.toInt ≤ 3) : R_X11_octave_0 I G (Int32.ofNat j) w = some (.inl (f_X7_tellOctave_53 I G (Int32.ofNat j) w), I, G) := by
  have hp := h.1.1
  have h0 := hp.1
  have e11 := h.2.2.1.1.1.1.2.2.1
  unfold R_X11_octave_0
  rw [if_neg (n_nlt0 j (by omega)), e11, if_neg (fun q => absurd ((n_le (by omega) (by omega)).mp q) (by omega)), if_neg (by rw [i_lt, i_0]; omega), if_pos (by rw [i_le, i_3]; omega)]
theorem j_comb (h : kJ p t od dp ca ln I G) {j : Nat} (hj : j < p 0 3) {w : Int32} (hw : 0 ≤ w.toInt ∧ w.toInt ≤ 2) : R_X11_comb_0 I G (Int32.ofNat j) w = some (.inl (f_X7_tellComb_53 I G (Int32.ofNat j) w), I, G) := by
  have hp := h.1.1
  have h0 := hp.1
  have e12 := h.2.2.1.1.1.1.2.2.2.1
  unfold R_X11_comb_0
  rw [if_neg (n_nlt0 j (by omega)), e12, if_neg (fun q => absurd ((n_le (by omega) (by omega)).mp q) (by omega)), if_neg (by rw [i_lt, i_0]; omega), if_pos (by rw [i_le, i_2]; omega)]
theorem j_moves (h : kJ p t od dp ca ln I G) {j : Nat} (hj : j < p 0 3) (w : Int32) : R_X11_moves_0 I G (Int32.ofNat j) w = some (.inl (Int32.ofNat (s_shift p t j (s_md w.toInt (s_lines p j)))), I, G) := by
  have hp := h.1.1
  have h0 := hp.1
  have hc := h.2.2.1.1.1
  have e12 := hc.1.2.2.2.1
  have hl := s_lines_b hp j
  unfold R_X11_moves_0
  rw [if_neg (n_nlt0 j (by omega)), e12, if_pos ((n_lt (by omega) (by omega)).mpr hj), c_lines hc hp hj, n_l, n_gWr (by omega) (by omega), c_shf_53 h.2.2.1.2.1.1 hp hj (s_md_lt _ (by omega))]
theorem j_setPull (h : kJ p t od dp ca ln I G) {c u : Nat} (hcc : c < p 0 3) (hu : u ≤ 16) : ∃ I1, R_X11_setPull_0 I G (Int32.ofNat c) (Int32.ofNat u) = some (.inl (Int32.ofNat (t 2 c)), I1, G) ∧ kJ p (if t 2 c = u then t else am_up t 2 c u) od dp ca ln I1 G ∧ zc I I1 := by
  have hp := h.1.1
  have h0 := hp.1
  have e12 := h.2.2.1.1.1.1.2.2.2.1
  obtain ⟨I1, e1, c1, z1⟩ := c_cp_53 (G := G) hp h.1.2.1 h.2.2.1 hcc hu
  have ht' : t_ok p (if t 2 c = u then t else am_up t 2 c u) := by
    split
    · exact h.1.2.1
    · exact t_up2 h.1.2.1 hu
  refine ⟨I1, ?_, h.stepT z1.toc c1 ht', z1.toc⟩
  unfold R_X11_setPull_0
  rw [if_neg (n_nlt0 c (by omega)), e12, if_pos ((n_lt (by omega) (by omega)).mpr hcc), if_neg (n_nlt0 u (by omega)), if_pos (by rw [i_le, i_16, n_ti (by omega)]; omega), e1, rb_go, n_gAt (by omega) (by omega), (h.2.2.1.2.1.1.2.2 c hcc).1]
theorem j_drift (h : kJ p t od dp ca ln I G) {x y : Int32} (hx : -999 ≤ x.toInt ∧ x.toInt ≤ 999) (hy : -999 ≤ y.toInt ∧ y.toInt ≤ 999) : ∃ I1, R_X11_drift_0 I G x y = some (.inl (Int32.ofNat (s_md ((t 0 1 : Int) + y.toInt) (p 0 1) * p 0 0 + s_md ((t 0 0 : Int) + x.toInt) (p 0 0))), I1, G) ∧ kJ p (am_up (am_up t 0 0 (s_md ((t 0 0 : Int) + x.toInt) (p 0 0))) 0 1 (s_md ((t 0 1 : Int) + y.toInt) (p 0 1))) od dp ca ln I1 G ∧ zc I I1 := by
  have hp := h.1.1
  have h0 := hp.1
  obtain ⟨-, c1, z1⟩ := c_cd_53 (G := G) hp h.1.2.1 h.2.2.1 x y
  have hd := s_md_lt ((t 0 0 : Int) + x.toInt) (show 0 < p 0 0 by omega)
  have hu := s_md_lt ((t 0 1 : Int) + y.toInt) (show 0 < p 0 1 by omega)
  have ht1 := t_up00 h.1.2.1 hd
  have ht2 := t_up01 ht1 hu
  refine ⟨g_X7_changeDrift_53 I G x y, ?_, h.stepT z1.toc c1 ht2, z1.toc⟩
  unfold R_X11_drift_0
  rw [if_neg (by rw [i_lt, i_m999]; omega), if_neg (by rw [i_lt, i_999]; omega), if_neg (by rw [i_lt, i_m999]; omega), if_pos (by rw [i_le, i_999]; omega), c1.2.1.1.1.1, c1.2.1.1.1.2, c1.1.1.1.1, am_up_self, am_up_k _ _ (by omega), am_up_self, n_mul, n_add]
end D2
