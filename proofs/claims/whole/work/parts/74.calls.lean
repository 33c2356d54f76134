/-! the calls, one by one -/
section KC
theorem i_3 : (3 : Int32).toInt = 3 := rfl
theorem i_2 : (2 : Int32).toInt = 2 := rfl
theorem i_8 : (8 : Int32).toInt = 8 := rfl
theorem i_16 : (16 : Int32).toInt = 16 := rfl
theorem i_999 : (999 : Int32).toInt = 999 := rfl
theorem i_m999 : (-999 : Int32).toInt = -999 := rfl
theorem i_n1 : (1 : Int32).toInt = 1 := rfl
theorem i_20 : (20 : Int32).toInt = 20 := rfl
theorem n_ofs {x : Int32} {n : Nat} (h : 0 ≤ x.toInt ∧ x.toInt < n) : ∃ j, j < n ∧ x = Int32.ofNat j := ⟨x.toInt.toNat, by omega, n_ex h.1⟩
theorem n_ofl {x : Int32} {n : Nat} (h : 0 ≤ x.toInt ∧ x.toInt ≤ n) : ∃ j, j ≤ n ∧ x = Int32.ofNat j := ⟨x.toInt.toNat, by omega, n_ex h.1⟩
theorem k_errorAt_ok : k_errorAt kV := by
  rintro I G ⟨p, t, od, dp, ca, ln, h⟩
  exact ⟨I 0 6, I, G, am_up I 79 0 0, G, ⟨rfl, rfl, rfl⟩, ⟨h.2.2.2.2.2.2.1.symm, rfl, rfl⟩, p, t, od, dp, ca, ln, h.up 0 rfl⟩
theorem k_height_ok : k_height kV := by
  rintro I G x y ⟨p, t, od, dp, ca, ln, h⟩
  obtain ⟨I1, e1, c1, z1, f1⟩ := c_rfA_53 (G := G) h.1.1 h.1.2.1 h.2.2.1.1
  have hS := s_S_le h.1.1
  have hsp := s_spot_lt h.1.1 x y
  have r1 := (z1.toc.rS h.2.2.1.2).up79 0
  obtain ⟨I2, e2, w2, a2, -⟩ := r_ht_102 (G := G) h.1.1 h.1.2.1 r1.1 hsp
  refine ⟨s_ht p t (s_spot p x y), I1, G, I2, G, ?_, ?_, p, t, od, dp, ca, ln, h.step z1.toc c1 ((zm.up I1 0).tr w2.toX.toZ.tom) (r1.ofX w2.toX a2) (w2.toX.toB ((z1.toc.rB h.2.2.2.1).up 0)) h.1.2.1 rfl⟩
  · unfold R_X11_height_0
    rw [e1, rb_go, show f_X5_spot_7 I1 G x y = Int32.ofNat (s_spot p x y) from c_spot c1.1.1 h.1.1 x y, n_gAt (by omega) (by omega), ((c1.2.1.2.1 f1).1 _ hsp).1]
  · unfold R_X14_height_79
    rw [rg_pos (r_spotq r1.1.1 h.1.1 x y), show f_X12_spot_86 (am_up I1 79 0 0) G x y = Int32.ofNat (s_spot p x y) from r_spot r1.1.1 h.1.1 x y, e2, rb_go]
theorem k_ink_ok : k_ink kV := by
  rintro I G x y ⟨p, t, od, dp, ca, ln, h⟩
  obtain ⟨I1, e1, c1, z1, f1⟩ := c_rfA_53 (G := G) h.1.1 h.1.2.1 h.2.2.1.1
  have hS := s_S_le h.1.1
  have hsp := s_spot_lt h.1.1 x y
  have r1 := (z1.toc.rS h.2.2.1.2).up79 0
  obtain ⟨I2, e2, w2, a2, -⟩ := r_ik_102 (G := G) h.1.1 h.1.2.1 r1.1 hsp
  refine ⟨Int32.ofNat (s_ik p t (s_spot p x y)), I1, G, I2, G, ?_, ?_, p, t, od, dp, ca, ln, h.step z1.toc c1 ((zm.up I1 0).tr w2.toX.toZ.tom) (r1.ofX w2.toX a2) (w2.toX.toB ((z1.toc.rB h.2.2.2.1).up 0)) h.1.2.1 rfl⟩
  · unfold R_X11_ink_0
    rw [e1, rb_go, show f_X5_spot_7 I1 G x y = Int32.ofNat (s_spot p x y) from c_spot c1.1.1 h.1.1 x y, n_gAt (by omega) (by omega), ((c1.2.1.2.1 f1).1 _ hsp).2]
  · unfold R_X14_ink_79
    rw [rg_pos (r_spotq r1.1.1 h.1.1 x y), show f_X12_spot_86 (am_up I1 79 0 0) G x y = Int32.ofNat (s_spot p x y) from r_spot r1.1.1 h.1.1 x y, e2, rb_go]
theorem k_patch_ok : k_patch kV := by
  rintro I G x y ⟨p, t, od, dp, ca, ln, h⟩
  obtain ⟨I1, e1, c1, z1, f1, g1⟩ := c_grA_53 (G := G) h.1.1 h.1.2.1 h.2.2.1.1
  have hS := s_S_le h.1.1
  have hsp := s_spot_lt h.1.1 x y
  have r1 := (z1.toc.rS h.2.2.1.2).up79 0
  obtain ⟨I2, e2, a2, w2⟩ := r_pa_102 (G := G) h.1.1 h.1.2.1 r1.1 hsp
  obtain ⟨-, -, -, q⟩ := c1.2.1.2.2 g1
  obtain ⟨m, m1, m2, m3⟩ := q _ hsp
  refine ⟨Int32.ofNat (s_sz (p 0 0) (s_S p) (s_ik p t) (s_spot p x y)), I1, G, I2, G, ?_, ?_, p, t, od, dp, ca, ln, h.step z1.toc c1 ((zm.up I1 0).tr w2.toX.toZ.tom) (r1.ofX w2.toX a2) (w2.toX.toB ((z1.toc.rB h.2.2.2.1).up 0)) h.1.2.1 rfl⟩
  · unfold R_X11_patch_0
    rw [e1, rb_go, show f_X5_spot_7 I1 G x y = Int32.ofNat (s_spot p x y) from c_spot c1.1.1 h.1.1 x y]
    unfold f_X4_sizeAt_60
    rw [n_gAt (by omega) (by omega), m2, n_gAt m1 (by omega), m3]
  · unfold R_X14_patch_79
    rw [rg_pos (r_spotq r1.1.1 h.1.1 x y), show f_X12_spot_86 (am_up I1 79 0 0) G x y = Int32.ofNat (s_spot p x y) from r_spot r1.1.1 h.1.1 x y, e2, rb_go]
theorem k_whence_ok : k_whence kV := by
  rintro I G x y ⟨p, t, od, dp, ca, ln, h⟩
  have hsp := s_spot_lt h.1.1 x y
  have r1 := h.2.2.1.2.up79 0
  refine ⟨Int32.ofNat (s_src p t (s_md x.toInt (p 0 0)) (s_md y.toInt (p 0 1))), I, G, am_up I 79 0 0, G, ?_, ?_, p, t, od, dp, ca, ln, h.up 0 rfl⟩
  · unfold R_X11_whence_0
    rw [c_src_53 h.2.2.1.1.1.1 h.1.1 h.2.2.1.1.2.1.1 h.1.2.1, rb_go]
  · unfold R_X14_whence_79
    rw [rg_pos (r_spotq r1.1.1 h.1.1 x y), show f_X12_spot_86 (am_up I 79 0 0) G x y = Int32.ofNat (s_spot p x y) from r_spot r1.1.1 h.1.1 x y, r_wh_102 r1.1.1 h.1.1 r1.1.2.1 h.1.2.1 hsp, rb_go, (s_spot_dm h.1.1 x y).1, (s_spot_dm h.1.1 x y).2]
theorem k_share_ok : k_share kV := by
  intro I G x hV
  show kGoal hn_share (fun I1 G1 bb I2 G2 => R_X14_share_79 I1 G1 x = some (bb, I2, G2)) (R_X11_share_0 I G x) (fun k => k = 93) I G
  have hV0 := hV
  obtain ⟨p, t, od, dp, ca, ln, h⟩ := hV
  have hp := h.1.1
  have h0 := hp.1
  have e13 := h.2.2.1.1.1.1.1.2.2.2.2
  by_cases hx : 0 ≤ x.toInt ∧ x.toInt ≤ p 0 4
  · obtain ⟨j, hj, rfl⟩ := n_ofl hx
    obtain ⟨I1, e1, c1, z1, f1⟩ := c_rfA_53 (G := G) hp h.1.2.1 h.2.2.1.1
    have r1 := (z1.toc.rS h.2.2.1.2).up79 0
    obtain ⟨G', hG⟩ : ∃ G' : am_G, G' = am_up G 122 0 (Int32.ofNat (s_shr p t j (s_S p))).toInt64 := ⟨_, rfl⟩
    obtain ⟨I2, e2, w2, a2⟩ := r_sh_102 (G := G') hp h.1.2.1 r1.1 (j := j) (by omega)
    refine kG_ret (I1 := I1) (I2 := I2) hG ?_ ?_ ?_ ⟨p, t, od, dp, ca, ln, h.step z1.toc c1 ((zm.up I1 0).tr w2.toX.toZ.tom) (r1.ofX w2.toX a2) (w2.toX.toB ((z1.toc.rB h.2.2.2.1).up 0)) h.1.2.1 (g3_up hG)⟩
    · unfold R_X11_share_0
      rw [if_neg (n_nlt0 j (by omega)), e13, if_pos ((n_le (by omega) (by omega)).mpr hj), e1, rb_go, n_gAt (by omega) (by omega), (c1.2.1.2.1 f1).2 j hj]
    · show R_X14_share_79 I1 G' (Int32.ofNat j) = _
      unfold R_X14_share_79
      rw [r_isK r1.1.1 hp, rb_go, if_pos hx, if_neg (by decide), e2, rb_go]
    · rw [w2.1 79 (by omega) (by omega) (by omega) (by omega) (by omega), am_up_self]
  · refine kG_thr hV0 (k := 93) (n := 1) ?_ rfl rfl (by decide) ?_
    · unfold R_X11_share_0
      rw [e13]
      by_cases h1 : x < 0
      · rw [if_pos h1]
      · rw [if_neg h1, if_neg (fun h2 => hx ⟨by rw [i_lt, i_0] at h1; omega, by rw [i_le, n_ti (by omega)] at h2; omega⟩)]
    · show R_X14_share_79 I G x = _
      unfold R_X14_share_79
      rw [r_isK (h.2.2.1.2.up79 0).1.1 hp, rb_go, if_neg hx, if_pos rfl]
      rfl
theorem k_octave_ok : k_octave kV := by
  intro I G x w hV
  show kGoal hn_octave (fun I1 G1 bb I2 G2 => R_X14_octave_79 I1 G1 x w = some (bb, I2, G2)) (R_X11_octave_0 I G x w) (fun k => k = 93) I G
  have hV0 := hV
  obtain ⟨p, t, od, dp, ca, ln, h⟩ := hV
  have hp := h.1.1
  have h0 := hp.1
  have hc := h.2.2.1.1.1.1
  have e11 := hc.1.2.2.1
  have r1 := h.2.2.1.2.up79 0
  by_cases hx : 0 ≤ x.toInt ∧ x.toInt < p 0 2
  · by_cases hw : 0 ≤ w.toInt ∧ w.toInt ≤ 3
    · obtain ⟨j, hj, rfl⟩ := n_ofs hx
      have hv : f_X14_octaveTold_79 (am_up I 79 0 0) G (Int32.ofNat j) w = f_X7_tellOctave_53 I G (Int32.ofNat j) w := by
        unfold f_X14_octaveTold_79 f_X7_tellOctave_53
        rw [n_cl (by omega), n_gAt (by omega) (by omega), n_gAt (by omega) (by omega), n_gAt (by omega) (by omega), n_gAt (by omega) (by omega), (hc.2.1 j hj).1, (hc.2.1 j hj).2.1, (hc.2.1 j hj).2.2.1, h.2.2.1.1.2.1.1.2.1 j hj, (r1.1.1.2.1 j hj).1, (r1.1.1.2.1 j hj).2.1, (r1.1.1.2.1 j hj).2.2.1, r1.1.2.1.2.1 j hj]
      have hin : vp_in (Int32.ofNat j) 4 := (n_in (by omega)).mpr (by omega)
      obtain ⟨G', hG⟩ : ∃ G' : am_G, G' = am_up G 122 0 (f_X7_tellOctave_53 I G (Int32.ofNat j) w).toInt64 := ⟨_, rfl⟩
      refine kG_ret (I1 := I) (I2 := am_up I 79 0 0) hG ?_ ?_ (am_up_self _ _ _ _) ⟨p, t, od, dp, ca, ln, h.up 0 (g3_up hG)⟩
      · unfold R_X11_octave_0
        rw [if_neg (n_nlt0 j (by omega)), e11, if_neg (fun q => absurd ((n_le (by omega) (by omega)).mp q) (by omega)), if_neg (by rw [i_lt, i_0]; omega), if_pos (by rw [i_le, i_3]; omega)]
      · show R_X14_octave_79 I G' (Int32.ofNat j) w = _
        unfold R_X14_octave_79
        rw [r_isO r1.1.1 hp, rb_go, if_pos hx, if_neg (by decide), isIn_y (by rw [i_0, i_3]; exact hw), if_neg (by decide), rg_pos (by unfold q_X14_octaveTold_79; simp only [hin, true_and, implies_true, and_self])]
        rw [← hv]
        rfl
    · refine kG_thr hV0 (k := 93) (n := 1) ?_ rfl rfl (by decide) ?_
      · unfold R_X11_octave_0
        by_cases h1 : x < 0
        · rw [if_pos h1]
        · rw [if_neg h1]
          by_cases h2 : I 7 11 ≤ x
          · rw [if_pos h2]
          · rw [if_neg h2]
            by_cases h3 : w < 0
            · rw [if_pos h3]
            · rw [if_neg h3, if_neg (by rw [i_lt, i_0] at h3; rw [i_le, i_3]; omega)]
      · show R_X14_octave_79 I G x w = _
        unfold R_X14_octave_79
        rw [r_isO r1.1.1 hp, rb_go, if_pos hx, if_neg (by decide), isIn_n (by rw [i_0, i_3]; exact hw), if_pos rfl]
        rfl
  · refine kG_thr hV0 (k := 93) (n := 1) ?_ rfl rfl (by decide) ?_
    · unfold R_X11_octave_0
      by_cases h1 : x < 0
      · rw [if_pos h1]
      · rw [if_neg h1, e11, if_pos (by rw [i_lt, i_0] at h1; rw [i_le, n_ti (by omega)]; omega)]
    · show R_X14_octave_79 I G x w = _
      unfold R_X14_octave_79
      rw [r_isO r1.1.1 hp, rb_go, if_neg hx, if_pos rfl]
      rfl
theorem k_comb_ok : k_comb kV := by
  intro I G x w hV
  show kGoal hn_comb (fun I1 G1 bb I2 G2 => R_X14_comb_79 I1 G1 x w = some (bb, I2, G2)) (R_X11_comb_0 I G x w) (fun k => k = 93) I G
  have hV0 := hV
  obtain ⟨p, t, od, dp, ca, ln, h⟩ := hV
  have hp := h.1.1
  have h0 := hp.1
  have hc := h.2.2.1.1.1.1
  have e12 := hc.1.2.2.2.1
  have r1 := h.2.2.1.2.up79 0
  by_cases hx : 0 ≤ x.toInt ∧ x.toInt < p 0 3
  · by_cases hw : 0 ≤ w.toInt ∧ w.toInt ≤ 2
    · obtain ⟨j, hj, rfl⟩ := n_ofs hx
      have hv : f_X14_combTold_79 (am_up I 79 0 0) G (Int32.ofNat j) w = f_X7_tellComb_53 I G (Int32.ofNat j) w := by
        unfold f_X14_combTold_79 f_X7_tellComb_53
        rw [n_cl (by omega), n_gAt (by omega) (by omega), n_gAt (by omega) (by omega), n_gAt (by omega) (by omega), (hc.2.2.1 j hj).1, (hc.2.2.1 j hj).2.1, (h.2.2.1.1.2.1.1.2.2 j hj).1, (r1.1.1.2.2.1 j hj).1, (r1.1.1.2.2.1 j hj).2.1, r1.1.2.1.2.2 j hj]
      have hin : vp_in (Int32.ofNat j) 4 := (n_in (by omega)).mpr (by omega)
      obtain ⟨G', hG⟩ : ∃ G' : am_G, G' = am_up G 122 0 (f_X7_tellComb_53 I G (Int32.ofNat j) w).toInt64 := ⟨_, rfl⟩
      refine kG_ret (I1 := I) (I2 := am_up I 79 0 0) hG ?_ ?_ (am_up_self _ _ _ _) ⟨p, t, od, dp, ca, ln, h.up 0 (g3_up hG)⟩
      · unfold R_X11_comb_0
        rw [if_neg (n_nlt0 j (by omega)), e12, if_neg (fun q => absurd ((n_le (by omega) (by omega)).mp q) (by omega)), if_neg (by rw [i_lt, i_0]; omega), if_pos (by rw [i_le, i_2]; omega)]
      · show R_X14_comb_79 I G' (Int32.ofNat j) w = _
        unfold R_X14_comb_79
        rw [r_isC r1.1.1 hp, rb_go, if_pos hx, if_neg (by decide), isIn_y (by rw [i_0, i_2]; exact hw), if_neg (by decide), rg_pos (by unfold q_X14_combTold_79; simp only [hin, true_and, implies_true, and_self])]
        rw [← hv]
        rfl
    · refine kG_thr hV0 (k := 93) (n := 1) ?_ rfl rfl (by decide) ?_
      · unfold R_X11_comb_0
        by_cases h1 : x < 0
        · rw [if_pos h1]
        · rw [if_neg h1]
          by_cases h2 : I 7 12 ≤ x
          · rw [if_pos h2]
          · rw [if_neg h2]
            by_cases h3 : w < 0
            · rw [if_pos h3]
            · rw [if_neg h3, if_neg (by rw [i_lt, i_0] at h3; rw [i_le, i_2]; omega)]
      · show R_X14_comb_79 I G x w = _
        unfold R_X14_comb_79
        rw [r_isC r1.1.1 hp, rb_go, if_pos hx, if_neg (by decide), isIn_n (by rw [i_0, i_2]; exact hw), if_pos rfl]
        rfl
  · refine kG_thr hV0 (k := 93) (n := 1) ?_ rfl rfl (by decide) ?_
    · unfold R_X11_comb_0
      by_cases h1 : x < 0
      · rw [if_pos h1]
      · rw [if_neg h1, e12, if_pos (by rw [i_lt, i_0] at h1; rw [i_le, n_ti (by omega)]; omega)]
    · show R_X14_comb_79 I G x w = _
      unfold R_X14_comb_79
      rw [r_isC r1.1.1 hp, rb_go, if_neg hx, if_pos rfl]
      rfl
theorem k_moves_ok : k_moves kV := by
  intro I G x w hV
  show kGoal hn_moves (fun I1 G1 bb I2 G2 => R_X14_moves_79 I1 G1 x w = some (bb, I2, G2)) (R_X11_moves_0 I G x w) (fun k => k = 93) I G
  have hV0 := hV
  obtain ⟨p, t, od, dp, ca, ln, h⟩ := hV
  have hp := h.1.1
  have h0 := hp.1
  have hc := h.2.2.1.1.1.1
  have e12 := hc.1.2.2.2.1
  have r1 := h.2.2.1.2.up79 0
  by_cases hx : 0 ≤ x.toInt ∧ x.toInt < p 0 3
  · obtain ⟨j, hj, rfl⟩ := n_ofs hx
    have hl := s_lines_b hp j
    obtain ⟨G', hG⟩ : ∃ G' : am_G, G' = am_up G 122 0 (Int32.ofNat (s_shift p t j (s_md w.toInt (s_lines p j)))).toInt64 := ⟨_, rfl⟩
    refine kG_ret (I1 := I) (I2 := am_up I 79 0 0) hG ?_ ?_ (am_up_self _ _ _ _) ⟨p, t, od, dp, ca, ln, h.up 0 (g3_up hG)⟩
    · unfold R_X11_moves_0
      rw [if_neg (n_nlt0 j (by omega)), e12, if_pos ((n_lt (by omega) (by omega)).mpr hj), c_lines hc hp hj, n_l, n_gWr (by omega) (by omega), c_shf_53 h.2.2.1.1.2.1.1 hp hj (s_md_lt _ (by omega))]
    · show R_X14_moves_79 I G' (Int32.ofNat j) w = _
      unfold R_X14_moves_79
      rw [r_isC r1.1.1 hp, rb_go, if_pos hx, if_neg (by decide), rg_pos (r_movq_102 r1.1.1 hp hj w), r_mov_102 r1.1.1 hp r1.1.2.1 h.1.2.1 hj w]
  · refine kG_thr hV0 (k := 93) (n := 1) ?_ rfl rfl (by decide) ?_
    · unfold R_X11_moves_0
      by_cases h1 : x < 0
      · rw [if_pos h1]
      · rw [if_neg h1, e12, if_neg (by rw [i_lt, i_0] at h1; rw [i_lt, n_ti (by omega)]; omega)]
    · show R_X14_moves_79 I G x w = _
      unfold R_X14_moves_79
      rw [r_isC r1.1.1 hp, rb_go, if_neg hx, if_pos rfl]
      rfl
theorem k_gradient_ok : k_gradient kV := by
  intro I G x y z hV
  show kGoal hn_gradient (fun I1 G1 bb I2 G2 => R_X14_gradient_79 I1 G1 x y z = some (bb, I2, G2)) (R_X11_gradient_0 I G x y z) (fun k => k = 93) I G
  have hV0 := hV
  obtain ⟨p, t, od, dp, ca, ln, h⟩ := hV
  have hp := h.1.1
  have h0 := hp.1
  have hc := h.2.2.1.1.1.1
  have e11 := hc.1.2.2.1
  have r1 := h.2.2.1.2.up79 0
  by_cases hx : (0 ≤ x.toInt ∧ x.toInt < p 0 2) ∧ (0 ≤ y.toInt ∧ y.toInt ≤ 8) ∧ (0 ≤ z.toInt ∧ z.toInt ≤ 8)
  · obtain ⟨hx, hy, hz⟩ := hx
    obtain ⟨o, ho, rfl⟩ := n_ofs hx
    obtain ⟨i, hi, rfl⟩ := n_ofl (n := 8) hy
    obtain ⟨j, hj, rfl⟩ := n_ofl (n := 8) hz
    have hs := (h.1.2.1.2.2 o).1
    obtain ⟨G', hG⟩ : ∃ G' : am_G, G' = am_up G 122 0 (Int32.ofNat (s_gr (p 1 o) (p 2 o) (t 1 o) i j)).toInt64 := ⟨_, rfl⟩
    refine kG_ret (I1 := I) (I2 := am_up I 79 0 0) hG ?_ ?_ (am_up_self _ _ _ _) ⟨p, t, od, dp, ca, ln, h.up 0 (g3_up hG)⟩
    · unfold R_X11_gradient_0
      rw [if_neg (n_nlt0 o (by omega)), e11, if_pos ((n_lt (by omega) (by omega)).mpr ho), if_neg (n_nlt0 i (by omega)), if_neg (by rw [i_lt, i_8]; omega), if_neg (n_nlt0 j (by omega)), if_pos (by rw [i_le, i_8]; omega), n_gAt (by omega) (by omega), h.2.2.1.1.2.1.1.2.1 o ho, c_grad hc hp ho hs (by omega) (by omega)]
    · show R_X14_gradient_79 I G' (Int32.ofNat o) (Int32.ofNat i) (Int32.ofNat j) = _
      unfold R_X14_gradient_79
      rw [r_isO r1.1.1 hp, rb_go, if_pos hx, if_neg (by decide), isIn_y (by rw [i_0, i_8]; exact hy), if_neg (by decide), isIn_y (by rw [i_0, i_8]; exact hz), if_neg (by decide), rg_pos ((n_in (by omega)).mpr (by omega)), n_cl (by omega), r1.1.2.1.2.1 o ho, rg_pos (r_gradq r1.1.1 hp ho _ _ _), r_grad r1.1.1 hp ho hs (by omega) (by omega)]
  · refine kG_thr hV0 (k := 93) (n := 1) ?_ rfl rfl (by decide) ?_
    · unfold R_X11_gradient_0
      rw [e11]
      by_cases h1 : x < 0
      · rw [if_pos h1]
      · rw [if_neg h1]
        by_cases h2 : x < Int32.ofNat (p 0 2)
        · rw [if_pos h2]
          by_cases h3 : y < 0
          · rw [if_pos h3]
          · rw [if_neg h3]
            by_cases h4 : (8 : Int32) < y
            · rw [if_pos h4]
            · rw [if_neg h4]
              by_cases h5 : z < 0
              · rw [if_pos h5]
              · rw [if_neg h5, if_neg (fun h6 => hx (by
                  rw [i_lt, i_0] at h1 h3 h5
                  rw [i_lt, n_ti (by omega)] at h2
                  rw [i_lt, i_8] at h4
                  rw [i_le, i_8] at h6
                  omega))]
        · rw [if_neg h2]
    · show R_X14_gradient_79 I G x y z = _
      unfold R_X14_gradient_79
      rw [r_isO r1.1.1 hp, rb_go]
      by_cases h1 : 0 ≤ x.toInt ∧ x.toInt < p 0 2
      · rw [if_pos h1, if_neg (by decide)]
        by_cases h2 : 0 ≤ y.toInt ∧ y.toInt ≤ 8
        · rw [isIn_y (x := y) (by rw [i_0, i_8]; exact h2), if_neg (by decide), isIn_n (x := z) (by rw [i_0, i_8]; exact fun h3 => hx ⟨h1, h2, h3⟩), if_pos rfl]
          rfl
        · rw [isIn_n (x := y) (by rw [i_0, i_8]; exact h2), if_pos rfl]
          rfl
      · rw [if_neg h1, if_pos rfl]
        rfl
theorem k_value_ok : k_value kV := by
  intro I G x y z hV
  show kGoal hn_value (fun I1 G1 bb I2 G2 => R_X14_value_79 I1 G1 x y z = some (bb, I2, G2)) (R_X11_value_0 I G x y z) (fun k => k = 93) I G
  have hV0 := hV
  obtain ⟨p, t, od, dp, ca, ln, h⟩ := hV
  have hp := h.1.1
  have h0 := hp.1
  have hc := h.2.2.1.1.1.1
  have e11 := hc.1.2.2.1
  have r1 := h.2.2.1.2.up79 0
  by_cases hx : 0 ≤ x.toInt ∧ x.toInt < p 0 2
  · obtain ⟨o, ho, rfl⟩ := n_ofs hx
    have hs := (h.1.2.1.2.2 o).1
    have hsp := s_spot_lt hp y z
    obtain ⟨G', hG⟩ : ∃ G' : am_G, G' = am_up G 122 0 (s_v p o (t 1 o) (s_spot p y z)).toInt64 := ⟨_, rfl⟩
    obtain ⟨I2, e2, w2, v2, b2⟩ := r_v_102 (G := G') r1.1.1 hp r1.1.2.1 h.1.2.1 r1.1.2.2.1 r1.1.2.2.2.1 ho hsp
    have a2 : rA_102 I2 p t := ⟨r1.1.1.kept (fun b z1 z2 => w2 b (by omega) (by omega)), r1.1.2.1.kept ⟨by rw [w2 102 (by omega) (by omega)], by rw [w2 102 (by omega) (by omega)]⟩ ⟨w2 103 (by omega) (by omega), w2 104 (by omega) (by omega)⟩, v2, b2, by
      unfold rF_102
      rw [w2 102 (by omega) (by omega), w2 107 (by omega) (by omega), w2 108 (by omega) (by omega)]
      exact r1.1.2.2.2.2⟩
    have x2 : rX_102 (am_up I 79 0 0) I2 := ⟨fun b z1 z2 => w2 b (by omega) (by omega), fun k _ => by rw [w2 102 (by omega) (by omega)]⟩
    refine kG_ret (I1 := I) (I2 := I2) hG ?_ ?_ ?_ ⟨p, t, od, dp, ca, ln, h.step (zc.rf I) h.2.2.1.1 ((zm.up I 0).tr x2.toZ.tom) (r1.ofX x2 a2) (x2.toB (h.2.2.2.1.up 0)) h.1.2.1 (g3_up hG)⟩
    · unfold R_X11_value_0
      rw [if_neg (n_nlt0 o (by omega)), e11, if_pos ((n_lt (by omega) (by omega)).mpr ho), n_gAt (by omega) (by omega), h.2.2.1.1.2.1.1.2.1 o ho, hc.1.1, hc.1.2.1, n_l, n_l, n_gWr (by omega) (by omega), n_gWr (by omega) (by omega), c_val hc hp ho hs (s_md_lt _ (by omega)) (s_md_lt _ (by omega))]
      unfold s_v
      rw [(s_spot_dm hp y z).1, (s_spot_dm hp y z).2]
    · show R_X14_value_79 I G' (Int32.ofNat o) y z = _
      unfold R_X14_value_79
      rw [r_isO r1.1.1 hp, rb_go, if_pos hx, if_neg (by decide), rg_pos (r_spotq r1.1.1 hp y z), show f_X12_spot_86 (am_up I 79 0 0) G' y z = Int32.ofNat (s_spot p y z) from r_spot r1.1.1 hp y z, e2, rb_go]
    · rw [w2 79 (by omega) (by omega), am_up_self]
  · refine kG_thr hV0 (k := 93) (n := 1) ?_ rfl rfl (by decide) ?_
    · unfold R_X11_value_0
      by_cases h1 : x < 0
      · rw [if_pos h1]
      · rw [if_neg h1, e11, if_neg (by rw [i_lt, i_0] at h1; rw [i_lt, n_ti (by omega)]; omega)]
    · show R_X14_value_79 I G x y z = _
      unfold R_X14_value_79
      rw [r_isO r1.1.1 hp, rb_go, if_neg hx, if_pos rfl]
      rfl
theorem k_setPull_ok : k_setPull kV := by
  intro I G x y hV
  show kGoal hn_setPull (fun I1 G1 bb I2 G2 => R_X14_setPull_79 I1 G1 x y = some (bb, I2, G2)) (R_X11_setPull_0 I G x y) (fun k => k = 93 ∨ k = 71) I G
  have hV0 := hV
  obtain ⟨p, t, od, dp, ca, ln, h⟩ := hV
  have hp := h.1.1
  have h0 := hp.1
  have hc := h.2.2.1.1.1.1
  have e12 := hc.1.2.2.2.1
  by_cases hx : 0 ≤ x.toInt ∧ x.toInt < p 0 3
  · by_cases hy : 0 ≤ y.toInt ∧ y.toInt ≤ 16
    · obtain ⟨c, hcc, rfl⟩ := n_ofs hx
      obtain ⟨u, hu, rfl⟩ := n_ofl (n := 16) hy
      obtain ⟨I1, e1, c1, z1⟩ := c_cp_53 (G := G) hp h.1.2.1 h.2.2.1.1 hcc hu
      have r1 := (z1.toc.rS h.2.2.1.2).up79 0
      obtain ⟨G', hG⟩ : ∃ G' : am_G, G' = am_up G 122 0 (Int32.ofNat (t 2 c)).toInt64 := ⟨_, rfl⟩
      obtain ⟨q2, -, s2, w2⟩ := r_lp_102 (G := G') hp h.1.2.1 r1 hcc hu
      have ht' : t_ok p (if t 2 c = u then t else am_up t 2 c u) := by
        split
        · exact h.1.2.1
        · exact t_up2 h.1.2.1 hu
      refine kG_ret (I1 := I1) hG ?_ ?_ ?_ ⟨p, _, od, dp, ca, ln, h.step z1.toc c1 ((zm.up I1 0).tr w2.tom) s2 (w2.toB ((z1.toc.rB h.2.2.2.1).up 0)) ht' (g3_up hG)⟩
      · unfold R_X11_setPull_0
        rw [if_neg (n_nlt0 c (by omega)), e12, if_pos ((n_lt (by omega) (by omega)).mpr hcc), if_neg (n_nlt0 u (by omega)), if_pos (by rw [i_le, i_16]; omega), e1, rb_go, n_gAt (by omega) (by omega), (h.2.2.1.1.2.1.1.2.2 c hcc).1]
      · show R_X14_setPull_79 I1 G' (Int32.ofNat c) (Int32.ofNat u) = _
        unfold R_X14_setPull_79
        rw [r_isC r1.1.1 hp, rb_go, if_pos hx, if_neg (by decide), isIn_y (by rw [i_0, i_16]; exact hy), if_neg (by decide), rg_pos ((n_in (by omega)).mpr (by omega)), rg_pos q2, n_cl (by omega), r1.1.2.1.2.2 c hcc]
      · rw [w2 79 (by omega), am_up_self]
    · refine kG_thr hV0 (k := 71) (n := 2) ?_ (Or.inr rfl) rfl (by decide) ?_
      · unfold R_X11_setPull_0
        rw [if_neg (by rw [i_lt, i_0]; omega), e12, if_pos (by rw [i_lt, n_ti (by omega)]; omega)]
        by_cases h3 : y < 0
        · rw [if_pos h3]
        · rw [if_neg h3, if_neg (by rw [i_lt, i_0] at h3; rw [i_le, i_16]; omega)]
      · show R_X14_setPull_79 I G x y = _
        unfold R_X14_setPull_79
        rw [r_isC (h.2.2.1.2.up79 0).1.1 hp, rb_go, if_pos hx, if_neg (by decide), isIn_n (by rw [i_0, i_16]; exact hy), if_pos rfl]
        rfl
  · refine kG_thr hV0 (k := 93) (n := 1) ?_ (Or.inl rfl) rfl (by decide) ?_
    · unfold R_X11_setPull_0
      by_cases h1 : x < 0
      · rw [if_pos h1]
      · rw [if_neg h1, e12, if_neg (by rw [i_lt, i_0] at h1; rw [i_lt, n_ti (by omega)]; omega)]
    · show R_X14_setPull_79 I G x y = _
      unfold R_X14_setPull_79
      rw [r_isC (h.2.2.1.2.up79 0).1.1 hp, rb_go, if_neg hx, if_pos rfl]
      rfl
theorem k_setSeed_ok : k_setSeed kV := by
  intro I G x y hV
  show kGoal hn_setSeed (fun I1 G1 bb I2 G2 => R_X14_setSeed_79 I1 G1 x y = some (bb, I2, G2)) (R_X11_setSeed_0 I G x y) (fun k => k = 93 ∨ k = 71) I G
  have hV0 := hV
  obtain ⟨p, t, od, dp, ca, ln, h⟩ := hV
  have hp := h.1.1
  have h0 := hp.1
  have hc := h.2.2.1.1.1.1
  have e11 := hc.1.2.2.1
  by_cases hx : 0 ≤ x.toInt ∧ x.toInt < p 0 2
  · by_cases hy : 0 ≤ y.toInt ∧ y.toInt ≤ 999
    · obtain ⟨o, ho, rfl⟩ := n_ofs hx
      obtain ⟨u, hu, rfl⟩ := n_ofl (n := 999) hy
      obtain ⟨-, c1, z1⟩ := c_cs_53 (G := G) hp h.1.2.1 h.2.2.1.1 ho hu
      have r1 := (z1.toc.rS h.2.2.1.2).up79 0
      obtain ⟨G', hG⟩ : ∃ G' : am_G, G' = am_up G 122 0 (Int32.ofNat (t 1 o)).toInt64 := ⟨_, rfl⟩
      obtain ⟨q2, -, s2, w2⟩ := r_ls_102 (G := G') hp h.1.2.1 r1 ho hu
      have ht' : t_ok p (if t 1 o = u then t else am_up t 1 o u) := by
        split
        · exact h.1.2.1
        · exact t_up1 h.1.2.1 hu
      refine kG_ret (I1 := g_X7_changeSeed_53 I G (Int32.ofNat o) (Int32.ofNat u)) hG ?_ ?_ ?_ ⟨p, _, od, dp, ca, ln, h.step z1.toc c1 ((zm.up _ 0).tr w2.tom) s2 (w2.toB ((z1.toc.rB h.2.2.2.1).up 0)) ht' (g3_up hG)⟩
      · unfold R_X11_setSeed_0
        rw [if_neg (n_nlt0 o (by omega)), e11, if_pos ((n_lt (by omega) (by omega)).mpr ho), if_neg (n_nlt0 u (by omega)), if_pos (by rw [i_le, i_999]; omega), n_gAt (by omega) (by omega), h.2.2.1.1.2.1.1.2.1 o ho]
      · show R_X14_setSeed_79 _ G' (Int32.ofNat o) (Int32.ofNat u) = _
        unfold R_X14_setSeed_79
        rw [r_isO r1.1.1 hp, rb_go, if_pos hx, if_neg (by decide), isIn_y (by rw [i_0, i_999]; exact hy), if_neg (by decide), rg_pos ((n_in (by omega)).mpr (by omega)), rg_pos q2, n_cl (by omega), r1.1.2.1.2.1 o ho]
      · rw [w2 79 (by omega), am_up_self]
    · refine kG_thr hV0 (k := 71) (n := 2) ?_ (Or.inr rfl) rfl (by decide) ?_
      · unfold R_X11_setSeed_0
        rw [if_neg (by rw [i_lt, i_0]; omega), e11, if_pos (by rw [i_lt, n_ti (by omega)]; omega)]
        by_cases h3 : y < 0
        · rw [if_pos h3]
        · rw [if_neg h3, if_neg (by rw [i_lt, i_0] at h3; rw [i_le, i_999]; omega)]
      · show R_X14_setSeed_79 I G x y = _
        unfold R_X14_setSeed_79
        rw [r_isO (h.2.2.1.2.up79 0).1.1 hp, rb_go, if_pos hx, if_neg (by decide), isIn_n (by rw [i_0, i_999]; exact hy), if_pos rfl]
        rfl
  · refine kG_thr hV0 (k := 93) (n := 1) ?_ (Or.inl rfl) rfl (by decide) ?_
    · unfold R_X11_setSeed_0
      by_cases h1 : x < 0
      · rw [if_pos h1]
      · rw [if_neg h1, e11, if_neg (by rw [i_lt, i_0] at h1; rw [i_lt, n_ti (by omega)]; omega)]
    · show R_X14_setSeed_79 I G x y = _
      unfold R_X14_setSeed_79
      rw [r_isO (h.2.2.1.2.up79 0).1.1 hp, rb_go, if_neg hx, if_pos rfl]
      rfl
theorem k_drift_ok : k_drift kV := by
  intro I G x y hV
  show kGoal hn_drift (fun I1 G1 bb I2 G2 => q_X14_drift_79 I1 G1 x y ∧ f_X14_drift_79 I1 G1 x y = bb ∧ g_X14_drift_79 I1 G1 x y = I2 ∧ G1 = G2) (R_X11_drift_0 I G x y) (fun k => k = 71) I G
  have hV0 := hV
  obtain ⟨p, t, od, dp, ca, ln, h⟩ := hV
  have hp := h.1.1
  have h0 := hp.1
  by_cases hx : (-999 ≤ x.toInt ∧ x.toInt ≤ 999) ∧ (-999 ≤ y.toInt ∧ y.toInt ≤ 999)
  · obtain ⟨hx, hy⟩ := hx
    obtain ⟨-, c1, z1⟩ := c_cd_53 (G := G) hp h.1.2.1 h.2.2.1.1 x y
    have r1 := (z1.toc.rS h.2.2.1.2).up79 0
    have hd := s_md_lt ((t 0 0 : Int) + x.toInt) (show 0 < p 0 0 by omega)
    have hu := s_md_lt ((t 0 1 : Int) + y.toInt) (show 0 < p 0 1 by omega)
    have ht1 := t_up00 h.1.2.1 hd
    obtain ⟨G', hG⟩ : ∃ G' : am_G, G' = am_up G 122 0 (Int32.ofNat (s_md ((t 0 1 : Int) + y.toInt) (p 0 1) * p 0 0 + s_md ((t 0 0 : Int) + x.toInt) (p 0 0))).toInt64 := ⟨_, rfl⟩
    obtain ⟨q2, -, s2, w2⟩ := r_ld0_102 (G := G') hp h.1.2.1 r1 x
    obtain ⟨q3, -, s3, w3⟩ := r_ld1_102 (G := G') hp ht1 s2 y
    rw [show (am_up t 0 0 (s_md ((t 0 0 : Int) + x.toInt) (p 0 0)) 0 1) = t 0 1 from am_up_k _ _ (by omega)] at s3
    have ht2 := t_up01 ht1 hu
    have in1 : f_X14_isIn (am_up (g_X7_changeDrift_53 I G x y) 79 0 0) G' x (-999 : Int32) (999 : Int32) = 1 := by rw [isIn_y (by rw [i_m999, i_999]; exact hx)]
    have in2 : f_X14_isIn (am_up (g_X7_changeDrift_53 I G x y) 79 0 0) G' y (-999 : Int32) (999 : Int32) = 1 := by rw [isIn_y (by rw [i_m999, i_999]; exact hy)]
    refine kG_ret hG ?_ ⟨?_, ?_, rfl, rfl⟩ ?_ ⟨p, _, od, dp, ca, ln, h.step (I2 := g_X14_drift_79 (g_X7_changeDrift_53 I G x y) G' x y) z1.toc c1 ?_ ?_ ?_ ht2 (g3_up hG)⟩
    · unfold R_X11_drift_0
      rw [if_neg (by rw [i_lt, i_m999]; omega), if_neg (by rw [i_lt, i_999]; omega), if_neg (by rw [i_lt, i_m999]; omega), if_pos (by rw [i_le, i_999]; omega), c1.2.1.1.1.1, c1.2.1.1.1.2, c1.1.1.1.1, am_up_self, am_up_k _ _ (by omega), am_up_self, n_mul, n_add]
    · unfold q_X14_drift_79
      rw [in1, in2]
      exact ⟨fun z => absurd z (by decide), fun _ => ⟨fun z => absurd z (by decide), fun _ => ⟨q2, q3, trivial⟩⟩⟩
    · unfold f_X14_drift_79
      rw [in1, in2, if_neg (by decide), if_neg (by decide), s3.1.2.1.1.1, s3.1.2.1.1.2, s3.1.1.1.1, am_up_self, am_up_k _ _ (by omega), am_up_self, n_mul, n_add]
    · unfold g_X14_drift_79
      rw [in1, in2, if_neg (by decide), if_neg (by decide), w3 79 (by omega), w2 79 (by omega), am_up_self]
    · unfold g_X14_drift_79
      rw [in1, in2, if_neg (by decide), if_neg (by decide)]
      exact (zm.up _ 0).tr (w2.tom.tr w3.tom)
    · unfold g_X14_drift_79
      rw [in1, in2, if_neg (by decide), if_neg (by decide)]
      exact s3
    · unfold g_X14_drift_79
      rw [in1, in2, if_neg (by decide), if_neg (by decide)]
      exact w3.toB (w2.toB ((z1.toc.rB h.2.2.2.1).up 0))
  · refine kG_thr hV0 (k := 71) (n := 1) ?_ rfl rfl (by decide) ?_
    · unfold R_X11_drift_0
      by_cases h1 : x < (-999 : Int32)
      · rw [if_pos h1]
      · rw [if_neg h1]
        by_cases h2 : (999 : Int32) < x
        · rw [if_pos h2]
        · rw [if_neg h2]
          by_cases h3 : y < (-999 : Int32)
          · rw [if_pos h3]
          · rw [if_neg h3, if_neg (fun h4 => hx (by
              rw [i_lt, i_m999] at h1 h3
              rw [i_lt, i_999] at h2
              rw [i_le, i_999] at h4
              omega))]
    · show q_X14_drift_79 I G x y ∧ f_X14_drift_79 I G x y = 0 ∧ g_X14_drift_79 I G x y = _ ∧ G = G
      unfold q_X14_drift_79 f_X14_drift_79 g_X14_drift_79
      by_cases h1 : -999 ≤ x.toInt ∧ x.toInt ≤ 999
      · have in1 : f_X14_isIn (am_up I 79 0 0) G x (-999 : Int32) (999 : Int32) = 1 := by rw [isIn_y (by rw [i_m999, i_999]; exact h1)]
        have in2 : f_X14_isIn (am_up I 79 0 0) G y (-999 : Int32) (999 : Int32) = 0 := by rw [isIn_n (by rw [i_m999, i_999]; exact fun h2 => hx ⟨h1, h2⟩)]
        rw [in1, in2, if_neg (by decide), if_pos rfl, if_neg (by decide), if_pos rfl]
        exact ⟨⟨fun _ => trivial, fun _ => ⟨fun _ => trivial, fun z => absurd rfl z⟩⟩, rfl, rfl, rfl⟩
      · have in1 : f_X14_isIn (am_up I 79 0 0) G x (-999 : Int32) (999 : Int32) = 0 := by rw [isIn_n (by rw [i_m999, i_999]; exact h1)]
        rw [in1, if_pos rfl, if_pos rfl]
        exact ⟨⟨fun _ => trivial, fun z => absurd rfl z⟩, rfl, rfl, rfl⟩
end KC
