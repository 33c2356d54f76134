/-! something that a number chooses, done to both -/
section E9
variable {p t : sP} {q : Nat → Nat → Nat} {dp ca : Int32} {I : am_I} {G : am_G}
theorem glX {tS tK : sP} {dS cS dK cK v : Int32} {x : Option ((Int32 ⊕ Nat) × am_I × am_G)} (hS : iS p tS dS cS I) (hO : iO p q I) (h : ∃ I1, x = some (.inl v, I1, G) ∧ kJ p tK (oq p q) dK cK 0 I1 G ∧ zc I I1) : ∃ I2, clX x I G = some (v, I2, G) ∧ kJ p tK (oq p q) dK cK 0 I2 G ∧ iS p tS dS cS I2 ∧ iO p q I2 := by
  obtain ⟨I1, e, h1, -⟩ := h
  refine ⟨gl 79 I1 I, ?_, h1.cg (fun b hb => gl_lt _ _ hb), hS.cg (fun b hb => gl_ge _ _ hb), hO.cg (fun b hb => gl_ge _ _ hb)⟩
  rw [e, clX_go, glS]
theorem s_dps_dp (od : sO) : ∀ (m d : Nat) (x : sP × Int32 × Int32), x.2.1 = Int32.ofNat d → (s_dps p od m x).2.1 = Int32.ofNat (d + m)
  | 0, d, x, h => h
  | m + 1, d, x, h => by
    have := s_dps_dp od m (d + 1) (s_dip p od x) (by show x.2.1 + 1 = _; rw [h, n_inc])
    rw [show d + (m + 1) = d + 1 + m by omega]
    exact this
/-- dips by hand, then by the class -/
theorem act_dips (hw : w_ok p q) {N nn : Nat} (hN : 84 + p 0 2 + p 0 3 ≤ N) (hn1 : 1 ≤ nn) (hn3 : nn ≤ 3) (x1 : Int32) : ∀ (m k n c d : Nat) (x : sP × Int32 × Int32) (I : am_I), k + m = nn → m < n → c ≤ 30 * k → x.2.1 = Int32.ofNat d → d + m ≤ 10000 → t_ok p x.1 → iS p x.1 x.2.1 x.2.2 I → iO p q I → kJ p t (oq p q) dp ca 0 I G → s_dps p (oq p q) m x = s_dps p (oq p q) nn (t, dp, ca) →
    ∃ I', L_L_act n 0 N c I G (p 0 4) (p 0 2) (p 0 3) (p 0 5) x1 (Int32.ofNat nn) ca (Int32.ofNat k) = some (1, I', G) ∧ jJ p (s_dps p (oq p q) nn (t, dp, ca)).1 q (s_dps p (oq p q) nn (t, dp, ca)).2.1 (s_dps p (oq p q) nn (t, dp, ca)).2.2 I' G := by
  obtain ⟨hp, hS2, ho, hc, hi, hd5, hq⟩ := hw
  intro m
  induction m with
  | zero =>
    intro k n c d x I hk hn hcc hxd hdd ht hS hO hK hx
    obtain ⟨n, rfl⟩ : ∃ n', n = n' + 1 := ⟨n - 1, by omega⟩
    have hx : x = s_dps p (oq p q) nn (t, dp, ca) := hx
    rw [hx] at hS
    obtain ⟨I2, e, k2, s2, o2⟩ := glX hS hO (j_dip hK hn1 (by omega))
    rw [L_L_act_0, if_pos ((n_le (by omega) (by omega)).mpr (by omega)), e, Option.bind_some]
    dsimp only
    rw [if_pos (by rw [s2.1.2.2.2.2.2])]
    exact ⟨I2, rfl, k2, s2, o2⟩
  | succ m ih =>
    intro k n c d x I hk hn hcc hxd hdd ht hS hO hK hx
    obtain ⟨n, rfl⟩ : ∃ n', n = n' + 1 := ⟨n - 1, by omega⟩
    obtain ⟨I2, e, s2, z2⟩ := i_dip (q := q) hp hS2 ho.1 hi.1 hd5 hq (dp := x.2.1) (by rw [hxd, n_ti (by omega)]; omega) hN ht hS hO
    rw [L_L_act_0, if_neg (fun z => absurd ((n_le (by omega) (by omega)).mp z) (by omega)), rg_pos (by omega), e, Option.bind_some, n_inc]
    exact ih (k + 1) n (c + 30) (d + 1) (s_dip p (oq p q) x) I2 (by omega) (by omega) (by omega) (by show x.2.1 + 1 = _; rw [hxd, n_inc]) (by omega) (s_dip_ok hp _ x ht) s2 (hO.kept z2) (hK.cg (fun b hb => z2 b (Or.inl hb))) hx
noncomputable def aP (I : am_I) (G : am_G) (no nc : Nat) (k x : Int32) : Option (Int32 × am_I × am_G) := if (Int32.ofNat nc) = 0 then some ((1 : Int32), I, G) else (rg (¬ (Int32.ofNat nc) = 0) ((rg (vp_in k nc) ((id ((rg (¬ (Int32.ofNat nc) = 0) (((clX (R_X11_setPull_0 (am_up I (84 + no + k.toNatClampNeg) (2 : Int32).toNatClampNeg x) G k ((am_up I (84 + no + k.toNatClampNeg) (2 : Int32).toNatClampNeg x) (84 + no + k.toNatClampNeg) (2 : Int32).toNatClampNeg)) (am_up I (84 + no + k.toNatClampNeg) (2 : Int32).toNatClampNeg x) G).bind (fun c2 => (if c2.1 = (I (84 + no + k.toNatClampNeg) (2 : Int32).toNatClampNeg) then some ((1 : Int32), c2.2.1, c2.2.2) else some ((0 : Int32), c2.2.1, c2.2.2))))))))))))
noncomputable def aS (I : am_I) (G : am_G) (no : Nat) (k x : Int32) : Option (Int32 × am_I × am_G) := (rg (¬ (Int32.ofNat no) = 0) ((rg (vp_in k no) ((id ((rg (¬ (Int32.ofNat no) = 0) (((clX (R_X11_setSeed_0 (am_up I (84 + k.toNatClampNeg) (3 : Int32).toNatClampNeg x) G k ((am_up I (84 + k.toNatClampNeg) (3 : Int32).toNatClampNeg x) (84 + k.toNatClampNeg) (3 : Int32).toNatClampNeg)) (am_up I (84 + k.toNatClampNeg) (3 : Int32).toNatClampNeg x) G).bind (fun c6 => (if c6.1 = (I (84 + k.toNatClampNeg) (3 : Int32).toNatClampNeg) then some ((1 : Int32), c6.2.1, c6.2.2) else some ((0 : Int32), c6.2.1, c6.2.2))))))))))))
noncomputable def aD (I : am_I) (G : am_G) (A D : Int32) : Option (Int32 × am_I × am_G) := (rg (¬ (I 79 0) = 0) ((rg (¬ (I 79 0) = 0) ((rg (¬ ((am_up I 79 6 (((I 79 6 + A) - (I 79 6 + A) / (I 79 0) * (I 79 0) + (I 79 0)) - ((I 79 6 + A) - (I 79 6 + A) / (I 79 0) * (I 79 0) + (I 79 0)) / (I 79 0) * (I 79 0))) 79 1) = 0) ((rg (¬ ((am_up I 79 6 (((I 79 6 + A) - (I 79 6 + A) / (I 79 0) * (I 79 0) + (I 79 0)) - ((I 79 6 + A) - (I 79 6 + A) / (I 79 0) * (I 79 0) + (I 79 0)) / (I 79 0) * (I 79 0))) 79 1) = 0)
  ((fun (J : am_I) => (clX (R_X11_drift_0 (am_up J 79 7 (((J 79 7 + D) - (J 79 7 + D) / (J 79 1) * (J 79 1) + (J 79 1)) - ((J 79 7 + D) - (J 79 7 + D) / (J 79 1) * (J 79 1) + (J 79 1)) / (J 79 1) * (J 79 1))) G A D) (am_up J 79 7 (((J 79 7 + D) - (J 79 7 + D) / (J 79 1) * (J 79 1) + (J 79 1)) - ((J 79 7 + D) - (J 79 7 + D) / (J 79 1) * (J 79 1) + (J 79 1)) / (J 79 1) * (J 79 1))) G).bind (fun c7 => (if c7.1 = (((c7.2.1 79 7) * (c7.2.1 79 0)) + (c7.2.1 79 6)) then some ((1 : Int32), c7.2.1, c7.2.2) else some ((0 : Int32), c7.2.1, c7.2.2)))) (am_up I 79 6 (((I 79 6 + A) - (I 79 6 + A) / (I 79 0) * (I 79 0) + (I 79 0)) - ((I 79 6 + A) - (I 79 6 + A) / (I 79 0) * (I 79 0) + (I 79 0)) / (I 79 0) * (I 79 0)))))))))))
set_option maxRecDepth 20000 in
theorem act_go (N : Nat) (I : am_I) (G : am_G) (ni no nc nd : Nat) (x1 : Int32) : R_L_act N I G ni no nc nd x1 = (if lw_b x1 8 = 0 then aP I G no nc (lw_b (x1 >>> ((3 : Int32) &&& 31)) (Int32.ofNat nc)) (lw_b (x1 >>> ((5 : Int32) &&& 31)) (17 : Int32)) else if lw_b x1 8 = 1 then aP I G no nc (lw_b (x1 >>> ((3 : Int32) &&& 31)) (Int32.ofNat nc)) (lw_b (x1 >>> ((5 : Int32) &&& 31)) (17 : Int32)) else if lw_b x1 8 = 2 then aS I G no (lw_b (x1 >>> ((3 : Int32) &&& 31)) (Int32.ofNat no)) (lw_b (x1 >>> ((4 : Int32) &&& 31)) (1000 : Int32)) else if lw_b x1 8 = 3 then aD I G (lw_b (x1 >>> ((3 : Int32) &&& 31)) (1999 : Int32) - 999) (lw_b (x1 >>> ((5 : Int32) &&& 31)) (1999 : Int32) - 999) else if lw_b x1 8 = 4 then aD I G (lw_b (x1 >>> ((3 : Int32) &&& 31)) (1999 : Int32) - 999) (lw_b (x1 >>> ((5 : Int32) &&& 31)) (1999 : Int32) - 999) else L_L_act FU 0 N 0 I G ni no nc nd x1 ((1 : Int32) + (lw_b (x1 >>> ((4 : Int32) &&& 31)) (3 : Int32))) (I 79 9) (0 : Int32)) := rfl
theorem a_pull (hw : w_ok p q) (hj : jJ p t q dp ca I G) (y z : Int32) : ∃ t' I', aP I G (p 0 2) (p 0 3) (lw_b y (Int32.ofNat (p 0 3))) (lw_b z 17) = some (1, I', G) ∧ jJ p t' q dp ca I' G := by
  obtain ⟨hp, hS2, ho, hc, hi, hd5, hq⟩ := hw
  unfold aP
  by_cases h0 : p 0 3 = 0
  · rw [if_pos (by rw [h0]; rfl)]
    exact ⟨t, I, rfl, hj⟩
  · have hz := n_ne0 (show 0 < p 0 3 by omega) (by omega)
    have hk := lbel_lt y (show 0 < p 0 3 by omega)
    have hu := lbel_lt z (show 0 < 17 by omega)
    rw [lw_b_n y (show 0 < p 0 3 by omega) (by omega), show (17 : Int32) = Int32.ofNat 17 from rfl, lw_b_n z (show 0 < 17 by omega) (by omega)]
    generalize lbel y (p 0 3) = k at hk ⊢
    generalize lbel z 17 = u at hu ⊢
    have hS := hj.2.1.pull (x := u) hk
    have hO : iO p q (am_up I (84 + p 0 2 + k) 2 (Int32.ofNat u)) := hj.2.2.kept (fun b hb => up_row _ _ _ (by omega))
    have hK : kJ p t (oq p q) dp ca 0 (am_up I (84 + p 0 2 + k) 2 (Int32.ofNat u)) G := hj.1.cg (fun b hb => up_row _ _ _ (by omega))
    obtain ⟨I2, e, k2, s2, o2⟩ := glX hS hO (j_setPull hK hk (show u ≤ 16 by omega))
    rw [if_neg hz, rg_pos hz, rg_pos ((n_in (by omega)).mpr hk), id, rg_pos hz, k32_2, n_cl (by omega), up_in, if_pos rfl, e, Option.bind_some]
    dsimp only
    rw [if_pos (hj.2.1.2.2.1 k hk).2.2.symm]
    refine ⟨_, I2, rfl, ?_, s2, o2⟩
    by_cases c : t 2 k = u
    · rw [if_pos c] at k2
      rw [am_up_id c]; exact k2
    · rw [if_neg c] at k2; exact k2
theorem a_seed (hw : w_ok p q) (hj : jJ p t q dp ca I G) (y z : Int32) : ∃ t' I', aS I G (p 0 2) (lw_b y (Int32.ofNat (p 0 2))) (lw_b z 1000) = some (1, I', G) ∧ jJ p t' q dp ca I' G := by
  obtain ⟨hp, hS2, ho, hc, hi, hd5, hq⟩ := hw
  unfold aS
  have hz := n_ne0 (show 0 < p 0 2 by omega) (by omega)
  have hk := lbel_lt y (show 0 < p 0 2 by omega)
  have hu := lbel_lt z (show 0 < 1000 by omega)
  rw [lw_b_n y (show 0 < p 0 2 by omega) (by omega), show (1000 : Int32) = Int32.ofNat 1000 from rfl, lw_b_n z (show 0 < 1000 by omega) (by omega)]
  generalize lbel y (p 0 2) = k at hk ⊢
  generalize lbel z 1000 = u at hu ⊢
  have hS := hj.2.1.seed (x := u) hk
  have hO : iO p q (am_up I (84 + k) 3 (Int32.ofNat u)) := hj.2.2.kept (fun b hb => up_row _ _ _ (by omega))
  have hK : kJ p t (oq p q) dp ca 0 (am_up I (84 + k) 3 (Int32.ofNat u)) G := hj.1.cg (fun b hb => up_row _ _ _ (by omega))
  obtain ⟨I2, e, k2, s2, o2⟩ := glX hS hO (j_setSeed hK hk (show u ≤ 999 by omega))
  rw [rg_pos hz, rg_pos ((n_in (by omega)).mpr hk), id, rg_pos hz, k32_3, n_cl (by omega), up_in, if_pos rfl, e, Option.bind_some]
  dsimp only
  rw [if_pos (hj.2.1.2.1 k hk).2.2.2.symm]
  refine ⟨_, I2, rfl, ?_, s2, o2⟩
  by_cases c : t 1 k = u
  · rw [if_pos c] at k2
    rw [am_up_id c]; exact k2
  · rw [if_neg c] at k2; exact k2
theorem a_drift (hw : w_ok p q) (hj : jJ p t q dp ca I G) (y z : Int32) : ∃ t' I', aD I G (lw_b y 1999 - 999) (lw_b z 1999 - 999) = some (1, I', G) ∧ jJ p t' q dp ca I' G := by
  obtain ⟨hp, hS2, ho, hc, hi, hd5, hq⟩ := hw
  have h0 := hp.1
  have ht := hj.1.1.2.1
  have ht1 := ht.1
  have ht2 := ht.2.1
  unfold aD
  have hk := lbel_lt y (show 0 < 1999 by omega)
  have hu := lbel_lt z (show 0 < 1999 by omega)
  rw [show (1999 : Int32) = Int32.ofNat 1999 from rfl, show (999 : Int32) = Int32.ofNat 999 from rfl, lw_b_n y (show 0 < 1999 by omega) (by omega), lw_b_n z (show 0 < 1999 by omega) (by omega)]
  have hA := n_sti (a := lbel y 1999) (b := 999) (by omega) (by omega)
  have hD := n_sti (a := lbel z 1999) (b := 999) (by omega) (by omega)
  generalize Int32.ofNat (lbel y 1999) - Int32.ofNat 999 = A at hA ⊢
  generalize Int32.ofNat (lbel z 1999) - Int32.ofNat 999 = D at hD ⊢
  have tA : (Int32.ofNat (t 0 0) + A).toInt = (t 0 0 : Int) + A.toInt := by
    rw [Int32.toInt_add, n_ti (by omega)]
    exact Int.bmod_eq_of_le_mul_two (by omega) (by omega)
  have tD : (Int32.ofNat (t 0 1) + D).toInt = (t 0 1 : Int) + D.toInt := by
    rw [Int32.toInt_add, n_ti (by omega)]
    exact Int.bmod_eq_of_le_mul_two (by omega) (by omega)
  have ne := n_ne0 (show 0 < p 0 0 by omega) (by omega)
  have ne1 := n_ne0 (show 0 < p 0 1 by omega) (by omega)
  have eA : (I 79 6 + A) - (I 79 6 + A) / (I 79 0) * (I 79 0) + (I 79 0) - ((I 79 6 + A) - (I 79 6 + A) / (I 79 0) * (I 79 0) + (I 79 0)) / (I 79 0) * (I 79 0) = Int32.ofNat (s_md ((t 0 0 : Int) + A.toInt) (p 0 0)) := by
    rw [hj.2.1.1.1, hj.2.1.1.2.2.1, m_md (by omega) (by omega), tA]
  rw [eA]
  have hS1 := hj.2.1.across (s_md ((t 0 0 : Int) + A.toInt) (p 0 0))
  have hK1 : kJ p t (oq p q) dp ca 0 (am_up I 79 6 (Int32.ofNat (s_md ((t 0 0 : Int) + A.toInt) (p 0 0)))) G := hj.1.cg (fun b hb => up_row _ _ _ (by omega))
  have hO1 : iO p q (am_up I 79 6 (Int32.ofNat (s_md ((t 0 0 : Int) + A.toInt) (p 0 0)))) := hj.2.2.kept (fun b hb => up_row _ _ _ (by omega))
  generalize am_up I 79 6 (Int32.ofNat (s_md ((t 0 0 : Int) + A.toInt) (p 0 0))) = J at hS1 hK1 hO1 ⊢
  rw [hj.2.1.1.1, rg_pos ne, rg_pos ne, hS1.1.2.1, rg_pos ne1, rg_pos ne1]
  dsimp only
  have e01 : (am_up t 0 0 (s_md ((t 0 0 : Int) + A.toInt) (p 0 0))) 0 1 = t 0 1 := by rw [up_in, if_neg (by omega)]
  have eD : (J 79 7 + D) - (J 79 7 + D) / (J 79 1) * (J 79 1) + (J 79 1) - ((J 79 7 + D) - (J 79 7 + D) / (J 79 1) * (J 79 1) + (J 79 1)) / (J 79 1) * (J 79 1) = Int32.ofNat (s_md ((t 0 1 : Int) + D.toInt) (p 0 1)) := by
    rw [hS1.1.2.1, hS1.1.2.2.2.1, e01, m_md (by omega) (by omega), tD]
  rw [eD]
  have hS2' := hS1.down (s_md ((t 0 1 : Int) + D.toInt) (p 0 1))
  have hK2 : kJ p t (oq p q) dp ca 0 (am_up J 79 7 (Int32.ofNat (s_md ((t 0 1 : Int) + D.toInt) (p 0 1)))) G := hK1.cg (fun b hb => up_row _ _ _ (by omega))
  have hO2 : iO p q (am_up J 79 7 (Int32.ofNat (s_md ((t 0 1 : Int) + D.toInt) (p 0 1)))) := hO1.kept (fun b hb => up_row _ _ _ (by omega))
  obtain ⟨I2, e, k2, s2, o2⟩ := glX hS2' hO2 (j_drift hK2 (x := A) (y := D) (by omega) (by omega))
  rw [e, Option.bind_some]
  dsimp only
  rw [if_pos]
  · exact ⟨_, I2, rfl, k2, s2, o2⟩
  · have u0 : am_up (am_up t 0 0 (s_md ((t 0 0 : Int) + A.toInt) (p 0 0))) 0 1 (s_md ((t 0 1 : Int) + D.toInt) (p 0 1)) 0 0 = s_md ((t 0 0 : Int) + A.toInt) (p 0 0) := by rw [up_in, if_neg (by decide), up_in, if_pos rfl]
    have u1 : am_up (am_up t 0 0 (s_md ((t 0 0 : Int) + A.toInt) (p 0 0))) 0 1 (s_md ((t 0 1 : Int) + D.toInt) (p 0 1)) 0 1 = s_md ((t 0 1 : Int) + D.toInt) (p 0 1) := by rw [up_in, if_pos rfl]
    rw [s2.1.1, s2.1.2.2.1, s2.1.2.2.2.1, n_mul, n_add, u0, u1]
/-- what a number chooses is told alike, and both are the same again -/
theorem i_act (hw : w_ok p q) {N d : Nat} (hN : 84 + p 0 2 + p 0 3 ≤ N) (hd : d ≤ 1000) (hj : jJ p t q (Int32.ofNat d) ca I G) (x1 : Int32) : ∃ t' d' ca' I', R_L_act N I G (p 0 4) (p 0 2) (p 0 3) (p 0 5) x1 = some (1, I', G) ∧ jJ p t' q (Int32.ofNat d') ca' I' G ∧ d' ≤ d + 3 := by
  rw [act_go]
  by_cases c0 : lw_b x1 8 = 0
  · rw [if_pos c0]
    obtain ⟨t', I', e, j⟩ := a_pull hw hj (x1 >>> ((3 : Int32) &&& 31)) (x1 >>> ((5 : Int32) &&& 31))
    exact ⟨t', d, ca, I', e, j, by omega⟩
  rw [if_neg c0]
  by_cases c1 : lw_b x1 8 = 1
  · rw [if_pos c1]
    obtain ⟨t', I', e, j⟩ := a_pull hw hj (x1 >>> ((3 : Int32) &&& 31)) (x1 >>> ((5 : Int32) &&& 31))
    exact ⟨t', d, ca, I', e, j, by omega⟩
  rw [if_neg c1]
  by_cases c2 : lw_b x1 8 = 2
  · rw [if_pos c2]
    obtain ⟨t', I', e, j⟩ := a_seed hw hj (x1 >>> ((3 : Int32) &&& 31)) (x1 >>> ((4 : Int32) &&& 31))
    exact ⟨t', d, ca, I', e, j, by omega⟩
  rw [if_neg c2]
  by_cases c3 : lw_b x1 8 = 3
  · rw [if_pos c3]
    obtain ⟨t', I', e, j⟩ := a_drift hw hj (x1 >>> ((3 : Int32) &&& 31)) (x1 >>> ((5 : Int32) &&& 31))
    exact ⟨t', d, ca, I', e, j, by omega⟩
  rw [if_neg c3]
  by_cases c4 : lw_b x1 8 = 4
  · rw [if_pos c4]
    obtain ⟨t', I', e, j⟩ := a_drift hw hj (x1 >>> ((3 : Int32) &&& 31)) (x1 >>> ((5 : Int32) &&& 31))
    exact ⟨t', d, ca, I', e, j, by omega⟩
  rw [if_neg c4]
  have hu := lbel_lt (x1 >>> ((4 : Int32) &&& 31)) (show 0 < 3 by omega)
  rw [show (3 : Int32) = Int32.ofNat 3 from rfl, lw_b_n _ (show 0 < 3 by omega) (by omega)]
  generalize lbel (x1 >>> ((4 : Int32) &&& 31)) 3 = u at hu ⊢
  rw [show (1 : Int32) + Int32.ofNat u = Int32.ofNat (1 + u) from n_add 1 u, hj.2.1.1.2.2.2.2.2]
  obtain ⟨I', e, j⟩ := act_dips hw hN (show 1 ≤ 1 + u by omega) (by omega) x1 (1 + u) 0 FU 0 d (t, Int32.ofNat d, ca) I (by omega) (by unfold FU; omega) (by omega) rfl (by omega) hj.1.1.2.1 hj.2.1 hj.2.2 hj.1 rfl
  have hdp := s_dps_dp (p := p) (oq p q) (1 + u) d (t, Int32.ofNat d, ca) rfl
  rw [hdp] at j
  exact ⟨_, _, _, I', e, j, by omega⟩
end E9
