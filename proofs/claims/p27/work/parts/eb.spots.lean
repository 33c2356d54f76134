/-! the law's loop over the spots -/
theorem sp_right {p : sP} {k : Nat} (hp : p_ok p) (hk : k < s_S p) : s_spot p (Int32.ofNat (k % p 0 0) + 1) (Int32.ofNat (k / p 0 0)) = s_nb (p 0 0) (s_S p) 0 k := by
  have h0 := hp.1
  obtain ⟨hx, hy, -⟩ := sp_xy hp hk
  have e := (s_xy (p 0 0) k (by omega)).1
  generalize k % p 0 0 = x at hx e ⊢
  generalize k / p 0 0 = y at hy e ⊢
  rw [e, s_nb0_xy hx]
  unfold s_spot
  rw [n_inc, n_ti (by omega), n_ti (by omega), s_md_id hy, s_md_nat]
  congr 1
  by_cases c : x = p 0 0 - 1
  · rw [if_pos c, show x + 1 = p 0 0 by omega, Nat.mod_self]
  · rw [if_neg c, Nat.mod_eq_of_lt (by omega)]
theorem sp_under {p : sP} {k : Nat} (hp : p_ok p) (hk : k < s_S p) : s_spot p (Int32.ofNat (k % p 0 0)) (Int32.ofNat (k / p 0 0) + 1) = s_nb (p 0 0) (s_S p) 1 k := by
  have h0 := hp.1
  obtain ⟨hx, hy, -⟩ := sp_xy hp hk
  have e := (s_xy (p 0 0) k (by omega)).1
  generalize k % p 0 0 = x at hx e ⊢
  generalize k / p 0 0 = y at hy e ⊢
  rw [e, show s_S p = p 0 0 * p 0 1 from rfl, s_nb1_xy hx hy]
  unfold s_spot
  rw [n_inc, n_ti (by omega), n_ti (by omega), s_md_id hx, s_md_nat]
  congr 2
  by_cases c : y = p 0 1 - 1
  · rw [if_pos c, show y + 1 = p 0 1 by omega, Nat.mod_self]
  · rw [if_neg c, Nat.mod_eq_of_lt (by omega)]
def e5 (a v : Int32) (A B : Option Int32) : Option Int32 := if a = v then A else B
noncomputable def eN (x y x2 y2 ink : Int32) (F : am_I → am_G → Option Int32) (I : am_I) (G : am_G) : Option Int32 := (clR (R_X11_ink_0 I G x2 y2) I G).bind (fun c => if c.1 = ink then (clR (R_X11_patch_0 c.2.1 c.2.2 x2 y2) c.2.1 c.2.2).bind (fun c1 => (clR (R_X11_patch_0 c1.2.1 c1.2.2 x y) c1.2.1 c1.2.2).bind (fun c2 => if c1.1 = c2.1 then F c2.2.1 c2.2.2 else some (0 : Int32))) else F c.2.1 c.2.2)
noncomputable def eT (x y ink : Int32) (F : am_I → am_G → Option Int32) (I : am_I) (G : am_G) : Option Int32 := (clR (R_X11_patch_0 I G x y) I G).bind (fun c => if c.1 < (1 : Int32) then some (0 : Int32) else (clR (R_X11_patch_0 c.2.1 c.2.2 x y) c.2.1 c.2.2).bind (fun c1 => (clX (R_X11_share_0 c1.2.1 c1.2.2 ink) c1.2.1 c1.2.2).bind (fun c2 => if c1.1 ≤ c2.1 then F c2.2.1 c2.2.2 else some (0 : Int32))))
noncomputable def eA (a v6 x y ink : Int32) (F : am_I → am_G → Option Int32) (I : am_I) (G : am_G) : Option Int32 :=
  (fun F3 : am_I → am_G → Option Int32 => (fun F2 : am_I → am_G → Option Int32 => e5 a v6 (eN x y (x + (1 : Int32)) y ink F2 I G) (F2 I G)) (fun I G => e5 a v6 (eN x y x (y + (1 : Int32)) ink F3 I G) (F3 I G))) (fun I G => e5 a v6 (eT x y ink F I G) (F I G))
section EB
variable {p t : sP} {q : Nat → Nat → Nat} {dp ca : Int32} {G : am_G} {F : am_I → am_G → Option Int32} {k : Nat}
theorem eT_ok (hp : p_ok p) (hk : k < s_S p) (K : ∀ I, jJ p t q dp ca I G → F I G = some 1) {I : am_I} (hj : jJ p t q dp ca I G) : eT (Int32.ofNat (k % p 0 0)) (Int32.ofNat (k / p 0 0)) (Int32.ofNat (s_ik p t k)) F I G = some 1 := by
  have h0 := hp.1
  have hS := s_S_le hp
  obtain ⟨hx, hy, hsp⟩ := sp_xy hp hk
  have hsz1 : 1 ≤ s_sz (p 0 0) (s_S p) (s_ik p t) k := s_num_pos (s_con_rf k) hk
  have hsz2 : s_sz (p 0 0) (s_S p) (s_ik p t) k ≤ s_shr p t (s_ik p t k) (s_S p) := by
    rw [s_shr_num]
    exact s_num_mono (fun y _ hc => s_con_ink hc)
  have hsz3 := s_num_le (fun x => s_con (p 0 0) (s_S p) (s_ik p t) k x) (s_S p)
  have hsz3 : s_sz (p 0 0) (s_S p) (s_ik p t) k ≤ s_S p := hsz3
  have hsh := s_shr_b p t (s_ik p t k) (s_S p)
  obtain ⟨I1, e1, j1⟩ := J_patch hj (Int32.ofNat (k % p 0 0)) (Int32.ofNat (k / p 0 0))
  rw [hsp] at e1
  obtain ⟨I2, e2, j2⟩ := J_patch j1 (Int32.ofNat (k % p 0 0)) (Int32.ofNat (k / p 0 0))
  rw [hsp] at e2
  obtain ⟨I3, e3, j3⟩ := J_share j2 (s_ik_b p t k)
  unfold eT
  rw [e1, Option.bind_some]
  dsimp only
  rw [if_neg (show ¬ Int32.ofNat (s_sz (p 0 0) (s_S p) (s_ik p t) k) < (1 : Int32) from fun z => absurd ((n_lt (b := 1) (by omega) (by omega)).mp z) (by omega)), e2, Option.bind_some]
  dsimp only
  rw [e3, Option.bind_some]
  dsimp only
  rw [if_pos ((n_le (by omega) (by omega)).mpr hsz2)]
  exact K I3 j3
theorem eN_ok (hp : p_ok p) (hk : k < s_S p) (K : ∀ I, jJ p t q dp ca I G → F I G = some 1) {d : Nat} (hd : d < 4) {x2 y2 : Int32} (h2 : s_spot p x2 y2 = s_nb (p 0 0) (s_S p) d k) {I : am_I} (hj : jJ p t q dp ca I G) : eN (Int32.ofNat (k % p 0 0)) (Int32.ofNat (k / p 0 0)) x2 y2 (Int32.ofNat (s_ik p t k)) F I G = some 1 := by
  have h0 := hp.1
  have hS := s_S_le hp
  obtain ⟨hx, hy, hsp⟩ := sp_xy hp hk
  obtain ⟨I1, e1, j1⟩ := J_ink hj x2 y2
  rw [h2] at e1
  unfold eN
  rw [e1, Option.bind_some]
  dsimp only
  by_cases c : s_ik p t (s_nb (p 0 0) (s_S p) d k) = s_ik p t k
  · obtain ⟨I2, e2, j2⟩ := J_patch j1 x2 y2
    rw [h2] at e2
    obtain ⟨I3, e3, j3⟩ := J_patch j2 (Int32.ofNat (k % p 0 0)) (Int32.ofNat (k / p 0 0))
    rw [hsp] at e3
    have es : s_sz (p 0 0) (s_S p) (s_ik p t) k = s_sz (p 0 0) (s_S p) (s_ik p t) (s_nb (p 0 0) (s_S p) d k) := s_sz_eq (R := p 0 1) (by omega) (by omega) rfl hk (s_con_st hd c)
    rw [if_pos (congrArg Int32.ofNat c), e2, Option.bind_some]
    dsimp only
    rw [e3, Option.bind_some]
    dsimp only
    rw [if_pos (congrArg Int32.ofNat es.symm)]
    exact K I3 j3
  · have b1 := s_ik_b p t (s_nb (p 0 0) (s_S p) d k)
    have b2 := s_ik_b p t k
    rw [if_neg (fun z => c ((n_eq (by omega) (by omega)).mp z))]
    exact K I1 j1
theorem eA_ok (hp : p_ok p) (hk : k < s_S p) (a v6 : Int32) (K : ∀ I, jJ p t q dp ca I G → F I G = some 1) {I : am_I} (hj : jJ p t q dp ca I G) : eA a v6 (Int32.ofNat (k % p 0 0)) (Int32.ofNat (k / p 0 0)) (Int32.ofNat (s_ik p t k)) F I G = some 1 := by
  unfold eA
  dsimp only
  by_cases c : a = v6
  · unfold e5
    rw [if_pos c]
    refine eN_ok hp hk (fun I hj => ?_) (show 0 < 4 by omega) (sp_right hp hk) hj
    rw [if_pos c]
    refine eN_ok hp hk (fun I hj => ?_) (show 1 < 4 by omega) (sp_under hp hk) hj
    rw [if_pos c]
    exact eT_ok hp hk K hj
  · unfold e5
    rw [if_neg c, if_neg c, if_neg c]
    exact K I hj
end EB
set_option maxRecDepth 100000 in
theorem law1_go (n N c : Nat) (I : am_I) (G : am_G) (ni no nc nd xN : Nat) (xs F0 : Nat → Int32) (n0 : Nat) (F1 : Nat → Int32) (n1 : Nat) (F2 : Nat → Int32) (n2 : Nat) (v4 v5 v6 v7 : Int32) (v8 : Int64) (v12 v13 v14 v15 v16 v17 v18 v19 v20 v21 : Int32) : L_L_law (n + 1) 1 N c I G ni no nc nd xN xs F0 n0 F1 n1 F2 n2 v4 v5 v6 v7 v8 v12 v13 v14 v15 v16 v17 v18 v19 v20 v21 = (if (Int32.ofNat n0) ≤ v16 then L_L_law n 2 N c I G ni no nc nd xN xs F0 n0 F1 n1 (fun _ => 0) 0 v4 v5 v6 v7 v8 v12 v13 v14 v15 (0 : Int32) 0 0 0 0 0 else rg (¬ v4 = 0) (rg (¬ v4 = 0) ((clR (R_X11_whence_0 I G (v16 - v16 / v4 * v4) (v16 / v4)) I G).bind (fun c2001 => (clR (R_X11_height_0 c2001.2.1 c2001.2.2 (v16 - v16 / v4 * v4) (v16 / v4)) c2001.2.1 c2001.2.2).bind (fun c2002 => (clR (R_X11_ink_0 c2002.2.1 c2002.2.2 (v16 - v16 / v4 * v4) (v16 / v4)) c2002.2.1 c2002.2.2).bind (fun c2003 => if c2001.1 < 0 then some (0 : Int32) else (if (Int32.ofNat n0) ≤ c2001.1 then some (0 : Int32) else rg (vp_in c2001.1 n0) (if (F0 c2001.1.toNatClampNeg) = 0 then (if c2002.1 < 0 then some (0 : Int32) else (if (999 : Int32) < c2002.1 then some (0 : Int32) else (clR (R_X11_height_0 c2003.2.1 c2003.2.2 ((v16 - v16 / v4 * v4) + v4) ((v16 / v4) - v5)) c2003.2.1 c2003.2.2).bind (fun c2004 => if c2004.1 = c2002.1 then (R_X12_inkOf (am_row (am_row c2004.2.1 N F0) (N + 1) F1) ni no nc nd c2002.1).bind (fun r2005 => if c2003.1 = r2005 then rg (vp_in c2001.1 n0) (rg (vp_in c2003.1 n1) (rg (vp_in c2003.1 n1) ((R_X12_heightOf (am_row (am_row c2004.2.1 N (r_up F0 c2001.1.toNatClampNeg (1 : Int32))) (N + 1) (r_up F1 c2003.1.toNatClampNeg ((F1 c2003.1.toNatClampNeg) + (1 : Int32)))) ni no nc nd (v16 - v16 / v4 * v4) (v16 / v4)).bind (fun r2006 =>
  eA (v16 - v16 / (5 : Int32) * (5 : Int32)) v6 (v16 - v16 / v4 * v4) (v16 / v4) c2003.1 (fun I G => L_L_law n 1 N c I G ni no nc nd xN xs (r_up F0 c2001.1.toNatClampNeg (1 : Int32)) n0 (r_up F1 c2003.1.toNatClampNeg ((F1 c2003.1.toNatClampNeg) + (1 : Int32))) n1 (fun _ => 0) 0 v4 v5 v6 v7 v8 (if c2002.1 < v12 then c2002.1 else v12) (if v13 < c2002.1 then c2002.1 else v13) (v14 + c2002.1) (v15 + r2006) (v16 + (1 : Int32)) 0 0 0 0 0) c2004.2.1 c2004.2.2)))) else some (0 : Int32)) else some (0 : Int32)))) else some (0 : Int32))))))))) := rfl
section EB2
variable {p t : sP} {q : Nat → Nat → Nat} {dp ca : Int32} {G : am_G} {N c xN : Nat} {xs : Nat → Int32}
set_option maxRecDepth 100000 in
/-- the law's loop over the spots comes to its end -/
theorem law1 (hw : w_ok p q) (hN : 84 + p 0 2 + p 0 3 ≤ N) {A : Nat} {v6 v7 : Int32} {v8 : Int64}
    (K : ∀ (n : Nat) (I : am_I) (F0 F1 : Nat → Int32), A ≤ n → jJ p t q dp ca I G → (∀ j, j ≤ p 0 4 → F1 j = Int32.ofNat (s_shr p t j (s_S p))) → L_L_law n 2 N c I G (p 0 4) (p 0 2) (p 0 3) (p 0 5) xN xs F0 (s_S p) F1 (p 0 4 + 1) (fun _ => 0) 0 (Int32.ofNat (p 0 0)) (Int32.ofNat (p 0 1)) v6 v7 v8 (s_mn p t (s_S p)) (s_mx p t (s_S p)) (sH (s_ht p t) (s_S p)) (sH (s_hq p t) (s_S p)) (0 : Int32) 0 0 0 0 0 = some 1) :
    ∀ (m k n : Nat) (I : am_I) (F0 F1 : Nat → Int32), k + m = s_S p → A + m + 1 ≤ n → jJ p t q dp ca I G → (∀ j, k ≤ j → j < s_S p → F0 (s_src p t (j % p 0 0) (j / p 0 0)) = 0) → (∀ j, j ≤ p 0 4 → F1 j = Int32.ofNat (s_shr p t j k)) →
    L_L_law n 1 N c I G (p 0 4) (p 0 2) (p 0 3) (p 0 5) xN xs F0 (s_S p) F1 (p 0 4 + 1) (fun _ => 0) 0 (Int32.ofNat (p 0 0)) (Int32.ofNat (p 0 1)) v6 v7 v8 (s_mn p t k) (s_mx p t k) (sH (s_ht p t) k) (sH (s_hq p t) k) (Int32.ofNat k) 0 0 0 0 0 = some 1 := by
  obtain ⟨hp, hS2, ho, hc, hi, hd5, hq⟩ := hw
  have h0 := hp.1
  have hS := s_S_le hp
  intro m
  induction m with
  | zero =>
    intro k n I F0 F1 hk hn hj hF0 hF1
    obtain ⟨n, rfl⟩ : ∃ n', n = n' + 1 := ⟨n - 1, by omega⟩
    obtain rfl : k = s_S p := by omega
    rw [law1_go, if_pos ((n_le (by omega) (by omega)).mpr (Nat.le_refl _))]
    exact K n I F0 F1 (by omega) hj hF1
  | succ m ih =>
    intro k n I F0 F1 hk hn hj hF0 hF1
    obtain ⟨n, rfl⟩ : ∃ n', n = n' + 1 := ⟨n - 1, by omega⟩
    have hkS : k < s_S p := by omega
    have ht := hj.1.1.2.1
    obtain ⟨hx, hy, hsp⟩ := sp_xy hp hkS
    obtain ⟨I1, e1, j1⟩ := J_whence hj (Int32.ofNat (k % p 0 0)) (Int32.ofNat (k / p 0 0))
    rw [n_ti (by omega), n_ti (by omega), s_md_id hx, s_md_id hy] at e1
    obtain ⟨I2, e2, j2⟩ := J_height j1 (Int32.ofNat (k % p 0 0)) (Int32.ofNat (k / p 0 0))
    rw [hsp] at e2
    obtain ⟨I3, e3, j3⟩ := J_ink j2 (Int32.ofNat (k % p 0 0)) (Int32.ofNat (k / p 0 0))
    rw [hsp] at e3
    obtain ⟨I4, e4, j4⟩ := J_height j3 (Int32.ofNat (k % p 0 0) + Int32.ofNat (p 0 0)) (Int32.ofNat (k / p 0 0) - Int32.ofNat (p 0 1))
    rw [sp_fore hp hkS] at e4
    have hsb := s_src_b (t := t) hp (k % p 0 0) (k / p 0 0)
    have hib := s_ik_b p t k
    have hhb : 0 ≤ (s_ht p t k).toInt ∧ (s_ht p t k).toInt ≤ 999 := gHo_b _
    have r4 := (j4.2.1.row (N := N) (f := F0) hN).row (N := N + 1) (f := F1) (by omega)
    have e5' := i_ik (no := p 0 2) (nc := p 0 3) (nd := p 0 5) hp r4 (s_ht p t k)
    have r5 := (j4.2.1.row (N := N) (f := r_up F0 (s_src p t (k % p 0 0) (k / p 0 0)) 1) hN).row (N := N + 1) (f := r_up F1 (s_ik p t k) (F1 (s_ik p t k) + 1)) (by omega)
    have e6 := i_ht (ni := p 0 4) (nc := p 0 3) (nd := p 0 5) hp ht r5 hx hy
    rw [(s_xy (p 0 0) k (by omega)).1.symm] at e6
    obtain ⟨T, hT⟩ : ∃ T, T = s_ht p t k := ⟨_, rfl⟩
    have hcnt : s_cnt p T (p 0 4) = s_ik p t k := by rw [hT]; rfl
    have m1 : s_mn p t (k + 1) = (if T < s_mn p t k then T else s_mn p t k) := by rw [hT]; rfl
    have m2 : s_mx p t (k + 1) = (if s_mx p t k < T then T else s_mx p t k) := by rw [hT]; rfl
    have m3 : sH (s_ht p t) (k + 1) = sH (s_ht p t) k + T := by rw [hT]; rfl
    have m4 : sH (s_hq p t) (k + 1) = sH (s_hq p t) k + s_hq p t k := rfl
    rw [← hT] at e2 e4 e5' hhb
    rw [hcnt] at e5'
    clear hT hcnt
    have ih := ih (k + 1) n
    rw [m1, m2, m3, m4] at ih
    clear m1 m2 m3 m4
    generalize s_mn p t k = M1 at ih ⊢
    generalize s_mx p t k = M2 at ih ⊢
    generalize sH (s_ht p t) k = M3 at ih ⊢
    generalize sH (s_hq p t) k = M4 at ih ⊢
    generalize s_hq p t k = T2 at ih e6 ⊢
    have hz := hF0 k (Nat.le_refl _) hkS
    rw [law1_go, if_neg (fun z => absurd ((n_le (by omega) (by omega)).mp z) (by omega)), rg_pos (n_ne0 (by omega) (by omega)), rg_pos (n_ne0 (by omega) (by omega)), n_mod (by omega) (by omega), n_div (by omega) (by omega), e1, Option.bind_some]
    dsimp only
    rw [e2, Option.bind_some]
    dsimp only
    rw [e3, Option.bind_some]
    dsimp only
    rw [if_neg (n_nlt0 _ (by omega)), if_neg (fun z => absurd ((n_le (by omega) (by omega)).mp z) (by omega)), rg_pos ((n_in (by omega)).mpr hsb), n_cl (by omega), if_pos hz, if_neg (show ¬ T < 0 by rw [i_lt, i_0]; omega), if_neg (show ¬ (999 : Int32) < T by rw [i_lt, show (999 : Int32).toInt = 999 from rfl]; omega), e4, Option.bind_some]
    dsimp only
    rw [if_pos rfl, e5', Option.bind_some, if_pos rfl, rg_pos ((n_in (by omega)).mpr hsb), rg_pos ((n_in (by omega)).mpr (by omega)), rg_pos ((n_in (by omega)).mpr (by omega)), n_cl (by omega), e6, Option.bind_some, n_inc]
    refine eA_ok hp hkS _ _ (fun I hj => ?_) j4
    refine ih I _ _ (by omega) (by omega) hj (fun j h1 h2 => ?_) (fun j hjj => ?_)
    · unfold r_up
      rw [if_neg (fun z => ?_)]
      · exact hF0 j (by omega) h2
      · have a1 := s_go_src (t := t) hp h2
        have a2 := s_go_src (t := t) hp hkS
        rw [z, a2] at a1
        omega
    · unfold r_up
      by_cases c1 : j = s_ik p t k
      · rw [if_pos c1, hF1 _ (by omega), n_inc, c1]
        congr 1
        show _ = s_shr p t (s_ik p t k) k + (if s_ik p t k = s_ik p t k then 1 else 0)
        rw [if_pos rfl]
      · rw [if_neg c1, hF1 j hjj]
        congr 1
        show _ = s_shr p t j k + (if s_ik p t k = j then 1 else 0)
        rw [if_neg (fun z => c1 z.symm)]
        rfl
end EB2
