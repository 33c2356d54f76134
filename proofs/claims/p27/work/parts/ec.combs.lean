/-! the law's loop: shares, counts, combs, what is foreseen, dips one by one -/
theorem m_bc (a b : Int32) : a + b - a = b := by rw [Int32.add_comm, Int32.add_sub_cancel]
theorem lg_self (v : Int64) : lg_cmp v v = 0 := by
  unfold lg_cmp
  rw [if_neg (Int64.lt_irrefl), if_pos rfl]
section EC
variable {p t : sP} {q : Nat → Nat → Nat} {dp ca : Int32} {G : am_G} {N c xN : Nat} {xs F0 F1 : Nat → Int32} {v6 v7 : Int32} {v8 : Int64} {v12 v13 v14 v15 : Int32}
theorem J_cn (k : Nat) (v : Int32) (hk : k ≤ 14) (hv : s_F p t dp ca 0 k = v) {I : am_I} (hj : jJ p t q dp ca I G) : ∃ I2, clX (R_X11_count_0 I G (Int32.ofNat k)) I G = some (v, I2, G) ∧ jJ p t q dp ca I2 G := hv ▸ J_count hj hk
theorem law2e (hw : w_ok p q) {n : Nat} {I : am_I} (hj : jJ p t q dp ca I G) (h12 : v12 = s_mn p t (s_S p)) (h13 : v13 = s_mx p t (s_S p)) (h14 : v14 = sH (s_ht p t) (s_S p)) (h15 : v15 = sH (s_hq p t) (s_S p)) (K : ∀ I, jJ p t q dp ca I G → L_L_law n 3 N c I G (p 0 4) (p 0 2) (p 0 3) (p 0 5) xN xs F0 (s_S p) F1 (p 0 4 + 1) (fun _ => 0) 0 (Int32.ofNat (p 0 0)) (Int32.ofNat (p 0 1)) v6 v7 v8 v12 v13 v14 v15 (0 : Int32) 0 0 0 0 0 = some 1) : L_L_law (n + 1) 2 N c I G (p 0 4) (p 0 2) (p 0 3) (p 0 5) xN xs F0 (s_S p) F1 (p 0 4 + 1) (fun _ => 0) 0 (Int32.ofNat (p 0 0)) (Int32.ofNat (p 0 1)) v6 v7 v8 v12 v13 v14 v15 (Int32.ofNat (p 0 4 + 1)) 0 0 0 0 0 = some 1 := by
  obtain ⟨hp, hS2, ho, hc, hi, hd5, hq⟩ := hw
  have h0 := hp.1
  have hS := s_S_le hp
  have hS1 := s_S_pos hp
  have hp1 := s_num_le (s_new (p 0 0) (s_S p) (s_ik p t)) (s_S p)
  have hp1 : s_pat (p 0 0) (s_S p) (s_ik p t) (s_S p) ≤ s_S p := hp1
  have hc1 := s_cts_le (p 0 0) (s_S p) (s_ik p t) (s_S p)
  have hpc := pat_cts (C := p 0 0) (R := p 0 1) (S := s_S p) (k := s_ik p t) (by omega) (by omega) rfl
  obtain ⟨I1, e1, j1⟩ := J_mean hj
  have hrun : s_run (fun k a => a + s_ht p t k) (s_S p) 0 0 = v14 := by
    have := run_sH (s_ht p t) (s_S p) 0
    rw [Nat.zero_add] at this
    rw [h14]
    exact this
  rw [hrun] at e1
  have hn := am_meanN v14 (n := s_S p) (by omega) (by omega)
  obtain ⟨I2, e2, j2⟩ := J_cn 9 v12 (by omega) (h12 ▸ rfl) j1
  obtain ⟨I3, e3, j3⟩ := J_cn 10 v13 (by omega) (h13 ▸ rfl) j2
  obtain ⟨I4, e4, j4⟩ := J_cn 7 (Int32.ofNat (s_pat (p 0 0) (s_S p) (s_ik p t) (s_S p))) (by omega) rfl j3
  obtain ⟨I5, e5, j5⟩ := J_cn 8 (Int32.ofNat (s_cts (p 0 0) (s_S p) (s_ik p t) (s_S p))) (by omega) rfl j4
  obtain ⟨I6, e6, j6⟩ := J_cn 7 (Int32.ofNat (s_pat (p 0 0) (s_S p) (s_ik p t) (s_S p))) (by omega) rfl j5
  obtain ⟨I7, e7, j7⟩ := J_cn 8 (Int32.ofNat (s_cts (p 0 0) (s_S p) (s_ik p t) (s_S p))) (by omega) rfl j6
  have h1415 : v15 = v14 := by rw [h14, h15, sH_ht hp t]
  clear h12 h13 h14 h15 hrun
  generalize s_pat (p 0 0) (s_S p) (s_ik p t) (s_S p) = A at *
  generalize s_cts (p 0 0) (s_S p) (s_ik p t) (s_S p) = B at *
  rw [L_L_law_2, show (9 : Int32) = Int32.ofNat 9 from rfl, show (10 : Int32) = Int32.ofNat 10 from rfl, show (7 : Int32) = Int32.ofNat 7 from rfl, show (8 : Int32) = Int32.ofNat 8 from rfl, if_pos ((n_le (by omega) (by omega)).mpr (Nat.le_refl _)), if_pos h1415, e1, Option.bind_some]
  dsimp only
  rw [rg_pos hn, if_pos (m_cmp hn), e2, Option.bind_some]
  dsimp only
  rw [if_pos rfl, e3, Option.bind_some]
  dsimp only
  rw [if_pos rfl, e4, Option.bind_some]
  dsimp only
  have n8 : ¬ Int32.ofNat (s_S p) < Int32.ofNat A := fun z => absurd ((n_lt (by omega) (by omega)).mp z) (by omega)
  have n9 : Int32.ofNat B ≤ (2 : Int32) * Int32.ofNat (s_S p) := by
    rw [show (2 : Int32) = Int32.ofNat 2 from rfl, n_mul]
    exact (n_le (by omega) (by omega)).mpr hc1
  by_cases c1 : A = 1
  · rw [if_pos (show Int32.ofNat A = 1 by rw [c1]; rfl), e5, Option.bind_some]
    dsimp only
    rw [if_pos (show Int32.ofNat B = 0 by rw [hpc.mp c1]; rfl), if_pos rfl, e6, Option.bind_some]
    dsimp only
    rw [if_neg n8, e7, Option.bind_some]
    dsimp only
    rw [if_pos n9]
    exact K I7 j7
  · rw [if_neg (show ¬ Int32.ofNat A = 1 from fun z => c1 ((n_eq (b := 1) (by omega) (by omega)).mp z)), e5, Option.bind_some]
    dsimp only
    rw [if_neg (n_ne0 (Nat.pos_of_ne_zero (fun z => c1 (hpc.mpr z))) (by omega)), if_pos rfl, e6, Option.bind_some]
    dsimp only
    rw [if_neg n8, e7, Option.bind_some]
    dsimp only
    rw [if_pos n9]
    exact K I7 j7
theorem law2 (hw : w_ok p q) {A : Nat} (h12 : v12 = s_mn p t (s_S p)) (h13 : v13 = s_mx p t (s_S p)) (h14 : v14 = sH (s_ht p t) (s_S p)) (h15 : v15 = sH (s_hq p t) (s_S p)) (hF1 : ∀ j, j ≤ p 0 4 → F1 j = Int32.ofNat (s_shr p t j (s_S p))) (K : ∀ n I, A ≤ n → jJ p t q dp ca I G → L_L_law n 3 N c I G (p 0 4) (p 0 2) (p 0 3) (p 0 5) xN xs F0 (s_S p) F1 (p 0 4 + 1) (fun _ => 0) 0 (Int32.ofNat (p 0 0)) (Int32.ofNat (p 0 1)) v6 v7 v8 v12 v13 v14 v15 (0 : Int32) 0 0 0 0 0 = some 1) : ∀ (m k n : Nat) (I : am_I), k + m = p 0 4 + 1 → A + m + 1 ≤ n → jJ p t q dp ca I G → L_L_law n 2 N c I G (p 0 4) (p 0 2) (p 0 3) (p 0 5) xN xs F0 (s_S p) F1 (p 0 4 + 1) (fun _ => 0) 0 (Int32.ofNat (p 0 0)) (Int32.ofNat (p 0 1)) v6 v7 v8 v12 v13 v14 v15 (Int32.ofNat k) 0 0 0 0 0 = some 1 := by
  have h0 := hw.1.1
  intro m
  induction m with
  | zero =>
    intro k n I hk hn hj
    obtain ⟨n, rfl⟩ : ∃ n', n = n' + 1 := ⟨n - 1, by omega⟩
    obtain rfl : k = p 0 4 + 1 := by omega
    exact law2e hw hj h12 h13 h14 h15 (fun I hj => K n I (by omega) hj)
  | succ m ih =>
    intro k n I hk hn hj
    obtain ⟨n, rfl⟩ : ∃ n', n = n' + 1 := ⟨n - 1, by omega⟩
    obtain ⟨I1, e1, j1⟩ := J_share hj (show k ≤ p 0 4 by omega)
    rw [L_L_law_2, if_neg (fun z => absurd ((n_le (by omega) (by omega)).mp z) (by omega)), e1, Option.bind_some]
    dsimp only
    rw [rg_pos ((n_in (by omega)).mpr (by omega)), n_cl (by omega), if_pos (hF1 k (by omega)).symm, n_inc]
    exact ih (k + 1) n I1 (by omega) (by omega) j1
theorem law4 (hw : w_ok p q) {A k : Nat} (hk : k < p 0 3) (K : ∀ n I, A ≤ n → jJ p t q dp ca I G → L_L_law n 3 N c I G (p 0 4) (p 0 2) (p 0 3) (p 0 5) xN xs F0 (s_S p) F1 (p 0 4 + 1) (fun _ => 0) 0 (Int32.ofNat (p 0 0)) (Int32.ofNat (p 0 1)) v6 v7 v8 v12 v13 v14 v15 (Int32.ofNat (k + 1)) 0 0 0 0 0 = some 1) : ∀ (m l n : Nat) (I : am_I), l + m = s_lines p k → A + m + 1 ≤ n → jJ p t q dp ca I G → L_L_law n 4 N c I G (p 0 4) (p 0 2) (p 0 3) (p 0 5) xN xs F0 (s_S p) F1 (p 0 4 + 1) (fun _ => 0) 0 (Int32.ofNat (p 0 0)) (Int32.ofNat (p 0 1)) v6 v7 v8 v12 v13 v14 v15 (Int32.ofNat k) (Int32.ofNat (s_lines p k)) (Int32.ofNat l) 0 0 0 = some 1 := by
  have hp := hw.1
  have h0 := hp.1
  have hl := s_lines_b hp k
  intro m
  induction m with
  | zero =>
    intro l n I hlm hn hj
    obtain ⟨n, rfl⟩ : ∃ n', n = n' + 1 := ⟨n - 1, by omega⟩
    obtain ⟨I1, b, hb, e1, k1, z1⟩ := j_advise hj.1 hk
    obtain ⟨I2, e2, j2⟩ := hj.callX ⟨I1, e1, k1, z1⟩
    rw [L_L_law_4, if_pos ((n_le (by omega) (by omega)).mpr (by omega)), e2, Option.bind_some]
    dsimp only
    rw [if_neg (n_nlt0 _ (by omega)), if_pos (show Int32.ofNat b ≤ (16 : Int32) from (n_le (b := 16) (by omega) (by omega)).mpr hb), n_inc]
    exact K n I2 (by omega) j2
  | succ m ih =>
    intro l n I hlm hn hj
    obtain ⟨n, rfl⟩ : ∃ n', n = n' + 1 := ⟨n - 1, by omega⟩
    have ht := hj.1.1.2.1
    have hsl : s_shift p t k l ≤ t 2 k := s_sh_le (by omega)
    have ht2 := (ht.2.2 k).2
    have em : s_md (Int32.ofNat l).toInt (s_lines p k) = l := by rw [n_ti (by omega), s_md_id (by omega)]
    have em2 : s_md (Int32.ofNat l - Int32.ofNat (s_lines p k)).toInt (s_lines p k) = l := by rw [n_sti (by omega) (by omega), md_sub, s_md_id (by omega)]
    obtain ⟨I1, e1, j1⟩ := J_moves hj hk (Int32.ofNat l)
    obtain ⟨I2, e2, j2⟩ := J_moves j1 hk (Int32.ofNat l)
    obtain ⟨I3, e3, j3⟩ := J_comb j2 hk (show 2 < 3 by omega)
    obtain ⟨I4, e4, j4⟩ := J_moves j3 hk (Int32.ofNat l - Int32.ofNat (s_lines p k))
    obtain ⟨I5, e5, j5⟩ := J_moves j4 hk (Int32.ofNat l)
    rw [em] at e1 e2 e5
    rw [em2] at e4
    have e3 : clX (R_X11_comb_0 I2 G (Int32.ofNat k) (2 : Int32)) I2 G = some (Int32.ofNat (t 2 k), I3, G) := e3
    rw [L_L_law_4, if_neg (fun z => absurd ((n_le (by omega) (by omega)).mp z) (by omega)), e1, Option.bind_some]
    dsimp only
    rw [if_neg (n_nlt0 _ (by omega)), e2, Option.bind_some]
    dsimp only
    rw [e3, Option.bind_some]
    dsimp only
    rw [if_neg (fun z => absurd ((n_lt (by omega) (by omega)).mp z) (by omega)), e4, Option.bind_some]
    dsimp only
    rw [e5, Option.bind_some]
    dsimp only
    rw [if_pos rfl, n_inc]
    exact ih (l + 1) n I5 (by omega) (by omega) j5
theorem law3 (hw : w_ok p q) (hcc : c + 1 ≤ 14000) {A : Nat} (K : ∀ n I, A ≤ n → jJ p t q dp ca I G → L_L_law n 5 N (c + 1) I G (p 0 4) (p 0 2) (p 0 3) (p 0 5) xN xs F0 (s_S p) F1 (p 0 4 + 1) (fun _ => 0) 14 (Int32.ofNat (p 0 0)) (Int32.ofNat (p 0 1)) v6 v7 v8 v12 v13 v14 v15 ((1 : Int32) + (lw_b (v7 >>> ((4 : Int32) &&& 31)) (4 : Int32))) 0 (7 : Int32) 0 0 0 = some 1) : ∀ (m k n : Nat) (I : am_I), k + m = p 0 3 → A + 30 * m + 1 ≤ n → jJ p t q dp ca I G → L_L_law n 3 N c I G (p 0 4) (p 0 2) (p 0 3) (p 0 5) xN xs F0 (s_S p) F1 (p 0 4 + 1) (fun _ => 0) 0 (Int32.ofNat (p 0 0)) (Int32.ofNat (p 0 1)) v6 v7 v8 v12 v13 v14 v15 (Int32.ofNat k) 0 0 0 0 0 = some 1 := by
  have hp := hw.1
  have h0 := hp.1
  intro m
  induction m with
  | zero =>
    intro k n I hk hn hj
    obtain ⟨n, rfl⟩ : ∃ n', n = n' + 1 := ⟨n - 1, by omega⟩
    obtain ⟨I1, e1, j1⟩ := J_cn 4 (Int32.ofNat (p 0 3)) (by omega) rfl hj
    rw [L_L_law_3, show clX (R_X11_count_0 I G (4 : Int32)) I G = _ from e1, Option.bind_some]
    dsimp only
    rw [if_pos ((n_le (by omega) (by omega)).mpr (by omega)), id, rg_pos hcc]
    exact K n I1 (by omega) j1
  | succ m ih =>
    intro k n I hk hn hj
    obtain ⟨n, rfl⟩ : ∃ n', n = n' + 1 := ⟨n - 1, by omega⟩
    have hkc : k < p 0 3 := by omega
    have hl := s_lines_b hp k
    have h4 := (hp.2.1 k).2.2.2.2.2.2.1
    obtain ⟨I1, e1, j1⟩ := J_cn 4 (Int32.ofNat (p 0 3)) (by omega) rfl hj
    obtain ⟨I2, e2, j2⟩ := J_comb j1 hkc (show 0 < 3 by omega)
    have e2 : clX (R_X11_comb_0 I1 G (Int32.ofNat k) (0 : Int32)) I1 G = some (Int32.ofNat (p 4 k), I2, G) := e2
    have hz := law4 (t := t) (q := q) (dp := dp) (ca := ca) (G := G) (N := N) (c := c) (xN := xN) (xs := xs) (F0 := F0) (F1 := F1) (v6 := v6) (v7 := v7) (v8 := v8) (v12 := v12) (v13 := v13) (v14 := v14) (v15 := v15) hw hkc (A := A + 30 * m + 1) (fun n I hn hj => ih (k + 1) n I (by omega) hn hj) (s_lines p k) 0 n I2 (by omega) (by omega) j2
    rw [L_L_law_3, show clX (R_X11_count_0 I G (4 : Int32)) I G = _ from e1, Option.bind_some]
    dsimp only
    rw [if_neg (fun z => absurd ((n_le (by omega) (by omega)).mp z) (by omega)), e2, Option.bind_some]
    dsimp only
    by_cases z : p 4 k = 0
    · rw [if_neg (by rw [z]; decide)]
      have e : s_lines p k = p 0 1 := if_pos z
      rw [e] at hz
      exact hz
    · have z1 : p 4 k = 1 := by omega
      rw [if_pos (by rw [z1]; rfl)]
      have e : s_lines p k = p 0 0 := if_neg z
      rw [e] at hz
      exact hz
end EC
