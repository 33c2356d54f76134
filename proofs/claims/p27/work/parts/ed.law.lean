/-! the law's loop: what is foreseen comes, dip by dip; the law tells true -/
noncomputable def eC (N c ni no nc nd : Nat) (F : am_I → am_G → Option Int32) (I : am_I) (G : am_G) : Option Int32 := (clX (R_X11_count_0 I G (13 : Int32)) I G).bind (fun c1 => (clX (R_X11_dip_0 c1.2.1 c1.2.2 (1 : Int32)) c1.2.1 c1.2.2).bind (fun c2 => rg (c + 30 ≤ 14000) ((R_X12_dip N c2.2.1 ni no nc nd).bind (fun w => (clX (R_X11_count_0 w c2.2.2 (13 : Int32)) w c2.2.2).bind (fun c3 => if c3.1 = (c1.1 + c2.1) then (if c2.1 < 0 then some (0 : Int32) else (clX (R_X11_count_0 c3.2.1 c3.2.2 (6 : Int32)) c3.2.1 c3.2.2).bind (fun c4 => if c2.1 ≤ c4.1 then F c4.2.1 c4.2.2 else some (0 : Int32))) else some (0 : Int32))))))
set_option maxRecDepth 100000 in
theorem law6_go (n N c : Nat) (I : am_I) (G : am_G) (ni no nc nd xN : Nat) (xs F0 : Nat → Int32) (n0 : Nat) (F1 : Nat → Int32) (n1 : Nat) (F2 : Nat → Int32) (n2 : Nat) (v4 v5 v6 v7 : Int32) (v8 : Int64) (v12 v13 v14 v15 v16 v17 v18 v19 v20 v21 : Int32) : L_L_law (n + 1) 6 N c I G ni no nc nd xN xs F0 n0 F1 n1 F2 n2 v4 v5 v6 v7 v8 v12 v13 v14 v15 v16 v17 v18 v19 v20 v21 = (if v16 ≤ v21 then L_L_law n 7 N c I G ni no nc nd xN xs F0 n0 F1 n1 F2 n2 v4 v5 v6 v7 v8 v12 v13 v14 v15 v16 0 v18 v19 v20 (7 : Int32) else rg (¬ v4 = 0) (rg (¬ v4 = 0) ((clR (R_X11_ink_0 I G (v18 - v18 / v4 * v4) (v18 / v4)) I G).bind (fun c7001 => if c7001.1 = v19 then (if (1 : Int32) = 0 then (if v20 = v21 then (if (1 : Int32) = 0 then some (0 : Int32) else eC N c ni no nc nd (fun I G => L_L_law n 6 N (c + 30) I G ni no nc nd xN xs F0 n0 F1 n1 F2 n2 v4 v5 v6 v7 v8 v12 v13 v14 v15 v16 0 v18 v19 v20 (v21 + (1 : Int32))) c7001.2.1 c7001.2.2) else eC N c ni no nc nd (fun I G => L_L_law n 6 N (c + 30) I G ni no nc nd xN xs F0 n0 F1 n1 F2 n2 v4 v5 v6 v7 v8 v12 v13 v14 v15 v16 0 v18 v19 v20 (v21 + (1 : Int32))) c7001.2.1 c7001.2.2) else (if v20 < 0 then some (0 : Int32) else (if v21 < v20 then some (0 : Int32) else (if v20 = v21 then (if (1 : Int32) = 0 then some (0 : Int32) else eC N c ni no nc nd (fun I G => L_L_law n 6 N (c + 30) I G ni no nc nd xN xs F0 n0 F1 n1 F2 n2 v4 v5 v6 v7 v8 v12 v13 v14 v15 v16 0 v18 v19 v20 (v21 + (1 : Int32))) c7001.2.1 c7001.2.2) else eC N c ni no nc nd (fun I G => L_L_law n 6 N (c + 30) I G ni no nc nd xN xs F0 n0 F1 n1 F2 n2 v4 v5 v6 v7 v8 v12 v13 v14 v15 v16 0 v18 v19 v20 (v21 + (1 : Int32))) c7001.2.1 c7001.2.2)))) else (if (0 : Int32) = 0 then (if v20 = v21 then (if (0 : Int32) = 0 then some (0 : Int32) else eC N c ni no nc nd (fun I G => L_L_law n 6 N (c + 30) I G ni no nc nd xN xs F0 n0 F1 n1 F2 n2 v4 v5 v6 v7 v8 v12 v13 v14 v15 v16 0 v18 v19 v20 (v21 + (1 : Int32))) c7001.2.1 c7001.2.2) else eC N c ni no nc nd (fun I G => L_L_law n 6 N (c + 30) I G ni no nc nd xN xs F0 n0 F1 n1 F2 n2 v4 v5 v6 v7 v8 v12 v13 v14 v15 v16 0 v18 v19 v20 (v21 + (1 : Int32))) c7001.2.1 c7001.2.2) else (if v20 < 0 then some (0 : Int32) else (if v21 < v20 then some (0 : Int32) else (if v20 = v21 then (if (0 : Int32) = 0 then some (0 : Int32) else eC N c ni no nc nd (fun I G => L_L_law n 6 N (c + 30) I G ni no nc nd xN xs F0 n0 F1 n1 F2 n2 v4 v5 v6 v7 v8 v12 v13 v14 v15 v16 0 v18 v19 v20 (v21 + (1 : Int32))) c7001.2.1 c7001.2.2) else eC N c ni no nc nd (fun I G => L_L_law n 6 N (c + 30) I G ni no nc nd xN xs F0 n0 F1 n1 F2 n2 v4 v5 v6 v7 v8 v12 v13 v14 v15 v16 0 v18 v19 v20 (v21 + (1 : Int32))) c7001.2.1 c7001.2.2)))))))) := rfl
section ED
variable {p t : sP} {q : Nat → Nat → Nat} {dp ca : Int32} {G : am_G} {N c xN : Nat} {xs F0 F1 F2 : Nat → Int32} {v6 v7 : Int32} {v8 : Int64} {v12 v13 v14 v15 : Int32}
theorem eC_ok (hw : w_ok p q) (hN : 84 + p 0 2 + p 0 3 ≤ N) {x : sP × Int32 × Int32} {d : Nat} (hd : x.2.1 = Int32.ofNat d) (hd2 : d ≤ 10000) (hc : c + 30 ≤ 14000) {F : am_I → am_G → Option Int32} (K : ∀ I, jJ p (s_dip p (oq p q) x).1 q (s_dip p (oq p q) x).2.1 (s_dip p (oq p q) x).2.2 I G → F I G = some 1) {I : am_I} (hj : jJ p x.1 q x.2.1 x.2.2 I G) : eC N c (p 0 4) (p 0 2) (p 0 3) (p 0 5) F I G = some 1 := by
  obtain ⟨hp, hS2, ho, hcc, hi, hd5, hq⟩ := hw
  have h0 := hp.1
  obtain ⟨i, hi1, hi2⟩ := dip_ca (p := p) (od := oq p q) x
  obtain ⟨I1, e1, j1⟩ := J_cn 13 x.2.2 (by omega) rfl hj
  obtain ⟨I2, e2, k2, s2, o2⟩ := j1.callT (j_dip j1.1 (show 1 ≤ 1 by omega) (by omega))
  have e2 : clX (R_X11_dip_0 I1 G (1 : Int32)) I1 G = some ((s_dip p (oq p q) x).2.2 - x.2.2, I2, G) := e2
  have k2 : kJ p (s_dip p (oq p q) x).1 (oq p q) (s_dip p (oq p q) x).2.1 (s_dip p (oq p q) x).2.2 0 I2 G := k2
  obtain ⟨I3, e3, s3, z3⟩ := i_dip (q := q) hp hS2 ho.1 hi.1 hd5 hq (dp := x.2.1) (by rw [hd, n_ti (by omega)]; omega) hN j1.1.1.2.1 s2 o2
  have j3 : jJ p (s_dip p (oq p q) x).1 q (s_dip p (oq p q) x).2.1 (s_dip p (oq p q) x).2.2 I3 G := ⟨k2.cg (fun b hb => z3 b (Or.inl hb)), s3, o2.kept z3⟩
  obtain ⟨I4, e4, j4⟩ := J_cn 13 (s_dip p (oq p q) x).2.2 (by omega) rfl j3
  obtain ⟨I5, e5, j5⟩ := J_cn 6 (Int32.ofNat (p 0 5)) (by omega) rfl j4
  have hm : (s_dip p (oq p q) x).2.2 - x.2.2 = Int32.ofNat i := by rw [hi2, m_bc]
  rw [hm] at e2
  unfold eC
  rw [show clX (R_X11_count_0 I G (13 : Int32)) I G = _ from e1, Option.bind_some]
  dsimp only
  rw [e2, Option.bind_some]
  dsimp only
  rw [rg_pos hc, e3, Option.bind_some, show clX (R_X11_count_0 I3 G (13 : Int32)) I3 G = _ from e4, Option.bind_some]
  dsimp only
  rw [if_pos hi2, if_neg (n_nlt0 _ (by omega)), show clX (R_X11_count_0 I4 G (6 : Int32)) I4 G = _ from e5, Option.bind_some]
  dsimp only
  rw [if_pos ((n_le (by omega) (by omega)).mpr hi1)]
  exact K I5 j5
/-- stage 7: what was foreseen has come -/
theorem law7 {x : sP × Int32 × Int32} (hF2 : ∀ j, 7 ≤ j → j < 14 → F2 j = s_tell p x.1 x.2.1 x.2.2 j) {A : Nat} {v16 v18 v19 v20 : Int32} (K : ∀ n I, A ≤ n → jJ p x.1 q x.2.1 x.2.2 I G → L_L_law n 0 N c I G (p 0 4) (p 0 2) (p 0 3) (p 0 5) xN xs (fun _ => 0) 0 (fun _ => 0) 0 (fun _ => 0) 0 (Int32.ofNat (p 0 0)) (Int32.ofNat (p 0 1)) (v6 + (1 : Int32)) 0 0 0 0 0 0 0 0 0 0 0 0 = some 1) : ∀ (m k n : Nat) (I : am_I), k + m = 14 → 7 ≤ k → A + m + 1 ≤ n → jJ p x.1 q x.2.1 x.2.2 I G → L_L_law n 7 N c I G (p 0 4) (p 0 2) (p 0 3) (p 0 5) xN xs F0 (s_S p) F1 (p 0 4 + 1) F2 14 (Int32.ofNat (p 0 0)) (Int32.ofNat (p 0 1)) v6 v7 v8 v12 v13 v14 v15 v16 0 v18 v19 v20 (Int32.ofNat k) = some 1 := by
  intro m
  induction m with
  | zero =>
    intro k n I hk h7 hn hj
    obtain ⟨n, rfl⟩ : ∃ n', n = n' + 1 := ⟨n - 1, by omega⟩
    obtain rfl : k = 14 := by omega
    rw [L_L_law_7, if_pos (show (14 : Int32) ≤ Int32.ofNat 14 by decide)]
    exact K n I (by omega) hj
  | succ m ih =>
    intro k n I hk h7 hn hj
    obtain ⟨n, rfl⟩ : ∃ n', n = n' + 1 := ⟨n - 1, by omega⟩
    obtain ⟨I1, e1, j1⟩ := J_count hj (show k ≤ 14 by omega)
    rw [L_L_law_7, if_neg (show ¬ (14 : Int32) ≤ Int32.ofNat k from fun z => absurd ((n_le (a := 14) (by omega) (by omega)).mp z) (by omega)), e1, Option.bind_some]
    dsimp only
    rw [rg_pos ((n_in (by omega)).mpr (by omega)), n_cl (by omega), if_pos (show s_F p x.1 x.2.1 x.2.2 0 k = F2 k by rw [hF2 k h7 (by omega)]; unfold s_F; rw [if_neg (by omega)]), n_inc]
    exact ih (k + 1) n I1 (by omega) (by omega) (by omega) j1
/-- stage 6: dip by dip -/
theorem law6 (hw : w_ok p q) (hN : 84 + p 0 2 + p 0 3 ≤ N) {sp ik nn : Nat} (hsp : sp < s_S p) (hik : ik ≤ p 0 4) (hnn : nn ≤ 4) {u : Int32} {x0 : sP × Int32 × Int32} {A B : Nat} (hB : B ≤ 14000) (K : ∀ n c I, A ≤ n → c ≤ B → jJ p (s_dps p (oq p q) nn x0).1 q (s_dps p (oq p q) nn x0).2.1 (s_dps p (oq p q) nn x0).2.2 I G → L_L_law n 7 N c I G (p 0 4) (p 0 2) (p 0 3) (p 0 5) xN xs F0 (s_S p) F1 (p 0 4 + 1) F2 14 (Int32.ofNat (p 0 0)) (Int32.ofNat (p 0 1)) v6 v7 v8 v12 v13 v14 v15 (Int32.ofNat nn) 0 (Int32.ofNat sp) (Int32.ofNat ik) u (7 : Int32) = some 1) : ∀ (m k n c d : Nat) (x : sP × Int32 × Int32) (I : am_I), k + m = nn → A + m + 1 ≤ n → c + 30 * m ≤ B → x.2.1 = Int32.ofNat d → d + m ≤ 10000 → s_dps p (oq p q) m x = s_dps p (oq p q) nn x0 → (u = s_unt p (oq p q) sp ik (21 - k) k x ∨ ∃ j, j < k ∧ u = Int32.ofNat j) → jJ p x.1 q x.2.1 x.2.2 I G → L_L_law n 6 N c I G (p 0 4) (p 0 2) (p 0 3) (p 0 5) xN xs F0 (s_S p) F1 (p 0 4 + 1) F2 14 (Int32.ofNat (p 0 0)) (Int32.ofNat (p 0 1)) v6 v7 v8 v12 v13 v14 v15 (Int32.ofNat nn) 0 (Int32.ofNat sp) (Int32.ofNat ik) u (Int32.ofNat k) = some 1 := by
  have hp := hw.1
  have h0 := hp.1
  have hS := s_S_le hp
  intro m
  induction m with
  | zero =>
    intro k n c d x I hk hn hcb hd hd2 hx hu hj
    obtain ⟨n, rfl⟩ : ∃ n', n = n' + 1 := ⟨n - 1, by omega⟩
    have hx : x = s_dps p (oq p q) nn x0 := hx
    rw [law6_go, if_pos ((n_le (by omega) (by omega)).mpr (by omega))]
    rw [hx] at hj
    exact K n c I (by omega) (by omega) hj
  | succ m ih =>
    intro k n c d x I hk hn hcb hd hd2 hx hu hj
    obtain ⟨n, rfl⟩ : ∃ n', n = n' + 1 := ⟨n - 1, by omega⟩
    obtain ⟨hx1, hy1, hs1⟩ := sp_xy hp hsp
    obtain ⟨I1, e1, j1⟩ := J_ink hj (Int32.ofNat (sp % p 0 0)) (Int32.ofNat (sp / p 0 0))
    rw [hs1] at e1
    have hkb := s_ik_b p x.1 sp
    have hgo : (u = s_unt p (oq p q) sp ik (21 - (k + 1)) (k + 1) (s_dip p (oq p q) x) ∨ ∃ j, j < k + 1 ∧ u = Int32.ofNat j) → eC N c (p 0 4) (p 0 2) (p 0 3) (p 0 5) (fun I G => L_L_law n 6 N (c + 30) I G (p 0 4) (p 0 2) (p 0 3) (p 0 5) xN xs F0 (s_S p) F1 (p 0 4 + 1) F2 14 (Int32.ofNat (p 0 0)) (Int32.ofNat (p 0 1)) v6 v7 v8 v12 v13 v14 v15 (Int32.ofNat nn) 0 (Int32.ofNat sp) (Int32.ofNat ik) u (Int32.ofNat (k + 1))) I1 G = some 1 := fun hu' =>
      eC_ok hw hN hd (by omega) (by omega) (fun I hj => ih (k + 1) n (c + 30) (d + 1) (s_dip p (oq p q) x) I (by omega) (by omega) (by omega) (by show x.2.1 + 1 = _; rw [hd, n_inc]) (by omega) hx hu' hj) j1
    have hun : s_unt p (oq p q) sp ik (21 - k) k x = if s_ik p x.1 sp = ik then Int32.ofNat k else s_unt p (oq p q) sp ik (21 - (k + 1)) (k + 1) (s_dip p (oq p q) x) := by
      rw [show 21 - k = (21 - (k + 1)) + 1 by omega]
      rfl
    rw [hun] at hu
    rw [law6_go, if_neg (fun z => absurd ((n_le (by omega) (by omega)).mp z) (by omega)), rg_pos (n_ne0 (by omega) (by omega)), rg_pos (n_ne0 (by omega) (by omega)), n_mod (by omega) (by omega), n_div (by omega) (by omega), e1, Option.bind_some, n_inc]
    dsimp only
    by_cases c1 : s_ik p x.1 sp = ik
    · rw [if_pos c1] at hu
      have hu2 : ∃ j, j < k + 1 ∧ u = Int32.ofNat j := by
        rcases hu with h | ⟨j, h1, h2⟩
        · exact ⟨k, by omega, h⟩
        · exact ⟨j, by omega, h2⟩
      have hg := hgo (Or.inr hu2)
      obtain ⟨j, hj1, hj2⟩ := hu2
      rw [if_pos (congrArg Int32.ofNat c1), if_neg (show ¬ (1 : Int32) = 0 by decide), if_neg (show ¬ u < 0 by rw [hj2]; exact n_nlt0 _ (by omega)), if_neg (show ¬ Int32.ofNat k < u by rw [hj2]; exact fun z => absurd ((n_lt (by omega) (by omega)).mp z) (by omega))]
      by_cases c2 : u = Int32.ofNat k
      · rw [if_pos c2, if_neg (show ¬ (1 : Int32) = 0 by decide)]
        exact hg
      · rw [if_neg c2]
        exact hg
    · rw [if_neg c1] at hu
      have hu2 : u = s_unt p (oq p q) sp ik (21 - (k + 1)) (k + 1) (s_dip p (oq p q) x) ∨ ∃ j, j < k + 1 ∧ u = Int32.ofNat j := hu.imp id (fun ⟨j, h1, h2⟩ => ⟨j, by omega, h2⟩)
      have hg := hgo hu2
      have hne : ¬ u = Int32.ofNat k := by
        intro z
        rcases hu with h | ⟨j, h1, h2⟩
        · rcases unt_ge (p := p) (od := oq p q) (j := ik) (z := sp) (21 - (k + 1)) (k + 1) (s_dip p (oq p q) x) with h3 | ⟨i, h3, h4, h5⟩
          · rw [h, h3] at z
            have := n_nlt0 k (by omega)
            rw [← z] at this
            exact this n_m1
          · rw [h, h5] at z
            have := (n_eq (by omega) (by omega)).mp z
            omega
        · rw [h2] at z
          have := (n_eq (by omega) (by omega)).mp z
          omega
      rw [if_neg (fun z => c1 ((n_eq (by omega) (by omega)).mp z)), if_pos rfl, if_neg hne]
      exact hg
/-- stage 5: what is foreseen -/
theorem law5 (hw : w_ok p q) {nn : Nat} (hnn1 : 1 ≤ nn) (hnn : nn ≤ 4) (hv8 : v8 = s_dg p t dp ca 0) {A : Nat} (K : ∀ (n : Nat) (I : am_I) (F2 : Nat → Int32) (sp ik : Nat), A ≤ n → sp < s_S p → ik ≤ p 0 4 → jJ p t q dp ca I G → (∀ j, 7 ≤ j → j < 14 → F2 j = s_tell p (s_dps p (oq p q) nn (t, dp, ca)).1 (s_dps p (oq p q) nn (t, dp, ca)).2.1 (s_dps p (oq p q) nn (t, dp, ca)).2.2 j) → L_L_law n 6 N c I G (p 0 4) (p 0 2) (p 0 3) (p 0 5) xN xs F0 (s_S p) F1 (p 0 4 + 1) F2 14 (Int32.ofNat (p 0 0)) (Int32.ofNat (p 0 1)) v6 v7 v8 v12 v13 v14 v15 (Int32.ofNat nn) 0 (Int32.ofNat sp) (Int32.ofNat ik) (s_unt p (oq p q) sp ik 21 0 (t, dp, ca)) (0 : Int32) = some 1) : ∀ (m k n : Nat) (I : am_I) (F2 : Nat → Int32), k + m = 14 → 7 ≤ k → A + m + 1 ≤ n → (∀ j, 7 ≤ j → j < k → F2 j = s_tell p (s_dps p (oq p q) nn (t, dp, ca)).1 (s_dps p (oq p q) nn (t, dp, ca)).2.1 (s_dps p (oq p q) nn (t, dp, ca)).2.2 j) → jJ p t q dp ca I G → L_L_law n 5 N c I G (p 0 4) (p 0 2) (p 0 3) (p 0 5) xN xs F0 (s_S p) F1 (p 0 4 + 1) F2 14 (Int32.ofNat (p 0 0)) (Int32.ofNat (p 0 1)) v6 v7 v8 v12 v13 v14 v15 (Int32.ofNat nn) 0 (Int32.ofNat k) 0 0 0 = some 1 := by
  have hp := hw.1
  have h0 := hp.1
  have hS := s_S_le hp
  have hS1 := s_S_pos hp
  intro m
  induction m with
  | zero =>
    intro k n I F2 hk h7 hn hF2 hj
    obtain ⟨n, rfl⟩ : ∃ n', n = n' + 1 := ⟨n - 1, by omega⟩
    obtain rfl : k = 14 := by omega
    have hsp := lbel_lt (v7 >>> ((5 : Int32) &&& 31)) (show 0 < s_S p by omega)
    have hik := lbel_lt (v7 >>> ((7 : Int32) &&& 31)) (show 0 < p 0 4 + 1 by omega)
    rw [L_L_law_5, if_pos (show (14 : Int32) ≤ Int32.ofNat 14 by decide), rg_pos (n_ne0 (by omega) (by omega)), rg_pos (n_ne0 (by omega) (by omega)), rg_pos (n_ne0 (by omega) (by omega)), rg_pos (n_ne0 (by omega) (by omega)), lw_b_n _ (show 0 < s_S p by omega) (by omega), lw_b_n _ (show 0 < p 0 4 + 1 by omega) (by omega)]
    generalize lbel (v7 >>> ((5 : Int32) &&& 31)) (s_S p) = sp at hsp ⊢
    generalize lbel (v7 >>> ((7 : Int32) &&& 31)) (p 0 4 + 1) = ik at hik ⊢
    obtain ⟨hx1, hy1, hs1⟩ := sp_xy hp hsp
    obtain ⟨I1, e1, j1⟩ := hj.callX (j_until hj.1 (Int32.ofNat (sp % p 0 0)) (Int32.ofNat (sp / p 0 0)) (show ik ≤ p 0 4 by omega))
    rw [hs1] at e1
    obtain ⟨I2, e2, j2⟩ := J_digest j1
    rw [n_mod (by omega) (by omega), n_div (by omega) (by omega), e1, Option.bind_some]
    dsimp only
    rw [e2, Option.bind_some]
    dsimp only
    rw [← hv8, lg_self, if_pos rfl]
    exact K n I2 F2 sp ik (by omega) hsp (by omega) j2 hF2
  | succ m ih =>
    intro k n I F2 hk h7 hn hF2 hj
    obtain ⟨n, rfl⟩ : ∃ n', n = n' + 1 := ⟨n - 1, by omega⟩
    obtain ⟨I1, e1, j1⟩ := hj.callX (j_foresee hj.1 hnn1 (show nn ≤ 20 by omega) h7 (show k ≤ 13 by omega))
    rw [L_L_law_5, if_neg (show ¬ (14 : Int32) ≤ Int32.ofNat k from fun z => absurd ((n_le (a := 14) (by omega) (by omega)).mp z) (by omega)), e1, Option.bind_some]
    dsimp only
    rw [rg_pos ((n_in (by omega)).mpr (by omega)), n_cl (by omega), n_inc]
    refine ih (k + 1) n I1 _ (by omega) (by omega) (by omega) (fun j h1 h2 => ?_) j1
    unfold r_up
    by_cases c1 : j = k
    · rw [if_pos c1, c1]
    · rw [if_neg c1]; exact hF2 j h1 (by omega)
end ED
section ED2
variable {p : sP} {q : Nat → Nat → Nat} {G : am_G} {N xN : Nat} {xs : Nat → Int32}
set_option maxRecDepth 20000 in
/-- the law's loop over five times -/
theorem law0 (hw : w_ok p q) (hN : 84 + p 0 2 + p 0 3 ≤ N) : ∀ (m i n c d : Nat) (t : sP) (ca : Int32) (I : am_I), i + m = 5 → 600 * m + 2 ≤ n → c ≤ 8000 + 300 * i → d ≤ 10 * i → jJ p t q (Int32.ofNat d) ca I G → L_L_law n 0 N c I G (p 0 4) (p 0 2) (p 0 3) (p 0 5) xN xs (fun _ => 0) 0 (fun _ => 0) 0 (fun _ => 0) 0 (Int32.ofNat (p 0 0)) (Int32.ofNat (p 0 1)) (Int32.ofNat i) 0 0 0 0 0 0 0 0 0 0 0 0 = some 1 := by
  have hw' := hw
  obtain ⟨hp, hS2, ho, hcc, hi, hd5, hq⟩ := hw'
  have h0 := hp.1
  have hS := s_S_le hp
  have hS1 := s_S_pos hp
  intro m
  induction m with
  | zero =>
    intro i n c d t ca I hi5 hn hc hd hj
    obtain ⟨n, rfl⟩ : ∃ n', n = n' + 1 := ⟨n - 1, by omega⟩
    obtain rfl : i = 5 := by omega
    obtain ⟨I', e⟩ := i_same hw hN hj
    rw [L_L_law_0, if_pos (show (5 : Int32) ≤ Int32.ofNat 5 by decide), rg_pos (by omega), e, Option.bind_some]
    dsimp only
    rw [rg_pos (Or.inr rfl)]
  | succ m ih =>
    intro i n c d t ca I hi5 hn hc hd hj
    obtain ⟨n, rfl⟩ : ∃ n', n = n' + 1 := ⟨n - 1, by omega⟩
    rw [L_L_law_0, if_neg (show ¬ (5 : Int32) ≤ Int32.ofNat i from fun z => absurd ((n_le (a := 5) (by omega) (by omega)).mp z) (by omega)), rg_pos (show 0 ≤ (Int32.ofNat i + (2 : Int32)).toInt by rw [show Int32.ofNat i + (2 : Int32) = Int32.ofNat (i + 2) from n_add i 2, n_ti (by omega)]; omega), rg_pos (by omega)]
    generalize (lw_c xN xs (Int32.ofNat i + (2 : Int32)) >>> ((1 : Int32) &&& 31)) + (67 : Int32) * Int32.ofNat i = v7
    obtain ⟨t, d2, ca, I1, e1, j1, hd2⟩ := i_act hw hN (show d ≤ 1000 by omega) hj v7
    obtain ⟨I2, e2, j2⟩ := J_digest j1
    obtain ⟨I3, e3, j3⟩ := J_cn 5 (Int32.ofNat (p 0 4)) (by omega) rfl j2
    have hCR : Int32.ofNat (p 0 0) * Int32.ofNat (p 0 1) = Int32.ofNat (s_S p) := n_mul _ _
    rw [e1, Option.bind_some]
    dsimp only
    rw [if_neg (show ¬ (1 : Int32) = 0 by decide), e2, Option.bind_some]
    dsimp only
    rw [hCR, n_ti (by omega), rg_pos (by omega), show clX (R_X11_count_0 I2 G (5 : Int32)) I2 G = _ from e3, Option.bind_some]
    dsimp only
    rw [n_inc, n_ti (by omega), rg_pos (by omega), n_cl (by omega), n_cl (by omega)]
    have hu := lbel_lt (v7 >>> ((4 : Int32) &&& 31)) (show 0 < 4 by omega)
    have e4 : (1 : Int32) + lw_b (v7 >>> ((4 : Int32) &&& 31)) (4 : Int32) = Int32.ofNat (1 + lbel (v7 >>> ((4 : Int32) &&& 31)) 4) := by
      rw [show (4 : Int32) = Int32.ofNat 4 from rfl, lw_b_n _ (show 0 < 4 by omega) (by omega)]
      exact n_add 1 _
    generalize lbel (v7 >>> ((4 : Int32) &&& 31)) 4 = nn at hu e4
    have hdp := s_dps_dp (p := p) (oq p q) (1 + nn) d2 (t, Int32.ofNat d2, ca) rfl
    have K0 := ih (i + 1)
    rw [← n_inc] at K0
    refine law1 hw hN (A := 390 + 600 * m + 2) (fun n I F0 F1 hn hj hF1 => ?_) (s_S p) 0 n I3 (fun _ => 0) (fun _ => 0) (by omega) (by omega) j3 (fun _ _ _ => rfl) (fun _ _ => rfl)
    refine law2 hw (A := 200 + 600 * m + 2) rfl rfl rfl rfl hF1 (fun n I hn hj => ?_) (p 0 4 + 1) 0 n I (by omega) (by omega) hj
    refine law3 hw (A := 60 + 600 * m + 2) (by omega) (fun n I hn hj => ?_) (p 0 3) 0 n I (by omega) (by omega) hj
    rw [e4]
    refine law5 hw (A := 40 + 600 * m + 2) (nn := 1 + nn) (by omega) (by omega) rfl (fun n I F2 sp ik hn hsp hik hj hF2 => ?_) 7 7 n I _ (by omega) (by omega) (by omega) (fun j z1 z2 => absurd z1 (by omega)) hj
    refine law6 hw hN hsp hik (by omega) (B := 8000 + 300 * (i + 1)) (by omega) (x0 := (t, Int32.ofNat d2, ca)) (A := 20 + 600 * m + 2) (fun n c I hn hc hj => ?_) (1 + nn) 0 n (c + 102 + 1) d2 (t, Int32.ofNat d2, ca) I (by omega) (by omega) (by omega) rfl (by omega) rfl (Or.inl rfl) hj
    refine law7 (x := s_dps p (oq p q) (1 + nn) (t, Int32.ofNat d2, ca)) hF2 (A := 600 * m + 2) (fun n I hn hj => ?_) 7 7 n I (by omega) (by omega) (by omega) hj
    rw [hdp] at hj
    exact K0 n c (d2 + (1 + nn)) _ _ I (by omega) (by omega) hc (by omega) hj
/-- the law tells true -/
theorem i_law (hw : w_ok p q) (hN : 84 + p 0 2 + p 0 3 ≤ N) {t : sP} {I : am_I} (hj : jJ p t q 0 0 I G) : R_L_law N 8000 I G (p 0 4) (p 0 2) (p 0 3) (p 0 5) xN xs = some 1 := by
  obtain ⟨I1, e1, j1⟩ := J_cn 1 (Int32.ofNat (p 0 0)) (by omega) rfl hj
  obtain ⟨I2, e2, j2⟩ := J_cn 2 (Int32.ofNat (p 0 1)) (by omega) rfl j1
  unfold R_L_law
  rw [show clX (R_X11_count_0 I G (1 : Int32)) I G = _ from e1, Option.bind_some]
  dsimp only
  rw [show clX (R_X11_count_0 I1 G (2 : Int32)) I1 G = _ from e2, Option.bind_some]
  dsimp only
  exact law0 hw hN 5 0 FU 8000 0 t 0 I2 (by omega) (by unfold FU; omega) (by omega) (by omega) j2
end ED2
