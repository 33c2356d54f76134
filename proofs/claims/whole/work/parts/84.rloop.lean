/-! the reference's modes -/
section RPB
variable {K V : Nat → Nat} {T : Nat} {G : am_G}
def rmd (md : Nat) : Nat := if md = 5 then 6 else md
def rM (K V : Nat → Nat) (T : Nat) (G : am_G) (n md : Nat) : Prop := ∀ (d p : Nat) (I : am_I) (sz os : Nat), d ≤ 8 → nd md d ≤ n → rX K V T I G → rS4 I p d sz os → p ≤ T → sz ≤ 2 * p → os ≤ p → ∀ a b : Int32, ∃ (v : Int32) (I' : am_I), PG_X14_isTest n (rmd md) I G a b = some (v, I', G) ∧ (v = 0 ∨ v = 1) ∧ rfr I I' ∧ rQ I I' d sz os (sp K V n md d p) v
theorem r_lp4 {n0 d : Nat} (hM : rM K V T G n0 5) (hd : d ≤ 8) (hnd : nd 5 d ≤ n0) {I0 : am_I} {sz0 os0 : Nat} : ∀ (m p : Nat) (c : List (Nat × Nat)) (I : am_I) (n : Nat), rX K V T I G → rfr I0 I → rG4 I0 I d sz0 os0 p c → p ≤ T → sz0 + s_el c ≤ 2 * p → os0 + s_nn c ≤ p → 401 < m + p → m < n → ∃ (v : Int32) (I' : am_I), L_X14_isProduct_79 (PG_X14_isTest n0) n 0 I G = some (v, I', G) ∧ (v = 0 ∨ v = 1) ∧ rfr I0 I' ∧ rQ I0 I' d sz0 os0 (sp_lp (sp K V n0 5 d) o_mul K m p c) v := by
  intro m
  induction m with
  | zero => intro p c I n hX hf hg hp; have := hX.1.1; omega
  | succ m ih =>
    intro p c I n hX hf hg hp hsz hos hm hn
    have hT := hX.1.1
    obtain ⟨n, rfl⟩ : ∃ n', n = n' + 1 := ⟨n - 1, by omega⟩
    have h9 := hg.1.1
    have hq2 := fun w => r_q2 (G := G) (I := I) h9 (by omega) w
    rw [L_X14_isProduct_79_0, rg_pos (hq2 _)]
    unfold sp_lp
    by_cases ho : o_mul (K p) = true
    · have hlt : p < T := hX.1.lt hp (op_mul _ ho).1
      have g1 := hg.tk (p2 := p + 1)
      have f1 := hf.tr (r_tk (I := I) (p + 1)).1
      obtain ⟨v, I1, e1, hv, f2, q1⟩ := hM d (p + 1) (am_up I 79 9 (Int32.ofNat (p + 1))) _ _ hd hnd (hX.kept (r_tk (I := I) (p + 1)).1) g1.1 (by omega) (by omega) (by omega) (0 : Int32) (0 : Int32)
      have e1 : PG_X14_isTest n0 6 (am_up I 79 9 (Int32.ofNat (p + 1))) G (0 : Int32) (0 : Int32) = some (v, I1, G) := e1
      have hpr := sp_pr hX.1 n0 5 d (p + 1) (by omega)
      have key : ∀ (op : Nat) (w : Int32), K p = op → w = Int32.ofNat (s_rop op) → s_two op = false → s_nmd op = false → ∃ (v' : Int32) (I' : am_I), (if v = 0 then some ((0 : Int32), I1, G) else rg (q_X14_put_79 I1 G w) (L_X14_isProduct_79 (PG_X14_isTest n0) n 0 (g_X14_put_79 I1 G w) G)) = some (v', I', G) ∧ (v' = 0 ∨ v' = 1) ∧ rfr I0 I' ∧ rQ I0 I' d sz0 os0 (sb (sp K V n0 5 d (p + 1)) (fun p' c' => sp_lp (sp K V n0 5 d) o_mul K m p' (c ++ c' ++ [(K p, 0)]))) v' := by
        intro op w hk hw h2 hnm
        cases hr : sp K V n0 5 d (p + 1) with
        | inl q =>
          obtain ⟨p', c'⟩ := q
          rw [hr] at q1 hpr
          obtain ⟨rfl, g2⟩ := q1
          have q2 := hpr.2.1
          have q3 := hpr.2.2.1
          have q4 := hpr.2.2.2
          have q5 := hpr.1
          have q6 := s_nn_le c'
          rw [sb_l rfl, if_neg (by decide)]
          have g3 := g1.tr g2
          obtain ⟨j1, j2, j3⟩ := r_put (G := G) (op := op) (w := w) g3 (f1.tr f2) (by rw [s_el_app]; omega) hw h2
          rw [rg_pos j1, hk]
          have e5 : s_el (c ++ c' ++ [(op, 0)]) = s_el c + s_el c' + 1 := by rw [s_el_app, s_el_app]; simp [s_el, h2]
          have e6 : s_nn (c ++ c' ++ [(op, 0)]) = s_nn c + s_nn c' := by rw [s_nn_app, s_nn_app]; simp [s_nn, hnm]
          exact ih p' _ _ n ((hX.kept ((r_tk (I := I) (p + 1)).1.tr f2)).kept (by
            have := r_put (I := I1) (J := I1) (G := G) (op := op) (w := w) (c := []) (dp := d) (p := p') (rG4.nil (g3.1) rfl rfl rfl) (rfr.rf I1) (by rw [s_el_app]; simp only [s_el]; omega) hw h2
            exact this.2.1)) j2 j3 q2 (by omega) (by omega) (by omega) (by omega)
        | inr q =>
          rw [hr] at q1
          obtain ⟨rfl, g2⟩ := q1
          rw [sb_r rfl, if_pos rfl]
          exact ⟨0, I1, rfl, Or.inl rfl, f1.tr f2, rfl, g2⟩
      rw [if_pos ho]
      rcases (show K p = 32 ∨ K p = 33 by simpa [o_mul] using ho) with hk | hk
      · rw [if_neg (r_sgY (k := 32) (w := (42 : Int32)) hX h9 hp rfl hk), rg_pos (hq2 _), if_neg (r_sgY (k := 32) (w := (42 : Int32)) hX h9 hp rfl hk), h9, n_inc, e1, rb_go]
        exact key 32 (36 : Int32) hk rfl rfl rfl
      · rw [if_pos (r_sg0 (k := 32) (w := (42 : Int32)) hX h9 hp rfl (by omega) (by omega)), rg_pos (hq2 _), if_neg (r_sgY (k := 33) (w := (47 : Int32)) hX h9 hp rfl hk), rg_pos (hq2 _), if_pos (r_sg0 (k := 32) (w := (42 : Int32)) hX h9 hp rfl (by omega) (by omega)), h9, n_inc, e1, rb_go]
        exact key 33 (37 : Int32) hk rfl rfl rfl
    · have hk : ¬ K p = 32 ∧ ¬ K p = 33 := by simpa [o_mul, not_or] using ho
      rw [if_neg ho, if_pos (r_sg0 (k := 32) (w := (42 : Int32)) hX h9 hp rfl (by omega) hk.1), rg_pos (hq2 _), if_pos (r_sg0 (k := 33) (w := (47 : Int32)) hX h9 hp rfl (by omega) hk.2)]
      exact ⟨1, I, rfl, Or.inr rfl, hf, rfl, hg⟩
theorem r_ch4 {n0 : Nat} (hM : rM K V T G n0 5) : rM K V T G (n0 + 1) 4 := by
  intro d p I sz os hd hnd hX hS hp hsz hos a b
  have hnd1 : nd 5 d ≤ n0 := by rw [nd_4] at hnd; rw [nd_5]; omega
  obtain ⟨v, I1, e1, hv, f1, q1⟩ := hM d p I sz os hd hnd1 hX hS hp hsz hos (0 : Int32) (0 : Int32)
  have e1 : PG_X14_isTest n0 6 I G (0 : Int32) (0 : Int32) = some (v, I1, G) := e1
  rw [show rmd 4 = 4 from rfl, PG_X14_isTest_4, sp_4]
  unfold R_X14_isProduct_79 sp_ch
  rw [e1, rb_go]
  have hpr := sp_pr hX.1 n0 5 d p hp
  cases hr : sp K V n0 5 d p with
  | inl q =>
    obtain ⟨p', c'⟩ := q
    rw [hr] at q1 hpr
    obtain ⟨rfl, g2⟩ := q1
    have q6 := s_nn_le c'
    have q2 := hpr.2.1
    have q3 := hpr.2.2.1
    have q4 := hpr.2.2.2
    have q5 := hpr.1
    rw [sb_l rfl, if_neg (by decide)]
    exact r_lp4 hM hd hnd1 401 p' c' I1 FU (hX.kept f1) f1 g2 q2 (by omega) (by omega) (by omega) (by unfold FU; omega)
  | inr q =>
    rw [hr] at q1
    obtain ⟨rfl, g2⟩ := q1
    rw [sb_r rfl, if_pos rfl]
    exact ⟨0, I1, rfl, Or.inl rfl, f1, rfl, g2⟩
theorem r_lp3 {n0 d : Nat} (hM : rM K V T G n0 4) (hd : d ≤ 8) (hnd : nd 4 d ≤ n0) {I0 : am_I} {sz0 os0 : Nat} : ∀ (m p : Nat) (c : List (Nat × Nat)) (I : am_I) (n : Nat), rX K V T I G → rfr I0 I → rG4 I0 I d sz0 os0 p c → p ≤ T → sz0 + s_el c ≤ 2 * p → os0 + s_nn c ≤ p → 401 < m + p → m < n → ∃ (v : Int32) (I' : am_I), L_X14_isSum_79 (PG_X14_isTest n0) n 0 I G = some (v, I', G) ∧ (v = 0 ∨ v = 1) ∧ rfr I0 I' ∧ rQ I0 I' d sz0 os0 (sp_lp (sp K V n0 4 d) o_add K m p c) v := by
  intro m
  induction m with
  | zero => intro p c I n hX hf hg hp; have := hX.1.1; omega
  | succ m ih =>
    intro p c I n hX hf hg hp hsz hos hm hn
    have hT := hX.1.1
    obtain ⟨n, rfl⟩ : ∃ n', n = n' + 1 := ⟨n - 1, by omega⟩
    have h9 := hg.1.1
    have hq2 := fun w => r_q2 (G := G) (I := I) h9 (by omega) w
    rw [L_X14_isSum_79_0, rg_pos (hq2 _)]
    unfold sp_lp
    by_cases ho : o_add (K p) = true
    · have hlt : p < T := hX.1.lt hp (op_add _ ho).1
      have g1 := hg.tk (p2 := p + 1)
      have f1 := hf.tr (r_tk (I := I) (p + 1)).1
      obtain ⟨v, I1, e1, hv, f2, q1⟩ := hM d (p + 1) (am_up I 79 9 (Int32.ofNat (p + 1))) _ _ hd hnd (hX.kept (r_tk (I := I) (p + 1)).1) g1.1 (by omega) (by omega) (by omega) (0 : Int32) (0 : Int32)
      have e1 : PG_X14_isTest n0 4 (am_up I 79 9 (Int32.ofNat (p + 1))) G (0 : Int32) (0 : Int32) = some (v, I1, G) := e1
      have hpr := sp_pr hX.1 n0 4 d (p + 1) (by omega)
      have key : ∀ (op : Nat) (w : Int32), K p = op → w = Int32.ofNat (s_rop op) → s_two op = false → s_nmd op = false → ∃ (v' : Int32) (I' : am_I), (if v = 0 then some ((0 : Int32), I1, G) else rg (q_X14_put_79 I1 G w) (L_X14_isSum_79 (PG_X14_isTest n0) n 0 (g_X14_put_79 I1 G w) G)) = some (v', I', G) ∧ (v' = 0 ∨ v' = 1) ∧ rfr I0 I' ∧ rQ I0 I' d sz0 os0 (sb (sp K V n0 4 d (p + 1)) (fun p' c' => sp_lp (sp K V n0 4 d) o_add K m p' (c ++ c' ++ [(K p, 0)]))) v' := by
        intro op w hk hw h2 hnm
        cases hr : sp K V n0 4 d (p + 1) with
        | inl q =>
          obtain ⟨p', c'⟩ := q
          rw [hr] at q1 hpr
          obtain ⟨rfl, g2⟩ := q1
          have q2 := hpr.2.1
          have q3 := hpr.2.2.1
          have q4 := hpr.2.2.2
          have q5 := hpr.1
          have q6 := s_nn_le c'
          rw [sb_l rfl, if_neg (by decide)]
          have g3 := g1.tr g2
          obtain ⟨j1, j2, j3⟩ := r_put (G := G) (op := op) (w := w) g3 (f1.tr f2) (by rw [s_el_app]; omega) hw h2
          rw [rg_pos j1, hk]
          have e5 : s_el (c ++ c' ++ [(op, 0)]) = s_el c + s_el c' + 1 := by rw [s_el_app, s_el_app]; simp [s_el, h2]
          have e6 : s_nn (c ++ c' ++ [(op, 0)]) = s_nn c + s_nn c' := by rw [s_nn_app, s_nn_app]; simp [s_nn, hnm]
          exact ih p' _ _ n ((hX.kept ((r_tk (I := I) (p + 1)).1.tr f2)).kept (by
            have := r_put (I := I1) (J := I1) (G := G) (op := op) (w := w) (c := []) (dp := d) (p := p') (rG4.nil (g3.1) rfl rfl rfl) (rfr.rf I1) (by rw [s_el_app]; simp only [s_el]; omega) hw h2
            exact this.2.1)) j2 j3 q2 (by omega) (by omega) (by omega) (by omega)
        | inr q =>
          rw [hr] at q1
          obtain ⟨rfl, g2⟩ := q1
          rw [sb_r rfl, if_pos rfl]
          exact ⟨0, I1, rfl, Or.inl rfl, f1.tr f2, rfl, g2⟩
      rw [if_pos ho]
      rcases (show K p = 30 ∨ K p = 31 by simpa [o_add] using ho) with hk | hk
      · rw [if_neg (r_sgY (k := 30) (w := (43 : Int32)) hX h9 hp rfl hk), rg_pos (hq2 _), if_neg (r_sgY (k := 30) (w := (43 : Int32)) hX h9 hp rfl hk), h9, n_inc, e1, rb_go]
        exact key 30 (34 : Int32) hk rfl rfl rfl
      · rw [if_pos (r_sg0 (k := 30) (w := (43 : Int32)) hX h9 hp rfl (by omega) (by omega)), rg_pos (hq2 _), if_neg (r_sgY (k := 31) (w := (45 : Int32)) hX h9 hp rfl hk), rg_pos (hq2 _), if_pos (r_sg0 (k := 30) (w := (43 : Int32)) hX h9 hp rfl (by omega) (by omega)), h9, n_inc, e1, rb_go]
        exact key 31 (35 : Int32) hk rfl rfl rfl
    · have hk : ¬ K p = 30 ∧ ¬ K p = 31 := by simpa [o_add, not_or] using ho
      rw [if_neg ho, if_pos (r_sg0 (k := 30) (w := (43 : Int32)) hX h9 hp rfl (by omega) hk.1), rg_pos (hq2 _), if_pos (r_sg0 (k := 31) (w := (45 : Int32)) hX h9 hp rfl (by omega) hk.2)]
      exact ⟨1, I, rfl, Or.inr rfl, hf, rfl, hg⟩
theorem r_ch3 {n0 : Nat} (hM : rM K V T G n0 4) : rM K V T G (n0 + 1) 3 := by
  intro d p I sz os hd hnd hX hS hp hsz hos a b
  have hnd1 : nd 4 d ≤ n0 := by rw [nd_3] at hnd; rw [nd_4]; omega
  obtain ⟨v, I1, e1, hv, f1, q1⟩ := hM d p I sz os hd hnd1 hX hS hp hsz hos (0 : Int32) (0 : Int32)
  have e1 : PG_X14_isTest n0 4 I G (0 : Int32) (0 : Int32) = some (v, I1, G) := e1
  rw [show rmd 3 = 3 from rfl, PG_X14_isTest_3, sp_3]
  unfold R_X14_isSum_79 sp_ch
  rw [e1, rb_go]
  have hpr := sp_pr hX.1 n0 4 d p hp
  cases hr : sp K V n0 4 d p with
  | inl q =>
    obtain ⟨p', c'⟩ := q
    rw [hr] at q1 hpr
    obtain ⟨rfl, g2⟩ := q1
    have q6 := s_nn_le c'
    have q2 := hpr.2.1
    have q3 := hpr.2.2.1
    have q4 := hpr.2.2.2
    have q5 := hpr.1
    rw [sb_l rfl, if_neg (by decide)]
    exact r_lp3 hM hd hnd1 401 p' c' I1 FU (hX.kept f1) f1 g2 q2 (by omega) (by omega) (by omega) (by unfold FU; omega)
  | inr q =>
    rw [hr] at q1
    obtain ⟨rfl, g2⟩ := q1
    rw [sb_r rfl, if_pos rfl]
    exact ⟨0, I1, rfl, Or.inl rfl, f1, rfl, g2⟩
theorem r_lp1 {n0 d : Nat} (hM : rM K V T G n0 2) (hd : d ≤ 8) (hnd : nd 2 d ≤ n0) {I0 : am_I} {sz0 os0 : Nat} : ∀ (m p : Nat) (c : List (Nat × Nat)) (I : am_I) (n : Nat), rX K V T I G → rfr I0 I → rG4 I0 I d sz0 os0 p c → p ≤ T → sz0 + s_el c ≤ 2 * p → os0 + s_nn c ≤ p → 401 < m + p → m < n → ∃ (v : Int32) (I' : am_I), L_X14_isBoth_79 (PG_X14_isTest n0) n 0 I G = some (v, I', G) ∧ (v = 0 ∨ v = 1) ∧ rfr I0 I' ∧ rQ I0 I' d sz0 os0 (sp_lp (sp K V n0 2 d) o_and K m p c) v := by
  intro m
  induction m with
  | zero => intro p c I n hX hf hg hp; have := hX.1.1; omega
  | succ m ih =>
    intro p c I n hX hf hg hp hsz hos hm hn
    have hT := hX.1.1
    obtain ⟨n, rfl⟩ : ∃ n', n = n' + 1 := ⟨n - 1, by omega⟩
    have h9 := hg.1.1
    rw [L_X14_isBoth_79_0, rg_pos (r_q3 h9 (by omega) _)]
    unfold sp_lp
    by_cases ho : o_and (K p) = true
    · have hk : K p = 20 := by simpa [o_and] using ho
      have hlt := hX.1.lt hp (by omega)
      obtain ⟨u1, u2⟩ := r_eat1 (G := G) h9 (r_isY (k := 20) (w := (20 : Int32)) hX h9 hp rfl hk)
      have g1 := hg.tk (p2 := p + 1)
      have f1 := hf.tr (r_tk (I := I) (p + 1)).1
      obtain ⟨v, I1, e1, hv, f2, q1⟩ := hM d (p + 1) (am_up I 79 9 (Int32.ofNat (p + 1))) _ _ hd hnd (hX.kept (r_tk (I := I) (p + 1)).1) g1.1 (by omega) (by omega) (by omega) (0 : Int32) (0 : Int32)
      have e1 : PG_X14_isTest n0 2 (am_up I 79 9 (Int32.ofNat (p + 1))) G (0 : Int32) (0 : Int32) = some (v, I1, G) := e1
      have hpr := sp_pr hX.1 n0 2 d (p + 1) (by omega)
      rw [u1, u2, if_neg (by decide), if_pos ho, e1, rb_go]
      cases hr : sp K V n0 2 d (p + 1) with
      | inl q =>
        obtain ⟨p', c'⟩ := q
        rw [hr] at q1 hpr
        obtain ⟨rfl, g2⟩ := q1
        have q2 := hpr.2.1
        have q3 := hpr.2.2.1
        have q4 := hpr.2.2.2
        have q5 := hpr.1
        have q6 := s_nn_le c'
        rw [sb_l rfl, if_neg (by decide)]
        have g3 := g1.tr g2
        obtain ⟨j1, j2, j3⟩ := r_put (G := G) (op := 20) (w := (20 : Int32)) g3 (f1.tr f2) (by rw [s_el_app]; omega) rfl rfl
        rw [rg_pos j1, hk]
        have e5 : s_el (c ++ c' ++ [(20, 0)]) = s_el c + s_el c' + 1 := by rw [s_el_app, s_el_app]; rfl
        have e6 : s_nn (c ++ c' ++ [(20, 0)]) = s_nn c + s_nn c' := by rw [s_nn_app, s_nn_app]; rfl
        exact ih p' _ _ n ((hX.kept ((r_tk (I := I) (p + 1)).1.tr f2)).kept (by
          have := r_put (I := I1) (J := I1) (G := G) (op := 20) (w := (20 : Int32)) (c := []) (dp := d) (p := p') (rG4.nil (g3.1) rfl rfl rfl) (rfr.rf I1) (by rw [s_el_app]; simp only [s_el]; omega) rfl rfl
          exact this.2.1)) j2 j3 q2 (by omega) (by omega) (by omega) (by omega)
      | inr q =>
        rw [hr] at q1
        obtain ⟨rfl, g2⟩ := q1
        rw [sb_r rfl, if_pos rfl]
        exact ⟨0, I1, rfl, Or.inl rfl, f1.tr f2, rfl, g2⟩
    · have hk : ¬ K p = 20 := by simpa [o_and] using ho
      obtain ⟨u1, u2⟩ := r_eat0 (G := G) (r_is0 (k := 20) (w := (20 : Int32)) hX h9 hp rfl (by omega) hk)
      rw [u1, u2, if_pos rfl, if_neg ho]
      exact ⟨1, I, rfl, Or.inr rfl, hf, rfl, hg⟩
theorem r_ch1 {n0 : Nat} (hM : rM K V T G n0 2) : rM K V T G (n0 + 1) 1 := by
  intro d p I sz os hd hnd hX hS hp hsz hos a b
  have hnd1 : nd 2 d ≤ n0 := by rw [nd_1] at hnd; rw [nd_2]; omega
  obtain ⟨v, I1, e1, hv, f1, q1⟩ := hM d p I sz os hd hnd1 hX hS hp hsz hos (0 : Int32) (0 : Int32)
  have e1 : PG_X14_isTest n0 2 I G (0 : Int32) (0 : Int32) = some (v, I1, G) := e1
  rw [show rmd 1 = 1 from rfl, PG_X14_isTest_1, sp_1]
  unfold R_X14_isBoth_79 sp_ch
  rw [e1, rb_go]
  have hpr := sp_pr hX.1 n0 2 d p hp
  cases hr : sp K V n0 2 d p with
  | inl q =>
    obtain ⟨p', c'⟩ := q
    rw [hr] at q1 hpr
    obtain ⟨rfl, g2⟩ := q1
    have q6 := s_nn_le c'
    have q2 := hpr.2.1
    have q3 := hpr.2.2.1
    have q4 := hpr.2.2.2
    have q5 := hpr.1
    rw [sb_l rfl, if_neg (by decide)]
    exact r_lp1 hM hd hnd1 401 p' c' I1 FU (hX.kept f1) f1 g2 q2 (by omega) (by omega) (by omega) (by unfold FU; omega)
  | inr q =>
    rw [hr] at q1
    obtain ⟨rfl, g2⟩ := q1
    rw [sb_r rfl, if_pos rfl]
    exact ⟨0, I1, rfl, Or.inl rfl, f1, rfl, g2⟩
theorem r_lp0 {n0 d : Nat} (hM : rM K V T G n0 1) (hd : d ≤ 8) (hnd : nd 1 d ≤ n0) {I0 : am_I} {sz0 os0 : Nat} : ∀ (m p : Nat) (c : List (Nat × Nat)) (I : am_I) (n : Nat), rX K V T I G → rfr I0 I → rG4 I0 I d sz0 os0 p c → p ≤ T → sz0 + s_el c ≤ 2 * p → os0 + s_nn c ≤ p → 401 < m + p → m < n → ∃ (v : Int32) (I' : am_I), L_X14_isTest_79 (PG_X14_isTest n0) n 0 I G = some (v, I', G) ∧ (v = 0 ∨ v = 1) ∧ rfr I0 I' ∧ rQ I0 I' d sz0 os0 (sp_lp (sp K V n0 1 d) o_or K m p c) v := by
  intro m
  induction m with
  | zero => intro p c I n hX hf hg hp; have := hX.1.1; omega
  | succ m ih =>
    intro p c I n hX hf hg hp hsz hos hm hn
    have hT := hX.1.1
    obtain ⟨n, rfl⟩ : ∃ n', n = n' + 1 := ⟨n - 1, by omega⟩
    have h9 := hg.1.1
    rw [L_X14_isTest_79_0, rg_pos (r_q3 h9 (by omega) _)]
    unfold sp_lp
    by_cases ho : o_or (K p) = true
    · have hk : K p = 21 := by simpa [o_or] using ho
      have hlt := hX.1.lt hp (by omega)
      obtain ⟨u1, u2⟩ := r_eat1 (G := G) h9 (r_isY (k := 21) (w := (21 : Int32)) hX h9 hp rfl hk)
      have g1 := hg.tk (p2 := p + 1)
      have f1 := hf.tr (r_tk (I := I) (p + 1)).1
      obtain ⟨v, I1, e1, hv, f2, q1⟩ := hM d (p + 1) (am_up I 79 9 (Int32.ofNat (p + 1))) _ _ hd hnd (hX.kept (r_tk (I := I) (p + 1)).1) g1.1 (by omega) (by omega) (by omega) (0 : Int32) (0 : Int32)
      have e1 : PG_X14_isTest n0 1 (am_up I 79 9 (Int32.ofNat (p + 1))) G (0 : Int32) (0 : Int32) = some (v, I1, G) := e1
      have hpr := sp_pr hX.1 n0 1 d (p + 1) (by omega)
      rw [u1, u2, if_neg (by decide), if_pos ho, e1, rb_go]
      cases hr : sp K V n0 1 d (p + 1) with
      | inl q =>
        obtain ⟨p', c'⟩ := q
        rw [hr] at q1 hpr
        obtain ⟨rfl, g2⟩ := q1
        have q2 := hpr.2.1
        have q3 := hpr.2.2.1
        have q4 := hpr.2.2.2
        have q5 := hpr.1
        have q6 := s_nn_le c'
        rw [sb_l rfl, if_neg (by decide)]
        have g3 := g1.tr g2
        obtain ⟨j1, j2, j3⟩ := r_put (G := G) (op := 21) (w := (21 : Int32)) g3 (f1.tr f2) (by rw [s_el_app]; omega) rfl rfl
        rw [rg_pos j1, hk]
        have e5 : s_el (c ++ c' ++ [(21, 0)]) = s_el c + s_el c' + 1 := by rw [s_el_app, s_el_app]; rfl
        have e6 : s_nn (c ++ c' ++ [(21, 0)]) = s_nn c + s_nn c' := by rw [s_nn_app, s_nn_app]; rfl
        exact ih p' _ _ n ((hX.kept ((r_tk (I := I) (p + 1)).1.tr f2)).kept (by
          have := r_put (I := I1) (J := I1) (G := G) (op := 21) (w := (21 : Int32)) (c := []) (dp := d) (p := p') (rG4.nil (g3.1) rfl rfl rfl) (rfr.rf I1) (by rw [s_el_app]; simp only [s_el]; omega) rfl rfl
          exact this.2.1)) j2 j3 q2 (by omega) (by omega) (by omega) (by omega)
      | inr q =>
        rw [hr] at q1
        obtain ⟨rfl, g2⟩ := q1
        rw [sb_r rfl, if_pos rfl]
        exact ⟨0, I1, rfl, Or.inl rfl, f1.tr f2, rfl, g2⟩
    · have hk : ¬ K p = 21 := by simpa [o_or] using ho
      obtain ⟨u1, u2⟩ := r_eat0 (G := G) (r_is0 (k := 21) (w := (21 : Int32)) hX h9 hp rfl (by omega) hk)
      rw [u1, u2, if_pos rfl, if_neg ho]
      exact ⟨1, I, rfl, Or.inr rfl, hf, rfl, hg⟩
theorem r_ch0 {n0 : Nat} (hM : rM K V T G n0 1) : rM K V T G (n0 + 1) 0 := by
  intro d p I sz os hd hnd hX hS hp hsz hos a b
  have hnd1 : nd 1 d ≤ n0 := by rw [nd_0] at hnd; rw [nd_1]; omega
  obtain ⟨v, I1, e1, hv, f1, q1⟩ := hM d p I sz os hd hnd1 hX hS hp hsz hos (0 : Int32) (0 : Int32)
  have e1 : PG_X14_isTest n0 1 I G (0 : Int32) (0 : Int32) = some (v, I1, G) := e1
  rw [show rmd 0 = 0 from rfl, PG_X14_isTest_0, sp_0]
  unfold R_X14_isTest_79 sp_ch
  rw [e1, rb_go]
  have hpr := sp_pr hX.1 n0 1 d p hp
  cases hr : sp K V n0 1 d p with
  | inl q =>
    obtain ⟨p', c'⟩ := q
    rw [hr] at q1 hpr
    obtain ⟨rfl, g2⟩ := q1
    have q6 := s_nn_le c'
    have q2 := hpr.2.1
    have q3 := hpr.2.2.1
    have q4 := hpr.2.2.2
    have q5 := hpr.1
    rw [sb_l rfl, if_neg (by decide)]
    exact r_lp0 hM hd hnd1 401 p' c' I1 FU (hX.kept f1) f1 g2 q2 (by omega) (by omega) (by omega) (by unfold FU; omega)
  | inr q =>
    rw [hr] at q1
    obtain ⟨rfl, g2⟩ := q1
    rw [sb_r rfl, if_pos rfl]
    exact ⟨0, I1, rfl, Or.inl rfl, f1, rfl, g2⟩
end RPB
