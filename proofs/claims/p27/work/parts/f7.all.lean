/-! orders; the whole list is read -/
section F7
variable {K V C : Nat → Nat} {c : Nat → Int32} {L : Nat → List Nat} {no n : Nat}
theorem nm_19 {a k : Nat} (h : nmP C (L 16) 105 n) (hk : k < n) (ha : C a = nmc 105 k) : okn C L (19, a) ∧ s_rs (nmL C L) (16, a) = (16, k) ∧ s_rs (nmL C L) (18, a) = (18, k) := by
  have e : nmL C L 16 a = some k := (show nmL C L 16 a = fnd C a (L 16) 0 from rfl).trans (h.y hk ha)
  have e2 : nmL C L 18 a = some k := (show nmL C L 18 a = fnd C a (L 16) 0 from rfl).trans (h.y hk ha)
  refine ⟨Or.inr (Or.inr (Or.inl ⟨rfl, by show nmL C L 16 a ≠ none; rw [e]; intro z; cases z⟩)), ?_, ?_⟩
  · show (16, (nmL C L 16 a).getD 0) = _
    rw [e]; rfl
  · show (18, (nmL C L 18 a).getD 0) = _
    rw [e2]; rfl
theorem nm_20 {a k : Nat} (h : nmP C (L 6) 111 no) (hk : k < no) (ha : C a = nmc 111 k) : okn C L (20, a) ∧ s_rs (nmL C L) (6, a) = (6, k) := by
  have e : nmL C L 6 a = some k := (show nmL C L 6 a = fnd C a (L 6) 0 from rfl).trans (h.y hk ha)
  refine ⟨Or.inr (Or.inl ⟨Or.inr rfl, by show nmL C L 6 a ≠ none; rw [e]; intro z; cases z⟩), ?_⟩
  show (6, (nmL C L 6 a).getD 0) = _
  rw [e]; rfl
theorem uS_ok {k a p : Nat} (hk : k < 5) (h16 : nmP C (L 16) 105 n) (h6 : nmP C (L 6) 111 no) (hn : 1 ≤ n) (hno : 1 ≤ no) (h : sg K V C p (lSum k a n)) : (∀ q ∈ s_im (uS k a p), okn C L q) ∧ (uS k a p).map (s_rs (nmL C L)) = oS k a n := by
  rcases (by omega : k = 0 ∨ k = 1 ∨ k = 2 ∨ k = 3 ∨ k = 4) with rfl | rfl | rfl | rfl | rfl
  · exact ⟨fun q hq => absurd (show q ∈ ([] : List (Nat × Nat)) from hq) List.not_mem_nil, rfl⟩
  · exact ⟨fun q hq => absurd (show q ∈ ([] : List (Nat × Nat)) from hq) List.not_mem_nil, rfl⟩
  · obtain ⟨-, ⟨-, -, c1⟩, -⟩ := h
    obtain ⟨g1, g2, -⟩ := nm_19 (a := p + 1) h16 (show n - 1 < n by omega) (c1 rfl)
    refine ⟨fun q hq => ?_, ?_⟩
    · have hq : q ∈ [(19, p + 1)] := hq
      rw [List.mem_singleton] at hq
      rw [hq]; exact g1
    · show [s_rs (nmL C L) (16, p + 1), (40, a + 1), (33, 0)] = _
      rw [g2]; rfl
  · obtain ⟨-, ⟨-, -, c1⟩, -⟩ := h
    obtain ⟨g1, g2⟩ := nm_20 (a := p + 1) h6 (show 0 < no by omega) (c1 rfl)
    refine ⟨fun q hq => ?_, ?_⟩
    · have hq : q ∈ [(20, p + 1)] := hq
      rw [List.mem_singleton] at hq
      rw [hq]; exact g1
    · show [s_rs (nmL C L) (6, p + 1), (40, a), (30, 0), (40, 8), (31, 0)] = _
      rw [g2]; rfl
  · exact ⟨fun q hq => absurd (show q ∈ ([] : List (Nat × Nat)) from hq) List.not_mem_nil, rfl⟩
theorem uT_ok {k a p : Nat} (hk : k < 5) (h16 : nmP C (L 16) 105 n) (h6 : nmP C (L 6) 111 no) (hn : 1 ≤ n) (hno : 1 ≤ no) (h : sg K V C p (lTst k a n)) : (∀ q ∈ s_im (uT k a (p + 1)), okn C L q) ∧ (uT k a (p + 1)).map (s_rs (nmL C L)) = oT k a n := by
  rcases (by omega : k = 0 ∨ k = 1 ∨ k = 2 ∨ k = 3 ∨ k = 4) with rfl | rfl | rfl | rfl | rfl
  · exact ⟨fun q hq => absurd (show q ∈ ([] : List (Nat × Nat)) from hq) List.not_mem_nil, rfl⟩
  · exact ⟨fun q hq => absurd (show q ∈ ([] : List (Nat × Nat)) from hq) List.not_mem_nil, rfl⟩
  · exact ⟨fun q hq => absurd (show q ∈ ([] : List (Nat × Nat)) from hq) List.not_mem_nil, rfl⟩
  · obtain ⟨-, -, ⟨-, -, c2⟩, -⟩ := h
    obtain ⟨g1, g2, -⟩ := nm_19 (a := p + 1 + 1) h16 (show n - 1 < n by omega) (c2 rfl)
    refine ⟨fun q hq => ?_, ?_⟩
    · have hq : q ∈ [(19, p + 1 + 1)] := hq
      rw [List.mem_singleton] at hq
      rw [hq]; exact g1
    · show [s_rs (nmL C L) (16, p + 1 + 1), (40, 30 * (a + 1)), (37, 0), (15, 0), (40, 2), (36, 0), (21, 0)] = _
      rw [g2]; rfl
  · obtain ⟨-, -, -, ⟨-, -, c3⟩, -, -, ⟨-, -, c6⟩, -⟩ := h
    obtain ⟨g1, -, g2⟩ := nm_19 (a := p + 1 + 2) h16 (show n - 1 < n by omega) (c3 rfl)
    obtain ⟨g3, g4⟩ := nm_20 (a := p + 1 + 5) h6 (show 0 < no by omega) (c6 rfl)
    refine ⟨fun q hq => ?_, ?_⟩
    · have hq : q ∈ [(19, p + 1 + 2), (20, p + 1 + 5)] := hq
      rcases List.mem_cons.mp hq with hq | hq
      · rw [hq]; exact g1
      · rw [List.mem_singleton] at hq
        rw [hq]; exact g3
    · show [s_rs (nmL C L) (18, p + 1 + 2), (19, 0), s_rs (nmL C L) (6, p + 1 + 5), (40, 900), (34, 0), (20, 0)] = _
      rw [g2, g4]; rfl
theorem m_ord {Y : sX × sO} {p i : Nat} (hi : i < pNd c) (h : yP c C (pNo c) (pNc c) (pNi c) i Y) (hg : sg K V C p (lOrd c i)) : ∃ x, sln K V p = .inl (p + (lOrd c i).length, x) ∧ yP c C (pNo c) (pNc c) (pNi c) (i + 1) (sXo K V C Y (p, x)) := by
  obtain ⟨⟨w0, w1, w3⟩, w4, w5, w6, w7, w8⟩ := pW_ok c i hi
  have hno := pNo_b c
  have hni := pNi_b c
  have hnd := pNd_b c
  refine ⟨_, l_ord' w0 w4 w6 w8 hg, ?_⟩
  obtain ⟨h1, h2⟩ := sg_app hg
  obtain ⟨h3, h4⟩ := sg_app h2
  obtain ⟨h5, -⟩ := sg_app h4
  have hl3 : (lHd (pKd c i) (pOrd c i 1)).length = 3 := by
    unfold lHd
    split
    · rfl
    · split
      · rfl
      · split <;> rfl
  rw [hl3] at h3 h5
  obtain ⟨⟨⟨P, L⟩, ⟨e, m⟩⟩, od⟩ := Y
  obtain ⟨y1, ⟨y20, y21, y22, y23, y24, y25⟩, y3, y4, y5, ⟨n6, n9, n16⟩, y7⟩ := h
  dsimp only at y1 y20 y21 y22 y23 y24 y25 y3 y4 y5 n6 n9 n16 y7
  obtain ⟨s1, s2⟩ := uS_ok w4 n16 n6 hni.1 hno.1 h3
  obtain ⟨t1, t2⟩ := uT_ok w6 n16 n6 hni.1 hno.1 h5
  have hX1 : it K V C ((P, L), (e, m)) (14, p) = ((am_up P 0 5 (i + 1), L), (none, m)) := by
    rw [it_14]
    dsimp only
    rw [y1, if_pos (show P 0 5 < 20 by omega), y25]
    rfl
  have head : okn C L (hrl (if pKd c i = 0 then 9 else if pKd c i = 3 then 6 else 12), p + 1) ∧ (K p, otg K C L (K p) p) = (if pKd c i = 0 then (9, pOrd c i 1) else if pKd c i = 3 then (6, pOrd c i 1) else if pKd c i = 1 then (12, 0) else (12, 1)) := by
    rcases (by omega : pKd c i = 0 ∨ pKd c i = 3 ∨ pKd c i = 1 ∨ pKd c i = 2) with e0 | e0 | e0 | e0 <;> rw [e0] at h1 ⊢
    · obtain ⟨⟨k0, -, -⟩, ⟨-, -, c1⟩, -⟩ := h1
      have en : nmL C L 9 (p + 1) = some (pOrd c i 1) := (show nmL C L 9 (p + 1) = fnd C (p + 1) (L 9) 0 from rfl).trans (n9.y (w1 e0) (c1 rfl))
      refine ⟨Or.inl ⟨Or.inl rfl, by show nmL C L 9 (p + 1) ≠ none; rw [en]; intro z; cases z⟩, ?_⟩
      rw [k0]
      show (9, (nmL C L 9 (p + 1)).getD 0) = (9, pOrd c i 1)
      rw [en]; rfl
    · obtain ⟨⟨k0, -, -⟩, ⟨-, -, c1⟩, -⟩ := h1
      have en : nmL C L 6 (p + 1) = some (pOrd c i 1) := (show nmL C L 6 (p + 1) = fnd C (p + 1) (L 6) 0 from rfl).trans (n6.y (w3 e0) (c1 rfl))
      refine ⟨Or.inr (Or.inl ⟨Or.inl rfl, by show nmL C L 6 (p + 1) ≠ none; rw [en]; intro z; cases z⟩), ?_⟩
      rw [k0]
      show (6, (nmL C L 6 (p + 1)).getD 0) = (6, pOrd c i 1)
      rw [en]; rfl
    · obtain ⟨⟨k0, -, -⟩, ⟨k1, -, -⟩, -⟩ := h1
      refine ⟨Or.inr (Or.inr (Or.inr rfl)), ?_⟩
      rw [k0]
      show (12, K (p + 1) - 3) = (12, 0)
      rw [k1]
    · obtain ⟨⟨k0, -, -⟩, ⟨k1, -, -⟩, -⟩ := h1
      refine ⟨Or.inr (Or.inr (Or.inr rfl)), ?_⟩
      rw [k0]
      show (12, K (p + 1) - 3) = (12, 1)
      rw [k1]
  obtain ⟨hd1, hd2⟩ := head
  generalize hIT : (hrl (if pKd c i = 0 then 9 else if pKd c i = 3 then 6 else 12), p + 1) = r1 at hd1 ⊢
  obtain ⟨x1, x2⟩ := its_okn (K := K) (V := V) (C := C) (r1 :: (s_im (uS (pOrd c i 2) (pOrd c i 3) (p + 3)) ++ s_im (uT (pOrd c i 4) (pOrd c i 5) (p + 3 + (lSum (pOrd c i 2) (pOrd c i 3) (pNi c)).length + 1)))) ((am_up P 0 5 (i + 1), L), (none, m)) rfl (fun q hq => by
    rcases List.mem_cons.mp hq with hq | hq
    · rw [hq]; exact hd1
    · rcases List.mem_append.mp hq with hq | hq
      · exact s1 q hq
      · exact t1 q hq)
  have eI : its K V C ([(14, p), r1] ++ s_im (uS (pOrd c i 2) (pOrd c i 3) (p + 3)) ++ s_im (uT (pOrd c i 4) (pOrd c i 5) (p + 3 + (lSum (pOrd c i 2) (pOrd c i 3) (pNi c)).length + 1))) ((P, L), (e, m)) = its K V C (r1 :: (s_im (uS (pOrd c i 2) (pOrd c i 3) (p + 3)) ++ s_im (uT (pOrd c i 4) (pOrd c i 5) (p + 3 + (lSum (pOrd c i 2) (pOrd c i 3) (pNi c)).length + 1)))) ((am_up P 0 5 (i + 1), L), (none, m)) := by
    rw [← hX1, List.append_assoc]
    rfl
  unfold sXo
  dsimp only
  rw [eI]
  generalize its K V C (r1 :: (s_im (uS (pOrd c i 2) (pOrd c i 3) (p + 3)) ++ s_im (uT (pOrd c i 4) (pOrd c i 5) (p + 3 + (lSum (pOrd c i 2) (pOrd c i 3) (pNi c)).length + 1)))) ((am_up P 0 5 (i + 1), L), (none, m)) = Z at x1 x2
  refine ⟨x2, ?_⟩
  dsimp only
  rw [x1]
  dsimp only
  refine ⟨⟨?_, ?_, ?_, ?_, ?_, ?_⟩, fun k hk => ?_, fun k hk => ?_, fun k hk => ?_, ⟨n6, n9, n16⟩, fun k hk => ?_⟩
  · simp [am_up_lit2, y20]
  · simp [am_up_lit2, y21]
  · simp [am_up_lit2, y22]
  · simp [am_up_lit2, y23]
  · simp [am_up_lit2, y24]
  · simp [am_up_lit2]
  · have := y3 k hk
    simp [am_up_lit2, this]
  · have := y4 k hk
    simp [am_up_lit2, this]
  · have := y5 k hk
    simp [am_up_lit2, this]
  · unfold odU
    dsimp only
    by_cases ck : k = i
    · rw [if_pos (show k = P 0 5 by omega), ck, hd2, s2, t2]
      rfl
    · rw [if_neg (show ¬ k = P 0 5 by omega)]
      exact y7 k (by omega)
/-- how far the list is read -/
def Pg (K V C : Nat → Nat) (T p i : Nat) (Y : sX × sO) : Prop := ∃ acc, i ≤ p ∧ sLs K V (T + 1) 0 [] = sLs K V (T + 1 - i) p acc ∧ sXs K V C acc (X0D, od0) = Y
theorem Pg.step {T p i p' : Nat} {Y : sX × sO} {x : List (Nat × Nat) × Option (List (Nat × Nat) × List (Nat × Nat))} (h : Pg K V C T p i Y) (hs : sln K V p = .inl (p', x)) (hk : ¬ K p = 41) (hp : p < p') (hT : p ≤ T) : Pg K V C T p' (i + 1) (sXo K V C Y (p, x)) := by
  obtain ⟨acc, h1, h2, h3⟩ := h
  refine ⟨acc ++ [(p, x)], by omega, ?_, ?_⟩
  · rw [h2]
    obtain ⟨n, hn⟩ : ∃ n, T + 1 - i = n + 1 := ⟨T - i, by omega⟩
    rw [hn, show T + 1 - (i + 1) = n by omega]
    show (if K p = 41 then _ else match sln K V p with
      | .inl (p', x) => sLs K V n p' (acc ++ [(p, x)])
      | .inr q => .inr q) = _
    rw [if_neg hk, hs]
  · unfold sXs
    rw [List.foldl_append]
    unfold sXs at h3
    rw [h3]
    rfl
theorem g_oct {T : Nat} : ∀ o, o ≤ 3 → sg K V C 0 (kOct c o) → (kOct c o).length ≤ T → ∃ i Y, Pg K V C T (kOct c o).length i Y ∧ yP c C o 0 0 0 Y
  | 0, _, hg, hT => by
    unfold kOct kPap at hg hT ⊢
    by_cases h : 0 < lbel (c 0) 4
    · rw [if_pos h] at hg hT ⊢
      have hp0 : Pg K V C T 0 0 (X0D, od0) := ⟨[], Nat.le_refl _, rfl, rfl⟩
      have k0 : K 0 = 0 := hg.1.1
      exact ⟨1, _, hp0.step (l_pap' hg) (by omega) (Nat.succ_pos 4) (Nat.zero_le _), m_pap (Or.inr rfl) rfl rfl rfl hg⟩
    · rw [if_neg h] at hg hT ⊢
      refine ⟨0, (X0D, od0), ⟨[], Nat.le_refl _, rfl, rfl⟩, rfl, ⟨?_, ?_, rfl, rfl, rfl, rfl⟩, fun k hk => absurd hk (Nat.not_lt_zero k), fun k hk => absurd hk (Nat.not_lt_zero k), fun k hk => absurd hk (Nat.not_lt_zero k), ⟨⟨rfl, fun k hk => absurd hk (Nat.not_lt_zero k)⟩, ⟨rfl, fun k hk => absurd hk (Nat.not_lt_zero k)⟩, ⟨rfl, fun k hk => absurd hk (Nat.not_lt_zero k)⟩⟩, fun k hk => absurd hk (Nat.not_lt_zero k)⟩
      · unfold pCols; rw [if_neg h]; rfl
      · unfold pRows; rw [if_neg h]; rfl
  | o + 1, ho, hg, hT => by
    unfold kOct at hg hT ⊢
    rw [List.length_append] at hT ⊢
    obtain ⟨h1, h2⟩ := sg_app hg
    rw [Nat.zero_add] at h2
    obtain ⟨i, Y, hP, hY⟩ := g_oct (T := T) o (by omega) h1 (by omega)
    have k0 : K (kOct c o).length = 2 := h2.1.1
    have hs := hP.step (l_oct' h2) (by omega) (by omega) (by omega)
    exact ⟨i + 1, _, hs, m_oct hY (by omega) h2⟩
theorem g_cmb {T : Nat} : ∀ j, j ≤ 3 → sg K V C 0 (kCmb c j) → (kCmb c j).length ≤ T → ∃ i Y, Pg K V C T (kCmb c j).length i Y ∧ yP c C (pNo c) j 0 0 Y
  | 0, _, hg, hT => g_oct (pNo c) (pNo_b c).2 hg hT
  | j + 1, hj, hg, hT => by
    unfold kCmb at hg hT ⊢
    rw [List.length_append] at hT ⊢
    obtain ⟨h1, h2⟩ := sg_app hg
    rw [Nat.zero_add] at h2
    obtain ⟨i, Y, hP, hY⟩ := g_cmb (T := T) j (by omega) h1 (by omega)
    have k0 : K (kCmb c j).length = 7 := h2.1.1
    have hs := hP.step (l_cmb' h2) (by omega) (by omega) (by omega)
    exact ⟨i + 1, _, hs, m_cmb hY (by omega) h2⟩
theorem g_lev {T : Nat} : ∀ j, j ≤ 4 → sg K V C 0 (kLev c j) → (kLev c j).length ≤ T → ∃ i Y, Pg K V C T (kLev c j).length i Y ∧ yP c C (pNo c) (pNc c) j 0 Y
  | 0, _, hg, hT => g_cmb (pNc c) (pNc_b c) hg hT
  | j + 1, hj, hg, hT => by
    unfold kLev at hg hT ⊢
    rw [List.length_append] at hT ⊢
    obtain ⟨h1, h2⟩ := sg_app hg
    rw [Nat.zero_add] at h2
    obtain ⟨i, Y, hP, hY⟩ := g_lev (T := T) j (by omega) h1 (by omega)
    have k0 : K (kLev c j).length = 10 := h2.1.1
    have hs := hP.step (l_lev' h2) (by omega) (by omega) (by omega)
    exact ⟨i + 1, _, hs, m_lev hY (by omega) h2⟩
theorem lOrd_1 {p i : Nat} (hg : sg K V C p (lOrd c i)) : K p ≤ 40 ∧ 0 < (lOrd c i).length := by
  have hl : 0 < (lOrd c i).length := by
    unfold lOrd
    simp only [List.length_append, List.length_cons, List.length_nil]
    omega
  refine ⟨?_, hl⟩
  obtain ⟨h1, -⟩ := sg_app hg
  unfold lHd at h1
  split at h1
  · have := h1.1.1; omega
  · split at h1
    · have := h1.1.1; omega
    · split at h1
      · have := h1.1.1; omega
      · have := h1.1.1; omega
theorem g_ord {T : Nat} : ∀ j, j ≤ pNd c → sg K V C 0 (kOrd c j) → (kOrd c j).length ≤ T → ∃ i Y, Pg K V C T (kOrd c j).length i Y ∧ yP c C (pNo c) (pNc c) (pNi c) j Y
  | 0, _, hg, hT => g_lev (pNi c) (pNi_b c).2 hg hT
  | j + 1, hj, hg, hT => by
    unfold kOrd at hg hT ⊢
    rw [List.length_append] at hT ⊢
    obtain ⟨h1, h2⟩ := sg_app hg
    rw [Nat.zero_add] at h2
    obtain ⟨i, Y, hP, hY⟩ := g_ord (T := T) j (by omega) h1 (by omega)
    obtain ⟨k0, k1⟩ := lOrd_1 h2
    obtain ⟨x, e1, e2⟩ := m_ord (show j < pNd c by omega) hY h2
    exact ⟨i + 1, _, hP.step e1 (by omega) (by omega) (by omega), e2⟩
/-- the whole list is read -/
theorem g_all {T : Nat} (hg : sg K V C 0 (kOrd c (pNd c))) (hT : (kOrd c (pNd c)).length = T) (h41 : K T = 41) : ∃ acc, sLs K V (T + 1) 0 [] = .inl (T, acc) ∧ yP c C (pNo c) (pNc c) (pNi c) (pNd c) (sXs K V C acc (X0D, od0)) := by
  obtain ⟨i, Y, ⟨acc, a1, a2, a3⟩, hY⟩ := g_ord (T := T) (pNd c) (Nat.le_refl _) hg (by omega)
  rw [hT] at a1 a2
  refine ⟨acc, ?_, by rw [a3]; exact hY⟩
  rw [a2]
  obtain ⟨n, hn⟩ : ∃ n, T + 1 - i = n + 1 := ⟨T - i, by omega⟩
  rw [hn]
  show (if K T = 41 then _ else _) = _
  rw [if_pos h41]
end F7
