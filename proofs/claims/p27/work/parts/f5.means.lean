/-! what the lines mean -/
def nmP (C : Nat → Nat) (l : List Nat) (x n : Nat) : Prop := l.length = n ∧ ∀ j, j < n → C (l.getD j 0) = nmc x j
theorem nmc_inj {x i j : Nat} (h : nmc x i = nmc x j) : i = j := by unfold nmc at h; omega
theorem fnd_y {C : Nat → Nat} {x a : Nat} : ∀ {l : List Nat} {s j0 k : Nat}, (∀ j, j < l.length → C (l.getD j 0) = nmc x (s + j)) → k < l.length → C a = nmc x (s + k) → fnd C a l j0 = some (j0 + k)
  | [], _, _, k, _, hk, _ => absurd hk (Nat.not_lt_zero k)
  | b :: l, s, j0, k, h, hk, ha => by
    have hb : C b = nmc x (s + 0) := h 0 (by simp)
    unfold fnd
    cases k with
    | zero => rw [if_pos (by rw [hb, ha])]; rfl
    | succ k =>
      rw [if_neg (fun z => by rw [hb, ha] at z; have := nmc_inj z; omega)]
      have := fnd_y (C := C) (x := x) (a := a) (l := l) (s := s + 1) (j0 := j0 + 1) (k := k) (fun j hj => by
        have := h (j + 1) (by simp only [List.length_cons]; omega)
        rw [show s + 1 + j = s + (j + 1) by omega]; exact this) (by simp only [List.length_cons] at hk; omega) (by rw [show s + 1 + k = s + (k + 1) by omega]; exact ha)
      rw [this, show j0 + 1 + k = j0 + (k + 1) by omega]
theorem fnd_n {C : Nat → Nat} {x a m : Nat} : ∀ {l : List Nat} {s j0 : Nat}, (∀ j, j < l.length → C (l.getD j 0) = nmc x (s + j)) → C a = nmc x m → s + l.length ≤ m → fnd C a l j0 = none
  | [], _, _, _, _, _ => rfl
  | b :: l, s, j0, h, ha, hm => by
    have hb : C b = nmc x (s + 0) := h 0 (by simp)
    simp only [List.length_cons] at hm
    unfold fnd
    rw [if_neg (fun z => by rw [hb, ha] at z; have := nmc_inj z; omega)]
    exact fnd_n (s := s + 1) (fun j hj => by
      have := h (j + 1) (by simp only [List.length_cons]; omega)
      rw [show s + 1 + j = s + (j + 1) by omega]; exact this) ha (by omega)
section F5
variable {K V C : Nat → Nat} {l : List Nat} {x n a k : Nat}
theorem nmP.y (h : nmP C l x n) (hk : k < n) (ha : C a = nmc x k) : fnd C a l 0 = some k := by
  have := fnd_y (C := C) (x := x) (a := a) (l := l) (s := 0) (j0 := 0) (k := k) (fun j hj => by rw [Nat.zero_add]; exact h.2 j (by rw [← h.1]; exact hj)) (by rw [h.1]; exact hk) (by rw [Nat.zero_add]; exact ha)
  rw [this, Nat.zero_add]
theorem nmP.no (h : nmP C l x n) (ha : C a = nmc x n) : fnd C a l 0 = none := fnd_n (s := 0) (fun j hj => by rw [Nat.zero_add]; exact h.2 j (by rw [← h.1]; exact hj)) ha (by rw [h.1]; omega)
theorem nmP.add (h : nmP C l x n) (ha : C a = nmc x n) : nmP C (l ++ [a]) x (n + 1) := by
  refine ⟨by rw [List.length_append, h.1]; rfl, fun j hj => ?_⟩
  by_cases c : j < n
  · have e : (l ++ [a]).getD j 0 = l.getD j 0 := by
      simp only [List.getD_eq_getElem?_getD]
      rw [List.getElem?_append_left (by rw [h.1]; exact c)]
    rw [e]; exact h.2 j c
  · obtain rfl : j = n := by omega
    have e : (l ++ [a]).getD j 0 = a := by
      simp only [List.getD_eq_getElem?_getD]
      rw [List.getElem?_append_right (by rw [h.1]; omega), h.1, Nat.sub_self]
      rfl
    rw [e]; exact ha
theorem rgE_ok {lo hi : Nat} (h1 : lo ≤ V a) (h2 : V a ≤ hi) : rgE V none a lo hi = none := if_pos ⟨h1, h2⟩
theorem nwE_ok {cap : Nat} (h : nmP C l x n) (ha : C a = nmc x n) (hn : n < cap) : eo none (nwE C l cap a) a = none := by
  unfold nwE
  rw [if_pos (h.no ha), if_pos (by rw [h.1]; exact hn)]
  rfl
/-- what has been told -/
def yP (c : Nat → Int32) (C : Nat → Nat) (no nc ni nd : Nat) (Y : sX × sO) : Prop :=
  Y.1.2.1 = none ∧ (Y.1.1.1 0 0 = pCols c ∧ Y.1.1.1 0 1 = pRows c ∧ Y.1.1.1 0 2 = no ∧ Y.1.1.1 0 3 = nc ∧ Y.1.1.1 0 4 = ni ∧ Y.1.1.1 0 5 = nd) ∧
  (∀ k, k < no → Y.1.1.1 1 k = pOct c k 0 ∧ Y.1.1.1 2 k = pOct c k 1 ∧ Y.1.1.1 3 k = pOct c k 2 ∧ Y.1.1.1 7 k = pOct c k 3) ∧
  (∀ k, k < nc → Y.1.1.1 4 k = pCmb c k 0 ∧ Y.1.1.1 5 k = pCmb c k 1 ∧ Y.1.1.1 8 k = pCmb c k 2) ∧ (∀ k, k < ni → Y.1.1.1 6 k = pLev c k) ∧
  (nmP C (Y.1.1.2 6) 111 no ∧ nmP C (Y.1.1.2 9) 99 nc ∧ nmP C (Y.1.1.2 16) 105 ni) ∧ ∀ k, k < nd → Y.2 k = oq (fun _ _ => pNi c) (pOrd c) k
theorem Lup_y {L : Nat → List Nat} {op cap : Nat} (h : (L op).length < cap) : Lup L op cap a op = L op ++ [a] := by
  unfold Lup; rw [if_pos rfl, if_pos h]
theorem Lup_n {L : Nat → List Nat} {op cap o : Nat} (h : o ≠ op) : Lup L op cap a o = L o := if_neg h
theorem l_oct' {o A D S X p : Nat} (h : sg K V C p (lOct o A D S X)) : sln K V p = .inl (p + 11, ([(3, p + 1), (4, p + 3), (5, p + 5), (6, p + 7), (7, p + 9)], none)) := by
  obtain ⟨⟨k0, -, -⟩, ⟨k1, -, -⟩, ⟨k2, -, -⟩, ⟨k3, -, -⟩, ⟨k4, -, -⟩, ⟨k5, -, -⟩, ⟨k6, -, -⟩, ⟨k7, -, -⟩, ⟨k8, -, -⟩, ⟨k9, -, -⟩, ⟨k10, -, -⟩, -⟩ := h
  have e : pts K (.inl (p + 1, [])) (lpat 2) = .inl (p + 10, [(3, p + 1), (4, p + 3), (5, p + 5), (6, p + 7), (7, p + 9)]) := by
    show stp K (stp K (stp K (stp K (stp K (stp K (stp K (stp K (stp K (.inl (p + 1, [])) (39, 3)) (3, 0)) (40, 4)) (4, 0)) (40, 5)) (5, 0)) (40, 6)) (6, 0)) (40, 7) = _
    rw [stp_y (mk_y k1 (by omega)), stp_y (mk_y k2 (by omega)), stp_y (mk_y k3 (by omega)), stp_y (mk_y k4 (by omega)), stp_y (mk_y k5 (by omega)), stp_y (mk_y k6 (by omega)), stp_y (mk_y k7 (by omega)), stp_y (mk_y k8 (by omega)), stp_y (mk_y k9 (by omega))]
    rfl
  unfold sln sl1
  rw [if_pos (Or.inr (Or.inl k0)), k0, e]
  show (if K (p + 10) = 28 then _ else _) = _
  rw [if_pos k10]
theorem l_pap' {A B p : Nat} (h : sg K V C p (lPap A B)) : sln K V p = .inl (p + 5, ([(1, p + 1), (2, p + 3)], none)) := by
  obtain ⟨⟨k0, -, -⟩, ⟨k1, -, -⟩, ⟨k2, -, -⟩, ⟨k3, -, -⟩, ⟨k4, -, -⟩, -⟩ := h
  have e : pts K (.inl (p + 1, [])) (lpat 0) = .inl (p + 4, [(1, p + 1), (2, p + 3)]) := by
    show stp K (stp K (stp K (.inl (p + 1, [])) (40, 1)) (1, 0)) (40, 2) = _
    rw [stp_y (mk_y k1 (by omega)), stp_y (mk_y k2 (by omega)), stp_y (mk_y k3 (by omega))]
    rfl
  unfold sln sl1
  rw [if_pos (Or.inl k0), k0, e]
  show (if K (p + 4) = 28 then _ else _) = _
  rw [if_pos k4]
theorem l_cmb' {i w t u p : Nat} (h : sg K V C p (lCmb i w t u)) : sln K V p = .inl (p + 8, ([(8, p + 1), (9, p + 2), (10, p + 4), (11, p + 6)], none)) := by
  obtain ⟨⟨k0, -, -⟩, ⟨k1, -, -⟩, ⟨k2, -, -⟩, ⟨k3, -, -⟩, ⟨k4, -, -⟩, ⟨k5, -, -⟩, ⟨k6, -, -⟩, ⟨k7, -, -⟩, -⟩ := h
  have m2 : if (100 : Nat) = 100 then (K (p + 1 + 1) = 3 ∨ K (p + 1 + 1) = 4) else K (p + 1 + 1) = 100 := by
    rw [if_pos rfl, k2]; split
    · exact Or.inr rfl
    · exact Or.inl rfl
  have e : pts K (.inl (p + 1, [])) (lpat 7) = .inl (p + 7, [(8, p + 1), (9, p + 2), (10, p + 4), (11, p + 6)]) := by
    show stp K (stp K (stp K (stp K (stp K (stp K (.inl (p + 1, [])) (39, 8)) (100, 9)) (8, 0)) (40, 10)) (9, 0)) (40, 11) = _
    rw [stp_y (mk_y k1 (by omega)), stp_y m2, stp_y (mk_y k3 (by omega)), stp_y (mk_y k4 (by omega)), stp_y (mk_y k5 (by omega)), stp_y (mk_y k6 (by omega))]
    rfl
  unfold sln sl1
  rw [if_pos (Or.inr (Or.inr (Or.inl k0))), k0, e]
  show (if K (p + 7) = 28 then _ else _) = _
  rw [if_pos k7]
theorem l_lev' {k v p : Nat} (h : sg K V C p (lLev k v)) : sln K V p = .inl (p + 5, ([(12, p + 1), (13, p + 3)], none)) := by
  obtain ⟨⟨k0, -, -⟩, ⟨k1, -, -⟩, ⟨k2, -, -⟩, ⟨k3, -, -⟩, ⟨k4, -, -⟩, -⟩ := h
  have e : pts K (.inl (p + 1, [])) (lpat 10) = .inl (p + 4, [(12, p + 1), (13, p + 3)]) := by
    show stp K (stp K (stp K (.inl (p + 1, [])) (39, 12)) (11, 0)) (40, 13) = _
    rw [stp_y (mk_y k1 (by omega)), stp_y (mk_y k2 (by omega)), stp_y (mk_y k3 (by omega))]
    rfl
  unfold sln sl1
  rw [if_pos (Or.inr (Or.inr (Or.inr k0))), k0, e]
  show (if K (p + 4) = 28 then _ else _) = _
  rw [if_pos k4]
/-- an order: its head, sum and test -/
theorem l_ord' {kd x ks a kt b n p : Nat} (hk : kd < 4) (hs : ks < 5) (ht : kt < 5) (hz : (kd = 0 ∨ kd = 3) → ¬ kt = 0) (h : sg K V C p (lHd kd x ++ (lSum ks a n ++ (lTst kt b n ++ [(28, 0)])))) : sln K V p = .inl (p + (lHd kd x ++ (lSum ks a n ++ (lTst kt b n ++ [(28, 0)]))).length, ([(14, p), (hrl (if kd = 0 then 9 else if kd = 3 then 6 else 12), p + 1)] ++ s_im (uS ks a (p + 3)) ++ s_im (uT kt b (p + 3 + (lSum ks a n).length + 1)), some (uS ks a (p + 3), uT kt b (p + 3 + (lSum ks a n).length + 1)))) := by
  obtain ⟨h1, h2⟩ := sg_app h
  obtain ⟨h3, h4⟩ := sg_app h2
  obtain ⟨h5, ⟨k28, -, -⟩, -⟩ := sg_app h4
  have hl3 : (lHd kd x).length = 3 := by
    unfold lHd
    split
    · rfl
    · split
      · rfl
      · split <;> rfl
  rw [hl3] at h3 h5 k28
  have hlen : p + (lHd kd x ++ (lSum ks a n ++ (lTst kt b n ++ [(28, 0)]))).length = p + 3 + (lSum ks a n).length + (lTst kt b n).length + 1 := by
    simp only [List.length_append, hl3, List.length_cons, List.length_nil]; omega
  have hend : K (p + 3 + (lSum ks a n).length) = 14 ∨ K (p + 3 + (lSum ks a n).length) = 28 := by
    by_cases c : kt = 0
    · rw [c] at k28
      exact Or.inr k28
    · exact Or.inl (p_tst ht c h5 k28).1
  have eS := p_sum hs h3 hend
  have head : K p = (if kd = 0 then 9 else if kd = 3 then 6 else 12) ∧ pts K (.inl (p + 1, [(14, p)])) (hpat (if kd = 0 then 9 else if kd = 3 then 6 else 12)) = .inl (p + 3, [(14, p), (hrl (if kd = 0 then 9 else if kd = 3 then 6 else 12), p + 1)]) := by
    rcases (by omega : kd = 0 ∨ kd = 3 ∨ kd = 1 ∨ kd = 2) with rfl | rfl | rfl | rfl
    · obtain ⟨⟨k0, -, -⟩, ⟨k1, -, -⟩, ⟨k2, -, -⟩, -⟩ := h1
      refine ⟨k0, ?_⟩
      show stp K (stp K (.inl (p + 1, [(14, p)])) (39, 15)) (13, 0) = _
      rw [stp_y (mk_y k1 (by omega)), stp_y (mk_y k2 (by omega))]
      rfl
    · obtain ⟨⟨k0, -, -⟩, ⟨k1, -, -⟩, ⟨k2, -, -⟩, -⟩ := h1
      refine ⟨k0, ?_⟩
      show stp K (stp K (.inl (p + 1, [(14, p)])) (39, 16)) (13, 0) = _
      rw [stp_y (mk_y k1 (by omega)), stp_y (mk_y k2 (by omega))]
      rfl
    · obtain ⟨⟨k0, -, -⟩, ⟨k1, -, -⟩, ⟨k2, -, -⟩, -⟩ := h1
      refine ⟨k0, ?_⟩
      have m1 : if (100 : Nat) = 100 then (K (p + 1) = 3 ∨ K (p + 1) = 4) else K (p + 1) = 100 := Or.inl k1
      show stp K (stp K (.inl (p + 1, [(14, p)])) (100, 17)) (1, 0) = _
      rw [stp_y m1, stp_y (mk_y k2 (by omega))]
      rfl
    · obtain ⟨⟨k0, -, -⟩, ⟨k1, -, -⟩, ⟨k2, -, -⟩, -⟩ := h1
      refine ⟨k0, ?_⟩
      have m1 : if (100 : Nat) = 100 then (K (p + 1) = 3 ∨ K (p + 1) = 4) else K (p + 1) = 100 := Or.inr k1
      show stp K (stp K (.inl (p + 1, [(14, p)])) (100, 17)) (1, 0) = _
      rw [stp_y m1, stp_y (mk_y k2 (by omega))]
      rfl
  obtain ⟨k0, eH⟩ := head
  have g1 : ¬ (K p = 0 ∨ K p = 2 ∨ K p = 7 ∨ K p = 10) := by
    rw [k0]; split
    · omega
    · split <;> omega
  have g2 : K p = 9 ∨ K p = 6 ∨ K p = 12 := by
    rw [k0]; split
    · omega
    · split <;> omega
  unfold sln sl1
  rw [if_neg g1, if_pos g2, k0, eH]
  show semi K (so2 K V _ (p + 3) _) = _
  unfold so2
  rw [eS]
  dsimp only
  by_cases c : kt = 0
  · have hkd : (if kd = 0 then 9 else if kd = 3 then 6 else 12) = 12 := by
      rw [if_neg (fun z => hz (Or.inl z) c), if_neg (fun z => hz (Or.inr z) c)]
    rw [c] at k28 hlen ⊢
    have k28' : K (p + 3 + (lSum ks a n).length) = 28 := k28
    rw [if_neg (by omega), if_pos hkd]
    show (if K (p + 3 + (lSum ks a n).length) = 28 then _ else _) = _
    rw [if_pos k28', hlen]
    show _ = Sum.inl (p + 3 + (lSum ks a n).length + 0 + 1, (_ ++ s_im [], some (_, [])))
    rw [show s_im [] = [] from rfl, List.append_nil]
  · obtain ⟨t1, t2⟩ := p_tst ht c h5 k28
    rw [if_pos t1, t2]
    show (if K (p + 3 + (lSum ks a n).length + (lTst kt b n).length) = 28 then _ else _) = _
    rw [if_pos k28, hlen]
end F5
