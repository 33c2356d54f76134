/-! orders are right: kinds, targets, types -/
section ROK
variable {K V C : Nat → Nat} {T : Nat}
theorem xl1 {X : sX} {r a : Nat} (hx : xl X) (h1 : 1 ≤ r) (h2 : r ≤ 20) (he : (it K V C X (r, a)).2.1 = none) : xl (it K V C X (r, a)) := by
  obtain ⟨⟨x1, x1b⟩, ⟨x2, x2b⟩, ⟨x3, x3b⟩, x4⟩ := hx
  rcases (show r = 1 ∨ r = 2 ∨ r = 3 ∨ r = 4 ∨ r = 5 ∨ r = 6 ∨ r = 7 ∨ r = 8 ∨ r = 9 ∨ r = 10 ∨ r = 11 ∨ r = 12 ∨ r = 13 ∨ r = 14 ∨ r = 15 ∨ r = 16 ∨ r = 17 ∨ r = 18 ∨ r = 19 ∨ r = 20 by omega) with rfl | rfl | rfl | rfl | rfl | rfl | rfl | rfl | rfl | rfl | rfl | rfl | rfl | rfl | rfl | rfl | rfl | rfl | rfl | rfl
  case inr.inr.inl =>
    rw [it_3] at he ⊢
    obtain ⟨_, hlt⟩ := nwE_0 (eo_n he).2
    refine ⟨⟨?_, ?_⟩, ⟨?_, ?_⟩, ⟨?_, ?_⟩, ?_⟩ <;> dsimp only
    · rw [am_up_self, Lup_s hlt, x1]
    · rw [am_up_self]; omega
    · rw [up_in, if_neg (by omega), Lup_o (by omega)]; exact x2
    · rw [up_in, if_neg (by omega)]; exact x2b
    · rw [up_in, if_neg (by omega), Lup_o (by omega)]; exact x3
    · rw [up_in, if_neg (by omega)]; exact x3b
    · rw [up_in, if_neg (by omega)]; exact x4
  case inr.inr.inr.inr.inr.inr.inr.inl =>
    rw [it_8] at he ⊢
    obtain ⟨_, hlt⟩ := nwE_0 (eo_n he).2
    refine ⟨⟨?_, ?_⟩, ⟨?_, ?_⟩, ⟨?_, ?_⟩, ?_⟩ <;> dsimp only
    · rw [up_in, if_neg (by omega), Lup_o (by omega)]; exact x1
    · rw [up_in, if_neg (by omega)]; exact x1b
    · rw [am_up_self, Lup_s hlt, x2]
    · rw [am_up_self]; omega
    · rw [up_in, if_neg (by omega), Lup_o (by omega)]; exact x3
    · rw [up_in, if_neg (by omega)]; exact x3b
    · rw [up_in, if_neg (by omega)]; exact x4
  case inr.inr.inr.inr.inr.inr.inr.inr.inr.inr.inr.inl =>
    rw [it_12] at he ⊢
    obtain ⟨_, hlt⟩ := nwE_0 (eo_n he).2
    refine ⟨⟨?_, ?_⟩, ⟨?_, ?_⟩, ⟨?_, ?_⟩, ?_⟩ <;> dsimp only
    · rw [up_in, if_neg (by omega), Lup_o (by omega)]; exact x1
    · rw [up_in, if_neg (by omega)]; exact x1b
    · rw [up_in, if_neg (by omega), Lup_o (by omega)]; exact x2
    · rw [up_in, if_neg (by omega)]; exact x2b
    · rw [am_up_self, Lup_s hlt, x3]
    · rw [am_up_self]; omega
    · rw [up_in, if_neg (by omega)]; exact x4
  case inr.inr.inr.inr.inr.inr.inr.inr.inr.inr.inr.inr.inr.inl =>
    rw [it_14] at he ⊢
    have h20 : X.1.1 0 5 < 20 := by
      have := (eo_n he).2
      by_cases h : X.1.1 0 5 < 20
      · exact h
      · rw [if_neg h] at this; omega
    refine ⟨⟨?_, ?_⟩, ⟨?_, ?_⟩, ⟨?_, ?_⟩, ?_⟩ <;> dsimp only
    · rw [up_in, if_neg (by omega)]; exact x1
    · rw [up_in, if_neg (by omega)]; exact x1b
    · rw [up_in, if_neg (by omega)]; exact x2
    · rw [up_in, if_neg (by omega)]; exact x2b
    · rw [up_in, if_neg (by omega)]; exact x3
    · rw [up_in, if_neg (by omega)]; exact x3b
    · rw [am_up_self]; omega
  all_goals
    refine ⟨⟨?_, ?_⟩, ⟨?_, ?_⟩, ⟨?_, ?_⟩, ?_⟩
    · first | exact x1 | (rw [it_1]; exact x1) | (rw [it_2]; exact x1)
    · first | exact x1b | (rw [it_1]; exact x1b) | (rw [it_2]; exact x1b)
    · first | exact x2 | (rw [it_1]; exact x2) | (rw [it_2]; exact x2)
    · first | exact x2b | (rw [it_1]; exact x2b) | (rw [it_2]; exact x2b)
    · first | exact x3 | (rw [it_1]; exact x3) | (rw [it_2]; exact x3)
    · first | exact x3b | (rw [it_1]; exact x3b) | (rw [it_2]; exact x3b)
    · first | exact x4 | (rw [it_1]; exact x4) | (rw [it_2]; exact x4)
theorem cu_if {c : Prop} [Decidable c] {y z : sX} {i w : Nat} (h1 : w ≤ y.1.1 0 i) (h2 : w ≤ z.1.1 0 i) : w ≤ (if c then y else z).1.1 0 i := by
  split
  · exact h1
  · exact h2
/-- counts never fall -/
theorem it_up (X : sX) (q : Nat × Nat) {i : Nat} (hi : i = 2 ∨ i = 3 ∨ i = 4) : X.1.1 0 i ≤ (it K V C X q).1.1 0 i := by
  rcases hi with rfl | rfl | rfl <;>
  · unfold it
    repeat' apply cu_if
    all_goals first
      | exact Nat.le_refl _
      | exact Nat.le_succ _
      | (dsimp only; rw [up_in, if_neg (by omega)]; done)
      | (dsimp only; rw [up_in, if_neg (by omega)]; exact Nat.le_refl _)
      | (dsimp only; rw [up_row _ _ _ (by omega)]; done)
      | (dsimp only; rw [up_row _ _ _ (by omega)]; exact Nat.le_refl _)
      | (dsimp only; rw [am_up_self]; exact Nat.le_succ _)
theorem its_up {i : Nat} (hi : i = 2 ∨ i = 3 ∨ i = 4) : ∀ (l : List (Nat × Nat)) (X : sX), X.1.1 0 i ≤ (its K V C l X).1.1 0 i
  | [], _ => Nat.le_refl _
  | q :: l, X => Nat.le_trans (it_up X q hi) (its_up hi l (it K V C X q))
theorem xls : ∀ (l : List (Nat × Nat)) (X : sX), xl X → wfI K V C X l → (its K V C l X).2.1 = none → xl (its K V C l X)
  | [], _, h, _, _ => h
  | (r, a) :: l, X, h, hw, he => by
    have he : (its K V C l (it K V C X (r, a))).2.1 = none := he
    have he1 : (it K V C X (r, a)).2.1 = none := by
      cases hx : (it K V C X (r, a)).2.1 with
      | none => rfl
      | some y => rw [its_some l _ hx] at he; cases he
    have hw1 : iw K X (r, a) := hw.1
    exact xls l _ (xl1 h hw1.2.2.2.2.2.2.2.2.1 hw1.2.2.2.2.2.2.2.2.2 he1) hw.2 he
theorem nmL_ok {L : Nat → List Nat} {pp : sP} (h6 : (L 6).length ≤ pp 0 2) (h9 : (L 9).length ≤ pp 0 3) (h16 : (L 16).length ≤ pp 0 4) : nm_ok pp (nmL C L) := by
  intro a k
  unfold nmL
  refine ⟨fun h => ?_, fun h => ?_, fun h => ?_, fun h => ?_⟩
  · rw [if_pos (show (9 : Nat) = 6 ∨ (9 : Nat) = 9 ∨ (9 : Nat) = 16 by omega)] at h
    have := fnd_lt C a _ 0 k h
    omega
  · rw [if_pos (show (6 : Nat) = 6 ∨ (6 : Nat) = 9 ∨ (6 : Nat) = 16 by omega)] at h
    have := fnd_lt C a _ 0 k h
    omega
  · rw [if_pos (show (16 : Nat) = 6 ∨ (16 : Nat) = 9 ∨ (16 : Nat) = 16 by omega)] at h
    have := fnd_lt C a _ 0 k h
    omega
  · rw [if_neg (show ¬ ((18 : Nat) = 6 ∨ (18 : Nat) = 9 ∨ (18 : Nat) = 16) by omega), if_pos rfl] at h
    have := fnd_lt C a _ 0 k h
    omega
/-- the orders told are right -/
def oOK (Y : sX × sO) : Prop := Y.1.2.1 = none → xl Y.1 ∧ ∀ k, k < Y.1.1.1 0 5 → ∀ pp : sP, (Y.1.1.1 0 2 ≤ pp 0 2 ∧ Y.1.1.1 0 3 ≤ pp 0 3 ∧ Y.1.1.1 0 4 ≤ pp 0 4) → o_ok1 pp (Y.2 k)
theorem o_step (hk : k_ok K V T) {p p2 : Nat} {Y : sX × sO} {x : List (Nat × Nat) × Option (List (Nat × Nat) × List (Nat × Nat))} (hp : p ≤ T) (hs : sl1 K V p = .inl (p2, x)) (h : oOK Y) : oOK (sXo K V C Y (p, x)) := by
  obtain ⟨l, o⟩ := x
  have hlF := f_line (C := C) hk hp hs
  intro hz
  have hE : (its K V C l Y.1).2.1 = none := hz
  clear hz
  have he0 : Y.1.2.1 = none := by
    cases hy : Y.1.2.1 with
    | none => rfl
    | some y => rw [its_some l _ hy] at hE; cases hE
  obtain ⟨a1, a2⟩ := h he0
  have hxl := xls l Y.1 a1 (hlF.1 Y.1) hE
  refine ⟨hxl, ?_⟩
  have u2 := its_up (K := K) (V := V) (C := C) (i := 2) (by omega) l Y.1
  have u3 := its_up (K := K) (V := V) (C := C) (i := 3) (by omega) l Y.1
  have u4 := its_up (K := K) (V := V) (C := C) (i := 4) (by omega) l Y.1
  rcases sl1_sh hk hp hs with ⟨rfl, h13⟩ | ⟨c1, c2, rfl, hkd, rfl, k1, k2, p1, p3, hr1, hp1, hc2⟩
  · intro k hkk pp hpp
    have hkk : k < (its K V C l Y.1).1.1 0 5 := hkk
    have hpp : (its K V C l Y.1).1.1 0 2 ≤ pp 0 2 ∧ (its K V C l Y.1).1.1 0 3 ≤ pp 0 3 ∧ (its K V C l Y.1).1.1 0 4 ≤ pp 0 4 := hpp
    rw [its_p5 l _ (fun q hq => by have := h13 q hq; omega)] at hkk
    exact a2 k hkk pp ⟨by omega, by omega, by omega⟩
  · intro k hkk pp hpp
    have hkk : k < (its K V C ([(14, p), (hrl (K p), p + 1)] ++ s_im c1 ++ s_im c2) Y.1).1.1 0 5 := hkk
    have hpp : (its K V C ([(14, p), (hrl (K p), p + 1)] ++ s_im c1 ++ s_im c2) Y.1).1.1 0 2 ≤ pp 0 2 ∧ (its K V C ([(14, p), (hrl (K p), p + 1)] ++ s_im c1 ++ s_im c2) Y.1).1.1 0 3 ≤ pp 0 3 ∧ (its K V C ([(14, p), (hrl (K p), p + 1)] ++ s_im c1 ++ s_im c2) Y.1).1.1 0 4 ≤ pp 0 4 := hpp
    have hq : Y.1.1.1 0 2 ≤ pp 0 2 ∧ Y.1.1.1 0 3 ≤ pp 0 3 ∧ Y.1.1.1 0 4 ≤ pp 0 4 := ⟨by omega, by omega, by omega⟩
    clear hpp u2 u3 u4 hxl
    have eod : (sXo K V C Y (p, ([(14, p), (hrl (K p), p + 1)] ++ s_im c1 ++ s_im c2, some (c1, c2)))).2 k = if k = Y.1.1.1 0 5 then ((K p, otg K C Y.1.1.2 (K p) p), (c1.map (s_rs (nmL C Y.1.1.2)), c2.map (s_rs (nmL C Y.1.1.2)))) else Y.2 k := rfl
    rw [eod]
    obtain ⟨kd, hkdd⟩ : ∃ kd, kd = K p := ⟨_, rfl⟩
    rw [← hkdd] at hkd hE hlF hkk ⊢
    have hX1 := x_hd (K := K) (V := V) (C := C) (X := Y.1) (p := p) hkd
    obtain ⟨i1, i2⟩ := its_im (K := K) (V := V) (C := C) c1 (its K V C [(14, p), (hrl kd, p + 1)] Y.1)
    obtain ⟨i3, i4⟩ := its_im (K := K) (V := V) (C := C) c2 (its K V C (s_im c1) (its K V C [(14, p), (hrl kd, p + 1)] Y.1))
    have eL : (its K V C [(14, p), (hrl kd, p + 1)] Y.1).1.2 = Y.1.1.2 := by rw [hX1]
    have e0 : its K V C ([(14, p), (hrl kd, p + 1)] ++ s_im c1 ++ s_im c2) Y.1 = its K V C (s_im c2) (its K V C (s_im c1) (its K V C [(14, p), (hrl kd, p + 1)] Y.1)) := by rw [its_app, its_app]
    have e15 : (its K V C ([(14, p), (hrl kd, p + 1)] ++ s_im c1 ++ s_im c2) Y.1).1 = (am_up Y.1.1.1 0 5 (Y.1.1.1 0 5 + 1), Y.1.1.2) := by rw [e0, i3, i1, hX1]
    rw [e0, i4, i1, i2, eL] at hE
    obtain ⟨he1, al2⟩ := fe_al _ _ hE
    obtain ⟨he2, al1⟩ := fe_al _ _ he1
    rw [e15] at hkk
    dsimp only at hkk
    rw [am_up_self] at hkk
    by_cases hkn : k = Y.1.1.1 0 5
    · rw [if_pos hkn]
      have hn : nm_ok pp (nmL C Y.1.1.2) := nmL_ok (by have := a1.1.1; omega) (by have := a1.2.1.1; omega) (by have := a1.2.2.1.1; omega)
      refine ⟨?_, ?_, ?_⟩
      · show (kd = 9 ∧ otg K C Y.1.1.2 kd p < pp 0 3) ∨ (kd = 6 ∧ otg K C Y.1.1.2 kd p < pp 0 2) ∨ (kd = 12 ∧ otg K C Y.1.1.2 kd p ≤ 1)
        clear hkdd
        rcases hkd with rfl | rfl | rfl
        · have he2 : eo (it K V C Y.1 (14, p)).2.1 (if nmL C Y.1.1.2 9 (p + 1) = none then 3 else 0) (p + 1) = none := he2
          have hne := (eo_n he2).2
          refine Or.inl ⟨rfl, ?_⟩
          unfold otg
          rw [if_neg (show ¬ (9 : Nat) = 12 by omega)]
          cases hj : nmL C Y.1.1.2 9 (p + 1) with
          | none => rw [if_pos hj] at hne; omega
          | some j => exact (hn (p + 1) j).1 hj
        · have he2 : eo (it K V C Y.1 (14, p)).2.1 (if nmL C Y.1.1.2 6 (p + 1) = none then 3 else 0) (p + 1) = none := he2
          have hne := (eo_n he2).2
          refine Or.inr (Or.inl ⟨rfl, ?_⟩)
          unfold otg
          rw [if_neg (show ¬ (6 : Nat) = 12 by omega)]
          cases hj : nmL C Y.1.1.2 6 (p + 1) with
          | none => rw [if_pos hj] at hne; omega
          | some j => exact (hn (p + 1) j).2.1 hj
        · have hw : wfI K V C Y.1 ((14, p) :: (17, p + 1) :: (s_im c1 ++ s_im c2)) := hlF.1 Y.1
          have hw2 : iw K (it K V C Y.1 (14, p)) (17, p + 1) := hw.2.1
          have h34 : K (p + 1) = 3 ∨ K (p + 1) = 4 := hw2.2.2.1 (Or.inr rfl)
          refine Or.inr (Or.inr ⟨rfl, ?_⟩)
          unfold otg
          rw [if_pos rfl]
          omega
      · have f1 := sp_ind hk (s_ty_ok (nm := nmL C Y.1.1.2) hk hn) GDN 3 0 p1 (by omega) hp1
        rw [hr1] at f1
        exact f1 al1 []
      · rcases hc2 with rfl | ⟨p4, hr2, hp4⟩
        · exact Or.inl rfl
        · refine Or.inr ?_
          have f2 := sp_ind hk (s_ty_ok (nm := nmL C Y.1.1.2) hk hn) GDN 0 0 (p3 + 1) (by omega) hp4
          rw [hr2] at f2
          exact f2 al2 []
    · rw [if_neg hkn]
      exact a2 k (by omega) pp hq
theorem o_acc (hk : k_ok K V T) {Y0 : sX × sO} : ∀ (m p : Nat) (acc : List lnT) (q : Nat) (a : List lnT), p ≤ T → oOK (sXs K V C acc Y0) → sLs K V m p acc = .inl (q, a) → oOK (sXs K V C a Y0)
  | 0, p, acc, q, a, _, _, h => by cases h
  | m + 1, p, acc, q, a, hp, hl, h => by
    unfold sLs at h
    by_cases h41 : K p = 41
    · rw [if_pos h41] at h
      cases h
      exact hl
    · rw [if_neg h41] at h
      cases hs : sln K V p with
      | inr t => rw [hs] at h; cases h
      | inl z =>
        obtain ⟨p', x⟩ := z
        rw [hs] at h
        obtain ⟨p2, e1, e2, e3⟩ := sln_lt hs
        have h3 := sl1_lt hk hp e3
        have hlt := hk.lt h3.2 (by omega)
        have hst := o_step (C := C) hk hp e3 hl
        have eY : sXs K V C (acc ++ [(p, x)]) Y0 = sXo K V C (sXs K V C acc Y0) (p, x) := by
          unfold sXs
          rw [List.foldl_append]
          rfl
        refine o_acc hk m p' (acc ++ [(p, x)]) q a (by omega) ?_ h
        rw [eY]
        exact hst
end ROK
