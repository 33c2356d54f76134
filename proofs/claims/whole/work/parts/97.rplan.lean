/-! the reference reads a list: syntax -/
section RPL
variable {K V : Nat → Nat} {T : Nat} {G : am_G}
def lits (acc : List lnT) : List (Nat × Nat) := acc.flatMap (fun q => q.2.1)
def locs (acc : List lnT) : List (List (Nat × Nat) × List (Nat × Nat)) := acc.filterMap (fun q => q.2.2)
def cco (l : List (List (Nat × Nat) × List (Nat × Nat))) : List (Nat × Nat) := l.flatMap (fun q => q.1 ++ q.2)
def loc (acc : List lnT) (k : Nat) : List (Nat × Nat) × List (Nat × Nat) := (locs acc).getD k ([], [])
def rPl (T : Nat) (I0 I : am_I) (p : Nat) (acc : List lnT) : Prop := (rS4 I p 0 (s_el (cco (locs acc))) (s_nn (cco (locs acc))) ∧ p ≤ T ∧ s_el (cco (locs acc)) ≤ 2 * p ∧ s_nn (cco (locs acc)) ≤ p) ∧ (I 84 = s_ov (lits acc) (I0 84) ∧ I 137 = s_cw 0 (cco (locs acc)) (I0 137) ∧ I 138 = s_ow 0 0 (cco (locs acc)) (I0 138)) ∧ (I 123 14 = Int32.ofNat (locs acc).length ∧ (locs acc).length ≤ p) ∧ (∀ k, k < (locs acc).length → k < 20 → I 134 k = Int32.ofNat (s_el (cco ((locs acc).take k))) ∧ I 135 k = Int32.ofNat (s_el (cco ((locs acc).take k)) + s_el (loc acc k).1) ∧ I 136 k = Int32.ofNat (s_el (cco ((locs acc).take k)) + s_el (loc acc k).1 + s_el (loc acc k).2)) ∧ rfo I0 I
def rLn (T : Nat) (I I' : am_I) (sz os no : Nat) (r : sL) (v : Int32) : Prop := match r with
  | .inl (p', (l, some c)) => rOL T I I' sz os no (.inl (p', (l, some c))) v
  | .inl (p', (l, none)) => v = 1 ∧ rSt T I I' p' l
  | .inr q => v = 0 ∧ I' 79 9 = Int32.ofNat q ∧ q ≤ T
theorem rGo.ln {I : am_I} {E : Option (Int32 × am_I × am_G)} {r : sR} {sz os no : Nat} (h : rGo T G I E r) : ∃ (v : Int32) (I1 : am_I), E = some (v, I1, G) ∧ rfo I I1 ∧ rLn T I I1 sz os no (toL r) v ∧ (v = 0 ∨ v = 1) := by
  obtain ⟨v, I1, e, h⟩ := h
  cases r with
  | inl z =>
    obtain ⟨p, l⟩ := z
    obtain ⟨rfl, h⟩ := h
    exact ⟨1, I1, e, h.fr.o, ⟨rfl, h⟩, Or.inr rfl⟩
  | inr q =>
    obtain ⟨rfl, h1, h2, h3, h4⟩ := h
    exact ⟨0, I1, e, ⟨fun b b1 b2 b3 b4 b5 b6 b7 b8 => h3 b b1 b2, fun k k1 k2 => h4 k k1, fun k _ _ _ => by rw [h3 123 (by omega) (by omega)]⟩, ⟨rfl, h1, h2⟩, Or.inl rfl⟩
theorem so2_some {kd p1 : Nat} {l : List (Nat × Nat)} (hk : k_ok K V T) (hp : p1 ≤ T) {p' : Nat} {x : List (Nat × Nat) × Option (List (Nat × Nat) × List (Nat × Nat))} (h : so2 K V kd p1 l = .inl (p', x)) : ∃ c1 c2, x = (l ++ s_im c1 ++ s_im c2, some (c1, c2)) ∧ s_el (c1 ++ c2) ≤ 2 * (p' - p1) ∧ (c1 ++ c2).length ≤ p' - p1 ∧ sp K V GDN 3 0 p1 = .inl (if c2 = [] ∧ K p' ≠ 14 ∧ sp K V GDN 3 0 p1 = .inl (p', c1) then p' else (match sp K V GDN 3 0 p1 with | .inl (a, _) => a | .inr a => a), c1) := by
  unfold so2 at h
  have h1 := sp_pr hk GDN 3 0 p1 hp
  cases hr : sp K V GDN 3 0 p1 with
  | inr q => rw [hr] at h; cases h
  | inl z =>
    obtain ⟨p2, c1⟩ := z
    rw [hr] at h h1
    dsimp only at h
    obtain ⟨a1, a2, a3, a4⟩ := h1
    by_cases h14 : K p2 = 14
    · rw [if_pos h14] at h
      have hlt := hk.lt a2 (by omega)
      have h2 := sp_pr hk GDN 0 0 (p2 + 1) (by omega)
      cases hr2 : sp K V GDN 0 0 (p2 + 1) with
      | inr q => rw [hr2] at h; cases h
      | inl z =>
        obtain ⟨p3, c2⟩ := z
        rw [hr2] at h h2
        cases h
        obtain ⟨b1, b2, b3, b4⟩ := h2
        refine ⟨c1, c2, rfl, by rw [s_el_app]; omega, by rw [List.length_append]; omega, ?_⟩
        dsimp only
        split
        · rename_i hc; rw [← hc.2.2]
        · rfl
    · rw [if_neg h14] at h
      by_cases h12 : kd = 12
      · rw [if_pos h12] at h
        cases h
        refine ⟨c1, [], by rw [show s_im [] = [] from rfl, List.append_nil], by rw [List.append_nil]; omega, by rw [List.append_nil]; omega, ?_⟩
        dsimp only
        split <;> rfl
      · rw [if_neg h12] at h; cases h
theorem toL_none {r : sR} {p' : Nat} {x : List (Nat × Nat) × Option (List (Nat × Nat) × List (Nat × Nat))} (h : toL r = .inl (p', x)) : x.2 = none := by
  cases r with
  | inl z => obtain ⟨p, l⟩ := z; cases h; rfl
  | inr q => cases h
theorem sl1_el (hk : k_ok K V T) {p p' : Nat} {l c1 c2 : List (Nat × Nat)} (hp : p ≤ T) (h : sl1 K V p = .inl (p', (l, some (c1, c2)))) : s_el (c1 ++ c2) ≤ 2 * (p' - p) ∧ s_nn (c1 ++ c2) ≤ p' - p := by
  unfold sl1 at h
  by_cases h1 : K p = 0 ∨ K p = 2 ∨ K p = 7 ∨ K p = 10
  · rw [if_pos h1] at h
    have := toL_none h
    cases this
  · rw [if_neg h1] at h
    by_cases h2 : K p = 9 ∨ K p = 6 ∨ K p = 12
    · rw [if_pos h2] at h
      have hlt := hk.lt hp (by omega)
      cases hr : pts K (.inl (p + 1, [(14, p)])) (hpat (K p)) with
      | inr q => rw [hr] at h; cases h
      | inl z =>
        obtain ⟨p2, l2⟩ := z
        rw [hr] at h
        have hle := pts_le hk _ _ _ _ _ (hpat_ok _) (by omega) hr
        obtain ⟨a, b, c, d⟩ := pts_lt _ _ _ _ hr
        cases c
        obtain ⟨d1, d2, e1, e2, e3, _⟩ := so2_some hk hle h
        cases e1
        have := s_nn_le (c1 ++ c2)
        omega
    · rw [if_neg h2] at h; cases h
theorem cco_app (a b : List (List (Nat × Nat) × List (Nat × Nat))) : cco (a ++ b) = cco a ++ cco b := List.flatMap_append
theorem cco_1 (c1 c2 : List (Nat × Nat)) : cco [(c1, c2)] = c1 ++ c2 := by
  show (c1 ++ c2) ++ [] = _
  exact List.append_nil _
theorem lits_1 (acc : List lnT) (q : lnT) : lits (acc ++ [q]) = lits acc ++ q.2.1 := by
  unfold lits
  rw [List.flatMap_append]
  congr 1
  show q.2.1 ++ [] = _
  exact List.append_nil _
theorem locs_s (acc : List lnT) (p : Nat) (l c1 c2 : List (Nat × Nat)) : locs (acc ++ [(p, (l, some (c1, c2)))]) = locs acc ++ [(c1, c2)] := by
  unfold locs
  rw [List.filterMap_append]
  rfl
theorem locs_n (acc : List lnT) (p : Nat) (l : List (Nat × Nat)) : locs (acc ++ [(p, (l, none))]) = locs acc := by
  unfold locs
  rw [List.filterMap_append]
  exact List.append_nil _
/-- one line more -/
theorem rPl_more {I0 I I1 : am_I} (hk : k_ok K V T) {p p' : Nat} {acc : List lnT} {x : List (Nat × Nat) × Option (List (Nat × Nat) × List (Nat × Nat))} {v : Int32} (h : rPl T I0 I p acc) (hsl : sl1 K V p = .inl (p', x)) (hlt : p < p') (hL : rLn T I I1 (s_el (cco (locs acc))) (s_nn (cco (locs acc))) (locs acc).length (.inl (p', x)) v) (hf : rfo I I1) : rPl T I0 I1 p' (acc ++ [(p, x)]) := by
  obtain ⟨⟨a1, a2, a3, a4⟩, ⟨b1, b2, b3⟩, ⟨c1', c2'⟩, d1, e1⟩ := h
  obtain ⟨l, o⟩ := x
  cases o with
  | none =>
    obtain ⟨_, g1, g2, g3, g4, g5⟩ := hL
    have jr : ∀ b, b ≠ 79 → b ≠ 84 → I1 b = I b := g4
    unfold rPl loc
    rw [locs_n, lits_1]
    refine ⟨⟨⟨g1, by rw [g5 10 (by omega)]; exact a1.2.1, by rw [jr 123 (by omega) (by omega)]; exact a1.2.2.1, by rw [jr 123 (by omega) (by omega)]; exact a1.2.2.2⟩, g2, by omega, by omega⟩, ⟨by rw [g3, b1, s_ov_app], by rw [jr 137 (by omega) (by omega)]; exact b2, by rw [jr 138 (by omega) (by omega)]; exact b3⟩, ⟨by rw [jr 123 (by omega) (by omega)]; exact c1', by omega⟩, fun k k1 k2 => ?_, e1.tr hf⟩
    rw [jr 134 (by omega) (by omega), jr 135 (by omega) (by omega), jr 136 (by omega) (by omega)]
    exact d1 k k1 k2
  | some cs =>
    obtain ⟨k1, k2⟩ := cs
    obtain ⟨_, ⟨g1, g2⟩, ⟨g3, g4, g5⟩, g6, ⟨g7, g8, g9⟩, g10⟩ := hL
    obtain ⟨z1, z2⟩ := sl1_el hk (by omega) hsl
    unfold rPl loc
    rw [locs_s, lits_1, cco_app, cco_1]
    refine ⟨⟨by rw [s_el_app, s_nn_app]; exact g1, g2, by rw [s_el_app]; omega, by rw [s_nn_app]; omega⟩, ⟨by rw [g3, b1, s_ov_app], by rw [g4, b2, s_cw_app (cco (locs acc)) (k1 ++ k2), Nat.zero_add], by rw [g5, b3, s_ow_app (cco (locs acc)) (k1 ++ k2), Nat.zero_add, Nat.zero_add]⟩, ⟨by rw [g6, List.length_append]; rfl, by rw [List.length_append]; simp only [List.length_cons, List.length_nil]; omega⟩, fun k hk1 hk2 => ?_, e1.tr hf⟩
    rw [List.length_append] at hk1
    simp only [List.length_cons, List.length_nil] at hk1
    by_cases hkn : k = (locs acc).length
    · have hmin : min (locs acc).length 20 = k := by omega
      rw [hmin] at g7 g8 g9
      rw [List.take_append_of_le_length (by omega), List.take_of_length_le (by omega)]
      have eg : (locs acc ++ [(k1, k2)]).getD k ([], []) = (k1, k2) := by
        rw [List.getD_eq_getElem?_getD, List.getElem?_append_right (by omega), hkn, Nat.sub_self]
        rfl
      rw [eg]
      exact ⟨g7, g8, g9⟩
    · rw [List.take_append_of_le_length (by omega)]
      have eg : (locs acc ++ [(k1, k2)]).getD k ([], []) = (locs acc).getD k ([], []) := by
        rw [List.getD_eq_getElem?_getD, List.getElem?_append_left (by omega), ← List.getD_eq_getElem?_getD]
      rw [eg]
      have hmin : k ≠ min (locs acc).length 20 := by omega
      obtain ⟨o1, o2, o3⟩ := g10 k hmin
      rw [o1, o2, o3]
      exact d1 k (by omega) hk2
theorem r_plan {I0 : am_I} (hX0 : rX K V T I0 G) : ∀ (m p n : Nat) (I : am_I) (acc : List lnT), T + 1 ≤ p + m → m < n → rPl T I0 I p acc → ∃ (v : Int32) (I' : am_I), L_X14_isPlan_79 n 0 I G = some (v, I', G) ∧ rfo I0 I' ∧ (match sLs K V m p acc with
    | .inl (q, a) => v = 1 ∧ K q = 41 ∧ rPl T I0 I' q a
    | .inr q => v = 0 ∧ I' 79 9 = Int32.ofNat q ∧ q ≤ T) := by
  intro m
  induction m with
  | zero =>
    intro p n I acc h1 h2 h
    have := h.1.2.1
    omega
  | succ m ih =>
    intro p n I acc h1 h2 h
    obtain ⟨n, rfl⟩ : ∃ n', n = n' + 1 := ⟨n - 1, by omega⟩
    have hT := hX0.1.1
    have hpT := h.1.2.1
    have e9 := h.1.1.1
    have fI := h.2.2.2.2
    have hX := hX0.o fI
    have hk42 := hX.1.le hpT
    have hq : ∀ x, q_X14_is_79 I G x := fun x => r_q1 e9 (by omega) x
    have is0 : ∀ (k : Nat) (w : Int32), w = Int32.ofNat (rk k) → k ≤ 42 → ¬ K p = k → f_X14_is_79 I G w = 0 := fun k w hw hk hn => r_is0 hX e9 hpT hw hk hn
    have isY : ∀ (k : Nat) (w : Int32), w = Int32.ofNat (rk k) → K p = k → ¬ f_X14_is_79 I G w = 0 := fun k w hw hn => r_isY hX e9 hpT hw hn
    rw [L_X14_isPlan_79_0, rg_pos (hq _)]
    unfold sLs
    by_cases h41 : K p = 41
    · rw [if_neg (isY 41 (900 : Int32) rfl h41), if_pos h41]
      exact ⟨1, I, rfl, fI, rfl, h41, h⟩
    · rw [if_pos (is0 41 (900 : Int32) rfl (by omega) h41), if_neg h41]
      have tail : ∀ (E : Option (Int32 × am_I × am_G)), (∃ (v : Int32) (I1 : am_I), E = some (v, I1, G) ∧ rfo I I1 ∧ rLn T I I1 (s_el (cco (locs acc))) (s_nn (cco (locs acc))) (locs acc).length (sl1 K V p) v ∧ (v = 0 ∨ v = 1)) → ∃ (v : Int32) (I' : am_I), rb E (fun r101 I101 G101 => (if r101 = 0 then some ((0 : Int32), I101, G101) else rb (R_X14_eatSign_79 I101 G101 (59 : Int32)) (fun r102 I102 G102 => (if r102 = 0 then some ((0 : Int32), I102, G102) else L_X14_isPlan_79 n 0 I102 G102)))) = some (v, I', G) ∧ rfo I0 I' ∧ (match (match sln K V p with
          | .inl (p', x) => sLs K V m p' (acc ++ [(p, x)])
          | .inr q => .inr q) with
        | .inl (q, a) => v = 1 ∧ K q = 41 ∧ rPl T I0 I' q a
        | .inr q => v = 0 ∧ I' 79 9 = Int32.ofNat q ∧ q ≤ T) := by
        rintro E ⟨v, I1, eE, f1, l1, hv⟩
        rw [eE, rb_go]
        cases hs : sl1 K V p with
        | inr q =>
          rw [hs] at l1
          obtain ⟨rfl, q9, hqT⟩ := l1
          have es : sln K V p = .inr q := by unfold sln; rw [hs]; rfl
          rw [if_pos rfl, es]
          exact ⟨0, I1, rfl, fI.tr f1, rfl, q9, hqT⟩
        | inl z =>
          obtain ⟨p2, x⟩ := z
          rw [hs] at l1
          have hlt := sl1_lt hX.1 hpT hs
          have hm := rPl_more hX.1 h hs hlt.1 l1 f1
          have v1 : v = 1 := by
            obtain ⟨l, o⟩ := x
            cases o with
            | none => exact l1.1
            | some c => exact l1.1
          subst v1
          have hX1 := hX.o f1
          rw [if_neg (by decide), r_cls (k := 28) hX1 hm.1.1.1 hlt.2 rfl (by omega)]
          by_cases h28 : K p2 = 28
          · have es : sln K V p = .inl (p2 + 1, x) := by unfold sln semi; rw [hs]; exact if_pos h28
            have hlt2 := hX.1.lt hlt.2 (by omega)
            rw [if_pos h28, rb_go, if_neg (by decide), es]
            refine ih (p2 + 1) n _ (acc ++ [(p, x)]) (by omega) (by omega) ?_
            obtain ⟨⟨a1, a2, a3, a4⟩, ⟨b1, b2, b3⟩, ⟨c1', c2'⟩, d1, e1⟩ := hm
            obtain ⟨t1, t2⟩ := r_tk (I := I1) (p2 + 1)
            refine ⟨⟨⟨t2, by rw [up_in, if_neg (by omega)]; exact a1.2.1, by rw [up_row _ _ _ (by omega)]; exact a1.2.2.1, by rw [up_row _ _ _ (by omega)]; exact a1.2.2.2⟩, by omega, by omega, by omega⟩, ⟨by rw [up_row _ _ _ (by omega)]; exact b1, by rw [up_row _ _ _ (by omega)]; exact b2, by rw [up_row _ _ _ (by omega)]; exact b3⟩, ⟨by rw [up_row _ _ _ (by omega)]; exact c1', by omega⟩, fun k k1 k2 => ?_, e1.tr t1.o⟩
            rw [up_row _ _ _ (by omega), up_row _ _ _ (by omega), up_row _ _ _ (by omega)]
            exact d1 k k1 k2
          · have es : sln K V p = .inr p2 := by unfold sln semi; rw [hs]; exact if_neg h28
            rw [if_neg h28, rb_go, if_pos rfl, es]
            exact ⟨0, I1, rfl, fI.tr f1, rfl, hm.1.1.1, hlt.2⟩
      rw [rg_pos (hq _)]
      by_cases h0 : K p = 0
      · rw [if_neg (isY 0 (0 : Int32) rfl h0)]
        have hlt := hX.1.lt hpT (by omega)
        have es : sl1 K V p = toL (pts K (.inl (p + 1, [])) (lpat 0)) := by unfold sl1; rw [if_pos (Or.inl h0), h0]
        exact tail _ (by rw [es]; exact (r_lpap hX e9 hlt).ln)
      · rw [if_pos (is0 0 (0 : Int32) rfl (by omega) h0), rg_pos (hq _)]
        by_cases h2 : K p = 2
        · rw [if_neg (isY 2 (2 : Int32) rfl h2)]
          have hlt := hX.1.lt hpT (by omega)
          have es : sl1 K V p = toL (pts K (.inl (p + 1, [])) (lpat 2)) := by unfold sl1; rw [if_pos (Or.inr (Or.inl h2)), h2]
          exact tail _ (by rw [es]; exact (r_loct hX e9 hlt).ln)
        · rw [if_pos (is0 2 (2 : Int32) rfl (by omega) h2), rg_pos (hq _)]
          by_cases h7 : K p = 7
          · rw [if_neg (isY 7 (7 : Int32) rfl h7)]
            have hlt := hX.1.lt hpT (by omega)
            have es : sl1 K V p = toL (pts K (.inl (p + 1, [])) (lpat 7)) := by unfold sl1; rw [if_pos (Or.inr (Or.inr (Or.inl h7))), h7]
            exact tail _ (by rw [es]; exact (r_lcom hX e9 hlt).ln)
          · rw [if_pos (is0 7 (7 : Int32) rfl (by omega) h7), rg_pos (hq _)]
            by_cases h10 : K p = 10
            · rw [if_neg (isY 10 (10 : Int32) rfl h10)]
              have hlt := hX.1.lt hpT (by omega)
              have es : sl1 K V p = toL (pts K (.inl (p + 1, [])) (lpat 10)) := by unfold sl1; rw [if_pos (Or.inr (Or.inr (Or.inr h10))), h10]
              exact tail _ (by rw [es]; exact (r_link hX e9 hlt).ln)
            · rw [if_pos (is0 10 (10 : Int32) rfl (by omega) h10)]
              refine tail _ ?_
              by_cases hkd : K p = 9 ∨ K p = 6 ∨ K p = 12
              · have hlt := hX.1.lt hpT (by omega)
                have es : sl1 K V p = so1 K V (K p) (pts K (.inl (p + 1, [(14, p)])) (hpat (K p))) := by unfold sl1; rw [if_neg (by omega), if_pos hkd]
                obtain ⟨v, I1, a1, a2, a3⟩ := r_lord hX e9 hlt rfl hkd h.1.1.2.1 h.2.2.1.1 h.2.2.1.2 h.1.1.2.2.1 h.1.1.2.2.2 h.1.2.2.1 h.1.2.2.2
                rw [es]
                refine ⟨v, I1, a1, a2, ?_, ?_⟩
                · cases hz : so1 K V (K p) (pts K (.inl (p + 1, [(14, p)])) (hpat (K p))) with
                  | inr q => rw [hz] at a3; exact a3
                  | inl z =>
                    obtain ⟨p2, l, o⟩ := z
                    rw [hz] at a3
                    cases o with
                    | none => exact a3.elim
                    | some c => exact a3
                · cases hz : so1 K V (K p) (pts K (.inl (p + 1, [(14, p)])) (hpat (K p))) with
                  | inr q => rw [hz] at a3; exact Or.inl a3.1
                  | inl z =>
                    obtain ⟨p2, l, o⟩ := z
                    rw [hz] at a3
                    cases o with
                    | none => exact a3.elim
                    | some c => obtain ⟨c1, c2⟩ := c; exact Or.inr a3.1
              · have es : sl1 K V p = .inr p := by unfold sl1; rw [if_neg (by omega), if_neg hkd]
                have ek := r_kd hX e9 hpT
                have nk : ∀ (k : Nat) (w : Int32), w = Int32.ofNat (rk k) → k ≤ 42 → ¬ K p = k → ¬ I 81 (I 79 9).toNatClampNeg = w := by
                  intro k w hw hk hn
                  rw [ek, hw]
                  intro z
                  have r1 := rk_lt (K p)
                  have r2 := rk_lt k
                  exact hn (rk_inj hk42 hk ((n_eq (by omega) (by omega)).mp z))
                rw [es]
                refine ⟨0, I, ?_, rfo.rf I, ⟨rfl, e9, hpT⟩, Or.inl rfl⟩
                unfold R_X14_isOrderLine_79
                rw [rg_pos (r_tq e9 (by omega)), if_neg (nk 9 (9 : Int32) rfl (by omega) (by omega)), if_neg (nk 12 (12 : Int32) rfl (by omega) (by omega)), if_neg (nk 6 (6 : Int32) rfl (by omega) (by omega))]
end RPL
