/-! the orders of a list, when nothing is wrong -/
section RMH
variable {K V C : Nat → Nat} {T : Nat}
theorem p5_if {c : Prop} [Decidable c] {y z : sX} {w : Nat} (h1 : y.1.1 0 5 = w) (h2 : z.1.1 0 5 = w) : (if c then y else z).1.1 0 5 = w := by
  split
  · exact h1
  · exact h2
theorem it_p5 {X : sX} {q : Nat × Nat} (h : q.1 ≠ 14) : (it K V C X q).1.1 0 5 = X.1.1 0 5 := by
  unfold it
  rw [if_neg (show ¬ q.1 = 14 from h)]
  repeat' apply p5_if
  all_goals first | rfl | (dsimp only; rw [up_in, if_neg (by omega)]) | (dsimp only; rw [up_row _ _ _ (by omega)])
theorem its_p5 : ∀ (l : List (Nat × Nat)) (X : sX), (∀ q ∈ l, q.1 ≠ 14) → (its K V C l X).1.1 0 5 = X.1.1 0 5
  | [], _, _ => rfl
  | q :: l, X, h => by
    show (its K V C l (it K V C X q)).1.1 0 5 = _
    rw [its_p5 l _ (fun y hy => h y (List.mem_cons_of_mem _ hy)), it_p5 (h q List.mem_cons_self)]
theorem pts_rl : ∀ (pat : List (Nat × Nat)) (p : Nat) (l0 : List (Nat × Nat)) (p' : Nat) (l' : List (Nat × Nat)), pts K (.inl (p, l0)) pat = .inl (p', l') → ∀ q ∈ l', q ∈ l0 ∨ ∃ k, (k, q.1) ∈ pat
  | [], p, l0, p', l', h, q, hq => by cases h; exact Or.inl hq
  | (k, r) :: pat, p, l0, p', l', h, q, hq => by
    have h0 : pts K (stp K (.inl (p, l0)) (k, r)) pat = .inl (p', l') := h
    by_cases hm : (if k = 100 then (K p = 3 ∨ K p = 4) else K p = k)
    · rw [stp_y hm] at h0
      rcases pts_rl pat _ _ p' l' h0 q hq with h1 | ⟨k2, h1⟩
      · by_cases hr : r = 0
        · rw [if_pos hr] at h1; exact Or.inl h1
        · rw [if_neg hr] at h1
          rcases List.mem_append.mp h1 with h2 | h2
          · exact Or.inl h2
          · have : q = (r, p) := List.mem_singleton.mp h2
            subst this
            exact Or.inr ⟨k, List.mem_cons_self⟩
      · exact Or.inr ⟨k2, List.mem_cons_of_mem _ h1⟩
    · rw [stp_n hm] at h0
      obtain ⟨a, b, c, _⟩ := pts_lt pat _ _ _ h0
      cases c
theorem lpat_rl (k : Nat) : ∀ q ∈ lpat k, q.2 ≤ 13 := by
  have h : (lpat k).all (fun q => decide (q.2 ≤ 13)) = true := by
    unfold lpat
    split
    · decide
    · split
      · decide
      · split <;> decide
  exact fun q hq => of_decide_eq_true (List.all_eq_true.mp h q hq)
/-- what a line is -/
theorem sl1_sh (hk : k_ok K V T) {p p' : Nat} {l : List (Nat × Nat)} {o : Option (List (Nat × Nat) × List (Nat × Nat))} (hp : p ≤ T) (h : sl1 K V p = .inl (p', (l, o))) : (o = none ∧ ∀ q ∈ l, q.1 ≤ 13) ∨ ∃ c1 c2, o = some (c1, c2) ∧ (K p = 9 ∨ K p = 6 ∨ K p = 12) ∧ l = [(14, p), (hrl (K p), p + 1)] ++ s_im c1 ++ s_im c2 ∧ s_k39 K c1 ∧ s_k39 K c2 ∧ (∃ p1 p2, sp K V GDN 3 0 p1 = .inl (p2, c1) ∧ p1 ≤ T ∧ (c2 = [] ∨ ∃ p3, sp K V GDN 0 0 (p2 + 1) = .inl (p3, c2) ∧ p2 + 1 ≤ T)) := by
  unfold sl1 at h
  by_cases h1 : K p = 0 ∨ K p = 2 ∨ K p = 7 ∨ K p = 10
  · rw [if_pos h1] at h
    cases hr : pts K (.inl (p + 1, [])) (lpat (K p)) with
    | inr q => rw [hr] at h; cases h
    | inl z =>
      obtain ⟨p2, l2⟩ := z
      rw [hr] at h
      cases h
      refine Or.inl ⟨rfl, fun q hq => ?_⟩
      rcases pts_rl _ _ _ _ _ hr q hq with h2 | ⟨k, h2⟩
      · cases h2
      · exact lpat_rl _ (k, q.1) h2
  · rw [if_neg h1] at h
    by_cases h2 : K p = 9 ∨ K p = 6 ∨ K p = 12
    · rw [if_pos h2] at h
      have hlt := hk.lt hp (by omega)
      cases hr : pts K (.inl (p + 1, [(14, p)])) (hpat (K p)) with
      | inr q => rw [hr] at h; cases h
      | inl z =>
        obtain ⟨p1, l1⟩ := z
        rw [hr] at h
        have hle := pts_le hk _ _ _ _ _ (hpat_ok _) (by omega) hr
        have hl1 : l1 = [(14, p), (hrl (K p), p + 1)] := by
          have hi : ∃ k w, hpat (K p) = [(k, hrl (K p)), (w, 0)] := by
            rcases h2 with h2 | h2 | h2 <;> rw [h2]
            · exact ⟨39, 13, rfl⟩
            · exact ⟨39, 13, rfl⟩
            · exact ⟨100, 1, rfl⟩
          obtain ⟨k, w, e⟩ := hi
          rw [e] at hr
          have hr : stp K (stp K (.inl (p + 1, [(14, p)])) (k, hrl (K p))) (w, 0) = .inl (p1, l1) := hr
          obtain ⟨pa, la, da, _, _, hl2⟩ := stp_l hr
          obtain ⟨pb, lb, db, _, _, hl1⟩ := stp_l da
          cases db
          have hr0 : ¬ hrl (K p) = 0 := by rcases h2 with h2 | h2 | h2 <;> rw [h2] <;> decide
          rw [hl2, hl1, if_pos rfl, if_neg hr0]
          rfl
        subst hl1
        have h : so2 K V (K p) p1 [(14, p), (hrl (K p), p + 1)] = .inl (p', (l, o)) := h
        unfold so2 at h
        have h1' := sp_pr hk GDN 3 0 p1 hle
        cases hr1 : sp K V GDN 3 0 p1 with
        | inr q => rw [hr1] at h; cases h
        | inl z =>
          obtain ⟨p2, c1⟩ := z
          rw [hr1] at h h1'
          dsimp only at h
          have f1 := sp_ind hk (s_k39_ok (K := K) (V := V) (T := T)) GDN 3 0 p1 (by omega) hle
          rw [hr1] at f1
          by_cases h14 : K p2 = 14
          · rw [if_pos h14] at h
            have hlt2 := hk.lt h1'.2.1 (by omega)
            have f2 := sp_ind hk (s_k39_ok (K := K) (V := V) (T := T)) GDN 0 0 (p2 + 1) (by omega) (by omega)
            cases hr2 : sp K V GDN 0 0 (p2 + 1) with
            | inr q => rw [hr2] at h; cases h
            | inl z =>
              obtain ⟨p3, c2⟩ := z
              rw [hr2] at h f2
              cases h
              exact Or.inr ⟨c1, c2, rfl, h2, rfl, f1, f2, p1, p2, hr1, hle, Or.inr ⟨_, hr2, by omega⟩⟩
          · rw [if_neg h14] at h
            by_cases h12 : K p = 12
            · rw [if_pos h12] at h
              cases h
              exact Or.inr ⟨c1, [], rfl, h2, (List.append_nil _).symm, f1, fun q hq => absurd hq List.not_mem_nil, p1, _, hr1, hle, Or.inl rfl⟩
            · rw [if_neg h12] at h; cases h
    · rw [if_neg h2] at h; cases h
/-- the orders told, against their lines -/
def mOK (acc : List lnT) (p : Nat) (Y : sX × sO) (W : Nat → Nat × Nat) : Prop := Y.1.2.1 = none → Y.1.1.1 0 5 = (locs acc).length ∧ ∀ k, k < (locs acc).length → W k = (Y.2 k).1 ∧ (Y.2 k).2 = ((loc acc k).1.map (mrs Y.1.2.2), (loc acc k).2.map (mrs Y.1.2.2)) ∧ (∀ q ∈ (loc acc k).1 ++ (loc acc k).2, s_nmd q.1 = true → q.2 < p ∧ Y.1.2.2 q.2 ≠ none)
theorem mrs_cg {m m' : Nat → Option Nat} {c : List (Nat × Nat)} (h : ∀ q ∈ c, s_nmd q.1 = true → m' q.2 = m q.2) : c.map (mrs m') = c.map (mrs m) := by
  refine List.map_congr_left (fun q hq => ?_)
  unfold mrs
  by_cases hn : s_nmd q.1 = true
  · rw [if_pos hn, if_pos hn, h q hq hn]
  · rw [if_neg hn, if_neg hn]
theorem s_im_mem : ∀ (c : List (Nat × Nat)) (q : Nat × Nat), q ∈ c → s_nmd q.1 = true → ∃ r, (r, q.2) ∈ s_im c
  | [], q, h, _ => absurd h List.not_mem_nil
  | (op, a) :: c, q, h, hs => by
    have e : s_im ((op, a) :: c) = if s_nmd op = true then (s_rl op, a) :: s_im c else s_im c := rfl
    rw [e]
    rcases List.mem_cons.mp h with h | h
    · subst h
      rw [if_pos hs]
      exact ⟨_, List.mem_cons_self⟩
    · obtain ⟨r, hr⟩ := s_im_mem c q h hs
      split
      · exact ⟨r, List.mem_cons_of_mem _ hr⟩
      · exact ⟨r, hr⟩
theorem m_step (hk : k_ok K V T) {p p2 : Nat} {acc : List lnT} {Y : sX × sO} {W : Nat → Nat × Nat} {x : List (Nat × Nat) × Option (List (Nat × Nat) × List (Nat × Nat))} (hp : p ≤ T) (hs : sl1 K V p = .inl (p2, x)) (h : mOK acc p Y W) : mOK (acc ++ [(p, x)]) (p2 + 1) (sXo K V C Y (p, x)) (itsW K V C x.1 Y.1 W) := by
  obtain ⟨l, o⟩ := x
  have hlF := (f_line (C := C) hk hp hs).2
  have hlt := sl1_lt hk hp hs
  intro hz
  have hE : (its K V C l Y.1).2.1 = none := hz
  clear hz
  have he0 : Y.1.2.1 = none := by
    cases hy : Y.1.2.1 with
    | none => rfl
    | some y => rw [its_some l _ hy] at hE; cases hE
  obtain ⟨a1, a2⟩ := h he0
  -- old names keep their meaning
  have old : ∀ k, k < (locs acc).length → (∀ q ∈ (loc acc k).1 ++ (loc acc k).2, s_nmd q.1 = true → (its K V C l Y.1).2.2 q.2 = Y.1.2.2 q.2) := by
    intro k hkk q hq hn
    have := (a2 k hkk).2.2 q hq hn
    exact mt_o l Y.1 q.2 (fun y hy => by have := hlF.2.1 y hy; omega)
  rcases sl1_sh hk hp hs with ⟨rfl, h13⟩ | ⟨c1, c2, rfl, hkd, rfl, k1, k2, _⟩
  · have eW : itsW K V C l Y.1 W = W := itsW_n l _ _ (fun q hq => by have := h13 q hq; omega)
    show (its K V C l Y.1).1.1 0 5 = _ ∧ _
    unfold loc
    rw [locs_n, its_p5 l _ (fun q hq => by have := h13 q hq; omega)]
    refine ⟨a1, fun k hkk => ?_⟩
    obtain ⟨b1, b2, b3⟩ := a2 k hkk
    refine ⟨by dsimp only; rw [eW]; exact b1, ?_, fun q hq hn => ?_⟩
    · show (Y.2 k).2 = (List.map (mrs (its K V C l Y.1).2.2) (loc acc k).1, List.map (mrs (its K V C l Y.1).2.2) (loc acc k).2)
      rw [mrs_cg (m := Y.1.2.2) (c := (loc acc k).1) (fun q hq hn => old k hkk q (List.mem_append_left _ hq) hn), mrs_cg (m := Y.1.2.2) (c := (loc acc k).2) (fun q hq hn => old k hkk q (List.mem_append_right _ hq) hn)]
      exact b2
    · obtain ⟨d1, d2⟩ := b3 q hq hn
      refine ⟨by omega, ?_⟩
      show (its K V C l Y.1).2.2 q.2 ≠ none
      rw [old k hkk q hq hn]
      exact d2
  · obtain ⟨kd, hkdd⟩ : ∃ kd, kd = K p := ⟨_, rfl⟩
    rw [← hkdd] at hkd hE hlF old
    have hX1 := x_hd (K := K) (V := V) (C := C) (X := Y.1) (p := p) hkd
    obtain ⟨i1, i2⟩ := its_im (K := K) (V := V) (C := C) c1 (its K V C [(14, p), (hrl kd, p + 1)] Y.1)
    obtain ⟨i3, i4⟩ := its_im (K := K) (V := V) (C := C) c2 (its K V C (s_im c1) (its K V C [(14, p), (hrl kd, p + 1)] Y.1))
    have eL : (its K V C [(14, p), (hrl kd, p + 1)] Y.1).1.2 = Y.1.1.2 := by rw [hX1]
    have e0 : its K V C ([(14, p), (hrl kd, p + 1)] ++ s_im c1 ++ s_im c2) Y.1 = its K V C (s_im c2) (its K V C (s_im c1) (its K V C [(14, p), (hrl kd, p + 1)] Y.1)) := by rw [its_app, its_app]
    have e15 : (its K V C ([(14, p), (hrl kd, p + 1)] ++ s_im c1 ++ s_im c2) Y.1).1 = (am_up Y.1.1.1 0 5 (Y.1.1.1 0 5 + 1), Y.1.1.2) := by rw [e0, i3, i1, hX1]
    have eW : itsW K V C ([(14, p), (hrl kd, p + 1)] ++ s_im c1 ++ s_im c2) Y.1 W = itsW K V C [(14, p), (hrl kd, p + 1)] Y.1 W := by
      rw [itsW_app, itsW_app, itsW_im k2, itsW_im k1]
    -- the errors
    rw [e0, i4, i1, i2, eL] at hE
    obtain ⟨he1, al2⟩ := fe_al _ _ hE
    obtain ⟨_, al1⟩ := fe_al _ _ he1
    -- the meanings
    have hpw := hlF.2.2
    have pw2 := (List.pairwise_append.mp hpw).2.1
    have pw1 := (List.pairwise_append.mp (List.pairwise_append.mp hpw).1).2.1
    have pw12 := (List.pairwise_append.mp hpw).2.2
    have m1 : ∀ q ∈ c1, s_nmd q.1 = true → (its K V C ([(14, p), (hrl kd, p + 1)] ++ s_im c1 ++ s_im c2) Y.1).2.2 q.2 = nmL C Y.1.1.2 q.1 q.2 := by
      intro q hq hn
      obtain ⟨r, hr⟩ := s_im_mem c1 q hq hn
      rw [e0, mt_o _ _ _ (fun y hy => by have := pw12 (r, q.2) (List.mem_append_right _ hr) y hy; dsimp only at this; omega), mt_im c1 _ pw1 q hq hn, eL]
    have m2 : ∀ q ∈ c2, s_nmd q.1 = true → (its K V C ([(14, p), (hrl kd, p + 1)] ++ s_im c1 ++ s_im c2) Y.1).2.2 q.2 = nmL C Y.1.1.2 q.1 q.2 := by
      intro q hq hn
      rw [e0, mt_im c2 _ pw2 q hq hn, i1, eL]
    have cg : ∀ c : List (Nat × Nat), (∀ q ∈ c, s_nmd q.1 = true → (its K V C ([(14, p), (hrl kd, p + 1)] ++ s_im c1 ++ s_im c2) Y.1).2.2 q.2 = nmL C Y.1.1.2 q.1 q.2) → c.map (s_rs (nmL C Y.1.1.2)) = c.map (mrs (its K V C ([(14, p), (hrl kd, p + 1)] ++ s_im c1 ++ s_im c2) Y.1).2.2) := by
      intro c hc
      refine List.map_congr_left (fun q hq => ?_)
      unfold mrs s_rs
      by_cases hn : s_nmd q.1 = true
      · rw [if_pos hn, if_pos hn, hc q hq hn]
      · rw [if_neg hn, if_neg hn]
    rw [hkdd] at e15 eW cg m1 m2 old
    show (its K V C ([(14, p), (hrl (K p), p + 1)] ++ s_im c1 ++ s_im c2) Y.1).1.1 0 5 = _ ∧ _
    unfold loc
    rw [locs_s, e15, List.length_append]
    dsimp only
    rw [am_up_self, a1]
    refine ⟨rfl, fun k hkk => ?_⟩
    simp only [List.length_cons, List.length_nil] at hkk
    have eod : (sXo K V C Y (p, ([(14, p), (hrl (K p), p + 1)] ++ s_im c1 ++ s_im c2, some (c1, c2)))).2 k = if k = Y.1.1.1 0 5 then ((K p, otg K C Y.1.1.2 (K p) p), (c1.map (s_rs (nmL C Y.1.1.2)), c2.map (s_rs (nmL C Y.1.1.2)))) else Y.2 k := rfl
    rw [eod, eW, itsW_hd rfl (by rw [hkdd] at hkd; exact hkd), a1]
    by_cases hkn : k = (locs acc).length
    · have eg : (locs acc ++ [(c1, c2)]).getD k ([], []) = (c1, c2) := by
        rw [List.getD_eq_getElem?_getD, List.getElem?_append_right (by omega), hkn, Nat.sub_self]
        rfl
      rw [eg, if_pos hkn, if_pos hkn]
      refine ⟨rfl, ?_, fun q hq hn => ?_⟩
      · dsimp only
        rw [cg c1 m1, cg c2 m2]
        rfl
      · have hmem : ∃ r, (r, q.2) ∈ [(14, p), (hrl kd, p + 1)] ++ s_im c1 ++ s_im c2 := by
          rcases List.mem_append.mp hq with h | h
          · obtain ⟨r, hr⟩ := s_im_mem c1 q h hn
            exact ⟨r, List.mem_append_left _ (List.mem_append_right _ hr)⟩
          · obtain ⟨r, hr⟩ := s_im_mem c2 q h hn
            exact ⟨r, List.mem_append_right _ hr⟩
        obtain ⟨r, hr⟩ := hmem
        have hb := hlF.2.1 (r, q.2) hr
        dsimp only at hb
        refine ⟨by omega, ?_⟩
        show (its K V C ([(14, p), (hrl (K p), p + 1)] ++ s_im c1 ++ s_im c2) Y.1).2.2 q.2 ≠ none
        rcases List.mem_append.mp hq with h | h
        · rw [m1 q h hn]; exact al1 q h hn
        · rw [m2 q h hn]; exact al2 q h hn
    · have eg : (locs acc ++ [(c1, c2)]).getD k ([], []) = (locs acc).getD k ([], []) := by
        rw [List.getD_eq_getElem?_getD, List.getElem?_append_left (by omega), ← List.getD_eq_getElem?_getD]
      rw [eg, if_neg hkn, if_neg hkn]
      have hkk : k < (locs acc).length := by omega
      obtain ⟨b1, b2, b3⟩ := a2 k hkk
      refine ⟨b1, ?_, fun q hq hn => ?_⟩
      · show (Y.2 k).2 = (List.map (mrs (its K V C ([(14, p), (hrl (K p), p + 1)] ++ s_im c1 ++ s_im c2) Y.1).2.2) (loc acc k).1, List.map (mrs (its K V C ([(14, p), (hrl (K p), p + 1)] ++ s_im c1 ++ s_im c2) Y.1).2.2) (loc acc k).2)
        rw [mrs_cg (m := Y.1.2.2) (c := (loc acc k).1) (fun q hq hn => old k hkk q (List.mem_append_left _ hq) hn), mrs_cg (m := Y.1.2.2) (c := (loc acc k).2) (fun q hq hn => old k hkk q (List.mem_append_right _ hq) hn)]
        exact b2
      · obtain ⟨d1, d2⟩ := b3 q hq hn
        refine ⟨by omega, ?_⟩
        show (its K V C ([(14, p), (hrl (K p), p + 1)] ++ s_im c1 ++ s_im c2) Y.1).2.2 q.2 ≠ none
        rw [old k hkk q hq hn]
        exact d2
theorem m_acc (hk : k_ok K V T) {Y0 : sX × sO} {W0 : Nat → Nat × Nat} : ∀ (m p : Nat) (acc : List lnT) (q : Nat) (a : List lnT), p ≤ T → mOK acc p (sXs K V C acc Y0) (itsW K V C (lits acc) Y0.1 W0) → sLs K V m p acc = .inl (q, a) → mOK a q (sXs K V C a Y0) (itsW K V C (lits a) Y0.1 W0)
  | 0, p, acc, q, a, _, _, h => by cases h
  | m + 1, p, acc, q, a, hp, hl, h => by
    unfold sLs at h
    by_cases h41 : K p = 41
    · rw [if_pos h41] at h
      cases h
      exact hl
    · rw [if_neg h41] at h
      cases hs : sln K V p with
      | inr t => rw [hs] at h; cases h
      | inl z =>
        obtain ⟨p', x⟩ := z
        rw [hs] at h
        obtain ⟨p2, e1, e2, e3⟩ := sln_lt hs
        have h3 := sl1_lt hk hp e3
        have hlt := hk.lt h3.2 (by omega)
        have hst := m_step (C := C) hk hp e3 hl
        have eY : sXs K V C (acc ++ [(p, x)]) Y0 = sXo K V C (sXs K V C acc Y0) (p, x) := by
          unfold sXs
          rw [List.foldl_append]
          rfl
        refine m_acc hk m p' (acc ++ [(p, x)]) q a (by omega) ?_ h
        rw [eY, lits_1, itsW_app, ← sXs_its, e1]
        exact hst
end RMH
