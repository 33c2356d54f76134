/-! the items of lines and lists -/
section RIG
variable {K V C : Nat → Nat} {T : Nat}
theorem lnF.app {p p1 p2 : Nat} {a b : List (Nat × Nat)} (h1 : lnF K V C p p1 a) (h2 : lnF K V C p1 p2 b) : lnF K V C p p2 (a ++ b) := ⟨fun X => wfI_app a b X (h1.1 X) (h2.1 _), h1.2.app h2.2⟩
theorem lnF.im {p p' : Nat} {c : List (Nat × Nat)} (h1 : s_inc K p p' (s_im c)) (h2 : s_k39 K c) : lnF K V C p p' (s_im c) := ⟨fun X => wfI_im _ X h2, h1⟩
theorem lnF.wid {p p' p0 p1 : Nat} {c : List (Nat × Nat)} (h : lnF K V C p p' c) (h0 : p0 ≤ p) (h1 : p' ≤ p1) : lnF K V C p0 p1 c := ⟨h.1, h.2.wid h0 h1⟩
theorem f_sp (hk : k_ok K V T) {n md d p p' : Nat} {c : List (Nat × Nat)} (hm : md ≤ 6) (hp : p ≤ T) (h : sp K V n md d p = .inl (p', c)) : lnF K V C p p' (s_im c) := by
  have h1 := sp_ind hk (s_inc_ok (K := K) (V := V) (T := T)) n md d p hm hp
  have h2 := sp_ind hk (s_k39_ok (K := K) (V := V) (T := T)) n md d p hm hp
  rw [h] at h1 h2
  exact lnF.im h1 h2
theorem f_so2 (hk : k_ok K V T) {kd p1 p' : Nat} {l : List (Nat × Nat)} {x : List (Nat × Nat) × Option (List (Nat × Nat) × List (Nat × Nat))} {p : Nat} (hl : lnF K V C p p1 l) (hp : p1 ≤ T) (h : so2 K V kd p1 l = .inl (p', x)) : lnF K V C p p' x.1 := by
  unfold so2 at h
  have h1 := sp_pr hk GDN 3 0 p1 hp
  cases hr : sp K V GDN 3 0 p1 with
  | inr q => rw [hr] at h; cases h
  | inl z =>
    obtain ⟨p2, c1⟩ := z
    rw [hr] at h h1
    dsimp only at h
    obtain ⟨a1, a2, a3, a4⟩ := h1
    have f1 := f_sp (C := C) hk (by omega) hp hr
    by_cases h14 : K p2 = 14
    · rw [if_pos h14] at h
      have hlt := hk.lt a2 (by omega)
      cases hr2 : sp K V GDN 0 0 (p2 + 1) with
      | inr q => rw [hr2] at h; cases h
      | inl z =>
        obtain ⟨p3, c2⟩ := z
        rw [hr2] at h
        have f2 := f_sp (C := C) hk (by omega) (by omega) hr2
        cases h
        exact (hl.app f1).app (f2.wid (Nat.le_succ _) (Nat.le_refl _))
    · rw [if_neg h14] at h
      by_cases h12 : kd = 12
      · rw [if_pos h12] at h
        cases h
        exact hl.app f1
      · rw [if_neg h12] at h; cases h
theorem f_head {p p' kd : Nat} {l : List (Nat × Nat)} (hk : K p = kd) (hkd : kd = 9 ∨ kd = 6 ∨ kd = 12) (h : pts K (.inl (p + 1, [(14, p)])) (hpat kd) = .inl (p', l)) : lnF K V C p p' l := by
  have hi : ∃ k w, hpat kd = [(k, hrl kd), (w, 0)] ∧ (kd = 12 → k = 100) ∧ (kd ≠ 12 → k = 39) := by
    rcases hkd with rfl | rfl | rfl
    · exact ⟨39, 13, rfl, fun z => by omega, fun _ => rfl⟩
    · exact ⟨39, 13, rfl, fun z => by omega, fun _ => rfl⟩
    · exact ⟨100, 1, rfl, fun _ => rfl, fun z => absurd rfl z⟩
  obtain ⟨k, w, e, k12, k39⟩ := hi
  rw [e] at h
  have h : stp K (stp K (.inl (p + 1, [(14, p)])) (k, hrl kd)) (w, 0) = .inl (p', l) := h
  obtain ⟨p1, l1, d1, m2, hp2, hl2⟩ := stp_l h
  obtain ⟨p0, l0, d0, m1, hp1, hl1⟩ := stp_l d1
  cases d0
  have hr0 : ¬ hrl kd = 0 := by unfold hrl; rcases hkd with rfl | rfl | rfl <;> decide
  have hl : l = [(14, p), (hrl kd, p + 1)] := by
    rw [hl2, hl1, if_pos rfl, if_neg hr0]
    rfl
  subst hl
  refine ⟨fun X => ⟨?_, ?_, trivial⟩, ⟨by omega, fun q hq => ?_, ?_⟩⟩
  · refine ⟨fun z => ?_, fun z => ?_, fun z => ?_, fun _ => by dsimp only; omega, fun z => ?_, fun z => ?_, fun z => ?_, fun z => ?_, ?_, ?_⟩ <;> dsimp only at * <;> omega
  · rcases hkd with rfl | rfl | rfl
    · have hk39 := k39 (by omega)
      subst hk39
      rw [if_neg (by omega)] at m1
      refine ⟨fun z => ?_, fun _ => m1, fun z => ?_, fun z => ?_, fun z => ?_, fun z => ?_, fun z => ?_, fun _ => ct14, (by show 1 ≤ hrl 9; decide), (by show hrl 9 ≤ 20; decide)⟩ <;> (have hz : (15 : Nat) = hrl 9 := rfl) <;> simp only [← hz] at z <;> omega
    · have hk39 := k39 (by omega)
      subst hk39
      rw [if_neg (by omega)] at m1
      refine ⟨fun z => ?_, fun _ => m1, fun z => ?_, fun z => ?_, fun z => ?_, fun z => ?_, fun z => ?_, fun _ => ct14, (by show 1 ≤ hrl 6; decide), (by show hrl 6 ≤ 20; decide)⟩ <;> (have hz : (16 : Nat) = hrl 6 := rfl) <;> simp only [← hz] at z <;> omega
    · have hk100 := k12 rfl
      subst hk100
      rw [if_pos rfl] at m1
      refine ⟨fun z => ?_, fun z => ?_, fun _ => m1, fun z => ?_, fun z => ?_, fun z => ?_, fun z => ?_, fun _ => ct14, (by show 1 ≤ hrl 12; decide), (by show hrl 12 ≤ 20; decide)⟩ <;> (have hz : (17 : Nat) = hrl 12 := rfl) <;> simp only [← hz] at z <;> omega
  · simp only [List.mem_cons, List.not_mem_nil, or_false] at hq
    rcases hq with rfl | rfl <;> (dsimp only; omega)
  · refine List.pairwise_cons.mpr ⟨fun q hq => ?_, List.pairwise_singleton _ _⟩
    have : q = (hrl kd, p + 1) := List.mem_singleton.mp hq
    subst this
    dsimp only; omega
theorem f_line (hk : k_ok K V T) {p p' : Nat} {x : List (Nat × Nat) × Option (List (Nat × Nat) × List (Nat × Nat))} (hp : p ≤ T) (h : sl1 K V p = .inl (p', x)) : lnF K V C p p' x.1 := by
  unfold sl1 at h
  by_cases h1 : K p = 0 ∨ K p = 2 ∨ K p = 7 ∨ K p = 10
  · rw [if_pos h1] at h
    cases hr : pts K (.inl (p + 1, [])) (lpat (K p)) with
    | inr q => rw [hr] at h; cases h
    | inl z =>
      obtain ⟨p2, l⟩ := z
      rw [hr] at h
      cases h
      rcases h1 with h1 | h1 | h1 | h1 <;> rw [h1] at hr
      · exact f_pap hr
      · exact f_oct hr
      · exact f_com hr
      · exact f_ink hr
  · rw [if_neg h1] at h
    by_cases h2 : K p = 9 ∨ K p = 6 ∨ K p = 12
    · rw [if_pos h2] at h
      have hlt := hk.lt hp (by omega)
      cases hr : pts K (.inl (p + 1, [(14, p)])) (hpat (K p)) with
      | inr q => rw [hr] at h; cases h
      | inl z =>
        obtain ⟨p2, l⟩ := z
        rw [hr] at h
        exact f_so2 hk (f_head rfl h2 hr) (pts_le hk _ _ _ _ _ (hpat_ok _) (by omega) hr) h
    · rw [if_neg h2] at h; cases h
theorem f_acc (hk : k_ok K V T) : ∀ (m p : Nat) (acc : List lnT) (q : Nat) (a : List lnT), p ≤ T → lnF K V C 0 p (lits acc) → sLs K V m p acc = .inl (q, a) → lnF K V C 0 q (lits a) ∧ q ≤ T ∧ K q = 41
  | 0, p, acc, q, a, _, _, h => by cases h
  | m + 1, p, acc, q, a, hp, hl, h => by
    unfold sLs at h
    by_cases h41 : K p = 41
    · rw [if_pos h41] at h
      cases h
      exact ⟨hl, hp, h41⟩
    · rw [if_neg h41] at h
      cases hs : sln K V p with
      | inr t => rw [hs] at h; cases h
      | inl z =>
        obtain ⟨p', x⟩ := z
        rw [hs] at h
        obtain ⟨p2, e1, e2, e3⟩ := sln_lt hs
        have h3 := sl1_lt hk hp e3
        have hlt := hk.lt h3.2 (by omega)
        refine f_acc hk m p' (acc ++ [(p, x)]) q a (by omega) ?_ h
        rw [lits_1]
        exact hl.app ((f_line hk hp e3).wid (Nat.le_refl _) (by omega))
theorem sXs_its : ∀ (acc : List lnT) (Y : sX × sO), (sXs K V C acc Y).1 = its K V C (lits acc) Y.1
  | [], _ => rfl
  | q :: acc, Y => by
    have e : lits (q :: acc) = q.2.1 ++ lits acc := rfl
    rw [e, its_app]
    exact sXs_its acc (sXo K V C Y q)
end RIG
