/-! the law's own paper: what an order does; a dip by hand -/
theorem m_md {v : Int32} {n : Nat} (hn : 0 < n) (hb : n ≤ 1000) : (v - v / Int32.ofNat n * Int32.ofNat n + Int32.ofNat n) - (v - v / Int32.ofNat n * Int32.ofNat n + Int32.ofNat n) / Int32.ofNat n * Int32.ofNat n = Int32.ofNat (s_md v.toInt n) := by
  have hr : (v - v / Int32.ofNat n * Int32.ofNat n).toInt = v.toInt.tmod (n : Int) := by rw [rem_toInt, n_ti (by omega)]
  have tb := tmod_bounds (a := v.toInt) (show (0 : Int) < (n : Int) by omega)
  have e1 := emod_tmod (a := v.toInt) (show (0 : Int) < (n : Int) by omega)
  have h1 := Int.emod_nonneg v.toInt (show (n : Int) ≠ 0 by omega)
  have h2 := Int.emod_lt_of_pos v.toInt (show (0 : Int) < (n : Int) by omega)
  generalize v - v / Int32.ofNat n * Int32.ofNat n = r at hr ⊢
  rw [← hr] at tb e1
  have hs : (r + Int32.ofNat n).toInt = r.toInt + (n : Int) := by
    rw [Int32.toInt_add, n_ti (by omega)]
    exact Int.bmod_eq_of_le_mul_two (by omega) (by omega)
  have he : r + Int32.ofNat n = Int32.ofNat (r.toInt + (n : Int)).toNat := by
    rw [n_ex (a := r + Int32.ofNat n) (by omega), hs]
  rw [he, n_mod (by omega) (by omega)]
  congr 1
  unfold s_md
  by_cases c : r.toInt < 0
  · rw [Nat.mod_eq_of_lt (by omega)]
    split at e1
    · omega
    · omega
  · obtain ⟨k, hk⟩ : ∃ k : Nat, (r.toInt + (n : Int)).toNat = k + n := ⟨r.toInt.toNat, by omega⟩
    rw [hk, Nat.add_mod_right, Nat.mod_eq_of_lt (by omega)]
    split at e1
    · omega
    · omega
theorem md_add (a n : Nat) (v : Int) (hn : 0 < n) : (a + s_md v n) % n = s_md ((a : Int) + v) n := by
  have h1 := Int.emod_nonneg v (show (n : Int) ≠ 0 by omega)
  have h4 := Int.emod_nonneg ((a : Int) + v) (show (n : Int) ≠ 0 by omega)
  have h2 : ((s_md v n : Nat) : Int) = v % (n : Int) := by unfold s_md; omega
  have h3 : (((a + s_md v n) % n : Nat) : Int) = ((a : Int) + v) % (n : Int) := by
    rw [Int.natCast_emod, Int.natCast_add, h2, Int.add_emod_emod]
  unfold s_md at *
  omega
theorem md_same {a n : Nat} {v : Int} (ha : a < n) : s_md ((a : Int) + v) n = a ↔ s_md v n = 0 := by
  have hb := s_md_lt v (show 0 < n by omega)
  rw [← md_add a n v (by omega)]
  generalize s_md v n = m at hb
  constructor
  · intro h
    by_cases c : a + m < n
    · rw [Nat.mod_eq_of_lt c] at h; omega
    · obtain ⟨k, hk⟩ : ∃ k, a + m = k + n := ⟨a + m - n, by omega⟩
      rw [hk, Nat.add_mod_right, Nat.mod_eq_of_lt (by omega)] at h
      omega
  · rintro rfl
    exact Nat.mod_eq_of_lt ha
theorem k32_0 : (0 : Int32).toNatClampNeg = 0 := rfl
theorem k32_1 : (1 : Int32).toNatClampNeg = 1 := rfl
theorem k32_2 : (2 : Int32).toNatClampNeg = 2 := rfl
theorem k32_3 : (3 : Int32).toNatClampNeg = 3 := rfl
theorem i_held {I : am_I} {ni no nc nd : Nat} (r m : Int32) (hm : 0 ≤ m.toInt) : R_X12_held I ni no nc nd r m = some (gHo r 0 m) := by
  unfold R_X12_held gHo gMax gMin
  have h0 : (0 : Int32).toInt = 0 := rfl
  by_cases c : 0 ≤ r
  · rw [if_pos c]
    rw [i_le, h0] at c
    by_cases c2 : m < r
    · rw [if_pos c2]
      by_cases c3 : (0 : Int32) < m
      · rw [if_pos c3]
      · rw [if_neg c3, (i_eq _ _).mpr (show m.toInt = (0 : Int32).toInt by rw [i_lt] at c3; omega)]
    · rw [if_neg c2]
      by_cases c3 : (0 : Int32) < r
      · rw [if_pos c3]
      · rw [if_neg c3, (i_eq _ _).mpr (show r.toInt = (0 : Int32).toInt by rw [i_lt] at c3; omega)]
  · rw [if_neg c]
    rw [i_le, h0] at c
    have c2 : ¬ m < r := by rw [i_lt]; omega
    rw [if_neg c2, if_neg (show ¬ (0 : Int32) < r by rw [i_lt]; omega)]
section E7
variable {p t : sP} {dp ca : Int32} {I : am_I}
theorem iS.pull (h : iS p t dp ca I) {c x : Nat} (hc : c < p 0 3) : iS p (am_up t 2 c x) dp ca (am_up I (84 + p 0 2 + c) 2 (Int32.ofNat x)) := by
  obtain ⟨h1, h2, h3, h4⟩ := h
  refine ⟨?_, fun j hj => ?_, fun j hj => ?_, fun j hj => ?_⟩
  · rw [up_row _ _ _ (by omega), up_row t _ _ (by omega)]; exact h1
  · rw [up_row _ _ _ (by omega), up_row t _ _ (by omega)]; exact h2 j hj
  · obtain ⟨a0, a1, a2⟩ := h3 j hj
    by_cases e : j = c
    · rw [e] at a0 a1 ⊢
      refine ⟨by rw [up_in, if_neg (by omega)]; exact a0, by rw [up_in, if_neg (by omega)]; exact a1, by rw [up_in, if_pos rfl, up_in, if_pos rfl]⟩
    · rw [up_row _ _ _ (by omega), up_in, if_neg e]; exact ⟨a0, a1, a2⟩
  · rw [up_row _ _ _ (by omega)]; exact h4 j hj
theorem iS.seed (h : iS p t dp ca I) {o x : Nat} (ho : o < p 0 2) : iS p (am_up t 1 o x) dp ca (am_up I (84 + o) 3 (Int32.ofNat x)) := by
  obtain ⟨h1, h2, h3, h4⟩ := h
  refine ⟨?_, fun j hj => ?_, fun j hj => ?_, fun j hj => ?_⟩
  · rw [up_row _ _ _ (by omega), up_row t _ _ (by omega)]; exact h1
  · obtain ⟨a0, a1, a2, a3⟩ := h2 j hj
    by_cases e : j = o
    · rw [e] at a0 a1 a2 ⊢
      refine ⟨by rw [up_in, if_neg (by omega)]; exact a0, by rw [up_in, if_neg (by omega)]; exact a1, by rw [up_in, if_neg (by omega)]; exact a2, by rw [up_in, if_pos rfl, up_in, if_pos rfl]⟩
    · rw [up_row _ _ _ (by omega), up_in, if_neg e]; exact ⟨a0, a1, a2, a3⟩
  · rw [up_row _ _ _ (by omega), up_row t _ _ (by omega)]; exact h3 j hj
  · rw [up_row _ _ _ (by omega)]; exact h4 j hj
theorem iS.at79 (h : iS p t dp ca I) {t' : sP} {dp' ca' : Int32} {I' : am_I} (hI : ∀ b, b ≠ 79 → I' b = I b) (h0 : I' 79 0 = I 79 0) (h1 : I' 79 1 = I 79 1) (ht1 : t' 1 = t 1) (ht2 : t' 2 = t 2) (h6 : I' 79 6 = Int32.ofNat (t' 0 0)) (h7 : I' 79 7 = Int32.ofNat (t' 0 1)) (h8 : I' 79 8 = dp') (h9 : I' 79 9 = ca') : iS p t' dp' ca' I' := by
  obtain ⟨a, h2, h3, h4⟩ := h
  refine ⟨⟨by rw [h0]; exact a.1, by rw [h1]; exact a.2.1, h6, h7, h8, h9⟩, fun j hj => ?_, fun j hj => ?_, fun j hj => ?_⟩
  · rw [hI _ (by omega), ht1]; exact h2 j hj
  · rw [hI _ (by omega), ht2]; exact h3 j hj
  · rw [hI _ (by omega)]; exact h4 j hj
theorem iS.across (h : iS p t dp ca I) (x : Nat) : iS p (am_up t 0 0 x) dp ca (am_up I 79 6 (Int32.ofNat x)) := by
  obtain ⟨a, -⟩ := id h
  exact h.at79 (fun b hb => up_row _ _ _ hb) (by rw [up_in, if_neg (by omega)]) (by rw [up_in, if_neg (by omega)]) (up_row _ _ _ (by omega)) (up_row _ _ _ (by omega)) (by rw [up_in, if_pos rfl, up_in, if_pos rfl]) (by rw [up_in, if_neg (by omega), up_in, if_neg (by omega)]; exact a.2.2.2.1) (by rw [up_in, if_neg (by omega)]; exact a.2.2.2.2.1) (by rw [up_in, if_neg (by omega)]; exact a.2.2.2.2.2)
theorem iS.down (h : iS p t dp ca I) (x : Nat) : iS p (am_up t 0 1 x) dp ca (am_up I 79 7 (Int32.ofNat x)) := by
  obtain ⟨a, -⟩ := id h
  exact h.at79 (fun b hb => up_row _ _ _ hb) (by rw [up_in, if_neg (by omega)]) (by rw [up_in, if_neg (by omega)]) (up_row _ _ _ (by omega)) (up_row _ _ _ (by omega)) (by rw [up_in, if_neg (by omega), up_in, if_neg (by omega)]; exact a.2.2.1) (by rw [up_in, if_pos rfl, up_in, if_pos rfl]) (by rw [up_in, if_neg (by omega)]; exact a.2.2.2.2.1) (by rw [up_in, if_neg (by omega)]; exact a.2.2.2.2.2)
theorem iS.dips (h : iS p t dp ca I) (v : Int32) : iS p t v ca (am_up I 79 8 v) := by
  obtain ⟨a, -⟩ := id h
  exact h.at79 (fun b hb => up_row _ _ _ hb) (by rw [up_in, if_neg (by omega)]) (by rw [up_in, if_neg (by omega)]) rfl rfl (by rw [up_in, if_neg (by omega)]; exact a.2.2.1) (by rw [up_in, if_neg (by omega)]; exact a.2.2.2.1) (by rw [up_in, if_pos rfl]) (by rw [up_in, if_neg (by omega)]; exact a.2.2.2.2.2)
theorem iS.carr (h : iS p t dp ca I) (v : Int32) : iS p t dp v (am_up I 79 9 v) := by
  obtain ⟨a, -⟩ := id h
  exact h.at79 (fun b hb => up_row _ _ _ hb) (by rw [up_in, if_neg (by omega)]) (by rw [up_in, if_neg (by omega)]) rfl rfl (by rw [up_in, if_neg (by omega)]; exact a.2.2.1) (by rw [up_in, if_neg (by omega)]; exact a.2.2.2.1) (by rw [up_in, if_neg (by omega)]; exact a.2.2.2.2.1) (by rw [up_in, if_pos rfl])
end E7
/-- what is kept but the law's own paper -/
def iZ (p : sP) (I I' : am_I) : Prop := ∀ r, (r < 79 ∨ 84 + p 0 2 + p 0 3 ≤ r) → I' r = I r
theorem iZ.rf (p : sP) (I : am_I) : iZ p I I := fun _ _ => rfl
theorem iZ.tr {p : sP} {I J K : am_I} (h : iZ p I J) (h2 : iZ p J K) : iZ p I K := fun r hr => (h2 r hr).trans (h r hr)
theorem iO.kept {p : sP} {q : Nat → Nat → Nat} {I I' : am_I} (h : iO p q I) (hz : iZ p I I') : iO p q I' := fun k hk j hj => by rw [hz _ (Or.inr (by omega))]; exact h k hk j hj
section E7b
variable {p t : sP} {dp ca : Int32} {I : am_I} {nd a : Nat} {q : Nat → Nat}
theorem i_does (hp : p_ok p) (ht : t_ok p t) (hS2 : s_S p ≤ 200) (h1o : 1 ≤ p 0 2) (h1i : 1 ≤ p 0 4) (h : iS p t dp ca I) {N : Nat} (hN : 84 + p 0 2 + p 0 3 ≤ N) (hd : 0 ≤ dp.toInt) (ha : 84 + p 0 2 + p 0 3 ≤ a) (hq : ∀ j, j < 6 → I a j = Int32.ofNat (q j)) (g0 : q 0 < 4) (g1 : q 0 = 0 → q 1 < p 0 3) (g3 : q 0 = 3 → q 1 < p 0 2) (h2 : q 2 < 5) (h3 : q 3 < 17) :
    ∃ b I', R_X12_does N I (p 0 4) (p 0 2) (p 0 3) nd a = some (b, I') ∧ iS p (s_do p t (if q 0 = 0 then (9, q 1) else if q 0 = 3 then (6, q 1) else if q 0 = 1 then (12, 0) else (12, 1)).1 (if q 0 = 0 then (9, q 1) else if q 0 = 3 then (6, q 1) else if q 0 = 1 then (12, 0) else (12, 1)).2 (s_res p t dp (oS (q 2) (q 3) (p 0 4)))).1 dp ca I' ∧ (b = 0 ↔ (s_do p t (if q 0 = 0 then (9, q 1) else if q 0 = 3 then (6, q 1) else if q 0 = 1 then (12, 0) else (12, 1)).1 (if q 0 = 0 then (9, q 1) else if q 0 = 3 then (6, q 1) else if q 0 = 1 then (12, 0) else (12, 1)).2 (s_res p t dp (oS (q 2) (q 3) (p 0 4)))).2 = false) ∧ iZ p I I' := by
  have h0 := hp.1
  have hq0 := hq 0 (by omega)
  have hq1 := hq 1 (by omega)
  have hs := i_sum (nd := nd) (a := a) (q := q) hp ht hS2 h1o h1i h hN hd hq h2 h3
  generalize s_res p t dp (oS (q 2) (q 3) (p 0 4)) = r at hs ⊢
  unfold R_X12_does
  rw [hs, Option.bind_some, k32_0, k32_1, k32_2, k32_3, hq0, hq1]
  rcases (by omega : q 0 = 0 ∨ q 0 = 3 ∨ q 0 = 1 ∨ q 0 = 2) with e | e | e | e
  · have hc := g1 e
    have n1 : (Int32.ofNat (q 1)).toNatClampNeg = q 1 := n_cl (by omega)
    have hv : vp_in (Int32.ofNat (q 1)) (p 0 3) := (n_in (by omega)).mpr hc
    have hb := gHo_b16 r
    have hg : gHo r 0 16 = Int32.ofNat (gHo r 0 16).toInt.toNat := n_ex hb.1
    rw [if_pos (show Int32.ofNat (q 0) = 0 by rw [e]; rfl), rg_pos hv, rg_pos hv, i_held r 16 (by decide), Option.bind_some, n1, up_row I _ _ (show a ≠ 84 + p 0 2 + q 1 by omega), hq1, rg_pos hv, n1, up_in, if_pos rfl, (h.2.2.1 (q 1) hc).2.2]
    have hS := h.pull (x := (gHo r 0 16).toInt.toNat) hc
    rw [← hg] at hS
    have hz : iZ p I (am_up I (84 + p 0 2 + q 1) 2 (gHo r 0 16)) := fun b hb => up_row _ _ _ (by omega)
    rw [if_pos e]
    show ∃ b I', _ ∧ iS p (s_do p t 9 (q 1) r).1 dp ca I' ∧ (b = 0 ↔ (s_do p t 9 (q 1) r).2 = false) ∧ _
    rw [s_do9]
    have ht2 := (ht.2.2 (q 1)).2
    by_cases c : t 2 (q 1) = (gHo r 0 16).toInt.toNat
    · rw [if_pos (by rw [hg, ← c]), if_pos c]
      rw [am_up_id c] at hS
      exact ⟨_, _, rfl, hS, ⟨fun _ => rfl, fun _ => rfl⟩, hz⟩
    · rw [if_neg (fun z => c (by rw [z, n_tn (by omega)])), if_neg c]
      exact ⟨_, _, rfl, hS, ⟨fun z => absurd z (by decide), fun z => Bool.noConfusion (show true = false from z)⟩, hz⟩
  · have hc := g3 e
    have n1 : (Int32.ofNat (q 1)).toNatClampNeg = q 1 := n_cl (by omega)
    have hv : vp_in (Int32.ofNat (q 1)) (p 0 2) := (n_in (by omega)).mpr hc
    have hb := gHo_b r
    have hg : gHo r 0 999 = Int32.ofNat (gHo r 0 999).toInt.toNat := n_ex hb.1
    rw [if_neg (show ¬ Int32.ofNat (q 0) = 0 by rw [e]; decide), if_pos (show Int32.ofNat (q 0) = 3 by rw [e]; rfl), rg_pos hv, rg_pos hv, i_held r 999 (by decide), Option.bind_some, n1, up_row I _ _ (show a ≠ 84 + q 1 by omega), hq1, rg_pos hv, n1, up_in, if_pos rfl, (h.2.1 (q 1) hc).2.2.2]
    have hS := h.seed (x := (gHo r 0 999).toInt.toNat) hc
    rw [← hg] at hS
    have hz : iZ p I (am_up I (84 + q 1) 3 (gHo r 0 999)) := fun b hb => up_row _ _ _ (by omega)
    rw [if_neg (show ¬ q 0 = 0 by omega), if_pos e]
    show ∃ b I', _ ∧ iS p (s_do p t 6 (q 1) r).1 dp ca I' ∧ (b = 0 ↔ (s_do p t 6 (q 1) r).2 = false) ∧ _
    rw [s_do6]
    have ht2 := (ht.2.2 (q 1)).1
    by_cases c : t 1 (q 1) = (gHo r 0 999).toInt.toNat
    · rw [if_pos (by rw [hg, ← c]), if_pos c]
      rw [am_up_id c] at hS
      exact ⟨_, _, rfl, hS, ⟨fun _ => rfl, fun _ => rfl⟩, hz⟩
    · rw [if_neg (fun z => c (by rw [z, n_tn (by omega)])), if_neg c]
      exact ⟨_, _, rfl, hS, ⟨fun z => absurd z (by decide), fun z => Bool.noConfusion (show true = false from z)⟩, hz⟩
  · have ne := n_ne0 (show 0 < p 0 0 by omega) (by omega)
    have hm := s_md_lt r.toInt (show 0 < p 0 0 by omega)
    rw [if_neg (show ¬ Int32.ofNat (q 0) = 0 by rw [e]; decide), if_neg (show ¬ Int32.ofNat (q 0) = 3 by rw [e]; decide), if_pos (show Int32.ofNat (q 0) = 1 by rw [e]; rfl), h.1.1, rg_pos ne, rg_pos ne, if_pos (show Int32.ofNat (q 0) = 1 by rw [e]; rfl), rg_pos ne, m_md (by omega) (by omega), h.1.2.2.1, n_add, n_mod (by have := ht.1; omega) (by omega), md_add _ _ _ (by omega)]
    have hS := h.across (s_md ((t 0 0 : Int) + r.toInt) (p 0 0))
    have hz : iZ p I (am_up I 79 6 (Int32.ofNat (s_md ((t 0 0 : Int) + r.toInt) (p 0 0)))) := fun b hb => up_row _ _ _ (by omega)
    rw [if_neg (show ¬ q 0 = 0 by omega), if_neg (show ¬ q 0 = 3 by omega), if_pos e]
    show ∃ b I', _ ∧ iS p (s_do p t 12 0 r).1 dp ca I' ∧ (b = 0 ↔ (s_do p t 12 0 r).2 = false) ∧ _
    rw [s_do120]
    by_cases c : s_md r.toInt (p 0 0) = 0
    · have c2 := (md_same (v := r.toInt) ht.1).mpr c
      rw [if_pos (by rw [c]; rfl), if_pos c2]
      rw [am_up_id c2.symm] at hS
      exact ⟨_, _, rfl, hS, ⟨fun _ => rfl, fun _ => rfl⟩, hz⟩
    · rw [if_neg (n_ne0 (by omega) (by omega)), if_neg (fun z => c ((md_same ht.1).mp z))]
      exact ⟨_, _, rfl, hS, ⟨fun z => absurd z (by decide), fun z => Bool.noConfusion (show true = false from z)⟩, hz⟩
  · have ne := n_ne0 (show 0 < p 0 1 by omega) (by omega)
    have hm := s_md_lt r.toInt (show 0 < p 0 1 by omega)
    rw [if_neg (show ¬ Int32.ofNat (q 0) = 0 by rw [e]; decide), if_neg (show ¬ Int32.ofNat (q 0) = 3 by rw [e]; decide), if_neg (show ¬ Int32.ofNat (q 0) = 1 by rw [e]; decide), h.1.2.1, rg_pos ne, rg_pos ne, if_neg (show ¬ Int32.ofNat (q 0) = 1 by rw [e]; decide), rg_pos ne, m_md (by omega) (by omega), h.1.2.2.2.1, n_add, n_mod (by have := ht.2.1; omega) (by omega), md_add _ _ _ (by omega)]
    have hS := h.down (s_md ((t 0 1 : Int) + r.toInt) (p 0 1))
    have hz : iZ p I (am_up I 79 7 (Int32.ofNat (s_md ((t 0 1 : Int) + r.toInt) (p 0 1)))) := fun b hb => up_row _ _ _ (by omega)
    rw [if_neg (show ¬ q 0 = 0 by omega), if_neg (show ¬ q 0 = 3 by omega), if_neg (show ¬ q 0 = 1 by omega)]
    show ∃ b I', _ ∧ iS p (s_do p t 12 1 r).1 dp ca I' ∧ (b = 0 ↔ (s_do p t 12 1 r).2 = false) ∧ _
    rw [s_do121 p t (by omega)]
    by_cases c : s_md r.toInt (p 0 1) = 0
    · have c2 := (md_same (v := r.toInt) ht.2.1).mpr c
      rw [if_pos (by rw [c]; rfl), if_pos c2]
      rw [am_up_id c2.symm] at hS
      exact ⟨_, _, rfl, hS, ⟨fun _ => rfl, fun _ => rfl⟩, hz⟩
    · rw [if_neg (n_ne0 (by omega) (by omega)), if_neg (fun z => c ((md_same ht.2.1).mp z))]
      exact ⟨_, _, rfl, hS, ⟨fun z => absurd z (by decide), fun z => Bool.noConfusion (show true = false from z)⟩, hz⟩
end E7b
section E7c
variable {p : sP} {dp : Int32} {q : Nat → Nat → Nat}
theorem i_dpL (hp : p_ok p) (hS2 : s_S p ≤ 200) (h1o : 1 ≤ p 0 2) (h1i : 1 ≤ p 0 4) (hd5 : p 0 5 ≤ 5) (hqk : q_ok p q) (hd : 0 ≤ dp.toInt) {N : Nat} (hN : 84 + p 0 2 + p 0 3 ≤ N) : ∀ (m k n c : Nat) (t : sP) (ca : Int32) (I : am_I), k + m = p 0 5 → m < n → c ≤ 4 * k → t_ok p t → iS p t dp ca I → iO p q I →
    ∃ I', L_X12_dip n 0 N c I (p 0 4) (p 0 2) (p 0 3) (p 0 5) (Int32.ofNat (p 0 5)) (Int32.ofNat k) = some I' ∧ iS p (s_dl p (oq p q) dp m k (t, ca)).1 (dp + 1) (s_dl p (oq p q) dp m k (t, ca)).2 I' ∧ iZ p I I' := by
  have h0 := hp.1
  intro m
  induction m with
  | zero =>
    intro k n c t ca I hk hn hc ht h hO
    obtain ⟨n, rfl⟩ : ∃ n', n = n' + 1 := ⟨n - 1, by omega⟩
    rw [L_X12_dip_0, if_pos ((n_le (by omega) (by omega)).mpr (by omega)), h.1.2.2.2.2.1]
    exact ⟨_, rfl, h.dips _, fun b hb => up_row _ _ _ (by omega)⟩
  | succ m ih =>
    intro k n c t ca I hk hn hc ht h hO
    obtain ⟨n, rfl⟩ : ∃ n', n = n' + 1 := ⟨n - 1, by omega⟩
    obtain ⟨g0, g1, g3, g2, g4, g5, g6⟩ := hqk k (by omega)
    have hs : s_dl p (oq p q) dp (m + 1) k (t, ca) = s_dl p (oq p q) dp m (k + 1) ((s_o1 p dp (oq p q k) t).1, if (s_o1 p dp (oq p q k) t).2 then ca + 1 else ca) := rfl
    obtain ⟨v, v1, v2⟩ := i_holds (nd := p 0 5) (a := 84 + p 0 2 + p 0 3 + k) (q := q k) hp ht hS2 h1o h1i h hN (hO k (by omega)) g5 g6
    rw [hs, L_X12_dip_0, if_neg (fun z => absurd ((n_le (by omega) (by omega)).mp z) (by omega)), rg_pos ((n_in (by omega)).mpr (by omega)), n_cl (by omega), rg_pos (by omega), v1, Option.bind_some, n_inc]
    by_cases c1 : v = 0
    · have e : s_o1 p dp (oq p q k) t = (t, false) := by
        unfold s_o1
        exact if_neg (v2.mp c1)
      rw [if_pos c1, e]
      exact ih (k + 1) n (c + 2) t ca I (by omega) (by omega) (by omega) ht h hO
    · have e : s_o1 p dp (oq p q k) t = s_do p t (oq p q k).1.1 (oq p q k).1.2 (s_res p t dp (oq p q k).2.1) := by
        unfold s_o1
        exact if_pos (Classical.byContradiction fun z => c1 (v2.mpr z))
      obtain ⟨b, I1, d1, d2, d3, d4⟩ := i_does (nd := p 0 5) (a := 84 + p 0 2 + p 0 3 + k) (q := q k) hp ht hS2 h1o h1i h hN hd (by omega) (hO k (by omega)) g0 g1 g3 g2 g4
      have ht1 := s_o1_ok hp ht dp (oq p q k)
      rw [e] at ht1 ⊢
      rw [if_neg c1, rg_pos (by omega), d1, Option.bind_some]
      dsimp only
      have ed : s_do p t (oq p q k).1.1 (oq p q k).1.2 (s_res p t dp (oq p q k).2.1) = s_do p t (if q k 0 = 0 then (9, q k 1) else if q k 0 = 3 then (6, q k 1) else if q k 0 = 1 then (12, 0) else (12, 1)).1 (if q k 0 = 0 then (9, q k 1) else if q k 0 = 3 then (6, q k 1) else if q k 0 = 1 then (12, 0) else (12, 1)).2 (s_res p t dp (oS (q k 2) (q k 3) (p 0 4))) := rfl
      rw [← ed] at d2 d3
      have hO1 := hO.kept d4
      by_cases c2 : b = 0
      · rw [if_pos c2, if_neg (by rw [d3.mp c2]; decide)]
        obtain ⟨I', f1, f2, f3⟩ := ih (k + 1) n (c + 4) _ ca I1 (by omega) (by omega) (by omega) ht1 d2 hO1
        exact ⟨I', f1, f2, d4.tr f3⟩
      · have hb : (s_do p t (oq p q k).1.1 (oq p q k).1.2 (s_res p t dp (oq p q k).2.1)).2 = true := by
          cases z : (s_do p t (oq p q k).1.1 (oq p q k).1.2 (s_res p t dp (oq p q k).2.1)).2 with
          | true => rfl
          | false => exact absurd (d3.mpr z) c2
        rw [if_neg c2, if_pos hb, d2.1.2.2.2.2.2]
        obtain ⟨I', f1, f2, f3⟩ := ih (k + 1) n (c + 4) _ (ca + 1) (am_up I1 79 9 (ca + 1)) (by omega) (by omega) (by omega) ht1 (d2.carr _) (hO1.kept (fun b hb => up_row _ _ _ (by omega)))
        exact ⟨I', f1, f2, (d4.tr (fun b hb => up_row _ _ _ (by omega))).tr f3⟩
/-- a dip by hand -/
theorem i_dip (hp : p_ok p) (hS2 : s_S p ≤ 200) (h1o : 1 ≤ p 0 2) (h1i : 1 ≤ p 0 4) (hd5 : p 0 5 ≤ 5) (hqk : q_ok p q) (hd : 0 ≤ dp.toInt) {N : Nat} (hN : 84 + p 0 2 + p 0 3 ≤ N) {t : sP} {ca : Int32} {I : am_I} (ht : t_ok p t) (h : iS p t dp ca I) (hO : iO p q I) :
    ∃ I', R_X12_dip N I (p 0 4) (p 0 2) (p 0 3) (p 0 5) = some I' ∧ iS p (s_dip p (oq p q) (t, dp, ca)).1 (s_dip p (oq p q) (t, dp, ca)).2.1 (s_dip p (oq p q) (t, dp, ca)).2.2 I' ∧ iZ p I I' :=
  i_dpL hp hS2 h1o h1i hd5 hqk hd hN (p 0 5) 0 FU 0 t ca I (by omega) (by unfold FU; omega) (by omega) ht h hO
end E7c
