/-! the invariant between calls; what it asks of a call -/
def kwL : List Int64 := [30059336, 99, 1046797086, 75899451, 224012, 1856278475211, 969441, 172977, 37744078, 839653, 12850, 329128, 8420961, 755, 1176170, 5825, 36016323, 564588237, 259005, 19741, 1891, 573, 18144, 17858]
def rB_112' (I : am_I) : Prop := ∀ k, I 116 k = 0 ∨ I 116 k = 1
/-- class and reference agree: the plan p, what dips change t, the orders od, dips, carried out, bytes -/
def kI (p t : sP) (od : sO) (dp ca : Int32) (ln : Nat) (I : am_I) (G : am_G) : Prop :=
  (p_ok p ∧ t_ok p t ∧ o_ok p od) ∧ (cO I p od ∧ rO I p od) ∧ (cA_53 I p t dp ca ∧ rS_102 I p t dp ca) ∧ rB_112' I ∧ (I 1 5 = Int32.ofNat ln ∧ I 79 2 = Int32.ofNat ln ∧ ln ≤ 2000) ∧ (∀ k, k < ln → I 2 k = I 80 k ∧ 0 ≤ (I 2 k).toInt ∧ (I 2 k).toInt ≤ 255) ∧ I 0 6 = I 79 3 ∧ ∀ k, k < 24 → G 3 k = kwL.getD k 0
def kV (I : am_I) (G : am_G) : Prop := ∃ (p t : sP) (od : sO) (dp ca : Int32) (ln : Nat), kI p t od dp ca ln I G
theorem cA_53.kept {I I' : am_I} {p t : sP} {dp ca : Int32} (h : cA_53 I p t dp ca) (hk : ∀ b, (7 ≤ b ∧ b ≤ 15) ∨ b = 26 ∨ b = 27 ∨ (53 ≤ b ∧ b ≤ 65) → I' b = I b) : cA_53 I' p t dp ca := by
  obtain ⟨⟨a1, a2⟩, ⟨a3, a4, a5⟩, a6, a7⟩ := h
  have e53 := hk 53 (by omega)
  refine ⟨⟨a1.kept (fun b h1 h2 => hk b (by omega)), a2.kept (hk 26 (by omega)) (hk 27 (by omega))⟩, ⟨a3.kept ⟨by rw [e53], by rw [e53]⟩ ⟨hk 54 (by omega), hk 55 (by omega), hk 56 (by omega)⟩, ?_, ?_⟩, by rw [e53]; exact a6, by rw [e53]; exact a7⟩
  · unfold cF_53
    rw [e53, hk 57 (by omega), hk 58 (by omega), hk 59 (by omega)]
    exact a4
  · unfold cQ_53
    rw [e53, hk 60 (by omega), hk 61 (by omega), hk 62 (by omega)]
    exact a5
theorem rA_102.kept {I I' : am_I} {p t : sP} (h : rA_102 I p t) (hk : ∀ b, (86 ≤ b ∧ b ≤ 94) ∨ (102 ≤ b ∧ b ≤ 108) → I' b = I b) : rA_102 I' p t := by
  obtain ⟨a1, a2, a3, a4, a5⟩ := h
  have e102 := hk 102 (by omega)
  refine ⟨a1.kept (fun b h1 h2 => hk b (by omega)), a2.kept ⟨by rw [e102], by rw [e102]⟩ ⟨hk 103 (by omega), hk 104 (by omega)⟩, ?_, ?_, ?_⟩
  · unfold rV_102
    rw [hk 105 (by omega), hk 106 (by omega)]
    exact a3
  · unfold rB_102
    rw [hk 106 (by omega)]
    exact a4
  · unfold rF_102
    rw [e102, hk 107 (by omega), hk 108 (by omega)]
    exact a5
theorem rS_102.kept {I I' : am_I} {p t : sP} {dp ca : Int32} (h : rS_102 I p t dp ca) (hk : ∀ b, (86 ≤ b ∧ b ≤ 94) ∨ (102 ≤ b ∧ b ≤ 108) → I' b = I b) : rS_102 I' p t dp ca :=
  ⟨h.1.kept hk, by rw [hk 102 (by omega)]; exact h.2.1, by rw [hk 102 (by omega)]; exact h.2.2⟩
/-- what a call of the class changes, of the reference -/
def zc (I I' : am_I) : Prop := ∀ b, b ≠ 26 → b ≠ 27 → (b < 53 ∨ 78 < b) → I' b = I b
def zm (I I' : am_I) : Prop := (∀ b, b < 123 → b ≠ 79 → (b < 102 ∨ 121 < b) → I' b = I b) ∧ ∀ k, k ≠ 0 → I' 79 k = I 79 k
theorem zc.rf (I : am_I) : zc I I := fun _ _ _ _ => rfl
theorem zm.rf (I : am_I) : zm I I := ⟨fun _ _ _ _ => rfl, fun _ _ => rfl⟩
theorem zc.tr {I I1 I2 : am_I} (h1 : zc I I1) (h2 : zc I1 I2) : zc I I2 := fun b z1 z2 z3 => (h2 b z1 z2 z3).trans (h1 b z1 z2 z3)
theorem zm.tr {I I1 I2 : am_I} (h1 : zm I I1) (h2 : zm I1 I2) : zm I I2 := ⟨fun b z1 z2 z3 => (h2.1 b z1 z2 z3).trans (h1.1 b z1 z2 z3), fun k hk => (h2.2 k hk).trans (h1.2 k hk)⟩
theorem zm.up (I : am_I) (x : Int32) : zm I (am_up I 79 0 x) := ⟨fun b _ h _ => up_row _ _ _ h, fun k hk => by rw [up_in, if_neg hk]⟩
theorem cZ_53.toc {I I' : am_I} (h : cZ_53 I I') : zc I I' := fun b z1 z2 z3 => h b z1 z2 (by omega)
theorem cZ_66.toc {I I' : am_I} (h : cZ_66 I I') : zc I I' := fun b z1 z2 z3 => h b z1 z2 (by omega)
theorem rZ_102.tom {I I' : am_I} (h : rZ_102 I I') : zm I I' := ⟨fun b _ _ h3 => h b (by omega), fun k _ => by rw [h 79 (by omega)]⟩
theorem rZ_112.tom {I I' : am_I} (h : rZ_112 I I') : zm I I' := ⟨fun b _ _ h3 => h b (by omega), fun k _ => by rw [h 79 (by omega)]⟩
theorem kI.step {p t t' : sP} {od : sO} {dp ca dp' ca' : Int32} {ln : Nat} {I I1 I2 : am_I} {G G2 : am_G} (h : kI p t od dp ca ln I G) (hz : zc I I1) (hc : cA_53 I1 p t' dp' ca') (hm : zm I1 I2) (hr : rS_102 I2 p t' dp' ca') (hB : rB_112' I2) (ht : t_ok p t') (hG : G2 3 = G 3) : kI p t' od dp' ca' ln I2 G2 := by
  obtain ⟨⟨a1, a2, a3⟩, ⟨b1, b2⟩, ⟨c1, c2⟩, d1, ⟨e1, e2, e3⟩, f1, g1, h1⟩ := h
  have hk : ∀ b, b ≠ 26 → b ≠ 27 → b ≠ 79 → (b < 53 ∨ 78 < b) → b < 102 → I2 b = I b := fun b z1 z2 z3 z4 z5 => (hm.1 b (by omega) z3 (by omega)).trans (hz b z1 z2 z4)
  have h79 : ∀ k, k ≠ 0 → I2 79 k = I 79 k := fun k hk => (hm.2 k hk).trans (by rw [hz 79 (by omega) (by omega) (by omega)])
  refine ⟨⟨a1, ht, a3⟩, ⟨b1.kept (fun b z1 z2 => hk b (by omega) (by omega) (by omega) (by omega) (by omega)), b2.kept (fun b z1 z2 => hk b (by omega) (by omega) (by omega) (by omega) (by omega)) (by rw [hk 86 (by omega) (by omega) (by omega) (by omega) (by omega)])⟩, ⟨hc.kept (fun b hb => hm.1 b (by omega) (by omega) (by omega)), hr⟩, hB, ⟨by rw [hk 1 (by omega) (by omega) (by omega) (by omega) (by omega)]; exact e1, by rw [h79 2 (by omega)]; exact e2, e3⟩, ?_, ?_, by rw [hG]; exact h1⟩
  · rw [hk 2 (by omega) (by omega) (by omega) (by omega) (by omega), hk 80 (by omega) (by omega) (by omega) (by omega) (by omega)]
    exact f1
  · rw [hk 0 (by omega) (by omega) (by omega) (by omega) (by omega), h79 3 (by omega)]
    exact g1
theorem kI.up {p t : sP} {od : sO} {dp ca : Int32} {ln : Nat} {I : am_I} {G G2 : am_G} (h : kI p t od dp ca ln I G) (x : Int32) (hG : G2 3 = G 3) : kI p t od dp ca ln (am_up I 79 0 x) G2 :=
  h.step (zc.rf I) h.2.2.1.1 (zm.up I x) (h.2.2.1.2.kept (fun b hb => up_row _ _ _ (by omega))) (by unfold rB_112'; rw [up_row _ _ _ (by omega)]; exact h.2.2.2.1) h.1.2.1 hG
theorem kI.gx {p t : sP} {od : sO} {dp ca : Int32} {ln : Nat} {I : am_I} {G G2 : am_G} (h : kI p t od dp ca ln I G) (hG : G2 3 = G 3) : kI p t od dp ca ln I G2 := by
  obtain ⟨a, b, c, d, e, f, g, h1⟩ := h
  exact ⟨a, b, c, d, e, f, g, by rw [hG]; exact h1⟩
/-- a call that may throw -/
def kGoal (hn : Nat → Int32) (M : am_I → am_G → Int32 → am_I → am_G → Prop) (R : Option ((Int32 ⊕ Nat) × am_I × am_G)) (ks : Nat → Prop) (I : am_I) (G : am_G) : Prop :=
  ∃ (out : (Int32 ⊕ Nat) × am_I × am_G) (I2 : am_I) (G2 : am_G) (bb : Int32), R = some out ∧ (∀ k, out.1 = .inr k → ks k) ∧ M (hO hn I G out).2.1 (hO hn I G out).2.2 bb I2 G2 ∧ I2 79 0 = (hO hn I G out).1 ∧ ((hO hn I G out).1 = 0 → G2 122 0 = bb.toInt64) ∧ kV I2 G2
theorem kG_thr {hn : Nat → Int32} {M : am_I → am_G → Int32 → am_I → am_G → Prop} {R : Option ((Int32 ⊕ Nat) × am_I × am_G)} {ks : Nat → Prop} {I : am_I} {G : am_G} {k : Nat} {n : Int32} (hV : kV I G) (hR : R = some (.inr k, I, G)) (hk : ks k) (hh : hn k = n) (h0 : ¬ n = 0) (hM : M I G 0 (am_up (am_up I 79 0 0) 79 0 n) G) : kGoal hn M R ks I G := by
  obtain ⟨p, t, od, dp, ca, ln, h⟩ := hV
  refine ⟨(.inr k, I, G), am_up (am_up I 79 0 0) 79 0 n, G, 0, hR, fun k' hk' => ?_, hM, ?_, fun z => absurd (hh.symm.trans z) h0, p, t, od, dp, ca, ln, (h.up 0 rfl).up n rfl⟩
  · cases hk'; exact hk
  · show am_up (am_up I 79 0 0) 79 0 n 79 0 = hn k
    rw [am_up_self, hh]
theorem kG_ret {hn : Nat → Int32} {M : am_I → am_G → Int32 → am_I → am_G → Prop} {R : Option ((Int32 ⊕ Nat) × am_I × am_G)} {ks : Nat → Prop} {I : am_I} {G G' : am_G} {v : Int32} {I1 I2 : am_I} (hG : G' = am_up G 122 0 v.toInt64) (hR : R = some (.inl v, I1, G)) (hM : M I1 G' v I2 G') (h0 : I2 79 0 = 0) (hV : kV I2 G') : kGoal hn M R ks I G := by
  subst hG
  exact ⟨(.inl v, I1, G), I2, am_up G 122 0 v.toInt64, v, hR, fun k hk => (by cases hk), hM, h0, fun _ => am_up_self _ _ _ _, hV⟩
theorem g3_up {G G' : am_G} {v : Int64} (hG : G' = am_up G 122 0 v) : G' 3 = G 3 := by rw [hG]; exact up_row _ _ _ (by omega)
theorem isIn_b (I : am_I) (G : am_G) (x a b : Int32) : f_X14_isIn I G x a b = if a.toInt ≤ x.toInt ∧ x.toInt ≤ b.toInt then 1 else 0 := by
  unfold f_X14_isIn
  by_cases h1 : x < a
  · rw [if_pos h1, if_neg (by rw [i_lt] at h1; omega)]
  · rw [if_neg h1]
    rw [i_lt] at h1
    by_cases h2 : b < x
    · rw [if_pos h2, if_neg (by rw [i_lt] at h2; omega)]
    · rw [if_neg h2, if_pos (by rw [i_lt] at h2; omega)]
theorem isIn_y {I : am_I} {G : am_G} {x a b : Int32} (h : a.toInt ≤ x.toInt ∧ x.toInt ≤ b.toInt) : f_X14_isIn I G x a b = 1 := by rw [isIn_b, if_pos h]
theorem isIn_n {I : am_I} {G : am_G} {x a b : Int32} (h : ¬ (a.toInt ≤ x.toInt ∧ x.toInt ≤ b.toInt)) : f_X14_isIn I G x a b = 0 := by rw [isIn_b, if_neg h]
theorem rgb_if {α : Type} {c : Prop} {d : Decidable c} {x : Option α} : rg ((if c then (1 : Int32) else 0) = 0 ∨ (if c then (1 : Int32) else 0) = 1) x = x := by
  refine rg_pos ?_
  split
  · exact Or.inr rfl
  · exact Or.inl rfl
section KM
variable {p t : sP} {od : sO} {dp ca : Int32} {ln : Nat} {I : am_I} {G : am_G}
theorem r_isO (h : rP I p) (hp : p_ok p) (x : Int32) : R_X14_isOctave_79 I G x = some (if 0 ≤ x.toInt ∧ x.toInt < p 0 2 then 1 else 0, I, G) := by
  have h0 := hp.1
  unfold R_X14_isOctave_79
  rw [isIn_b, h.1.2.2.1, show (1 : Int32) = Int32.ofNat 1 from rfl, n_sti (by omega) (by omega), i_0]
  rw [show (Int32.ofNat 1) = (1 : Int32) from rfl, rgb_if]
  congr 2
  by_cases hx : 0 ≤ x.toInt ∧ x.toInt < p 0 2
  · rw [if_pos hx, if_pos (by omega)]
  · rw [if_neg hx, if_neg (by omega)]
theorem r_isC (h : rP I p) (hp : p_ok p) (x : Int32) : R_X14_isComb_79 I G x = some (if 0 ≤ x.toInt ∧ x.toInt < p 0 3 then 1 else 0, I, G) := by
  have h0 := hp.1
  unfold R_X14_isComb_79
  rw [isIn_b, h.1.2.2.2.1, show (1 : Int32) = Int32.ofNat 1 from rfl, n_sti (by omega) (by omega), i_0]
  rw [show (Int32.ofNat 1) = (1 : Int32) from rfl, rgb_if]
  congr 2
  by_cases hx : 0 ≤ x.toInt ∧ x.toInt < p 0 3
  · rw [if_pos hx, if_pos (by omega)]
  · rw [if_neg hx, if_neg (by omega)]
theorem r_isK (h : rP I p) (hp : p_ok p) (x : Int32) : R_X14_isInk_79 I G x = some (if 0 ≤ x.toInt ∧ x.toInt ≤ p 0 4 then 1 else 0, I, G) := by
  have h0 := hp.1
  unfold R_X14_isInk_79
  rw [isIn_b, h.1.2.2.2.2, n_ti (by omega), i_0, rgb_if]
theorem rP.up79 (h : rP I p) (x : Int32) : rP (am_up I 79 0 x) p := h.kept (fun b _ _ => up_row _ _ _ (by omega))
theorem rS_102.up79 (h : rS_102 I p t dp ca) (x : Int32) : rS_102 (am_up I 79 0 x) p t dp ca := h.kept (fun b _ => up_row _ _ _ (by omega))
theorem zc.rS {I1 : am_I} (hz : zc I I1) (h : rS_102 I p t dp ca) : rS_102 I1 p t dp ca := h.kept (fun b _ => hz b (by omega) (by omega) (by omega))
theorem zc.rB {I1 : am_I} (hz : zc I I1) (h : rB_112' I) : rB_112' I1 := by unfold rB_112'; rw [hz 116 (by omega) (by omega) (by omega)]; exact h
theorem rX_102.toB {I1 : am_I} (hz : rX_102 I I1) (h : rB_112' I) : rB_112' I1 := by unfold rB_112'; rw [hz.1 116 (by omega) (by omega)]; exact h
theorem rZ_102.toB {I1 : am_I} (hz : rZ_102 I I1) (h : rB_112' I) : rB_112' I1 := by unfold rB_112'; rw [hz 116 (by omega)]; exact h
theorem rB_112'.up (h : rB_112' I) (x : Int32) : rB_112' (am_up I 79 0 x) := by unfold rB_112'; rw [up_row _ _ _ (by omega)]; exact h
theorem s_spot_dm (hp : p_ok p) (x y : Int32) : s_spot p x y % p 0 0 = s_md x.toInt (p 0 0) ∧ s_spot p x y / p 0 0 = s_md y.toInt (p 0 1) := s_dm (s_md_lt _ (by have := hp.1; omega))
end KM
