/-! the reference reads a list, all of it: the end -/
section RRF
variable {B : Nat → Nat} {ln : Nat} {T : Nat}
theorem rZ.k {I I' : am_I} {X : sX} {W : Nat → Nat × Nat} (h : rZ I X W) (hk : ∀ b, b ≠ 79 → b ≠ 137 → I' b = I b) : rZ I' X W := by
  unfold rZ
  rw [hk 123 (by omega) (by omega), hk 124 (by omega) (by omega), hk 125 (by omega) (by omega), hk 126 (by omega) (by omega), hk 127 (by omega) (by omega), hk 128 (by omega) (by omega), hk 129 (by omega) (by omega), hk 130 (by omega) (by omega), hk 131 (by omega) (by omega), hk 132 (by omega) (by omega), hk 133 (by omega) (by omega), hk 85 (by omega) (by omega)]
  exact h
theorem r_read {I : am_I} {G : am_G} (hR : tpR B ln I) (hT : T ≤ 400) (hK : ∀ p, p < T → tKK B ln p ≤ 40) (h41 : 41 ≤ tKK B ln T) {I0 : am_I} (hI0 : I0 = zI_X14r (am_up (am_up I 79 0 (0 : Int32)) 79 3 (-1 : Int32))) : (match sLs (tKK B ln) (bV B ln) (T + 1) 0 [] with
    | .inr q => ∃ I' : am_I, R_X14_read_79 I0 G = some ((1 : Int32), am_up I' 79 3 (Int32.ofNat (tS B ln q)), G) ∧ rfd I0 I' ∧ q ≤ T
    | .inl (_, a) => (∃ (k q : Nat) (I' : am_I), (its (tKK B ln) (bV B ln) (bC B ln) (lits a) X0D).2.1 = some (k, q) ∧ 2 ≤ k ∧ k ≤ 5 ∧ q ≤ T ∧ R_X14_read_79 I0 G = some (Int32.ofNat k, am_up I' 79 3 (Int32.ofNat (tS B ln q)), G) ∧ rfd I0 I') ∨ ((its (tKK B ln) (bV B ln) (bC B ln) (lits a) X0D).2.1 = none ∧ ∃ I' : am_I, R_X14_read_79 I0 G = some ((0 : Int32), I', G) ∧ rfd I0 I' ∧ I' 79 3 = -1 ∧ rZ I' (its (tKK B ln) (bV B ln) (bC B ln) (lits a) X0D) (itsW (tKK B ln) (bV B ln) (bC B ln) (lits a) X0D W0D) ∧ rcd (I' 137) 0 ((cco (locs a)).map (mrs (its (tKK B ln) (bV B ln) (bC B ln) (lits a) X0D).2.2)) ∧ s_el (cco (locs a)) ≤ 800 ∧ ∀ k, k < (locs a).length → k < 20 → I' 134 k = Int32.ofNat (s_el (cco ((locs a).take k))) ∧ I' 135 k = Int32.ofNat (s_el (cco ((locs a).take k)) + s_el (loc a k).1) ∧ I' 136 k = Int32.ofNat (s_el (cco ((locs a).take k)) + s_el (loc a k).1 + s_el (loc a k).2))) := by
  obtain ⟨zl, ⟨z0, z1⟩, z2, zr⟩ := z_new (am_up (am_up I 79 0 (0 : Int32)) 79 3 (-1 : Int32))
  rw [← hI0] at zl z0 z1 z2 zr
  have hR0 : tpR B ln I0 := hR.kept (by rw [zl 79 (by omega), up_in, if_neg (by omega), up_in, if_neg (by omega)]) (by rw [zl 80 (by omega), up_row _ _ _ (by omega), up_row _ _ _ (by omega)])
  have i3 : I0 79 3 = -1 := by rw [zl 79 (by omega), am_up_self]
  obtain ⟨J1, e1, t1, t2⟩ := r_cut (G := G) hR0 hT hK h41
  have hok := b_ok hR0 hT hK h41
  obtain ⟨J2, hJ2⟩ : ∃ J : am_I, J = am_up (am_up J1 79 9 (0 : Int32)) 79 10 (0 : Int32) := ⟨_, rfl⟩
  have j2b : ∀ b, b ≠ 79 → J2 b = J1 b := fun b hb => by rw [hJ2, up_row _ _ _ hb, up_row _ _ _ hb]
  have j2k : ∀ k, k ≠ 9 → k ≠ 10 → J2 79 k = I0 79 k := fun k k1 k2 => by rw [hJ2, up_in, if_neg k2, up_in, if_neg k1, t2 79 (by omega)]
  have j2o : ∀ b, b ≠ 79 → (b < 81 ∨ 85 < b) → J2 b = I0 b := fun b b1 b2 => by rw [j2b b b1, t2 b b2]
  have hTK2 : rTK B ln T (fun _ => 0) J2 := by
    refine ⟨hR0.kept (j2k 2 (by omega) (by omega)) (j2o 80 (by omega) (by omega)), hT, fun p hp => ?_, fun p hp => ⟨by rw [j2b 84 (by omega)]; exact (t1 p (by omega)).2.2.2.1, Nat.zero_le 20⟩⟩
    rw [j2b 81 (by omega), j2b 82 (by omega), j2b 83 (by omega)]
    obtain ⟨a1, a2, a3, _⟩ := t1 p (by omega)
    exact ⟨a1, a2, a3⟩
  have hX2 : rX (tKK B ln) (bV B ln) T J2 G := rX_of hTK2 hok
  have r123 : ∀ k, 2 ≤ k → J2 123 k = 0 := fun k hk => by rw [j2o 123 (by omega) (by omega)]; exact z2 k hk
  have hPl : rPl T J2 J2 0 [] := by
    refine ⟨⟨⟨by rw [hJ2, up_in, if_neg (by omega), am_up_self]; rfl, by rw [hJ2, am_up_self]; rfl, by rw [r123 21 (by omega)]; rfl, by rw [r123 23 (by omega)]; rfl⟩, by omega, Nat.le_refl 0, Nat.le_refl 0⟩, ⟨rfl, rfl, rfl⟩, ⟨by rw [r123 14 (by omega)]; rfl, Nat.le_refl 0⟩, fun k hk => absurd hk (Nat.not_lt_zero k), rfo.rf J2⟩
  obtain ⟨v, J3, e3, f3, q3⟩ := r_plan hX2 (T + 1) 0 FU J2 [] (by omega) (by unfold FU; omega) hPl
  have eR : R_X14_read_79 I0 G = (if v = 0 then rg (vp_in (J3 79 9) 401) (some ((1 : Int32), (am_up J3 79 3 (J3 82 (J3 79 9).toNatClampNeg)), G)) else L_X14_read_79 FU 0 (am_up J3 79 9 (0 : Int32)) G (J3 79 9) 0) := by
    unfold R_X14_read_79 R_X14_isPlan_79
    rw [e1, rb_go, ← hJ2, e3, rb_go]
  have fd : rfd I0 J3 := ⟨fun b hb => by rw [f3.1 b (by omega) (by omega) (by omega) (by omega) (by omega) (by omega) (by omega) (by omega), j2o b (by omega) (by omega)], fun k k1 k2 k3 => by rw [f3.2.1 k k2 k3, j2k k k2 k3]⟩
  have j82 : ∀ p, p ≤ T → J3 82 p = Int32.ofNat (tS B ln p) := fun p hp => by rw [f3.1 82 (by omega) (by omega) (by omega) (by omega) (by omega) (by omega) (by omega) (by omega)]; exact (hTK2.2.2.1 p hp).2.1
  cases hs : sLs (tKK B ln) (bV B ln) (T + 1) 0 [] with
  | inr q =>
    rw [hs] at q3
    obtain ⟨rfl, q9, hq⟩ := q3
    refine ⟨J3, ?_, fd, hq⟩
    rw [eR, if_pos rfl, q9, rg_pos ((n_in (by omega)).mpr (by omega)), n_cl (by omega), j82 q hq]
  | inl z =>
    obtain ⟨q, a⟩ := z
    rw [hs] at q3
    obtain ⟨rfl, k41, hP⟩ := q3
    obtain ⟨⟨lw, linc⟩, hq, _⟩ := f_acc (C := bC B ln) hok (T + 1) 0 [] q a (by omega) ⟨fun X => trivial, s_inc.nil (Nat.le_refl 0)⟩ hs
    obtain ⟨ρ, hρ⟩ : ∃ ρ : Nat → Nat, ρ = fun p => (rof (lits a) p).getD 0 := ⟨_, rfl⟩
    obtain ⟨J4, hJ4⟩ : ∃ J : am_I, J = am_up J3 79 9 (0 : Int32) := ⟨_, rfl⟩
    have j4b : ∀ b, b ≠ 79 → J4 b = J3 b := fun b hb => by rw [hJ4, up_row _ _ _ hb]
    have hwr := wf_rof (lits a) X0D (lw X0D)
    have hρ20 : ∀ p, ρ p ≤ 20 := fun p => by
      rw [hρ]
      dsimp only
      cases hr : rof (lits a) p with
      | none => exact Nat.zero_le 20
      | some r => exact (hwr p r hr).2.1
    have hTK4 : rTK B ln T ρ J4 := by
      refine ⟨hTK2.1.kept (by rw [hJ4, up_in, if_neg (by omega), f3.2.1 2 (by omega) (by omega)]) (by rw [j4b 80 (by omega), f3.1 80 (by omega) (by omega) (by omega) (by omega) (by omega) (by omega) (by omega) (by omega)]), hT, fun p hp => ?_, fun p hp => ⟨?_, hρ20 p⟩⟩
      · rw [j4b 81 (by omega), j4b 82 (by omega), j4b 83 (by omega), f3.1 81 (by omega) (by omega) (by omega) (by omega) (by omega) (by omega) (by omega) (by omega), f3.1 82 (by omega) (by omega) (by omega) (by omega) (by omega) (by omega) (by omega) (by omega), f3.1 83 (by omega) (by omega) (by omega) (by omega) (by omega) (by omega) (by omega) (by omega)]
        exact hTK2.2.2.1 p hp
      · rw [j4b 84 (by omega), hP.2.1.1, s_ov_rof _ _ _ linc.2.2, hρ]
        dsimp only
        cases hr : rof (lits a) p with
        | none => exact (hTK2.2.2.2 p hp).1
        | some r => rfl
    have c123 : ∀ k, k ≤ 13 → J4 123 k = I0 123 k := fun k hk => by rw [j4b 123 (by omega), f3.2.2 k (by omega) (by omega) (by omega), j2o 123 (by omega) (by omega)]
    have crow : ∀ b, 124 ≤ b → b ≤ 133 → ∀ k, J4 b k = 0 := fun b h1 h2 k => by rw [j4b b (by omega), f3.1 b (by omega) (by omega) (by omega) (by omega) (by omega) (by omega) (by omega) (by omega), j2o b (by omega) (by omega)]; exact zr b h1 (by omega) k
    have hZ4 : rZ J4 X0D W0D := by
      refine ⟨⟨by rw [c123 0 (by omega)]; exact z0, by rw [c123 1 (by omega)]; exact z1, by rw [c123 2 (by omega)]; exact z2 2 (by omega), by rw [c123 3 (by omega)]; exact z2 3 (by omega), by rw [c123 4 (by omega)]; exact z2 4 (by omega), by rw [c123 13 (by omega)]; exact z2 13 (by omega)⟩, ⟨fun k => crow 124 (by omega) (by omega) k, fun k => crow 125 (by omega) (by omega) k, fun k => crow 126 (by omega) (by omega) k, fun k => crow 127 (by omega) (by omega) k, fun k => crow 128 (by omega) (by omega) k, fun k => crow 129 (by omega) (by omega) k, fun k => crow 130 (by omega) (by omega) k, fun k => crow 131 (by omega) (by omega) k⟩, fun k => Nat.zero_le _, fun k => ⟨crow 132 (by omega) (by omega) k, crow 133 (by omega) (by omega) k⟩, fun b k hb => by cases hb⟩
    have fd4 : ∀ I' : am_I, rfp J4 I' → rfd I0 I' := fun I' hf => ⟨fun b hb => by rw [hf.1 b (by omega) (by omega) (by omega) (by omega), j4b b (by omega)]; exact fd.1 b hb, fun k k1 k2 k3 => by rw [hf.2.2 k k2, hJ4, up_in, if_neg k2]; exact fd.2 k k1 k2 k3⟩
    have eR2 : R_X14_read_79 I0 G = L_X14_read_79 FU 0 J4 G (Int32.ofNat q) 0 := by rw [eR, if_neg (by decide), ← hJ4, hP.1.1.1]
    have hpass := r_pass (G := G) hq (fun k hk h3 => by
      have h3 : ((rof (lits a) k).getD 0 = 3 ∨ (rof (lits a) k).getD 0 = 8 ∨ (rof (lits a) k).getD 0 = 12) := by rw [hρ] at h3; exact h3
      cases hr : rof (lits a) k with
      | none => rw [hr] at h3; exact absurd h3 (by decide)
      | some r => rw [hr] at h3; exact (hwr k r hr).2.2 h3) q 0 FU J4 X0D W0D (lits a) (by omega) (by unfold FU; omega) (by rw [hJ4, am_up_self]; rfl) hTK4 hZ4 rfl ⟨⟨rfl, Nat.zero_le _⟩, ⟨rfl, Nat.zero_le _⟩, ⟨rfl, Nat.zero_le _⟩, Nat.zero_le _⟩ ⟨rfl, rfl, rfl⟩ (lw X0D) linc.2.2 (fun y hy => linc.2.1 y hy) (fun k _ _ => by rw [hρ])
    rcases hpass with ⟨n', I5, c1, c2, c3, c4, c5⟩ | ⟨k, qq, I5, c1, c2, c3, c4, c5, c6⟩
    · refine Or.inr ⟨c4, ?_⟩
      have hm := m_acc (C := bC B ln) hok (Y0 := (X0D, od0)) (W0 := W0D) (T + 1) 0 [] q a (by omega) (fun _ => ⟨rfl, fun k hk => absurd hk (Nat.not_lt_zero k)⟩) hs
      have hY : (sXs (tKK B ln) (bV B ln) (bC B ln) a (X0D, od0)).1 = its (tKK B ln) (bV B ln) (bC B ln) (lits a) X0D := sXs_its a (X0D, od0)
      obtain ⟨_, hm2⟩ := hm (by rw [hY]; exact c4)
      rw [hY] at hm2
      have hnn := hP.1.2.2.2
      have hel := hP.1.2.2.1
      have j5 : ∀ b, 134 ≤ b → I5 b = J3 b := fun b hb => by rw [c3.1 b (by omega) (by omega) (by omega) (by omega), j4b b (by omega)]
      obtain ⟨I6, d1, d2, d3, d4⟩ := r_patch (G := G) (m := (its (tKK B ln) (bV B ln) (bC B ln) (lits a) X0D).2.2) (E := Int32.ofNat q) (NN := s_nn (cco (locs a))) (cco (locs a)) 0 0 n' I5 (by rw [c3.2.1 23 (by omega) (by omega), j4b 123 (by omega)]; exact hP.1.1.2.2.2) (by omega) (by omega) (by omega) (by have : FU = 1000000 := rfl; omega) (by rw [j5 137 (by omega), hP.2.1.2.1]; exact rcd_cw _ _ _) (by rw [j5 138 (by omega), hP.2.1.2.2]; exact rop_ow _ _ _ _) (fun y hy hn => by
        obtain ⟨k, hk1, hk2⟩ := cco_mem _ y hy
        obtain ⟨_, _, hk3⟩ := hm2 k hk1
        obtain ⟨g1, g2⟩ := hk3 y hk2 hn
        refine ⟨by omega, ?_⟩
        cases hmt : (its (tKK B ln) (bV B ln) (bC B ln) (lits a) X0D).2.2 y.2 with
        | none => exact absurd hmt g2
        | some j => exact c5.2.2.2.2 y.2 j hmt)
      refine ⟨I6, ?_, ?_, ?_, c5.k (fun b b1 b2 => d2 b b2), d4, by omega, fun k hk1 hk2 => ?_⟩
      · rw [eR2, c2]
        exact d1
      · have := fd4 I5 c3
        exact ⟨fun b hb => by rw [d2 b (by omega)]; exact this.1 b hb, fun k k1 k2 k3 => by rw [d2 79 (by omega)]; exact this.2 k k1 k2 k3⟩
      · rw [d2 79 (by omega), c3.2.2 3 (by omega), hJ4, up_in, if_neg (by omega), f3.2.1 3 (by omega) (by omega), j2k 3 (by omega) (by omega)]; exact i3
      · rw [d2 134 (by omega), d2 135 (by omega), d2 136 (by omega), j5 134 (by omega), j5 135 (by omega), j5 136 (by omega)]
        exact hP.2.2.2.1 k hk1 hk2
    · exact Or.inl ⟨k, qq, I5, c1, c2, c3, c4, by rw [eR2]; exact c5, fd4 I5 c6⟩
end RRF
