/-! teach: class and reference do the same -/
section KTE
theorem i_nn {x : Int32} (h0 : 0 ≤ x.toInt) (h1 : x.toInt ≤ 255) : x = Int32.ofNat x.toInt.toNat := by
  apply Int32.toInt_inj.mp
  rw [n_ti (by omega)]
  omega
theorem k_tape {p t : sP} {od : sO} {dp ca : Int32} {ln : Nat} {I : am_I} {G : am_G} (h : kI p t od dp ca ln I G) : ∃ B : Nat → Nat, tpC B ln I ∧ tpR B ln I := by
  obtain ⟨_, _, _, _, ⟨e1, e2, e3⟩, f1, _, _⟩ := h
  obtain ⟨B, hB⟩ : ∃ B : Nat → Nat, B = fun i => if i < ln then (I 2 i).toInt.toNat else 256 := ⟨_, rfl⟩
  have hb : ∀ i, i < ln → I 2 i = Int32.ofNat (B i) ∧ B i ≤ 255 := fun i hi => by
    obtain ⟨q1, q2, q3⟩ := f1 i hi
    have e : B i = (I 2 i).toInt.toNat := by rw [hB]; exact if_pos hi
    rw [e]
    exact ⟨i_nn q2 q3, by omega⟩
  have hb2 : ∀ i, ln ≤ i → B i = 256 := fun i hi => by rw [hB]; exact if_neg (by omega)
  exact ⟨B, ⟨e1, e3, hb, hb2⟩, ⟨e2, e3, fun i hi => by rw [← (f1 i hi).1]; exact hb i hi, hb2⟩⟩
/-- the class, where the list is refused -/
theorem c_tch0 {I I1 : am_I} {G G1 : am_G} {out : Int32} (e : R_X6_read_28 I G = some (out, I1, G1)) (hn : ¬ out = 0) : R_X11_teach_0 I G = some (out, am_up (am_up I1 0 6 (I1 28 8)) 1 5 (0 : Int32), G1) := by
  unfold R_X11_teach_0
  rw [e, rb_go, if_neg hn]
/-- the class, where it is taken -/
theorem c_tch1 {I I1 : am_I} {G G1 : am_G} {p : sP} {od : sO} (e : R_X6_read_28 I G = some ((0 : Int32), I1, G1)) (hP : dP I1 p) (hO : dO I1 (p 0 5) od) (hp : pk p) : ∃ I' : am_I, R_X11_teach_0 I G = some ((0 : Int32), I', G1) ∧ cO I' (pad p) od ∧ cA_53 I' (pad p) (tST (pad p)) 0 0 ∧ (∀ b, b ≠ 0 → b ≠ 1 → (b < 7 ∨ 56 < b) → I' b = I1 b) ∧ (I' 0 6 = I1 28 8 ∧ I' 1 5 = 0) := by
  obtain ⟨J, hJ⟩ : ∃ J : am_I, J = am_up (am_up I1 0 6 (I1 28 8)) 1 5 (0 : Int32) := ⟨_, rfl⟩
  have jo : ∀ b, b ≠ 0 → b ≠ 1 → J b = I1 b := fun b h0 h1 => by rw [hJ, up_row _ _ _ h1, up_row _ _ _ h0]
  obtain ⟨I2, e2, p2, o2, f2⟩ := c_take (G := G1) (hP.kept (I' := J) (fun b b1 b2 => jo b (by omega) (by omega))) (hO.kept (I' := J) (fun b b1 b2 => jo b (by omega) (by omega))) hp
  obtain ⟨I3, e3, f3, z3⟩ := c_fg (G := G1) I2
  obtain ⟨I4, e4, f4, a4⟩ := c_bg (G := G1) (pad_ok hp) (p2.kept (I' := I3) (fun b b1 b2 => f3 b (by omega))) z3
  refine ⟨I4, ?_, o2.kept (fun b b1 b2 => by rw [f4 b (by omega) (by omega) (by omega) (by omega), f3 b (by omega)]), a4, fun b h0 h1 hb => by rw [f4 b (by omega) (by omega) (by omega) (by omega), f3 b (by omega), f2 b (by omega), jo b h0 h1], ?_, ?_⟩
  · unfold R_X11_teach_0
    rw [e, rb_go, if_pos rfl, ← hJ, e2, rb_go, e3, rb_go, e4, rb_go]
  · rw [f4 0 (by omega) (by omega) (by omega) (by omega), f3 0 (by omega), f2 0 (by omega), hJ, up_row _ _ _ (by omega), am_up_self]
  · rw [f4 1 (by omega) (by omega) (by omega) (by omega), f3 1 (by omega), f2 1 (by omega), hJ, am_up_self]
/-- the reference's plan, taken -/
theorem rP_of {K I' : am_I} {X : sX} {W : Nat → Nat × Nat} (hZ : rZ I' X W) (hK : ∀ b, 86 ≤ b → b < 102 → K b = I' (b + 37)) : rP K (pad X.1.1) := by
  obtain ⟨⟨z0, z1, z2, z3, z4, z5⟩, ⟨y1, y2, y3, y7, y4, y5, y8, y6⟩, _, _, _⟩ := hZ
  have k86 : K 86 = I' 123 := hK 86 (by omega) (by omega)
  have k87 : K 87 = I' 124 := hK 87 (by omega) (by omega)
  have k88 : K 88 = I' 125 := hK 88 (by omega) (by omega)
  have k89 : K 89 = I' 126 := hK 89 (by omega) (by omega)
  have k90 : K 90 = I' 127 := hK 90 (by omega) (by omega)
  have k91 : K 91 = I' 128 := hK 91 (by omega) (by omega)
  have k92 : K 92 = I' 129 := hK 92 (by omega) (by omega)
  have k93 : K 93 = I' 130 := hK 93 (by omega) (by omega)
  have k94 : K 94 = I' 131 := hK 94 (by omega) (by omega)
  unfold rP
  rw [k86, k87, k88, k89, k90, k91, k92, k93, k94]
  refine ⟨⟨z0, z1, z2, z3, z4⟩, fun k hk => ?_, fun k hk => ?_, fun k hk => ?_⟩
  · rw [pad_0] at hk
    rw [pad_1, pad_2, pad_3, pad_7, if_pos hk, if_pos hk, if_pos hk, if_pos hk]
    exact ⟨y1 k, y2 k, y3 k, y7 k⟩
  · rw [pad_0] at hk
    rw [pad_4, pad_5, pad_8, if_pos hk, if_pos hk, if_pos hk]
    exact ⟨y4 k, y5 k, y8 k⟩
  · rw [pad_0] at hk
    rw [pad_6, if_pos hk]
    exact y6 k
/-- the reference's state, taken -/
theorem rS_of {J K I' : am_I} {X : sX} {W : Nat → Nat × Nat} (hp : p_ok (pad X.1.1)) (hB : rB_102 J) (hZ : rZ I' X W) (hK : ∀ b, 86 ≤ b → b < 102 → K b = I' (b + 37)) (h102 : K 102 0 = 0 ∧ K 102 1 = 0 ∧ K 102 2 = 0 ∧ K 102 3 = 0 ∧ K 102 10 = 0) (h4 : ∀ j, j < 4 → K 103 j = I' 127 j ∧ K 104 j = I' 130 j ∧ K 106 j = 0) (h106 : ∀ j, K 106 j = 0 ∨ K 106 j = J 106 j) : rS_102 K (pad X.1.1) (tST (pad X.1.1)) 0 0 := by
  have hP := rP_of hZ hK
  have h0 := hp.1
  obtain ⟨_, ⟨y1, y2, y3, y7, y4, y5, y8, y6⟩, _, _, _⟩ := hZ
  obtain ⟨q0, q1, q2, q3, q10⟩ := h102
  refine ⟨⟨hP, ⟨⟨q2, q3⟩, fun o ho => ?_, fun c hc => ?_⟩, fun o ho hne => ?_, fun k => ?_, fun hne => absurd q10 hne⟩, q0, q1⟩
  · rw [(h4 o (by omega)).1, y7 o]
    show _ = Int32.ofNat (pad X.1.1 7 o)
    rw [pad_0] at ho
    rw [pad_7, if_pos ho]
  · rw [(h4 c (by omega)).2.1, y8 c]
    show _ = Int32.ofNat (pad X.1.1 8 c)
    rw [pad_0] at hc
    rw [pad_8, if_pos hc]
  · exact absurd (h4 o (by omega)).2.2 hne
  · rcases h106 k with h | h
    · exact Or.inl h
    · rw [h]; exact hB k
theorem k_teach_ok : k_teach kV := by
  intro I G hV
  obtain ⟨p, t, od, dp, ca, ln, hI⟩ := hV
  obtain ⟨B, hC, hR⟩ := k_tape hI
  obtain ⟨T, out, I1, G1, r1, ⟨t1, t2, t3⟩, ⟨fr, fr1, frG⟩, pl, o1, q1⟩ := cl_read hC hR hI.2.2.2.2.2.2.2
  have hok := b_ok hR t1 t2 t3
  have g5 : ∀ q, q ≤ T → gAt (I1 5) 401 (Int32.ofNat q) = Int32.ofNat (tS B ln q) := fun q hq => by rw [n_gAt (by omega) (by omega), pl q hq]
  -- the list refused: what is left
  have hbad : ∀ (k : Nat) (w : Int32) (I' : am_I), 1 ≤ k → k ≤ 5 → out = Int32.ofNat k → I1 28 8 = w → R_X14_read_79 (zI_X14r (am_up (am_up (am_up (am_up I1 0 6 (I1 28 8)) 1 5 (0 : Int32)) 79 0 (0 : Int32)) 79 3 (-1 : Int32))) (zG_X14r G1) = some (Int32.ofNat k, am_up I' 79 3 w, zG_X14r G1) → rfd (zI_X14r (am_up (am_up (am_up (am_up I1 0 6 (I1 28 8)) 1 5 (0 : Int32)) 79 0 (0 : Int32)) 79 3 (-1 : Int32))) I' → ∃ (bb : Int32) (I1 : am_I) (G1 : am_G) (I2 : am_I) (G2 : am_G), (R_X11_teach_0 I G = some (bb, I1, G1)) ∧ (R_X14_teach_79 I1 G1 = some (bb, I2, G2)) ∧ kV I2 G2 := by
    intro k w I' k1 k5 ho h8 he hf
    have hn : ¬ Int32.ofNat k ≤ (0 : Int32) := fun z => absurd ((n_le (b := 0) (by omega) (by omega)).mp z) (by omega)
    obtain ⟨K, G2, e2, x1, x2, x3, x4⟩ := r_tch0 hn he hf
    refine ⟨out, _, G1, K, G2, c_tch0 r1 (fun z => ?_), by rw [ho]; exact e2, p, t, od, dp, ca, 0, hI.ref (fun b b0 b1 b4 b5 b79 hb1 hb2 hb3 => ?_) ?_ x2 ?_ ?_⟩
    · rw [ho] at z
      exact absurd ((n_eq (b := 0) (by omega) (by omega)).mp z) (by omega)
    · rw [x1 b b79 hb2 hb3, up_row _ _ _ b1, up_row _ _ _ b0]
      exact fr b hb1 b1 b4 b5
    · rw [x1 1 (by omega) (by omega) (by omega), am_up_self]
    · rw [x1 0 (by omega) (by omega) (by omega), up_row _ _ _ (by omega), am_up_self, x3, h8]
    · rw [x4, frG]
  cases hs : sLs (tKK B ln) (bV B ln) (T + 1) 0 [] with
  | inr q =>
    rw [hs] at q1
    have hrr := r_read (G := zG_X14r G1) (I := am_up (am_up I1 0 6 (I1 28 8)) 1 5 (0 : Int32)) (hR.kept (by rw [up_row _ _ _ (by omega), up_row _ _ _ (by omega), fr 79 (by omega) (by omega) (by omega) (by omega)]) (by rw [up_row _ _ _ (by omega), up_row _ _ _ (by omega), fr 80 (by omega) (by omega) (by omega) (by omega)])) t1 t2 t3 rfl
    rw [hs] at hrr
    obtain ⟨I', e1, f1, hq⟩ := hrr
    obtain ⟨d1, d2, d3⟩ := q1
    exact hbad 1 _ I' (by omega) (by omega) (o1.trans d2) (by rw [d3, g5 q hq]) e1 f1
  | inl z =>
    obtain ⟨q, a⟩ := z
    rw [hs] at q1
    obtain ⟨hqT, hS⟩ := q1
    have hX : (sXs (tKK B ln) (bV B ln) (bC B ln) a (X0D, od0)).1 = its (tKK B ln) (bV B ln) (bC B ln) (lits a) X0D := sXs_its a (X0D, od0)
    cases he : (its (tKK B ln) (bV B ln) (bC B ln) (lits a) X0D).2.1 with
    | some y =>
      obtain ⟨k, qq⟩ := y
      have hrr := r_read (G := zG_X14r G1) (I := am_up (am_up I1 0 6 (I1 28 8)) 1 5 (0 : Int32)) (hR.kept (by rw [up_row _ _ _ (by omega), up_row _ _ _ (by omega), fr 79 (by omega) (by omega) (by omega) (by omega)]) (by rw [up_row _ _ _ (by omega), up_row _ _ _ (by omega), fr 80 (by omega) (by omega) (by omega) (by omega)])) t1 t2 t3 rfl
      rw [hs] at hrr
      rcases hrr with ⟨k', q', I', w1', w2, w3, w4, w5, w6⟩ | ⟨w1', _⟩
      · rw [he] at w1'
        have e1 := Option.some.inj w1'
        have ek : k = k' := congrArg Prod.fst e1
        have eq : qq = q' := congrArg Prod.snd e1
        rw [← ek] at w2 w3 w5
        rw [← eq] at w4 w5
        have hE := hS.1.2
        rw [hX, he] at hE
        obtain ⟨d1, d2, d3, d4⟩ := hE
        exact hbad k _ I' (by omega) (by omega) (o1.trans d1) (by rw [d2, g5 qq w4]) w5 w6
      · rw [he] at w1'; cases w1'
    | none =>
      have hE := hS.1.2
      have hx := hS.2.2.2
      rw [hX] at hE hx
      rw [he] at hE
      obtain ⟨d1, d2⟩ := hE
      obtain ⟨xk, xP, xO⟩ := hx he
      have ho : out = 0 := o1.trans d1
      rw [ho] at r1
      obtain ⟨I4, e4, o4, a4, f4, h06, h15⟩ := c_tch1 r1 xP xO xk.1
      have f79 : ∀ b, 57 ≤ b → b < 123 → I4 b = I b := fun b b1 b2 => by rw [f4 b (by omega) (by omega) (by omega), fr b (by omega) (by omega) (by omega) (by omega)]
      have hrr := r_read (G := zG_X14r G1) (I := I4) (hR.kept (by rw [f79 79 (by omega) (by omega)]) (f79 80 (by omega) (by omega))) t1 t2 t3 rfl
      rw [hs] at hrr
      rcases hrr with ⟨k', q', I', w1', _⟩ | ⟨_, I', w2, w3, w4, w5, w6, w7, w8⟩
      · rw [he] at w1'; cases w1'
      · obtain ⟨K, G2, e5, x1, x2, ⟨x3, x4⟩, x5, x6, x7, x8⟩ := r_tch1 w2 w3
        have hm := m_acc (C := bC B ln) hok (Y0 := (X0D, od0)) (W0 := W0D) (T + 1) 0 [] q a (by omega) (fun _ => ⟨rfl, fun k hk => absurd hk (Nat.not_lt_zero k)⟩) hs
        have hoo := o_acc (C := bC B ln) hok (Y0 := (X0D, od0)) (T + 1) 0 [] q a (by omega) (fun _ => ⟨⟨⟨rfl, Nat.zero_le _⟩, ⟨rfl, Nat.zero_le _⟩, ⟨rfl, Nat.zero_le _⟩, Nat.zero_le _⟩, fun k hk => absurd hk (Nat.not_lt_zero k)⟩) hs
        obtain ⟨m1, m2⟩ := hm (by rw [hX]; exact he)
        obtain ⟨_, n2⟩ := hoo (by rw [hX]; exact he)
        rw [hX] at m1 m2 n2
        have hpk := xk.1
        have h20 := xk.2.2.2.2
        have hP := pad_ok hpk
        have hrS := rS_of (J := I4) hP (by unfold rB_102; rw [f79 106 (by omega) (by omega)]; exact hI.2.2.1.2.1.2.2.2.1) w5 x2 x5 x6 x7
        have k123 : K 86 = I' 123 := x2 86 (by omega) (by omega)
        have k132 : K 95 = I' 132 := x2 95 (by omega) (by omega)
        have k133 : K 96 = I' 133 := x2 96 (by omega) (by omega)
        have k134 : K 97 = I' 134 := x2 97 (by omega) (by omega)
        have k135 : K 98 = I' 135 := x2 98 (by omega) (by omega)
        have k136 : K 99 = I' 136 := x2 99 (by omega) (by omega)
        have k137 : K 100 = I' 137 := x2 100 (by omega) (by omega)
        have hrO : rO K (pad (its (tKK B ln) (bV B ln) (bC B ln) (lits a) X0D).1.1) (sXs (tKK B ln) (bV B ln) (bC B ln) a (X0D, od0)).2 := by
          refine rO_of (lc := locs a) (m := (its (tKK B ln) (bV B ln) (bC B ln) (lits a) X0D).2.2) (W := itsW (tKK B ln) (bV B ln) (bC B ln) (lits a) X0D W0D) (by rw [k123]; exact w5.1.2.2.2.2.2) m1 h20 (fun k => by rw [k132, k133]; exact w5.2.2.2.1 k) (fun k hk => ⟨(m2 k hk).1, (m2 k hk).2.1⟩) (by rw [k137]; exact w6) w7 (fun k h1 h2 => by rw [k134, k135, k136]; exact w8 k h1 h2) (fun k hk => ?_)
          obtain ⟨_, _, len, _, l400, l3⟩ := xO
          obtain ⟨_, _, a0, l4, _⟩ := l3 k (by rw [m1]; exact hk)
          have l5 := l4.2.2.2
          omega
        refine ⟨0, I4, G1, K, G2, e4, e5, pad (its (tKK B ln) (bV B ln) (bC B ln) (lits a) X0D).1.1, tST (pad (its (tKK B ln) (bV B ln) (bC B ln) (lits a) X0D).1.1), (sXs (tKK B ln) (bV B ln) (bC B ln) a (X0D, od0)).2, 0, 0, 0, ⟨hP, tST_ok hP, h20, fun k hk => n2 k hk _ ⟨Nat.le_refl _, Nat.le_refl _, Nat.le_refl _⟩⟩, ⟨o4.kept (fun b b1 b2 => x1 b (by omega) (by omega)), hrO⟩, ⟨a4.kept (fun b hb => x1 b (by omega) (by omega)), hrS⟩, ?_, ⟨?_, x3, by omega⟩, fun k hk => absurd hk (Nat.not_lt_zero k), ?_, ?_⟩
        · unfold rB_112'
          rw [x1 116 (by omega) (by omega), f79 116 (by omega) (by omega)]
          exact hI.2.2.2.1
        · rw [x1 1 (by omega) (by omega)]; exact h15
        · rw [x1 0 (by omega) (by omega), h06, x4, d2]; exact w4.symm
        · rw [x8, frG]; exact hI.2.2.2.2.2.2.2
end KTE
