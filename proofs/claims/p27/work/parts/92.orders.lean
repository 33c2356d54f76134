/-! the class's lines of paper and orders -/
section COL
variable {K V C : Nat → Nat} {T : Nat} {G : am_G}
theorem hR.kept {X : sX} {J J' : am_I} {s : sR} (h : hR K V C T X J s) (h28 : J' 28 = J 28) (h5 : J' 5 = J 5) : hR K V C T X J' s := by
  cases s with
  | inl q => obtain ⟨p, l⟩ := q; exact cH.kept h h28 h5
  | inr t => exact cD.kept h h28 h5
theorem cl_pap {I : am_I} {p : Nat} {X : sX} {od : sO} (hV : ∀ a, V a ≤ 999999) (hX : cX K V T I G) (hS : cS K C T I G p X od) (hk : K p = 0) : hF I (g_X6_readPaper_28 I G) G G ∧ cSr K V C T (g_X6_readPaper_28 I G) G X od (pts K (.inl (p + 1, [])) [(40, 1), (1, 0), (40, 2)]) := by
  have hlt := hX.1.lt hS.1.1.2.2 (by omega)
  have hT := hX.1.1
  obtain ⟨q0, f0⟩ := h_adv hX hS.1 hlt
  have hX0 := hX.h f0
  have q0' : hR K V C T X (g_X6_advance_28 I G) (.inl (p + 1, [])) := q0
  obtain ⟨s1, hs1⟩ : ∃ s, s = stp K (.inl (p + 1, [])) (40, 1) := ⟨_, rfl⟩
  obtain ⟨q1, f1⟩ := hR_nu hX0 q0' (r := 1) (by omega) (lo := (4 : Int32)) (hi := (24 : Int32)) (fun p l _ _ => (h_neN (lo := 4) (hi := 24) (hV p) (by omega) (by omega)).symm)
  rw [← hs1] at q1
  obtain ⟨v1, hv1⟩ : ∃ v, v = f_X6_readNumber_28 (g_X6_advance_28 I G) G (4 : Int32) (24 : Int32) := ⟨_, rfl⟩
  obtain ⟨J1, hJ1⟩ : ∃ J, J = am_up (g_X6_readNumber_28 (g_X6_advance_28 I G) G (4 : Int32) (24 : Int32)) 29 9 v1 := ⟨_, rfl⟩
  have q1' : hR K V C T X J1 s1 := q1.kept (by rw [hJ1, up_row _ _ _ (by omega)]) (by rw [hJ1, up_row _ _ _ (by omega)])
  have hX1 : cX K V T J1 G := (hX0.h f1).c41 (by rw [hJ1, up_row _ _ _ (by omega)]) (by rw [hJ1, up_row _ _ _ (by omega)])
  obtain ⟨s2, hs2⟩ : ∃ s, s = stp K s1 (1, 0) := ⟨_, rfl⟩
  obtain ⟨q2, f2⟩ := hR_ex hX1 q1' (w := 1) (by omega)
  rw [← hs2] at q2
  have hX2 := hX1.h f2
  obtain ⟨s3, hs3⟩ : ∃ s, s = stp K s2 (40, 2) := ⟨_, rfl⟩
  obtain ⟨q3, f3⟩ := hR_nu hX2 q2 (r := 2) (by omega) (lo := (4 : Int32)) (hi := (24 : Int32)) (fun p l _ _ => (h_neN (lo := 4) (hi := 24) (hV p) (by omega) (by omega)).symm)
  rw [← hs3] at q3
  obtain ⟨v3, hv3⟩ : ∃ v, v = f_X6_readNumber_28 (g_X6_expect_28 J1 G (1 : Int32)) G (4 : Int32) (24 : Int32) := ⟨_, rfl⟩
  obtain ⟨J3, hJ3⟩ : ∃ J, J = am_up (g_X6_readNumber_28 (g_X6_expect_28 J1 G (1 : Int32)) G (4 : Int32) (24 : Int32)) 29 10 v3 := ⟨_, rfl⟩
  have eR : g_X6_readPaper_28 I G = J3 := by
    unfold g_X6_readPaper_28
    rw [← hv1, ← hJ1, ← hv3, ← hJ3]
  have fA := f2.tr f3
  have jb : ∀ b, b ≠ 28 → b ≠ 29 → J3 b = I b := fun b z1 z2 => by
    rw [hJ3, up_row _ _ _ z2]
    refine (fA.1 b z1).trans ?_
    rw [hJ1, up_row _ _ _ z2]
    exact (f1.1 b z1).trans (f0.1 b z1)
  have j28 : J3 28 = (g_X6_readNumber_28 (g_X6_expect_28 J1 G (1 : Int32)) G (4 : Int32) (24 : Int32)) 28 := by rw [hJ3, up_row _ _ _ (by omega)]
  have j5 : J3 5 = (g_X6_readNumber_28 (g_X6_expect_28 J1 G (1 : Int32)) G (4 : Int32) (24 : Int32)) 5 := by rw [hJ3, up_row _ _ _ (by omega)]
  rw [eR]
  refine ⟨⟨fun b hb => jb b (by omega) (by omega), fun _ _ _ _ => rfl⟩, ?_⟩
  show cSr K V C T J3 G X od (stp K (stp K (stp K (.inl (p + 1, [])) (40, 1)) (1, 0)) (40, 2))
  rw [← hs1, ← hs2, ← hs3]
  have q4 : hR K V C T X J3 s3 := q3.kept j28 j5
  cases hc : s3 with
  | inr t => rw [hc] at q4; exact q4
  | inl z =>
    obtain ⟨p3, l3⟩ := z
    have c3 : stp K s2 (40, 2) = .inl (p3, l3) := by rw [← hs3]; exact hc
    obtain ⟨p2, l2, d2, k3, hp3, hl3⟩ := stp_l c3
    have c2 : stp K s1 (1, 0) = .inl (p2, l2) := by rw [← hs2]; exact d2
    obtain ⟨p1, l1, d1, k2, hp2, hl2⟩ := stp_l c2
    have c1 : stp K (.inl (p + 1, [])) (40, 1) = .inl (p1, l1) := by rw [← hs1]; exact d1
    obtain ⟨p0, l0, d0, k1, hp1, hl1⟩ := stp_l c1
    cases d0
    rw [hc] at q4
    rw [d2] at q2 c3
    have hl : l3 = [(1, p + 1), (2, p + 3)] := by
      rw [hl3, hl2, hl1]
      simp only [hp1, hp2]
      rfl
    have w1 := hR_nv (lo := (4 : Int32)) (hi := (24 : Int32)) hX0 q0' c1
    have w3 := hR_nv (lo := (4 : Int32)) (hi := (24 : Int32)) hX2 q2 c3
    have hv1' : v1 = Int32.ofNat (V (p + 1)) := hv1.trans w1
    have hv3' : v3 = Int32.ofNat (V (p + 3)) := by
      rw [hv3, show p + 3 = p2 by omega]; exact w3
    show cS K C T J3 G p3 (its K V C l3 X) od
    refine ⟨q4, ?_, ⟨?_, ?_⟩, fun he => ?_⟩
    · rw [hl]
      exact hS.2.1.kept (jb 47 (by omega) (by omega)) (jb 49 (by omega) (by omega)) (jb 51 (by omega) (by omega))
    · obtain ⟨no, y1, y2⟩ := hS.2.2.1.1
      exact ⟨no, by rw [jb 38 (by omega) (by omega)]; exact y1, y2⟩
    · obtain ⟨len, y1, y2⟩ := hS.2.2.1.2
      exact ⟨len, by rw [jb 38 (by omega) (by omega)]; exact y1, by omega⟩
    · rw [hl] at he ⊢
      obtain ⟨g1, g3, g4⟩ := x_paper (fun z => (hS.2.2.2 z).1) he
      obtain ⟨y1, y2, y3⟩ := hS.2.2.2 g1
      have j29 : ∀ k, J3 29 k = if k = 10 then v3 else if k = 9 then v1 else I 29 k := by
        intro k
        rw [hJ3, up_in]
        by_cases h10 : k = 10
        · rw [if_pos h10, if_pos h10]
        · rw [if_neg h10, if_neg h10]
          rw [show (g_X6_readNumber_28 (g_X6_expect_28 J1 G (1 : Int32)) G (4 : Int32) (24 : Int32)) 29 = J1 29 from fA.1 29 (by omega), hJ1, up_in]
          by_cases h9 : k = 9
          · rw [if_pos h9, if_pos h9]
          · rw [if_neg h9, if_neg h9, f1.1 29 (by omega), f0.1 29 (by omega)]
      have z0 : ∀ j, (am_up (am_up X.1.1 0 0 (V (p + 1))) 0 1 (V (p + 3))) 0 j = if j = 1 then V (p + 3) else if j = 0 then V (p + 1) else X.1.1 0 j := fun j => by rw [up_in, up_in]
      have o : ∀ r, r ≠ 0 → (am_up (am_up X.1.1 0 0 (V (p + 1))) 0 1 (V (p + 3))) r = X.1.1 r := fun r y0 => by rw [up_row _ _ _ y0, up_row _ _ _ y0]
      refine ⟨g3, ?_, ?_⟩
      · rw [g4]
        unfold dP
        simp only [z0, j29]
        rw [o 1 (by omega), o 2 (by omega), o 3 (by omega), o 4 (by omega), o 5 (by omega), o 6 (by omega), o 7 (by omega), o 8 (by omega)]
        rw [jb 30 (by omega) (by omega), jb 31 (by omega) (by omega), jb 32 (by omega) (by omega), jb 33 (by omega) (by omega), jb 34 (by omega) (by omega), jb 35 (by omega) (by omega), jb 36 (by omega) (by omega), jb 37 (by omega) (by omega)]
        exact ⟨⟨hv1', hv3', y2.1.2.2⟩, y2.2⟩
      · rw [g4, z0]
        exact y3.kept (fun b z1 z2 => jb b (by omega) (by omega))
/-! names in heads of orders -/
theorem h_kn47 {I : am_I} {nm : Nat → Nat → Option Nat} (hX : cX K V T I G) (hN : cN K T nm I G) {p : Nat} {e : Option (Nat × Nat)} (h : cH K T I p e) (hk : K p = 39) : ∃ I' : am_I, R_X6_readKnownName_28_47 I G = some (fi (nm 6 p), I', G) ∧ cH K T I' (p + 1) (eo e (if nm 6 p = none then 3 else 0) p) ∧ hf I I' := by
  have hp := hX.1.lt h.1.2.2 (by omega)
  have hT := hX.1.1
  have hf0 := (hN I rfl rfl rfl p h.1.2.2 hk).1
  have hb := (hN I rfl rfl rfl p h.1.2.2 hk).2.2.2.2 6
  unfold R_X6_readKnownName_28_47
  rw [if_pos (kY (k := 39) (w := (39 : Int32)) rfl hX.1 h.1.2.2 h.1.2.1 (by omega) hk), h_cont h.1.1 (by omega), hf0, rb_go]
  cases hn : nm 6 p with
  | none =>
    rw [if_neg (by decide), if_pos rfl]
    obtain ⟨f1, f2⟩ := h_flt (G := G) h (n := 3) ⟨by omega, by omega⟩
    obtain ⟨a1, a2⟩ := h_adv (hX.h f2) f1 hp
    exact ⟨_, rfl, a1, f2.tr a2⟩
  | some k =>
    rw [if_pos (show (0 : Int32) ≤ fi (some k) from (n_le (a := 0) (by omega) (by have := hb k hn; omega)).mpr (by omega)), if_neg (by intro z; cases z)]
    obtain ⟨a1, a2⟩ := h_adv hX h hp
    exact ⟨_, rfl, a1, a2⟩
theorem h_kn49 {I : am_I} {nm : Nat → Nat → Option Nat} (hX : cX K V T I G) (hN : cN K T nm I G) {p : Nat} {e : Option (Nat × Nat)} (h : cH K T I p e) (hk : K p = 39) : ∃ I' : am_I, R_X6_readKnownName_28_49 I G = some (fi (nm 9 p), I', G) ∧ cH K T I' (p + 1) (eo e (if nm 9 p = none then 3 else 0) p) ∧ hf I I' := by
  have hp := hX.1.lt h.1.2.2 (by omega)
  have hT := hX.1.1
  have hf0 := (hN I rfl rfl rfl p h.1.2.2 hk).2.1
  have hb := (hN I rfl rfl rfl p h.1.2.2 hk).2.2.2.2 9
  unfold R_X6_readKnownName_28_49
  rw [if_pos (kY (k := 39) (w := (39 : Int32)) rfl hX.1 h.1.2.2 h.1.2.1 (by omega) hk), h_cont h.1.1 (by omega), hf0, rb_go]
  cases hn : nm 9 p with
  | none =>
    rw [if_neg (by decide), if_pos rfl]
    obtain ⟨f1, f2⟩ := h_flt (G := G) h (n := 3) ⟨by omega, by omega⟩
    obtain ⟨a1, a2⟩ := h_adv (hX.h f2) f1 hp
    exact ⟨_, rfl, a1, f2.tr a2⟩
  | some k =>
    rw [if_pos (show (0 : Int32) ≤ fi (some k) from (n_le (a := 0) (by omega) (by have := hb k hn; omega)).mpr (by omega)), if_neg (by intro z; cases z)]
    obtain ⟨a1, a2⟩ := h_adv hX h hp
    exact ⟨_, rfl, a1, a2⟩
theorem h_kx47 {I : am_I} (hX : cX K V T I G) {p : Nat} {e : Option (Nat × Nat)} (h : cH K T I p e) (hk : ¬ K p = 39) : R_X6_readKnownName_28_47 I G = some ((0 : Int32), g_X6_refuse_28 I G, G) := by
  unfold R_X6_readKnownName_28_47
  rw [if_neg (kN (k := 39) (w := (39 : Int32)) rfl hX.1 h.1.2.2 h.1.2.1 (by omega) hk)]
theorem h_kx49 {I : am_I} (hX : cX K V T I G) {p : Nat} {e : Option (Nat × Nat)} (h : cH K T I p e) (hk : ¬ K p = 39) : R_X6_readKnownName_28_49 I G = some ((0 : Int32), g_X6_refuse_28 I G, G) := by
  unfold R_X6_readKnownName_28_49
  rw [if_neg (kN (k := 39) (w := (39 : Int32)) rfl hX.1 h.1.2.2 h.1.2.1 (by omega) hk)]
/-- an order is begun -/
theorem b_beg {J : am_I} {no len : Nat} (h8 : J 38 8 = Int32.ofNat no) (hn : no ≤ 20) (x t : Int32) : g_X3_begin_38 J G x t = am_up (am_up (am_up (am_up (am_up J 38 8 (Int32.ofNat (if 20 < no + 1 then 20 else no + 1))) 39 ((if 20 < no + 1 then 20 else no + 1) - 1) x) 40 ((if 20 < no + 1 then 20 else no + 1) - 1) t) 41 ((if 20 < no + 1 then 20 else no + 1) - 1) (J 38 9)) 44 ((if 20 < no + 1 then 20 else no + 1) - 1) (0 : Int32) := by
  have hm : (if (20 : Int32) < (J 38 8) + (1 : Int32) then (20 : Int32) else (J 38 8) + (1 : Int32)) = Int32.ofNat (if 20 < no + 1 then 20 else no + 1) := by
    rw [h8, n_inc]
    by_cases h : 20 < no + 1
    · rw [if_pos (show (20 : Int32) < Int32.ofNat (no + 1) from (n_lt (a := 20) (by omega) (by omega)).mpr h), if_pos h]
      rfl
    · rw [if_neg (show ¬ (20 : Int32) < Int32.ofNat (no + 1) from fun z => h ((n_lt (a := 20) (by omega) (by omega)).mp z)), if_neg h]
  obtain ⟨m, hmm⟩ : ∃ m, m = (if 20 < no + 1 then 20 else no + 1) := ⟨_, rfl⟩
  have hm1 : 1 ≤ m ∧ m ≤ 20 := by rw [hmm]; split <;> omega
  unfold g_X3_begin_38
  rw [hm, ← hmm]
  have g9 : am_up J 38 8 (Int32.ofNat m) 38 9 = J 38 9 := by rw [up_in, if_neg (by omega)]
  have u39 : ∀ (f : am_I) (k : Nat) (x : Int32), am_up f 39 k x 38 = f 38 := fun f k x => up_row f k x (by omega)
  have u40 : ∀ (f : am_I) (k : Nat) (x : Int32), am_up f 40 k x 38 = f 38 := fun f k x => up_row f k x (by omega)
  have u41 : ∀ (f : am_I) (k : Nat) (x : Int32), am_up f 41 k x 38 = f 38 := fun f k x => up_row f k x (by omega)
  simp only [gPut_row (show (38 : Nat) ≠ 39 by omega), gPut_row (show (38 : Nat) ≠ 40 by omega), gPut_row (show (38 : Nat) ≠ 41 by omega), u39, u40, u41, am_up_self, g9, n_dec hm1.1, n_gPut (show m - 1 < 20 by omega) (show 20 ≤ 2147483648 by omega)]
theorem cN.kept2 {nm : Nat → Nat → Option Nat} {I I' : am_I} (h : cN K T nm I G) (h1 : I' 47 = I 47) (h2 : I' 49 = I 49) (h3 : I' 51 = I 51) : cN K T nm I' G := fun J a b c => h J (a.trans h1) (b.trans h2) (c.trans h3)
/-- head of an order: what it asks for, and of whom -/
def hpat (kd : Nat) : List (Nat × Nat) := if kd = 12 then [(100, 17), (1, 0)] else if kd = 9 then [(39, 15), (13, 0)] else [(39, 16), (13, 0)]
def hrl (kd : Nat) : Nat := if kd = 12 then 17 else if kd = 9 then 15 else 16
def otg (K C : Nat → Nat) (L : Nat → List Nat) (kd p : Nat) : Nat := if kd = 12 then K (p + 1) - 3 else (nmL C L kd (p + 1)).getD 0
def hdQ (K V C : Nat → Nat) (T : Nat) (I J : am_I) (X : sX) (kd p : Nat) (s : sR) : Prop := match s with
  | .inl (p1, l) => p1 = p + 3 ∧ l = [(14, p), (hrl kd, p + 1)] ∧ cH K T J p1 (its K V C l X).2.1 ∧ ∃ no len : Nat, (J 38 8 = Int32.ofNat no ∧ 1 ≤ no ∧ no ≤ 20) ∧ (I 38 9 = Int32.ofNat len ∧ J 38 9 = Int32.ofNat len ∧ len ≤ p) ∧ ((its K V C l X).2.1 = none → X.2.1 = none ∧ X.1.1 0 5 < 20 ∧ no = X.1.1 0 5 + 1 ∧ (J 39 (X.1.1 0 5) = Int32.ofNat kd ∧ J 40 (X.1.1 0 5) = Int32.ofNat (otg K C X.1.2 kd p) ∧ J 41 (X.1.1 0 5) = Int32.ofNat len ∧ J 44 (X.1.1 0 5) = 0) ∧ (kd = 12 ∨ nmL C X.1.2 kd (p + 1) ≠ none) ∧ ∀ j, j ≠ X.1.1 0 5 → J 39 j = I 39 j ∧ J 40 j = I 40 j ∧ J 41 j = I 41 j ∧ J 44 j = I 44 j)
  | .inr q => cD J q
theorem e_none2 {e : Option (Nat × Nat)} {y : Nat × Nat} {c : Prop} [Decidable c] (h : (if c then e else e_or e y) = none) : e = none := by
  by_cases hc : c
  · rw [if_pos hc] at h; exact h
  · rw [if_neg hc] at h; exact absurd h (e_or_n _ _)
theorem cl_hd {I : am_I} {p kd : Nat} {X : sX} {od : sO} (hX : cX K V T I G) (hC : cC K C T G) (hS : cS K C T I G p X od) (hk : K p = kd) (hkd : kd = 9 ∨ kd = 6 ∨ kd = 12) : ∃ J : am_I, R_X6_readOrderHead_28 I G = some ((), J, G) ∧ hF I J G G ∧ (∀ b, b ≠ 28 → b ≠ 38 → b ≠ 39 → b ≠ 40 → b ≠ 41 → b ≠ 44 → J b = I b) ∧ hdQ K V C T I J X kd p (pts K (.inl (p + 1, [(14, p)])) (hpat kd)) := by
  have hlt := hX.1.lt hS.1.1.2.2 (by omega)
  have hT := hX.1.1
  obtain ⟨⟨no0, n1, n2⟩, len, l1, l2⟩ := hS.2.2.1
  have hN := cN_of (T := T) hC hS.2.1
  -- the fault of too many
  obtain ⟨J0, hJ0⟩ : ∃ J : am_I, J = if I 38 8 < (20 : Int32) then I else g_X6_fault_28 I G (4 : Int32) := ⟨_, rfl⟩
  have hc0 : (I 38 8 < (20 : Int32)) ↔ no0 < 20 := by rw [n1]; exact n_lt (b := 20) (by omega) (by omega)
  have h0 : cH K T J0 p (it K V C X (14, p)).2.1 ∧ hf I J0 := by
    rw [it_14, hJ0]
    show cH K T _ p (eo X.2.1 (if X.1.1 0 5 < 20 then 0 else 4) p) ∧ _
    obtain ⟨f1, f2⟩ := h_flt (G := G) hS.1 (n := 4) ⟨by omega, by omega⟩
    cases he : X.2.1 with
    | some x =>
      rw [he] at f1
      have e4 : eo (some x) (if X.1.1 0 5 < 20 then 0 else 4) p = some x := by unfold eo; split <;> rfl
      rw [e4]
      split
      · have := hS.1; rw [he] at this; exact ⟨this, hf.rf I⟩
      · exact ⟨f1, f2⟩
    | none =>
      rw [he] at f1
      obtain ⟨_, _, y3⟩ := hS.2.2.2 he
      have hno : no0 = X.1.1 0 5 := (n_eq (by omega) (by have := y3.2.1; omega)).mp (n1.symm.trans y3.1)
      by_cases h20 : no0 < 20
      · rw [if_pos (hc0.mpr h20), if_pos (by omega)]
        have := hS.1; rw [he] at this; exact ⟨this, hf.rf I⟩
      · rw [if_neg (fun z => h20 (hc0.mp z)), if_neg (by omega)]
        exact ⟨f1, f2⟩
  have hX0 := hX.h h0.2
  obtain ⟨q1, f1⟩ := h_adv hX0 h0.1 hlt
  have hX1 := hX0.h f1
  have g1 := h0.2.tr f1
  have q1' : hR K V C T X (g_X6_advance_28 J0 G) (.inl (p + 1, [(14, p)])) := q1
  have j1b : ∀ b, b ≠ 28 → (g_X6_advance_28 J0 G) b = I b := g1.1
  -- the end
  have fin : ∀ (J2 : am_I) (v : Int32) (k w : Nat), hpat kd = [(k, hrl kd), (w, 0)] → hR K V C T X J2 (stp K (stp K (.inl (p + 1, [(14, p)])) (k, hrl kd)) (w, 0)) → hf I J2 → ((if k = 100 then (K (p + 1) = 3 ∨ K (p + 1) = 4) else K (p + 1) = k) → (its K V C [(14, p), (hrl kd, p + 1)] X).2.1 = none → v = Int32.ofNat (otg K C X.1.2 kd p) ∧ (kd = 12 ∨ nmL C X.1.2 kd (p + 1) ≠ none)) → hF I (g_X3_begin_38 J2 G (Int32.ofNat kd) v) G G ∧ (∀ b, b ≠ 28 → b ≠ 38 → b ≠ 39 → b ≠ 40 → b ≠ 41 → b ≠ 44 → (g_X3_begin_38 J2 G (Int32.ofNat kd) v) b = I b) ∧ hdQ K V C T I (g_X3_begin_38 J2 G (Int32.ofNat kd) v) X kd p (pts K (.inl (p + 1, [(14, p)])) (hpat kd)) := by
    intro J2 v k w hp hq hf2 hv
    have e8 : J2 38 8 = Int32.ofNat no0 := by rw [hf2.1 38 (by omega)]; exact n1
    have e9 : J2 38 9 = Int32.ofNat len := by rw [hf2.1 38 (by omega)]; exact l1
    obtain ⟨m, hm⟩ : ∃ m, m = (if 20 < no0 + 1 then 20 else no0 + 1) := ⟨_, rfl⟩
    have hm1 : 1 ≤ m ∧ m ≤ 20 := by rw [hm]; split <;> omega
    have eB : g_X3_begin_38 J2 G (Int32.ofNat kd) v = am_up (am_up (am_up (am_up (am_up J2 38 8 (Int32.ofNat m)) 39 (m - 1) (Int32.ofNat kd)) 40 (m - 1) v) 41 (m - 1) (Int32.ofNat len)) 44 (m - 1) (0 : Int32) := by
      rw [b_beg (len := len) e8 n2, ← hm, e9]
    have eb : ∀ b, b ≠ 38 → b ≠ 39 → b ≠ 40 → b ≠ 41 → b ≠ 44 → (g_X3_begin_38 J2 G (Int32.ofNat kd) v) b = J2 b := fun b z1 z2 z3 z4 z5 => by rw [eB, up_row _ _ _ z5, up_row _ _ _ z4, up_row _ _ _ z3, up_row _ _ _ z2, up_row _ _ _ z1]
    refine ⟨⟨fun b hb => by rw [eb b (by omega) (by omega) (by omega) (by omega) (by omega), hf2.1 b (by omega)], fun _ _ _ _ => rfl⟩, fun b z1 z2 z3 z4 z5 z6 => by rw [eb b z2 z3 z4 z5 z6, hf2.1 b z1], ?_⟩
    have hq2 := hq.kept (J' := g_X3_begin_38 J2 G (Int32.ofNat kd) v) (eb 28 (by omega) (by omega) (by omega) (by omega) (by omega)) (eb 5 (by omega) (by omega) (by omega) (by omega) (by omega))
    rw [hp]
    show hdQ K V C T I _ X kd p (stp K (stp K (.inl (p + 1, [(14, p)])) (k, hrl kd)) (w, 0))
    cases hc : stp K (stp K (.inl (p + 1, [(14, p)])) (k, hrl kd)) (w, 0) with
    | inr t => rw [hc] at hq2; exact hq2
    | inl z =>
      obtain ⟨p2, l2'⟩ := z
      rw [hc] at hq2
      obtain ⟨p1, l1', d1, k2, hp2, hl2⟩ := stp_l hc
      obtain ⟨p0, l0, d0, k1, hp1, hl1⟩ := stp_l d1
      cases d0
      have hr0 : ¬ hrl kd = 0 := by unfold hrl; rcases hkd with rfl | rfl | rfl <;> decide
      have hl : l2' = [(14, p), (hrl kd, p + 1)] := by
        rw [hl2, hl1, if_pos rfl, if_neg hr0]
        rfl
      subst hl
      refine ⟨by omega, rfl, hq2, m, len, ⟨by rw [eB, up_row _ _ _ (by omega), up_row _ _ _ (by omega), up_row _ _ _ (by omega), up_row _ _ _ (by omega), am_up_self], hm1⟩, ⟨l1, by rw [eB, up_row _ _ _ (by omega), up_row _ _ _ (by omega), up_row _ _ _ (by omega), up_row _ _ _ (by omega), up_in, if_neg (by omega)]; exact e9, l2⟩, fun he => ?_⟩
      obtain ⟨hv1, hv2⟩ := hv k1 he
      have he14 : (it K V C X (14, p)).2.1 = none := by
        have : (its K V C [(14, p), (hrl kd, p + 1)] X).2.1 = (it K V C (it K V C X (14, p)) (hrl kd, p + 1)).2.1 := rfl
        rw [this] at he
        rcases hkd with rfl | rfl | rfl
        · exact (eo_n (n := if nmL C X.1.2 9 (p + 1) = none then 3 else 0) he).1
        · exact (eo_n (n := if nmL C X.1.2 6 (p + 1) = none then 3 else 0) he).1
        · exact he
      obtain ⟨h3, hlt20⟩ := eo_n (n := if X.1.1 0 5 < 20 then 0 else 4) he14
      have h20 : X.1.1 0 5 < 20 := by
        by_cases h : X.1.1 0 5 < 20
        · exact h
        · rw [if_neg h] at hlt20; omega
      obtain ⟨_, _, y3⟩ := hS.2.2.2 h3
      have hno : no0 = X.1.1 0 5 := (n_eq (by omega) (by omega)).mp (n1.symm.trans y3.1)
      have hmn : m = X.1.1 0 5 + 1 := by rw [hm, if_neg (by omega), hno]
      have hm2 : m - 1 = X.1.1 0 5 := by omega
      rw [hm2] at eB
      have i39 : ∀ j, (g_X3_begin_38 J2 G (Int32.ofNat kd) v) 39 j = if j = X.1.1 0 5 then Int32.ofNat kd else I 39 j := fun j => by
        rw [eB, up_row _ _ _ (by omega), up_row _ _ _ (by omega), up_row _ _ _ (by omega), up_in, up_row _ _ _ (by omega), hf2.1 39 (by omega)]
      have i40 : ∀ j, (g_X3_begin_38 J2 G (Int32.ofNat kd) v) 40 j = if j = X.1.1 0 5 then v else I 40 j := fun j => by
        rw [eB, up_row _ _ _ (by omega), up_row _ _ _ (by omega), up_in, up_row _ _ _ (by omega), up_row _ _ _ (by omega), hf2.1 40 (by omega)]
      have i41 : ∀ j, (g_X3_begin_38 J2 G (Int32.ofNat kd) v) 41 j = if j = X.1.1 0 5 then Int32.ofNat len else I 41 j := fun j => by
        rw [eB, up_row _ _ _ (by omega), up_in, up_row _ _ _ (by omega), up_row _ _ _ (by omega), up_row _ _ _ (by omega), hf2.1 41 (by omega)]
      have i44 : ∀ j, (g_X3_begin_38 J2 G (Int32.ofNat kd) v) 44 j = if j = X.1.1 0 5 then 0 else I 44 j := fun j => by
        rw [eB, up_in, up_row _ _ _ (by omega), up_row _ _ _ (by omega), up_row _ _ _ (by omega), up_row _ _ _ (by omega), hf2.1 44 (by omega)]
      exact ⟨h3, h20, hmn, ⟨by rw [i39, if_pos rfl], by rw [i40, if_pos rfl]; exact hv1, by rw [i41, if_pos rfl], by rw [i44, if_pos rfl]⟩, hv2, fun j hj => ⟨by rw [i39, if_neg hj], by rw [i40, if_neg hj], by rw [i41, if_neg hj], by rw [i44, if_neg hj]⟩⟩
  obtain ⟨n0, hn0⟩ : ∃ n, FU = n + 20 := ⟨FU - 20, by unfold FU; omega⟩
  have e6 : I 28 6 = Int32.ofNat kd := by rw [hS.1.1.2.1, hk]
  have eR : R_X6_readOrderHead_28 I G = L_X6_readOrderHead_28 FU 0 I G (Int32.ofNat kd) 0 := by
    unfold R_X6_readOrderHead_28
    rw [e6]
    rcases hkd with rfl | rfl | rfl
    · rw [if_pos (show Int32.ofNat 9 = (9 : Int32) from rfl)]
    · rw [if_neg (show ¬ Int32.ofNat 6 = (9 : Int32) by decide), if_pos (show Int32.ofNat 6 = (6 : Int32) from rfl)]
    · rw [if_neg (show ¬ Int32.ofNat 12 = (9 : Int32) by decide), if_neg (show ¬ Int32.ofNat 12 = (6 : Int32) by decide), if_pos (show Int32.ofNat 12 = (12 : Int32) from rfl)]
  have e1 : ∃ n, R_X6_readOrderHead_28 I G = L_X6_readOrderHead_28 (n + 10) 3 (g_X6_advance_28 J0 G) G (Int32.ofNat kd) 0 := by
    rw [eR, hn0, L_X6_readOrderHead_28_0, hJ0]
    by_cases h20 : I 38 8 < (20 : Int32)
    · rw [if_pos h20, if_pos h20, L_X6_readOrderHead_28_2]
      exact ⟨n0 + 8, rfl⟩
    · rw [if_neg h20, if_neg h20, L_X6_readOrderHead_28_1, L_X6_readOrderHead_28_2]
      exact ⟨n0 + 7, rfl⟩
  obtain ⟨n, e1⟩ := e1
  rw [e1, L_X6_readOrderHead_28_3]
  rcases hkd with rfl | rfl | rfl
  · rw [if_neg (show ¬ Int32.ofNat 9 = (12 : Int32) by decide), L_X6_readOrderHead_28_5, if_pos (show Int32.ofNat 9 = (9 : Int32) from rfl)]
    by_cases h39 : K (p + 1) = 39
    · obtain ⟨J1, k1, k2, k3⟩ := h_kn49 hX1 (hN.kept2 (j1b 47 (by omega)) (j1b 49 (by omega)) (j1b 51 (by omega))) q1 h39
      have qq : hR K V C T X J1 (stp K (.inl (p + 1, [(14, p)])) (39, 15)) := by
        rw [stp_y (mk_y h39 (by omega)), if_neg (by omega)]
        exact k2
      obtain ⟨q2, f2⟩ := hR_ex (hX1.h k3) qq (w := 13) (by omega)
      obtain ⟨r1, r2, r3⟩ := fin _ (fi (nmL C X.1.2 9 (p + 1))) 39 13 rfl q2 ((g1.tr k3).tr f2) (fun _ he => by
        have he' : eo (it K V C X (14, p)).2.1 (if nmL C X.1.2 9 (p + 1) = none then 3 else 0) (p + 1) = none := he
        have h3 := (eo_n he').2
        cases hq : nmL C X.1.2 9 (p + 1) with
        | none => rw [hq, if_pos rfl] at h3; omega
        | some j => exact ⟨by show fi (some j) = Int32.ofNat ((nmL C X.1.2 9 (p + 1)).getD 0); rw [hq]; rfl, Or.inr (by intro z; cases z)⟩)
      refine ⟨_, ?_, r1, r2, r3⟩
      rw [k1, rb_go, L_X6_readOrderHead_28_6, if_neg (show ¬ Int32.ofNat 9 = (12 : Int32) by decide), L_X6_readOrderHead_28_7]
      rfl
    · obtain ⟨a1, a2⟩ := h_ref (G := G) q1
      have qq : hR K V C T X (g_X6_refuse_28 (g_X6_advance_28 J0 G) G) (stp K (.inl (p + 1, [(14, p)])) (39, 15)) := by
        rw [stp_n (mk_n h39 (by omega))]
        exact a1
      obtain ⟨q2, f2⟩ := hR_ex (hX1.h a2) qq (w := 13) (by omega)
      obtain ⟨r1, r2, r3⟩ := fin _ (0 : Int32) 39 13 rfl q2 ((g1.tr a2).tr f2) (fun h _ => by rw [if_neg (by omega)] at h; exact absurd h h39)
      refine ⟨_, ?_, r1, r2, r3⟩
      rw [h_kx49 hX1 q1 h39, rb_go, L_X6_readOrderHead_28_6, if_neg (show ¬ Int32.ofNat 9 = (12 : Int32) by decide), L_X6_readOrderHead_28_7]
      rfl
  · rw [if_neg (show ¬ Int32.ofNat 6 = (12 : Int32) by decide), L_X6_readOrderHead_28_5, if_neg (show ¬ Int32.ofNat 6 = (9 : Int32) by decide)]
    by_cases h39 : K (p + 1) = 39
    · obtain ⟨J1, k1, k2, k3⟩ := h_kn47 hX1 (hN.kept2 (j1b 47 (by omega)) (j1b 49 (by omega)) (j1b 51 (by omega))) q1 h39
      have qq : hR K V C T X J1 (stp K (.inl (p + 1, [(14, p)])) (39, 16)) := by
        rw [stp_y (mk_y h39 (by omega)), if_neg (by omega)]
        exact k2
      obtain ⟨q2, f2⟩ := hR_ex (hX1.h k3) qq (w := 13) (by omega)
      obtain ⟨r1, r2, r3⟩ := fin _ (fi (nmL C X.1.2 6 (p + 1))) 39 13 rfl q2 ((g1.tr k3).tr f2) (fun _ he => by
        have he' : eo (it K V C X (14, p)).2.1 (if nmL C X.1.2 6 (p + 1) = none then 3 else 0) (p + 1) = none := he
        have h3 := (eo_n he').2
        cases hq : nmL C X.1.2 6 (p + 1) with
        | none => rw [hq, if_pos rfl] at h3; omega
        | some j => exact ⟨by show fi (some j) = Int32.ofNat ((nmL C X.1.2 6 (p + 1)).getD 0); rw [hq]; rfl, Or.inr (by intro z; cases z)⟩)
      refine ⟨_, ?_, r1, r2, r3⟩
      rw [k1, rb_go, L_X6_readOrderHead_28_6, if_neg (show ¬ Int32.ofNat 6 = (12 : Int32) by decide), L_X6_readOrderHead_28_7]
      rfl
    · obtain ⟨a1, a2⟩ := h_ref (G := G) q1
      have qq : hR K V C T X (g_X6_refuse_28 (g_X6_advance_28 J0 G) G) (stp K (.inl (p + 1, [(14, p)])) (39, 16)) := by
        rw [stp_n (mk_n h39 (by omega))]
        exact a1
      obtain ⟨q2, f2⟩ := hR_ex (hX1.h a2) qq (w := 13) (by omega)
      obtain ⟨r1, r2, r3⟩ := fin _ (0 : Int32) 39 13 rfl q2 ((g1.tr a2).tr f2) (fun h _ => by rw [if_neg (by omega)] at h; exact absurd h h39)
      refine ⟨_, ?_, r1, r2, r3⟩
      rw [h_kx47 hX1 q1 h39, rb_go, L_X6_readOrderHead_28_6, if_neg (show ¬ Int32.ofNat 6 = (12 : Int32) by decide), L_X6_readOrderHead_28_7]
      rfl
  · rw [if_pos (show Int32.ofNat 12 = (12 : Int32) from rfl), L_X6_readOrderHead_28_4]
    obtain ⟨qq, f2⟩ := hR_wy hX1 q1' (r := 17) (by omega) (fun p l => rfl)
    obtain ⟨q2, f3⟩ := hR_ex (hX1.h f2) qq (w := 1) (by omega)
    obtain ⟨r1, r2, r3⟩ := fin _ (f_X6_readWay_28 (g_X6_advance_28 J0 G) G) 100 1 rfl q2 ((g1.tr f2).tr f3) (fun h _ => by
      rw [if_pos rfl] at h
      exact ⟨(h_wyY hX1 q1 h).2, Or.inl rfl⟩)
    refine ⟨_, ?_, r1, r2, r3⟩
    rw [L_X6_readOrderHead_28_6, if_pos (show Int32.ofNat 12 = (12 : Int32) from rfl), L_X6_readOrderHead_28_7]
    rfl
end COL
