/-! the class's lines, all of them -/
abbrev sL : Type := (Nat × (List (Nat × Nat) × Option (List (Nat × Nat) × List (Nat × Nat)))) ⊕ Nat
section CLL
variable {K V C : Nat → Nat} {T : Nat} {G : am_G}
def lpat (k : Nat) : List (Nat × Nat) := if k = 0 then [(40, 1), (1, 0), (40, 2)] else if k = 2 then [(39, 3), (3, 0), (40, 4), (4, 0), (40, 5), (5, 0), (40, 6), (6, 0), (40, 7)] else if k = 7 then [(39, 8), (100, 9), (8, 0), (40, 10), (9, 0), (40, 11)] else [(39, 12), (11, 0), (40, 13)]
def toL (r : sR) : sL := match r with
  | .inl (p, l) => .inl (p, (l, none))
  | .inr q => .inr q
def semi (K : Nat → Nat) (r : sL) : sL := match r with
  | .inl (p, x) => if K p = 28 then .inl (p + 1, x) else .inr p
  | .inr q => .inr q
/-- behind the head of an order -/
def so2 (K V : Nat → Nat) (kd p1 : Nat) (l : List (Nat × Nat)) : sL := match sp K V GDN 3 0 p1 with
  | .inr q => .inr q
  | .inl (p2, c1) => if K p2 = 14 then (match sp K V GDN 0 0 (p2 + 1) with
      | .inr q => .inr q
      | .inl (p3, c2) => .inl (p3, (l ++ s_im c1 ++ s_im c2, some (c1, c2))))
    else if kd = 12 then .inl (p2, (l ++ s_im c1, some (c1, []))) else .inr p2
def so1 (K V : Nat → Nat) (kd : Nat) (s : sR) : sL := match s with
  | .inr q => .inr q
  | .inl (p1, l) => so2 K V kd p1 l
def sl1 (K V : Nat → Nat) (p : Nat) : sL := if K p = 0 ∨ K p = 2 ∨ K p = 7 ∨ K p = 10 then toL (pts K (.inl (p + 1, [])) (lpat (K p)))
  else if K p = 9 ∨ K p = 6 ∨ K p = 12 then so1 K V (K p) (pts K (.inl (p + 1, [(14, p)])) (hpat (K p)))
  else .inr p
def sln (K V : Nat → Nat) (p : Nat) : sL := semi K (sl1 K V p)
def odU (K C : Nat → Nat) (X : sX) (od : sO) (p : Nat) (o : Option (List (Nat × Nat) × List (Nat × Nat))) : sO := match o with
  | none => od
  | some (c1, c2) => fun k => if k = X.1.1 0 5 then ((K p, otg K C X.1.2 (K p) p), (c1.map (s_rs (nmL C X.1.2)), c2.map (s_rs (nmL C X.1.2)))) else od k
def cLr (K V C : Nat → Nat) (T : Nat) (I : am_I) (G : am_G) (X : sX) (od : sO) (p : Nat) (r : sL) : Prop := match r with
  | .inl (p', (l, o)) => cS K C T I G p' (its K V C l X) (odU K C X od p o)
  | .inr q => cD I q
theorem cS.h {I I' : am_I} {p p' : Nat} {X : sX} {od : sO} (h : cS K C T I G p X od) (hp : p ≤ p') (h1 : cH K T I' p' X.2.1) (hh : hf I I') : cS K C T I' G p' X od := by
  obtain ⟨_, x2, ⟨⟨no, y1, y2⟩, len, y3, y4⟩, x4⟩ := h
  refine ⟨h1, x2.kept (hh.1 47 (by omega)) (hh.1 49 (by omega)) (hh.1 51 (by omega)), ⟨⟨no, by rw [hh.1 38 (by omega)]; exact y1, y2⟩, len, by rw [hh.1 38 (by omega)]; exact y3, by omega⟩, fun he => ?_⟩
  obtain ⟨z1, z2, z3⟩ := x4 he
  exact ⟨z1, z2.kept (fun b b1 b2 => hh.1 b (by omega)), z3.kept (fun b b1 b2 => hh.1 b (by omega))⟩
theorem cl_semi {J : am_I} {X : sX} {od : sO} {p : Nat} {r : sL} (hX : cX K V T J G) (h : cLr K V C T J G X od p r) : cLr K V C T (g_X6_expect_28 J G (28 : Int32)) G X od p (semi K r) ∧ hf J (g_X6_expect_28 J G (28 : Int32)) := by
  cases r with
  | inr q => exact h_exD (w := 28) h (by omega)
  | inl z =>
    obtain ⟨p', l, o⟩ := z
    unfold semi
    dsimp only
    by_cases hk : K p' = 28
    · rw [if_pos hk]
      obtain ⟨a1, a2⟩ := h_exY (w := 28) hX h.1 (by omega) hk
      exact ⟨cS.h h (by omega) a1 a2, a2⟩
    · rw [if_neg hk]
      exact h_exN (w := 28) hX h.1 (by omega) hk
theorem cSr_toL {J : am_I} {X : sX} {od : sO} {p : Nat} {r : sR} (h : cSr K V C T J G X od r) : cLr K V C T J G X od p (toL r) := by
  cases r with
  | inr q => exact h
  | inl z => obtain ⟨p', l⟩ := z; exact h
/-! the items of a code -/
theorem its_im : ∀ (c : List (Nat × Nat)) (X : sX), (its K V C (s_im c) X).1 = X.1 ∧ (its K V C (s_im c) X).2.1 = fe (nmL C X.1.2) c X.2.1
  | [], X => ⟨rfl, rfl⟩
  | (op, a) :: r, X => by
    by_cases hn : s_nmd op = true
    · have e1 : s_im ((op, a) :: r) = (s_rl op, a) :: s_im r := by
        show (if s_nmd op = true then _ else _) = _
        rw [if_pos hn]
      have e2 : (it K V C X (s_rl op, a)).1 = X.1 ∧ (it K V C X (s_rl op, a)).2.1 = eo X.2.1 (if nmL C X.1.2 op a = none then 3 else 0) a := by
        simp only [s_nmd, Bool.or_eq_true, beq_iff_eq] at hn
        rcases hn with ((rfl | rfl) | rfl) | rfl
        · exact ⟨rfl, rfl⟩
        · exact ⟨rfl, rfl⟩
        · exact ⟨rfl, rfl⟩
        · exact ⟨rfl, rfl⟩
      obtain ⟨i1, i2⟩ := its_im r (it K V C X (s_rl op, a))
      rw [e1]
      refine ⟨i1.trans e2.1, ?_⟩
      show (its K V C (s_im r) (it K V C X (s_rl op, a))).2.1 = _
      rw [i2, e2.1, e2.2]
      show _ = fe (nmL C X.1.2) r (if s_nmd op = true ∧ nmL C X.1.2 op a = none then e_or X.2.1 (3, a) else X.2.1)
      congr 1
      unfold eo
      by_cases hq : nmL C X.1.2 op a = none
      · rw [if_pos hq, if_neg (by omega), if_pos ⟨hn, hq⟩]
      · rw [if_neg hq, if_pos rfl, if_neg (fun z => hq z.2)]
    · have e1 : s_im ((op, a) :: r) = s_im r := by
        show (if s_nmd op = true then _ else _) = _
        rw [if_neg hn]
      obtain ⟨i1, i2⟩ := its_im r X
      rw [e1]
      refine ⟨i1, i2.trans ?_⟩
      show _ = fe (nmL C X.1.2) r (if s_nmd op = true ∧ nmL C X.1.2 op a = none then e_or X.2.1 (3, a) else X.2.1)
      rw [if_neg (fun z => hn z.1)]
theorem fe_al {nm : Nat → Nat → Option Nat} : ∀ (c : List (Nat × Nat)) (e : Option (Nat × Nat)), fe nm c e = none → e = none ∧ s_al nm c
  | [], e, h => ⟨h, fun q hq => absurd hq List.not_mem_nil⟩
  | (op, a) :: r, e, h => by
    have h1 : fe nm r (if s_nmd op = true ∧ nm op a = none then e_or e (3, a) else e) = none := h
    obtain ⟨h2, h3⟩ := fe_al r _ h1
    by_cases hc : s_nmd op = true ∧ nm op a = none
    · rw [if_pos hc] at h2; exact absurd h2 (e_or_n _ _)
    · rw [if_neg hc] at h2
      refine ⟨h2, fun q hq hs => ?_⟩
      rcases List.mem_cons.mp hq with rfl | hq
      · exact fun z => hc ⟨hs, z⟩
      · exact h3 q hq hs
theorem cc_d {nm : Nat → Nat → Option Nat} {I : am_I} : ∀ (c : List (Nat × Nat)) (k : Nat), cc nm I k c → s_al nm c → d_code I k (c.map (s_rs nm))
  | [], _, _, _ => trivial
  | (op, a) :: r, k, h, hal => by
    have hr := cc_d r (k + 1) h.2 (fun q hq => hal q (List.mem_cons_of_mem _ hq))
    have h0 := hal (op, a) List.mem_cons_self
    obtain ⟨h1, h2⟩ := h.1
    unfold c_op at h2
    dsimp only at h1 h2 h0
    show d_code I k (s_rs nm (op, a) :: r.map (s_rs nm))
    unfold s_rs
    dsimp only
    by_cases hn : s_nmd op = true
    · rw [if_pos hn] at h2 ⊢
      cases hq : nm op a with
      | none => exact absurd hq (h0 hn)
      | some j =>
        rw [hq] at h2
        exact ⟨h1, h2, hr⟩
    · rw [if_neg hn] at h2 ⊢
      exact ⟨h1, h2, hr⟩
theorem s_lk_m (nm : Nat → Nat → Option Nat) : ∀ (c : List (Nat × Nat)), s_lk (c.map (s_rs nm)) = s_lk c
  | [] => rfl
  | (op, a) :: r => by
    show s_lk (s_rs nm (op, a) :: r.map (s_rs nm)) = _
    obtain ⟨x, hx⟩ : ∃ x, s_rs nm (op, a) = (op, x) := by
      unfold s_rs
      split
      · exact ⟨_, rfl⟩
      · exact ⟨_, rfl⟩
    rw [hx]
    show ((op == 16 || op == 17 || op == 18) || s_lk (r.map (s_rs nm))) = ((op == 16 || op == 17 || op == 18) || s_lk r)
    rw [s_lk_m nm r]
theorem d_code.kept2 {I I' : am_I} : ∀ {k : Nat} {c : List (Nat × Nat)}, d_code I k c → (∀ j, k ≤ j → j < k + c.length → I' 45 j = I 45 j ∧ I' 46 j = I 46 j) → d_code I' k c
  | _, [], _, _ => trivial
  | k, (op, a) :: r, h, hk => by
    obtain ⟨h1, h2⟩ := hk k (Nat.le_refl _) (by simp)
    exact ⟨by rw [h1]; exact h.1, by rw [h2]; exact h.2.1, h.2.2.kept2 (fun j a1 a2 => hk j (by omega) (by simp only [List.length_cons]; omega))⟩
/-- the orders and one more -/
theorem dO_more {I J : am_I} {X : sX} {od : sO} {p len : Nat} {c1 c2 : List (Nat × Nat)} (h : dO I (X.1.1 0 5) od) (hlen : I 38 9 = Int32.ofNat len) (hl : len ≤ 400) (hn : X.1.1 0 5 < 20) (ha1 : s_al (nmL C X.1.2) c1) (ha2 : s_al (nmL C X.1.2) c2) (h8 : J 38 8 = Int32.ofNat (X.1.1 0 5 + 1)) (h9 : J 38 9 = Int32.ofNat (len + c1.length + c2.length)) (hlb : len + c1.length + c2.length ≤ 400)
    (hN : J 39 (X.1.1 0 5) = Int32.ofNat (K p) ∧ J 40 (X.1.1 0 5) = Int32.ofNat (otg K C X.1.2 (K p) p) ∧ J 41 (X.1.1 0 5) = Int32.ofNat len ∧ J 42 (X.1.1 0 5) = Int32.ofNat (len + c1.length) ∧ J 43 (X.1.1 0 5) = Int32.ofNat (len + c1.length + c2.length)) (hk44 : (s_lk c1 || s_lk c2) = true → ¬ J 44 (X.1.1 0 5) = 0)
    (hO : ∀ j, j ≠ X.1.1 0 5 → J 39 j = I 39 j ∧ J 40 j = I 40 j ∧ J 41 j = I 41 j ∧ J 42 j = I 42 j ∧ J 43 j = I 43 j ∧ J 44 j = I 44 j) (hc : ∀ j, j < len → J 45 j = I 45 j ∧ J 46 j = I 46 j) (hc1 : cc (nmL C X.1.2) J len c1) (hc2 : cc (nmL C X.1.2) J (len + c1.length) c2) : dO J (X.1.1 0 5 + 1) (odU K C X od p (some (c1, c2))) := by
  obtain ⟨_, _, len0, a3, a4, a5⟩ := h
  have hle : len0 = len := (n_eq (by omega) (by omega)).mp (a3.symm.trans hlen)
  subst hle
  refine ⟨h8, by omega, _, h9, hlb, fun k hk => ?_⟩
  show J 39 k = Int32.ofNat (if k = X.1.1 0 5 then _ else od k).1.1 ∧ _
  by_cases hkn : k = X.1.1 0 5
  · have e : odU K C X od p (some (c1, c2)) k = ((K p, otg K C X.1.2 (K p) p), (c1.map (s_rs (nmL C X.1.2)), c2.map (s_rs (nmL C X.1.2)))) := if_pos hkn
    rw [e, if_pos hkn, hkn]
    refine ⟨hN.1, hN.2.1, len0, ?_, ?_, ?_, ?_⟩
    · rw [List.length_map, List.length_map]
      exact ⟨hN.2.2.1, hN.2.2.2.1, hN.2.2.2.2, Nat.le_refl _⟩
    · exact cc_d c1 len0 hc1 ha1
    · rw [List.length_map]; exact cc_d c2 _ hc2 ha2
    · rw [s_lk_m, s_lk_m]; exact hk44
  · have e : odU K C X od p (some (c1, c2)) k = od k := if_neg hkn
    rw [e, if_neg hkn]
    obtain ⟨b1, b2, a, b3, b4, b5, b6⟩ := a5 k (by omega)
    obtain ⟨o1, o2, o3, o4, o5, o6⟩ := hO k hkn
    rw [o1, o2, o3, o4, o5, o6]
    exact ⟨b1, b2, a, ⟨b3.1, b3.2.1, b3.2.2.1, by omega⟩, b4.kept2 (fun j j1 j2 => hc j (by omega)), b5.kept2 (fun j j1 j2 => hc j (by omega)), b6⟩
theorem es_b (J : am_I) {b : Nat} (h : b ≠ 42) : g_X3_endSum_38 J G b = J b := gPut_row h
theorem et_b (J : am_I) {b : Nat} (h : b ≠ 43) : g_X3_endTest_38 J G b = J b := gPut_row h
theorem es_v {J : am_I} {no len : Nat} (h8 : J 38 8 = Int32.ofNat no) (hn : 1 ≤ no ∧ no ≤ 20) (h9 : J 38 9 = Int32.ofNat len) : g_X3_endSum_38 J G = am_up J 42 (no - 1) (Int32.ofNat len) := by
  unfold g_X3_endSum_38
  rw [h8, h9, n_dec hn.1, n_gPut (by omega) (by omega)]
theorem et_v {J : am_I} {no len : Nat} (h8 : J 38 8 = Int32.ofNat no) (hn : 1 ≤ no ∧ no ≤ 20) (h9 : J 38 9 = Int32.ofNat len) : g_X3_endTest_38 J G = am_up J 43 (no - 1) (Int32.ofNat len) := by
  unfold g_X3_endTest_38
  rw [h8, h9, n_dec hn.1, n_gPut (by omega) (by omega)]
theorem cL.kept {I I' : am_I} {p len no : Nat} {e : Option (Nat × Nat)} (h : cL K T I p e len no) (h28 : I' 28 = I 28) (h38 : I' 38 = I 38) (h5 : I' 5 = I 5) : cL K T I' p e len no := by
  obtain ⟨a, b, c, d⟩ := h
  exact ⟨by rw [h28]; exact a, b.kept (by rw [h28]) (by rw [h28]) h5, by rw [h38]; exact c, by rw [h38]; exact d⟩
def cft (I I' : am_I) : Prop := ∀ b, (b < 28 ∨ 46 < b) → I' b = I b
theorem cft.tr {I I1 I2 : am_I} (h1 : cft I I1) (h2 : cft I1 I2) : cft I I2 := fun b z => (h2 b z).trans (h1 b z)
theorem cfr.ft {I I' : am_I} (h : cfr I I') : cft I I' := fun b z => h.1 b (by omega) (by omega) (by omega) (by omega) (by omega)
theorem hf.ft {I I' : am_I} (h : hf I I') : cft I I' := fun b z => h.1 b (by omega)
noncomputable def otl (G : am_G) (kd : Int32) (J : am_I) : Option (Unit × am_I × am_G) := (if ((g_X3_endSum_38 J G) 28 6) = (14 : Int32) then rb (PG_X6_readTest GDN 0 (g_X6_advance_28 (g_X3_endSum_38 J G) G) G (0 : Int32) (0 : Int32)) (fun _ I3 G3 => some ((), (g_X6_expect_28 (g_X3_endTest_38 I3 G3) G3 (28 : Int32)), G3)) else (if kd = (12 : Int32) then some ((), (g_X6_expect_28 (g_X3_endTest_38 (g_X3_endSum_38 J G) G) G (28 : Int32)), G) else some ((), (g_X6_expect_28 (g_X3_endTest_38 (g_X6_refuse_28 (g_X3_endSum_38 J G) G) G) G (28 : Int32)), G)))
theorem otl_D {J : am_I} {q : Nat} (kd : Int32) (h : cD J q) : ∃ J4 : am_I, otl G kd J = some ((), g_X6_expect_28 J4 G (28 : Int32), G) ∧ cD J4 q ∧ cft J J4 := by
  have h1 : cD (g_X3_endSum_38 J G) q := h.kept (es_b J (by omega)) (es_b J (by omega))
  unfold otl
  rw [if_neg (by rw [h1.1]; decide)]
  have f1 : cft J (g_X3_endSum_38 J G) := fun b z => es_b J (by omega)
  by_cases hk : kd = (12 : Int32)
  · rw [if_pos hk]
    exact ⟨_, rfl, h1.kept (et_b _ (by omega)) (et_b _ (by omega)), f1.tr (fun b z => et_b _ (by omega))⟩
  · rw [if_neg hk]
    obtain ⟨a1, a2⟩ := h_refD (G := G) h1
    exact ⟨_, rfl, a1.kept (et_b _ (by omega)) (et_b _ (by omega)), (f1.tr a2.ft).tr (fun b z => et_b _ (by omega))⟩
theorem x_hd {X : sX} {kd p : Nat} (hkd : kd = 9 ∨ kd = 6 ∨ kd = 12) : (its K V C [(14, p), (hrl kd, p + 1)] X).1 = (am_up X.1.1 0 5 (X.1.1 0 5 + 1), X.1.2) := by
  rcases hkd with rfl | rfl | rfl <;> rfl
theorem xok_o {X : sX} (h : xok X) (h20 : X.1.1 0 5 < 20) {Y : sX} (hY : Y.1 = (am_up X.1.1 0 5 (X.1.1 0 5 + 1), X.1.2)) : xok Y := by
  obtain ⟨⟨k1, k2, k2b, k2c, k3⟩, x1, x2, x3, x4⟩ := h
  have z0 : ∀ j, (am_up X.1.1 0 5 (X.1.1 0 5 + 1)) 0 j = if j = 5 then X.1.1 0 5 + 1 else X.1.1 0 j := fun j => by rw [up_in]
  have o : ∀ r, r ≠ 0 → (am_up X.1.1 0 5 (X.1.1 0 5 + 1)) r = X.1.1 r := fun r y0 => by rw [up_row _ _ _ y0]
  unfold xok
  rw [hY]
  dsimp only
  refine ⟨⟨?_, fun k hkk => ?_, fun k hkk => ?_, fun k hkk => ?_, fun i j hij hj => ?_⟩, ?_, ?_, ?_, ?_⟩
  · simp only [z0]
    simp
    omega
  · rw [z0, if_neg (by omega)] at hkk
    rw [o 1 (by omega), o 2 (by omega), o 3 (by omega), o 7 (by omega)]
    exact k2 k hkk
  · rw [z0, if_neg (by omega)] at hkk
    rw [o 4 (by omega), o 5 (by omega), o 8 (by omega)]
    exact k2b k hkk
  · rw [z0, if_neg (by omega)] at hkk
    rw [o 6 (by omega)]
    exact k2c k hkk
  · rw [z0, if_neg (by omega)] at hj
    rw [o 6 (by omega)]
    exact k3 i j hij hj
  · rw [z0, if_neg (by omega)]; exact x1
  · rw [z0, if_neg (by omega)]; exact x2
  · rw [z0, if_neg (by omega)]; exact x3
  · rw [z0, if_pos rfl]; omega
theorem dP_o {J : am_I} {X : sX} (h : dP J X.1.1) : dP J (am_up X.1.1 0 5 (X.1.1 0 5 + 1)) := by
  have z0 : ∀ j, j ≠ 5 → (am_up X.1.1 0 5 (X.1.1 0 5 + 1)) 0 j = X.1.1 0 j := fun j hj => by rw [up_in, if_neg hj]
  have o : ∀ r, r ≠ 0 → (am_up X.1.1 0 5 (X.1.1 0 5 + 1)) r = X.1.1 r := fun r y0 => by rw [up_row _ _ _ y0]
  unfold dP
  rw [z0 0 (by omega), z0 1 (by omega), z0 2 (by omega), z0 3 (by omega), z0 4 (by omega), o 1 (by omega), o 2 (by omega), o 3 (by omega), o 4 (by omega), o 5 (by omega), o 6 (by omega), o 7 (by omega), o 8 (by omega)]
  exact h
theorem cl_ot {I J : am_I} {p kd : Nat} {X : sX} {od : sO} (hX : cX K V T J G) (hC : cC K C T G) (hS : cS K C T I G p X od) (hk : K p = kd) (hkd : kd = 9 ∨ kd = 6 ∨ kd = 12) (hJ : ∀ b, b ≠ 28 → b ≠ 38 → b ≠ 39 → b ≠ 40 → b ≠ 41 → b ≠ 44 → J b = I b) {s : sR} (hQ : hdQ K V C T I J X kd p s) : ∃ J4 : am_I, rb (PG_X6_readTest GDN 3 J G (0 : Int32) (0 : Int32)) (fun _ I2 G2 => otl G2 (Int32.ofNat kd) I2) = some ((), g_X6_expect_28 J4 G (28 : Int32), G) ∧ cft J J4 ∧ cLr K V C T J4 G X od p (so1 K V kd s) := by
  have hT := hX.1.1
  have dead : ∀ {J1 : am_I} {q : Nat}, cD J1 q → cft J J1 → PG_X6_readTest GDN 3 J G (0 : Int32) (0 : Int32) = some ((), J1, G) → ∃ J4 : am_I, rb (PG_X6_readTest GDN 3 J G (0 : Int32) (0 : Int32)) (fun _ I2 G2 => otl G2 (Int32.ofNat kd) I2) = some ((), g_X6_expect_28 J4 G (28 : Int32), G) ∧ cft J J4 ∧ cD J4 q := by
    intro J1 q h1 h2 h3
    obtain ⟨J4, a1, a2, a3⟩ := otl_D (G := G) (Int32.ofNat kd) h1
    exact ⟨J4, by rw [h3, rb_go]; exact a1, h2.tr a3, a2⟩
  cases s with
  | inr q =>
    obtain ⟨J1, e1, f1, d1⟩ := c_dead (G := G) (n := GDN) (md := 3) (by omega) (by show 3 ≤ 40; omega) hQ (0 : Int32) (0 : Int32)
    exact dead d1 f1.ft e1
  | inl z =>
    obtain ⟨p1, l⟩ := z
    obtain ⟨hp1, hl, hH, no, len, ⟨m1, m2, m3⟩, ⟨l1, l2, l3⟩, hst⟩ := hQ
    have hN : cNm C X.1.2 J G := hS.2.1.kept (hJ 47 (by omega) (by omega) (by omega) (by omega) (by omega) (by omega)) (hJ 49 (by omega) (by omega) (by omega) (by omega) (by omega) (by omega)) (hJ 51 (by omega) (by omega) (by omega) (by omega) (by omega) (by omega))
    have hcN := cN_of (T := T) hC hN
    have hcL : cL K T J p1 (its K V C l X).2.1 len no := ⟨hH.1, hH.2, l2, m1, m2, m3⟩
    obtain ⟨J1, e1, f1, r1⟩ := c_all GDN 3 (by omega) 0 p1 J _ len no (by omega) (by show 36 ≤ 40; omega) hX hcN hcL (by omega) (0 : Int32)
    have e1 : PG_X6_readTest GDN 3 J G (0 : Int32) (0 : Int32) = some ((), J1, G) := e1
    have hpr := sp_pr hX.1 GDN 3 0 p1 hH.1.2.2
    show ∃ J4 : am_I, _ ∧ _ ∧ cLr K V C T J4 G X od p (so2 K V kd p1 l)
    unfold so2
    cases hr : sp K V GDN 3 0 p1 with
    | inr q =>
      rw [hr] at r1
      exact dead r1 f1.ft e1
    | inl z =>
      obtain ⟨p2, c1⟩ := z
      rw [hr] at r1 hpr
      obtain ⟨b1, b2⟩ := r1
      obtain ⟨w1', w2, w3, _⟩ := hpr
      have eS := es_v (G := G) b1.2.2.2.1 b1.2.2.2.2 b1.2.2.1
      have b1S : cL K T (g_X3_endSum_38 J1 G) p2 (fe (nmL C X.1.2) c1 (its K V C l X).2.1) (len + c1.length) no := b1.kept (es_b J1 (by omega)) (es_b J1 (by omega)) (es_b J1 (by omega))
      have f2 : cft J (g_X3_endSum_38 J1 G) := f1.ft.tr (fun b z => es_b J1 (by omega))
      have hXS : cX K V T (g_X3_endSum_38 J1 G) G := (hX.kept f1).c41 (es_b J1 (by omega)) (es_b J1 (by omega))
      have eits : ∀ (c2 : List (Nat × Nat)), (its K V C (l ++ s_im c1 ++ s_im c2) X).1 = (am_up X.1.1 0 5 (X.1.1 0 5 + 1), X.1.2) ∧ (its K V C (l ++ s_im c1 ++ s_im c2) X).2.1 = fe (nmL C X.1.2) c2 (fe (nmL C X.1.2) c1 (its K V C l X).2.1) := by
        intro c2
        have i0 : (its K V C l X).1 = (am_up X.1.1 0 5 (X.1.1 0 5 + 1), X.1.2) := by rw [hl]; exact x_hd hkd
        obtain ⟨i1, i2⟩ := its_im (K := K) (V := V) (C := C) c1 (its K V C l X)
        obtain ⟨i3, i4⟩ := its_im (K := K) (V := V) (C := C) c2 (its K V C (s_im c1) (its K V C l X))
        rw [its_app, its_app]
        refine ⟨i3.trans (i1.trans i0), ?_⟩
        rw [i4, i1, i2, i0]
      -- the strong end
      have fin : ∀ (J4 : am_I) (p3 : Nat) (c2 : List (Nat × Nat)), cL K T J4 p3 (fe (nmL C X.1.2) c2 (fe (nmL C X.1.2) c1 (its K V C l X).2.1)) (len + c1.length + c2.length) no → len + c1.length + c2.length ≤ p3 → cft J J4 → (J4 29 = J 29 ∧ J4 30 = J 30 ∧ J4 31 = J 31 ∧ J4 32 = J 32 ∧ J4 33 = J 33 ∧ J4 34 = J 34 ∧ J4 35 = J 35 ∧ J4 36 = J 36 ∧ J4 37 = J 37) → (J4 39 = J 39 ∧ J4 40 = J 40 ∧ J4 41 = J 41) → (J4 42 (no - 1) = Int32.ofNat (len + c1.length) ∧ J4 43 (no - 1) = Int32.ofNat (len + c1.length + c2.length)) → (∀ j, j ≠ no - 1 → J4 42 j = J 42 j ∧ J4 43 j = J 43 j ∧ J4 44 j = J 44 j) → ((s_lk c1 || s_lk c2) = true → ¬ J4 44 (no - 1) = 0) → (∀ j, j < len → J4 45 j = J 45 j ∧ J4 46 j = J 46 j) → cc (nmL C X.1.2) J4 len c1 → cc (nmL C X.1.2) J4 (len + c1.length) c2 → cS K C T J4 G p3 (its K V C (l ++ s_im c1 ++ s_im c2) X) (odU K C X od p (some (c1, c2))) := by
        intro J4 p3 c2 g1 g2 g3 g29 g39 g42 gO g44 g45 gc1 gc2
        obtain ⟨i1, i2⟩ := eits c2
        refine ⟨⟨g1.1, by rw [i2]; exact g1.2.1⟩, by rw [i1]; exact hN.kept (g3 47 (by omega)) (g3 49 (by omega)) (g3 51 (by omega)), ⟨⟨no, g1.2.2.2.1, g1.2.2.2.2.2⟩, _, g1.2.2.1, g2⟩, fun he => ?_⟩
        rw [i2] at he
        obtain ⟨he1, al2⟩ := fe_al _ _ he
        obtain ⟨he0, al1⟩ := fe_al _ _ he1
        obtain ⟨hx0, h20, hno, ⟨t1, t2, t3, t4⟩, hnm, ho⟩ := hst he0
        obtain ⟨y1, y2, y3⟩ := hS.2.2.2 hx0
        have hn1 : no - 1 = X.1.1 0 5 := by omega
        rw [hn1] at g42 gO g44
        have jk : ∀ b, 29 ≤ b → b ≤ 37 → J b = I b := fun b h1 h2 => hJ b (by omega) (by omega) (by omega) (by omega) (by omega) (by omega)
        refine ⟨xok_o y1 h20 i1, ?_, ?_⟩
        · rw [i1]
          refine dP_o (X := X) (y2.kept (fun b h1 h2 => ?_))
          have : J4 b = J b := by
            rcases (show b = 29 ∨ b = 30 ∨ b = 31 ∨ b = 32 ∨ b = 33 ∨ b = 34 ∨ b = 35 ∨ b = 36 ∨ b = 37 by omega) with rfl | rfl | rfl | rfl | rfl | rfl | rfl | rfl | rfl
            · exact g29.1
            · exact g29.2.1
            · exact g29.2.2.1
            · exact g29.2.2.2.1
            · exact g29.2.2.2.2.1
            · exact g29.2.2.2.2.2.1
            · exact g29.2.2.2.2.2.2.1
            · exact g29.2.2.2.2.2.2.2.1
            · exact g29.2.2.2.2.2.2.2.2
          rw [this, jk b h1 h2]
        · rw [i1]
          dsimp only
          rw [am_up_self]
          refine dO_more (I := I) y3 l1 (by omega) h20 al1 al2 (by rw [g1.2.2.2.1, hno]) g1.2.2.1 (by have := g1.1.2.2; omega) ⟨by rw [g39.1, hk]; exact t1, by rw [g39.2.1, hk]; exact t2, by rw [g39.2.2]; exact t3, g42.1, g42.2⟩ g44 (fun j hj => ?_) (fun j hj => ?_) gc1 gc2
          · obtain ⟨o1, o2, o3, o4⟩ := ho j hj
            obtain ⟨z1, z2, z3⟩ := gO j hj
            exact ⟨by rw [g39.1]; exact o1, by rw [g39.2.1]; exact o2, by rw [g39.2.2]; exact o3, by rw [z1, hJ 42 (by omega) (by omega) (by omega) (by omega) (by omega) (by omega)], by rw [z2, hJ 43 (by omega) (by omega) (by omega) (by omega) (by omega) (by omega)], by rw [z3]; exact o4⟩
          · obtain ⟨z1, z2⟩ := g45 j hj
            exact ⟨by rw [z1, hJ 45 (by omega) (by omega) (by omega) (by omega) (by omega) (by omega)], by rw [z2, hJ 46 (by omega) (by omega) (by omega) (by omega) (by omega) (by omega)]⟩
      rw [e1, rb_go]
      show ∃ J4 : am_I, otl G (Int32.ofNat kd) J1 = _ ∧ _ ∧ _
      unfold otl
      dsimp only
      by_cases h14 : K p2 = 14
      · have hlt2 := hX.1.lt w2 (by omega)
        obtain ⟨a1, a2, a3⟩ := c_adv (G := G) hXS b1S hlt2
        have f3 := f2.tr a2.ft
        have hcN3 := hcN.kept2 (f3 47 (by omega)) (f3 49 (by omega)) (f3 51 (by omega))
        obtain ⟨J3, e3, f4, r3⟩ := c_all GDN 0 (by omega) 0 (p2 + 1) _ _ _ no (by omega) (by show 39 ≤ 40; omega) (hXS.kept a2) hcN3 a1 (by omega) (0 : Int32)
        have e3 : PG_X6_readTest GDN 0 (g_X6_advance_28 (g_X3_endSum_38 J1 G) G) G (0 : Int32) (0 : Int32) = some ((), J3, G) := e3
        have hpr2 := sp_pr hX.1 GDN 0 0 (p2 + 1) (by omega)
        rw [if_pos (kY (k := 14) (w := (14 : Int32)) rfl hX.1 w2 b1S.1.2.1 (by omega) h14), if_pos h14, e3, rb_go]
        refine ⟨_, rfl, (f3.tr f4.ft).tr (fun b z => et_b _ (by omega)), ?_⟩
        cases hr2 : sp K V GDN 0 0 (p2 + 1) with
        | inr q =>
          rw [hr2] at r3
          exact cD.kept r3 (et_b _ (by omega)) (et_b _ (by omega))
        | inl z =>
          obtain ⟨p3, c2⟩ := z
          rw [hr2] at r3 hpr2
          obtain ⟨d1, d2⟩ := r3
          obtain ⟨v1, v2, v3, _⟩ := hpr2
          have eT := et_v (G := G) d1.2.2.2.1 d1.2.2.2.2 d1.2.2.1
          show cS K C T _ G p3 (its K V C (l ++ s_im c1 ++ s_im c2) X) (odU K C X od p (some (c1, c2)))
          have row : ∀ b, b ≠ 28 → b ≠ 38 → b ≠ 42 → b ≠ 43 → b ≠ 44 → b ≠ 45 → b ≠ 46 → g_X3_endTest_38 J3 G b = J b := fun b z1 z2 z3 z4 z5 z6 z7 => by
            rw [et_b _ z4, f4.1 b z1 z2 z5 z6 z7, a3 b z1, es_b _ z3, f1.1 b z1 z2 z5 z6 z7]
          have r42 : ∀ j, g_X3_endTest_38 J3 G 42 j = if j = no - 1 then Int32.ofNat (len + c1.length) else J 42 j := fun j => by
            rw [et_b _ (by omega), f4.1 42 (by omega) (by omega) (by omega) (by omega) (by omega), a3 42 (by omega), eS, up_in, f1.1 42 (by omega) (by omega) (by omega) (by omega) (by omega)]
          have r43 : ∀ j, g_X3_endTest_38 J3 G 43 j = if j = no - 1 then Int32.ofNat (len + c1.length + c2.length) else J 43 j := fun j => by
            rw [eT, up_in, f4.1 43 (by omega) (by omega) (by omega) (by omega) (by omega), a3 43 (by omega), es_b _ (by omega), f1.1 43 (by omega) (by omega) (by omega) (by omega) (by omega)]
          have e44 : ∀ j, (g_X6_advance_28 (g_X3_endSum_38 J1 G) G) 44 j = J1 44 j := fun j => by rw [a3 44 (by omega), es_b _ (by omega)]
          have e45 : (g_X6_advance_28 (g_X3_endSum_38 J1 G) G) 45 = J1 45 := by rw [a3 45 (by omega), es_b _ (by omega)]
          have e46 : (g_X6_advance_28 (g_X3_endSum_38 J1 G) G) 46 = J1 46 := by rw [a3 46 (by omega), es_b _ (by omega)]
          have t44 : g_X3_endTest_38 J3 G 44 = J3 44 := et_b _ (by omega)
          have t45 : g_X3_endTest_38 J3 G 45 = J3 45 := et_b _ (by omega)
          have t46 : g_X3_endTest_38 J3 G 46 = J3 46 := et_b _ (by omega)
          refine fin _ p3 c2 (d1.kept (et_b _ (by omega)) (et_b _ (by omega)) (et_b _ (by omega))) (by omega) ((f3.tr f4.ft).tr (fun b z => et_b _ (by omega))) ⟨row 29 (by omega) (by omega) (by omega) (by omega) (by omega) (by omega) (by omega), row 30 (by omega) (by omega) (by omega) (by omega) (by omega) (by omega) (by omega), row 31 (by omega) (by omega) (by omega) (by omega) (by omega) (by omega) (by omega), row 32 (by omega) (by omega) (by omega) (by omega) (by omega) (by omega) (by omega), row 33 (by omega) (by omega) (by omega) (by omega) (by omega) (by omega) (by omega), row 34 (by omega) (by omega) (by omega) (by omega) (by omega) (by omega) (by omega), row 35 (by omega) (by omega) (by omega) (by omega) (by omega) (by omega) (by omega), row 36 (by omega) (by omega) (by omega) (by omega) (by omega) (by omega) (by omega), row 37 (by omega) (by omega) (by omega) (by omega) (by omega) (by omega) (by omega)⟩ ⟨row 39 (by omega) (by omega) (by omega) (by omega) (by omega) (by omega) (by omega), row 40 (by omega) (by omega) (by omega) (by omega) (by omega) (by omega) (by omega), row 41 (by omega) (by omega) (by omega) (by omega) (by omega) (by omega) (by omega)⟩ ⟨by rw [r42, if_pos rfl], by rw [r43, if_pos rfl]⟩ (fun j hj => ⟨by rw [r42, if_neg hj], by rw [r43, if_neg hj], by rw [t44, d2.2.2.2.2 j hj, e44, b2.2.2.2.2 j hj]⟩) (fun h => ?_) (fun j hj => ?_) ?_ ?_
          · rw [t44]
            rw [Bool.or_eq_true] at h
            rcases h with h | h
            · exact d2.2.2.2.1 _ (by rw [e44]; exact b2.2.2.1 h)
            · exact d2.2.2.1 h
          · obtain ⟨z1, z2⟩ := d2.2.1 j (by omega)
            obtain ⟨z3, z4⟩ := b2.2.1 j hj
            exact ⟨by rw [t45, z1, e45, z3], by rw [t46, z2, e46, z4]⟩
          · refine cc_kept c1 len b2.1 (fun j j1 j2 => ?_)
            obtain ⟨z1, z2⟩ := d2.2.1 j (by omega)
            exact ⟨by rw [t45, z1, e45], by rw [t46, z2, e46]⟩
          · exact cc_kept c2 _ d2.1 (fun j _ _ => ⟨by rw [t45], by rw [t46]⟩)
      · rw [if_neg (kN (k := 14) (w := (14 : Int32)) rfl hX.1 w2 b1S.1.2.1 (by omega) h14), if_neg h14]
        by_cases h12 : kd = 12
        · rw [if_pos (show Int32.ofNat kd = (12 : Int32) by rw [h12]; rfl), if_pos h12]
          refine ⟨_, rfl, f2.tr (fun b z => et_b _ (by omega)), ?_⟩
          have eT := et_v (G := G) b1S.2.2.2.1 b1S.2.2.2.2 b1S.2.2.1
          show cS K C T _ G p2 (its K V C (l ++ s_im c1) X) (odU K C X od p (some (c1, [])))
          have row : ∀ b, b ≠ 28 → b ≠ 38 → b ≠ 42 → b ≠ 43 → b ≠ 44 → b ≠ 45 → b ≠ 46 → g_X3_endTest_38 (g_X3_endSum_38 J1 G) G b = J b := fun b z1 z2 z3 z4 z5 z6 z7 => by
            rw [et_b _ z4, es_b _ z3, f1.1 b z1 z2 z5 z6 z7]
          have r42 : ∀ j, g_X3_endTest_38 (g_X3_endSum_38 J1 G) G 42 j = if j = no - 1 then Int32.ofNat (len + c1.length) else J 42 j := fun j => by
            rw [et_b _ (by omega), eS, up_in, f1.1 42 (by omega) (by omega) (by omega) (by omega) (by omega)]
          have r43 : ∀ j, g_X3_endTest_38 (g_X3_endSum_38 J1 G) G 43 j = if j = no - 1 then Int32.ofNat (len + c1.length + 0) else J 43 j := fun j => by
            rw [eT, up_in, es_b _ (by omega), f1.1 43 (by omega) (by omega) (by omega) (by omega) (by omega)]
            rfl
          have t44 : g_X3_endTest_38 (g_X3_endSum_38 J1 G) G 44 = J1 44 := by rw [et_b _ (by omega), es_b _ (by omega)]
          have t45 : g_X3_endTest_38 (g_X3_endSum_38 J1 G) G 45 = J1 45 := by rw [et_b _ (by omega), es_b _ (by omega)]
          have t46 : g_X3_endTest_38 (g_X3_endSum_38 J1 G) G 46 = J1 46 := by rw [et_b _ (by omega), es_b _ (by omega)]
          have hfin := fin (g_X3_endTest_38 (g_X3_endSum_38 J1 G) G) p2 [] (b1S.kept (et_b _ (by omega)) (et_b _ (by omega)) (et_b _ (by omega))) (by show len + c1.length + 0 ≤ p2; omega) (f2.tr (fun b z => et_b _ (by omega))) ⟨row 29 (by omega) (by omega) (by omega) (by omega) (by omega) (by omega) (by omega), row 30 (by omega) (by omega) (by omega) (by omega) (by omega) (by omega) (by omega), row 31 (by omega) (by omega) (by omega) (by omega) (by omega) (by omega) (by omega), row 32 (by omega) (by omega) (by omega) (by omega) (by omega) (by omega) (by omega), row 33 (by omega) (by omega) (by omega) (by omega) (by omega) (by omega) (by omega), row 34 (by omega) (by omega) (by omega) (by omega) (by omega) (by omega) (by omega), row 35 (by omega) (by omega) (by omega) (by omega) (by omega) (by omega) (by omega), row 36 (by omega) (by omega) (by omega) (by omega) (by omega) (by omega) (by omega), row 37 (by omega) (by omega) (by omega) (by omega) (by omega) (by omega) (by omega)⟩ ⟨row 39 (by omega) (by omega) (by omega) (by omega) (by omega) (by omega) (by omega), row 40 (by omega) (by omega) (by omega) (by omega) (by omega) (by omega) (by omega), row 41 (by omega) (by omega) (by omega) (by omega) (by omega) (by omega) (by omega)⟩ ⟨by rw [r42, if_pos rfl], by rw [r43, if_pos rfl]; rfl⟩ (fun j hj => ⟨by rw [r42, if_neg hj], by rw [r43, if_neg hj], by rw [t44, b2.2.2.2.2 j hj]⟩) (fun h => by
            rw [t44]
            rw [Bool.or_eq_true] at h
            rcases h with h | h
            · exact b2.2.2.1 h
            · cases h) (fun j hj => by
            obtain ⟨z3, z4⟩ := b2.2.1 j hj
            exact ⟨by rw [t45, z3], by rw [t46, z4]⟩) (cc_kept c1 len b2.1 (fun j j1 j2 => ⟨by rw [t45], by rw [t46]⟩)) trivial
          have e0 : l ++ s_im c1 ++ s_im [] = l ++ s_im c1 := List.append_nil _
          rw [e0] at hfin
          exact hfin
        · rw [if_neg (show ¬ Int32.ofNat kd = (12 : Int32) from fun z => h12 ((n_eq (b := 12) (by omega) (by omega)).mp z)), if_neg h12]
          obtain ⟨u1, u2⟩ := h_ref (G := G) (K := K) (T := T) (e := fe (nmL C X.1.2) c1 (its K V C l X).2.1) ⟨b1S.1, b1S.2.1⟩
          exact ⟨_, rfl, (f2.tr u2.ft).tr (fun b z => et_b _ (by omega)), u1.kept (et_b _ (by omega)) (et_b _ (by omega))⟩
end CLL
