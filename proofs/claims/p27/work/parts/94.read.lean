/-! the class reads a list -/
abbrev lnT : Type := Nat × (List (Nat × Nat) × Option (List (Nat × Nat) × List (Nat × Nat)))
section CRD
variable {K V C : Nat → Nat} {T : Nat} {G : am_G}
theorem cLr.s {I I' : am_I} {G' : am_G} {X : sX} {od : sO} {p : Nat} {r : sL} (h : cLr K V C T I G X od p r) (e : I = I') (e2 : G = G') : cLr K V C T I' G' X od p r := by subst e; subst e2; exact h
theorem cft.F {I I' : am_I} (h : cft I I') (G : am_G) : hF I I' G G := ⟨fun b z => h b (by omega), fun _ _ _ _ => rfl⟩
theorem cl_line {I : am_I} {p : Nat} {X : sX} {od : sO} (hV : ∀ a, V a ≤ 999999) (hX : cX K V T I G) (hC : cC K C T G) (hS : cS K C T I G p X od) (hp : K p ≤ 40) : ∃ (I' : am_I) (G' : am_G), R_X6_readLine_28 I G = some ((), I', G') ∧ hF I I' G G' ∧ cLr K V C T I' G' X od p (sln K V p) := by
  have e6 := hS.1.1.2.1
  have hpT := hS.1.1.2.2
  unfold R_X6_readLine_28 sln sl1
  by_cases h0 : K p = 0
  · rw [if_pos (show I 28 6 = 0 from kY (k := 0) (w := (0 : Int32)) rfl hX.1 hpT e6 (by omega) h0), if_pos (Or.inl h0), h0]
    obtain ⟨f1, q1⟩ := cl_pap hV hX hS h0
    obtain ⟨s1, s2⟩ := cl_semi (hX.F f1) (cSr_toL (p := p) q1)
    exact ⟨_, _, rfl, f1.tr (s2.F G), s1⟩
  · rw [if_neg (show ¬ I 28 6 = 0 from kN (k := 0) (w := (0 : Int32)) rfl hX.1 hpT e6 (by omega) h0)]
    by_cases h2 : K p = 2
    · rw [if_pos (kY (k := 2) (w := (2 : Int32)) rfl hX.1 hpT e6 (by omega) h2), if_pos (Or.inr (Or.inl h2)), h2]
      obtain ⟨I1, G1, e1, f1, q1⟩ := cl_oct hV hX hC hS h2
      obtain ⟨s1, s2⟩ := cl_semi (hX.F f1) (cSr_toL (p := p) q1)
      rw [e1, rb_go]
      exact ⟨_, _, rfl, f1.tr (s2.F G1), s1⟩
    · rw [if_neg (kN (k := 2) (w := (2 : Int32)) rfl hX.1 hpT e6 (by omega) h2)]
      by_cases h7 : K p = 7
      · rw [if_pos (kY (k := 7) (w := (7 : Int32)) rfl hX.1 hpT e6 (by omega) h7), if_pos (Or.inr (Or.inr (Or.inl h7))), h7]
        obtain ⟨I1, G1, e1, f1, q1⟩ := cl_com hV hX hC hS h7
        obtain ⟨s1, s2⟩ := cl_semi (hX.F f1) (cSr_toL (p := p) q1)
        rw [e1, rb_go]
        exact ⟨_, _, rfl, f1.tr (s2.F G1), s1⟩
      · rw [if_neg (kN (k := 7) (w := (7 : Int32)) rfl hX.1 hpT e6 (by omega) h7)]
        by_cases h10 : K p = 10
        · rw [if_pos (kY (k := 10) (w := (10 : Int32)) rfl hX.1 hpT e6 (by omega) h10), if_pos (Or.inr (Or.inr (Or.inr h10))), h10]
          obtain ⟨I1, G1, e1, f1, q1⟩ := cl_ink hV hX hC hS h10
          obtain ⟨s1, s2⟩ := cl_semi (hX.F f1) (cSr_toL (p := p) q1)
          rw [e1, rb_go]
          exact ⟨_, _, rfl, f1.tr (s2.F G1), s1⟩
        · rw [if_neg (kN (k := 10) (w := (10 : Int32)) rfl hX.1 hpT e6 (by omega) h10), if_neg (show ¬ (K p = 0 ∨ K p = 2 ∨ K p = 7 ∨ K p = 10) by omega)]
          by_cases hkd : K p = 9 ∨ K p = 6 ∨ K p = 12
          · obtain ⟨J, e1, f1, jb, q1⟩ := cl_hd hX hC hS rfl hkd
            obtain ⟨J4, e2, f2, q2⟩ := cl_ot (hX.F f1) hC hS rfl hkd jb q1
            obtain ⟨s1, s2⟩ := cl_semi ((hX.F f1).F (f2.F G)) q2
            rw [if_pos hkd, e1, rb_go, e6]
            refine ⟨_, _, e2, (f1.tr (f2.F G)).tr (s2.F G), ?_⟩
            exact s1
          · rw [if_neg hkd]
            have e1 : R_X6_readOrderHead_28 I G = some ((), g_X6_refuse_28 I G, G) := by
              unfold R_X6_readOrderHead_28
              rw [if_neg (kN (k := 9) (w := (9 : Int32)) rfl hX.1 hpT e6 (by omega) (by omega)), if_neg (kN (k := 6) (w := (6 : Int32)) rfl hX.1 hpT e6 (by omega) (by omega)), if_neg (kN (k := 12) (w := (12 : Int32)) rfl hX.1 hpT e6 (by omega) (by omega))]
            obtain ⟨a1, a2⟩ := h_ref (G := G) hS.1
            obtain ⟨J1, e2, f2, d2⟩ := c_dead (G := G) (n := GDN) (md := 3) (by omega) (by show 3 ≤ 40; omega) a1 (0 : Int32) (0 : Int32)
            obtain ⟨J4, e3, d3, f3⟩ := otl_D (G := G) (I 28 6) d2
            obtain ⟨d4, f4⟩ := h_exD (G := G) (w := 28) d3 (by omega)
            rw [e1, rb_go, e2, rb_go]
            exact ⟨_, _, e3, ((a2.F G).tr ((f2.ft.tr f3).F G)).tr (f4.F G), d4⟩
/-! a list: its lines -/
def sLs (K V : Nat → Nat) : Nat → Nat → List lnT → (Nat × List lnT) ⊕ Nat
  | 0, p, _ => .inr p
  | n + 1, p, acc => if K p = 41 then .inl (p, acc) else match sln K V p with
    | .inl (p', x) => sLs K V n p' (acc ++ [(p, x)])
    | .inr q => .inr q
def sXo (K V C : Nat → Nat) (Y : sX × sO) (q : lnT) : sX × sO := (its K V C q.2.1 Y.1, odU K C Y.1 Y.2 q.1 q.2.2)
def sXs (K V C : Nat → Nat) (acc : List lnT) (Y : sX × sO) : sX × sO := acc.foldl (sXo K V C) Y
theorem pts_lt : ∀ (l : List (Nat × Nat)) (s : sR) (p' : Nat) (l' : List (Nat × Nat)), pts K s l = .inl (p', l') → ∃ (p : Nat) (l0 : List (Nat × Nat)), s = .inl (p, l0) ∧ p' = p + l.length
  | [], s, p', l', h => ⟨p', l', h, rfl⟩
  | q :: r, s, p', l', h => by
    obtain ⟨k, ro⟩ := q
    obtain ⟨p1, l1, h1, h2⟩ := pts_lt r (stp K s (k, ro)) p' l' h
    obtain ⟨p, l0, h3, _, h4, _⟩ := stp_l h1
    exact ⟨p, l0, h3, by simp only [List.length_cons]; omega⟩
theorem so2_lt (hk : k_ok K V T) {kd p1 : Nat} {l : List (Nat × Nat)} (hp : p1 ≤ T) {p' : Nat} {x : List (Nat × Nat) × Option (List (Nat × Nat) × List (Nat × Nat))} (h : so2 K V kd p1 l = .inl (p', x)) : p1 < p' ∧ p' ≤ T := by
  unfold so2 at h
  have h1 := sp_pr hk GDN 3 0 p1 hp
  cases hr : sp K V GDN 3 0 p1 with
  | inr q => rw [hr] at h; cases h
  | inl z =>
    obtain ⟨p2, c1⟩ := z
    rw [hr] at h h1
    dsimp only at h
    obtain ⟨a1, a2, _⟩ := h1
    by_cases h14 : K p2 = 14
    · rw [if_pos h14] at h
      have hlt := hk.lt a2 (by omega)
      have h2 := sp_pr hk GDN 0 0 (p2 + 1) (by omega)
      cases hr2 : sp K V GDN 0 0 (p2 + 1) with
      | inr q => rw [hr2] at h; cases h
      | inl z =>
        obtain ⟨p3, c2⟩ := z
        rw [hr2] at h h2
        cases h
        exact ⟨by have := h2.1; omega, h2.2.1⟩
    · rw [if_neg h14] at h
      by_cases h12 : kd = 12
      · rw [if_pos h12] at h; cases h; exact ⟨a1, a2⟩
      · rw [if_neg h12] at h; cases h
theorem sln_lt {p p' : Nat} {x : List (Nat × Nat) × Option (List (Nat × Nat) × List (Nat × Nat))} (h : sln K V p = .inl (p', x)) : ∃ p2, p' = p2 + 1 ∧ K p2 = 28 ∧ sl1 K V p = .inl (p2, x) := by
  unfold sln semi at h
  cases hr : sl1 K V p with
  | inr q => rw [hr] at h; cases h
  | inl z =>
    obtain ⟨p2, y⟩ := z
    rw [hr] at h
    dsimp only at h
    by_cases h28 : K p2 = 28
    · rw [if_pos h28] at h; cases h; exact ⟨p2, rfl, h28, rfl⟩
    · rw [if_neg h28] at h; cases h
theorem pts_le (hk : k_ok K V T) : ∀ (l : List (Nat × Nat)) (p : Nat) (l0 : List (Nat × Nat)) (p' : Nat) (l' : List (Nat × Nat)), (∀ q ∈ l, q.1 ≤ 40 ∨ q.1 = 100) → p ≤ T → pts K (.inl (p, l0)) l = .inl (p', l') → p' ≤ T
  | [], p, l0, p', l', _, hp, h => by cases h; exact hp
  | (k, ro) :: r, p, l0, p', l', hl, hp, h => by
    have h0 : pts K (stp K (.inl (p, l0)) (k, ro)) r = .inl (p', l') := h
    by_cases hm : (if k = 100 then (K p = 3 ∨ K p = 4) else K p = k)
    · rw [stp_y hm] at h0
      have hkp : K p ≤ 40 := by
        have := hl (k, ro) List.mem_cons_self
        by_cases h100 : k = 100
        · rw [if_pos h100] at hm; omega
        · rw [if_neg h100] at hm; dsimp only at this; omega
      have := hk.lt hp hkp
      exact pts_le hk r _ _ p' l' (fun q hq => hl q (List.mem_cons_of_mem _ hq)) (by omega) h0
    · rw [stp_n hm] at h0
      obtain ⟨a, b, c, _⟩ := pts_lt r _ _ _ h0
      cases c
theorem lpat_ok (k : Nat) : ∀ q ∈ lpat k, q.1 ≤ 40 ∨ q.1 = 100 := by
  have h : (lpat k).all (fun q => decide (q.1 ≤ 40 ∨ q.1 = 100)) = true := by
    unfold lpat
    split
    · decide
    · split
      · decide
      · split <;> decide
  exact fun q hq => of_decide_eq_true (List.all_eq_true.mp h q hq)
theorem hpat_ok (k : Nat) : ∀ q ∈ hpat k, q.1 ≤ 40 ∨ q.1 = 100 := by
  have h : (hpat k).all (fun q => decide (q.1 ≤ 40 ∨ q.1 = 100)) = true := by
    unfold hpat
    split
    · decide
    · split <;> decide
  exact fun q hq => of_decide_eq_true (List.all_eq_true.mp h q hq)
theorem sl1_lt (hk : k_ok K V T) {p p' : Nat} {x : List (Nat × Nat) × Option (List (Nat × Nat) × List (Nat × Nat))} (hp : p ≤ T) (h : sl1 K V p = .inl (p', x)) : p < p' ∧ p' ≤ T := by
  unfold sl1 at h
  by_cases h1 : K p = 0 ∨ K p = 2 ∨ K p = 7 ∨ K p = 10
  · rw [if_pos h1] at h
    have hlt := hk.lt hp (by omega)
    cases hr : pts K (.inl (p + 1, [])) (lpat (K p)) with
    | inr q => rw [hr] at h; cases h
    | inl z =>
      obtain ⟨p2, l⟩ := z
      rw [hr] at h
      cases h
      obtain ⟨a, b, c, d⟩ := pts_lt _ _ _ _ hr
      cases c
      exact ⟨by omega, pts_le hk _ _ _ _ _ (lpat_ok _) (by omega) hr⟩
  · rw [if_neg h1] at h
    by_cases h2 : K p = 9 ∨ K p = 6 ∨ K p = 12
    · rw [if_pos h2] at h
      have hlt := hk.lt hp (by omega)
      cases hr : pts K (.inl (p + 1, [(14, p)])) (hpat (K p)) with
      | inr q => rw [hr] at h; cases h
      | inl z =>
        obtain ⟨p2, l⟩ := z
        rw [hr] at h
        have hle := pts_le hk _ _ _ _ _ (hpat_ok _) (by omega) hr
        obtain ⟨a, b, c, d⟩ := pts_lt _ _ _ _ hr
        cases c
        have := so2_lt hk hle h
        omega
    · rw [if_neg h2] at h; cases h
theorem sln_le (hk : k_ok K V T) {p p' : Nat} {x : List (Nat × Nat) × Option (List (Nat × Nat) × List (Nat × Nat))} (hp : p ≤ T) (h : sln K V p = .inl (p', x)) : p < p' ∧ p' ≤ T := by
  obtain ⟨p2, h1, h2, h3⟩ := sln_lt h
  have := sl1_lt hk hp h3
  have := hk.lt (p := p2) this.2 (by omega)
  omega
/-- the loop over lines -/
theorem cl_loop (hV : ∀ a, V a ≤ 999999) {Y0 : sX × sO} : ∀ (m p i n : Nat) (I : am_I) (G : am_G) (acc : List lnT), T + 1 ≤ p + m → m < n → i ≤ p → cX K V T I G → cC K C T G → cS K C T I G p (sXs K V C acc Y0).1 (sXs K V C acc Y0).2 → ∃ (out : Int32) (I' : am_I) (G' : am_G), L_X6_read_28 n 0 I G (Int32.ofNat i) = some (out, I', G') ∧ hF I I' G G' ∧ out = I' 28 7 ∧ (match sLs K V m p acc with
    | .inl (q, a) => q ≤ T ∧ cS K C T I' G' q (sXs K V C a Y0).1 (sXs K V C a Y0).2
    | .inr q => cD I' q) := by
  intro m
  induction m with
  | zero =>
    intro p i n I G acc h1 h2 h3 hX hC hS
    have := hS.1.1.2.2
    omega
  | succ m ih =>
    intro p i n I G acc h1 h2 h3 hX hC hS
    obtain ⟨n, rfl⟩ : ∃ n', n = n' + 1 := ⟨n - 1, by omega⟩
    have hT := hX.1.1
    have hpT := hS.1.1.2.2
    have e6 := hS.1.1.2.1
    have hk42 := hX.1.le hpT
    rw [L_X6_read_28_0]
    unfold sLs
    by_cases h41 : K p = 41
    · have c41 := kY (k := 41) (w := (41 : Int32)) rfl hX.1 hpT e6 (by omega) h41
      rw [if_pos h41, if_pos c41, if_pos c41]
      refine ⟨_, I, G, by split <;> rfl, hF.rf I G, rfl, hpT, hS⟩
    · have c41 := kN (k := 41) (w := (41 : Int32)) rfl hX.1 hpT e6 (by omega) h41
      rw [if_neg h41, if_neg c41, if_neg c41]
      by_cases h42 : K p = 42
      · have c42 := kY (k := 42) (w := (42 : Int32)) rfl hX.1 hpT e6 (by omega) h42
        rw [if_pos c42]
        obtain ⟨a1, a2⟩ := h_ref (G := G) hS.1
        have eq : sln K V p = .inr p := by
          unfold sln sl1
          rw [if_neg (by omega), if_neg (by omega)]
          rfl
        rw [eq]
        refine ⟨_, _, G, by split <;> rfl, a2.F G, rfl, a1⟩
      · have hlt := hX.1.lt hpT (by omega)
        rw [if_neg (show ¬ (400 : Int32) ≤ Int32.ofNat i from fun z => absurd ((n_le (a := 400) (by omega) (by omega)).mp z) (by omega)), if_neg (kN (k := 42) (w := (42 : Int32)) rfl hX.1 hpT e6 (by omega) h42)]
        obtain ⟨I1, G1, e1, f1, q1⟩ := cl_line hV hX hC hS (by omega)
        rw [e1, rb_go, n_inc]
        cases hr : sln K V p with
        | inr q =>
          rw [hr] at q1
          have q1 : cD I1 q := q1
          obtain ⟨n, rfl⟩ : ∃ n', n = n' + 1 := ⟨n - 1, by omega⟩
          obtain ⟨d1, d2⟩ := h_refD (G := G1) q1
          refine ⟨_, _, G1, ?_, f1.tr (d2.F G1), rfl, d1⟩
          rw [L_X6_read_28_0, if_neg (show ¬ I1 28 6 = (41 : Int32) by rw [q1.1]; decide), if_neg (show ¬ I1 28 6 = (41 : Int32) by rw [q1.1]; decide), if_pos q1.1]
          split <;> rfl
        | inl z =>
          obtain ⟨p', x⟩ := z
          rw [hr] at q1
          have hlt2 := sln_le hX.1 hpT hr
          have eY : sXs K V C (acc ++ [(p, x)]) Y0 = sXo K V C (sXs K V C acc Y0) (p, x) := by
            unfold sXs
            rw [List.foldl_append]
            rfl
          obtain ⟨out, I2, G2, e2, f2, o2, q2⟩ := ih p' (i + 1) n I1 G1 (acc ++ [(p, x)]) (by omega) (by omega) (by omega) (hX.F f1) (hC.F f1) (by rw [eY]; exact q1)
          exact ⟨out, I2, G2, e2, f1.tr f2, o2, q2⟩
end CRD
/-! the tokens of a tape -/
def bV (B : Nat → Nat) (ln p : Nat) : Nat := if tKK B ln p = 40 then tVV B ln p else 0
def bC (B : Nat → Nat) (ln p : Nat) : Nat := if tKK B ln p = 39 then tCC B ln p else 0
def p0D : sP := fun a k => if a = 0 then (if k = 0 then 16 else if k = 1 then 12 else 0) else 0
def X0D : sX := ((p0D, fun _ => []), (none, fun _ => none))
def od0 : sO := fun _ => ((0, 0), ([], []))
section CRE
variable {B : Nat → Nat} {ln : Nat}
theorem bV_le {I : am_I} (hR : tpR B ln I) (p : Nat) : bV B ln p ≤ 999999 := by
  unfold bV
  by_cases h : tKK B ln p = 40
  · rw [if_pos h]
    obtain ⟨_, _, _, h6, _⟩ := tK_40 hR (tS_le hR p) h
    have h1 := nv_lt (B := B) (s := tS B ln p) (rn B ln qD (tS B ln p) - tS B ln p) (fun i hi => by
      have := ru_in qD B (ln - tS B ln p) (tS B ln p) (tS B ln p + i) (by omega) (by show _ < rn B ln qD (tS B ln p); omega)
      exact (of_decide_eq_true this : 48 ≤ _ ∧ _ ≤ 57).2)
    have h2 : (10 : Nat) ^ (rn B ln qD (tS B ln p) - tS B ln p) ≤ 10 ^ 6 := Nat.pow_le_pow_right (by omega) h6
    have h3 : (10 : Nat) ^ 6 = 1000000 := by decide
    show nv B (tS B ln p) _ ≤ 999999
    omega
  · rw [if_neg h]; omega
theorem bC_lt {I : am_I} (hR : tpR B ln I) (p : Nat) : bC B ln p < 9000000000000000000 := by
  unfold bC
  by_cases h : tKK B ln p = 39
  · rw [if_pos h]
    obtain ⟨_, _, h6, _⟩ := tK_39 hR (tS_le hR p) h
    have h1 := cd_lt (B := B) (s := tS B ln p) (rn B ln qW (tS B ln p) - tS B ln p) (fun i hi => by
      have := ru_in qW B (ln - tS B ln p) (tS B ln p) (tS B ln p + i) (by omega) (by show _ < rn B ln qW (tS B ln p); omega)
      exact ((bI_v (hR.le _)).2.2.2.1 this).2)
    have h2 : (37 : Nat) ^ (rn B ln qW (tS B ln p) - tS B ln p) ≤ 37 ^ 10 := Nat.pow_le_pow_right (by omega) h6
    have h3 : (37 : Nat) ^ 10 < 9000000000000000000 := by decide
    show cd B (tS B ln p) _ < _
    omega
  · rw [if_neg h]; omega
theorem tKK_le {I : am_I} (hR : tpR B ln I) (p : Nat) : tKK B ln p ≤ 42 := by
  unfold tKK
  by_cases h : p = 400
  · rw [h, tK_400]; split <;> omega
  · rw [(tK_i h).1]; exact tK_0le hR _
theorem b_ok {I : am_I} (hR : tpR B ln I) {T : Nat} (hT : T ≤ 400) (h1 : ∀ p, p < T → tKK B ln p ≤ 40) (h2 : 41 ≤ tKK B ln T) : k_ok (tKK B ln) (bV B ln) T := ⟨hT, h1, by have := tKK_le hR T; omega, bV_le hR⟩
theorem i64_32 {n : Nat} (h : n < 2147483648) : (Int64.ofNat n).toInt32 = Int32.ofNat n := by
  apply Int32.toInt_inj.mp
  rw [Int64.toInt_toInt32, l_of (by omega), n_ti h]
  exact Int.bmod_eq_of_le (by omega) (by omega)
theorem xok0 : xok X0D := by
  exact ⟨⟨by decide, fun k hk => absurd hk (Nat.not_lt_zero k), fun k hk => absurd hk (Nat.not_lt_zero k), fun k hk => absurd hk (Nat.not_lt_zero k), fun i j _ hj => absurd hj (Nat.not_lt_zero j)⟩, rfl, rfl, rfl, by decide⟩
theorem cl_read {I : am_I} {G : am_G} (hC : tpC B ln I) (hR : tpR B ln I) (hk : ∀ k, k < 24 → G 3 k = kwL.getD k 0) : ∃ (T : Nat) (out : Int32) (I' : am_I) (G' : am_G), R_X6_read_28 I G = some (out, I', G') ∧ (T ≤ 400 ∧ (∀ p, p < T → tKK B ln p ≤ 40) ∧ 41 ≤ tKK B ln T) ∧ ((∀ b, (b < 28 ∨ 52 < b) → b ≠ 1 → b ≠ 4 → b ≠ 5 → I' b = I b) ∧ (∀ j, j ≠ 6 → j ≠ 7 → I' 1 j = I 1 j) ∧ G' 3 = G 3) ∧ (∀ p, p ≤ T → I' 5 p = Int32.ofNat (tS B ln p)) ∧ out = I' 28 7 ∧ (match sLs (tKK B ln) (bV B ln) (T + 1) 0 [] with
    | .inl (q, a) => q ≤ T ∧ cS (tKK B ln) (bC B ln) T I' G' q (sXs (tKK B ln) (bV B ln) (bC B ln) a (X0D, od0)).1 (sXs (tKK B ln) (bV B ln) (bC B ln) a (X0D, od0)).2
    | .inr q => cD I' q) := by
  obtain ⟨T, I1, G1, e1, t1, t2, t3, w1', w2, w3, w4, w5⟩ := c_scan hC hk
  have hok := b_ok hR t1 t2 t3
  obtain ⟨J, hJ⟩ : ∃ J : am_I, J = am_up (am_up (am_up (am_up (g_X2_forget_51 (g_X2_forget_49 (g_X2_forget_47 (g_X5_clear_29 I1 G1 ) G1 ) G1 ) G1 ) 28 7 (0 : Int32)) 28 8 (-1 : Int32)) 28 5 (0 : Int32)) 28 6 (f_X9_kindAt_1 (am_up (am_up (am_up (g_X2_forget_51 (g_X2_forget_49 (g_X2_forget_47 (g_X5_clear_29 I1 G1 ) G1 ) G1 ) G1 ) 28 7 (0 : Int32)) 28 8 (-1 : Int32)) 28 5 (0 : Int32)) G1 (0 : Int32)) := ⟨_, rfl⟩
  obtain ⟨J0, hJ0⟩ : ∃ J : am_I, J = g_X2_forget_51 (g_X2_forget_49 (g_X2_forget_47 (g_X5_clear_29 I1 G1 ) G1 ) G1 ) G1 := ⟨_, rfl⟩
  have j0b : ∀ b, b ≠ 29 → b ≠ 38 → b ≠ 47 → b ≠ 49 → b ≠ 51 → J0 b = I1 b := fun b z1 z2 z3 z4 z5 => by
    rw [hJ0]
    unfold g_X2_forget_51 g_X2_forget_49 g_X2_forget_47 g_X5_clear_29 g_X3_clear_38
    rw [up_row _ _ _ z5, up_row _ _ _ z4, up_row _ _ _ z3, up_row _ _ _ z2, up_row _ _ _ z2, up_row _ _ _ z1, up_row _ _ _ z1, up_row _ _ _ z1, up_row _ _ _ z1, up_row _ _ _ z1]
  have j29 : J0 29 9 = (16 : Int32) ∧ J0 29 10 = (12 : Int32) ∧ J0 29 11 = (0 : Int32) ∧ J0 29 12 = (0 : Int32) ∧ J0 29 13 = (0 : Int32) := by
    have e : J0 29 = am_up (am_up (am_up (am_up (am_up I1 29 9 (16 : Int32)) 29 10 (12 : Int32)) 29 11 (0 : Int32)) 29 12 (0 : Int32)) 29 13 (0 : Int32) 29 := by
      rw [hJ0]
      unfold g_X2_forget_51 g_X2_forget_49 g_X2_forget_47 g_X5_clear_29 g_X3_clear_38
      rw [up_row _ _ _ (by omega), up_row _ _ _ (by omega), up_row _ _ _ (by omega), up_row _ _ _ (by omega), up_row _ _ _ (by omega)]
    rw [e]
    refine ⟨?_, ?_, ?_, ?_, ?_⟩ <;> simp only [up_in] <;> rfl
  have j38 : J0 38 8 = (0 : Int32) ∧ J0 38 9 = (0 : Int32) := by
    have e : J0 38 = g_X5_clear_29 I1 G1 38 := by
      rw [hJ0]
      unfold g_X2_forget_51 g_X2_forget_49 g_X2_forget_47
      rw [up_row _ _ _ (by omega), up_row _ _ _ (by omega), up_row _ _ _ (by omega)]
    rw [e]
    unfold g_X5_clear_29 g_X3_clear_38
    exact ⟨by rw [up_in, if_neg (by omega), am_up_self], am_up_self _ _ _ _⟩
  have j47 : J0 47 1 = (0 : Int32) ∧ J0 49 1 = (0 : Int32) ∧ J0 51 1 = (0 : Int32) := by
    rw [hJ0]
    unfold g_X2_forget_51 g_X2_forget_49 g_X2_forget_47
    exact ⟨by rw [up_row _ _ _ (by omega), up_row _ _ _ (by omega), am_up_self], by rw [up_row _ _ _ (by omega), am_up_self], am_up_self _ _ _ _⟩
  rw [← hJ0] at hJ
  have jb : ∀ b, b ≠ 28 → J b = J0 b := fun b hb => by rw [hJ, up_row _ _ _ hb, up_row _ _ _ hb, up_row _ _ _ hb, up_row _ _ _ hb]
  have hkA : f_X9_kindAt_1 (am_up (am_up (am_up J0 28 7 (0 : Int32)) 28 8 (-1 : Int32)) 28 5 (0 : Int32)) G1 (0 : Int32) = Int32.ofNat (tKK B ln 0) := by
    unfold f_X9_kindAt_1
    have r1 : am_up (am_up (am_up J0 28 7 (0 : Int32)) 28 8 (-1 : Int32)) 28 5 (0 : Int32) 1 = I1 1 := by rw [up_row _ _ _ (by omega), up_row _ _ _ (by omega), up_row _ _ _ (by omega), j0b 1 (by omega) (by omega) (by omega) (by omega) (by omega)]
    have r4 : am_up (am_up (am_up J0 28 7 (0 : Int32)) 28 8 (-1 : Int32)) 28 5 (0 : Int32) 4 = I1 4 := by rw [up_row _ _ _ (by omega), up_row _ _ _ (by omega), up_row _ _ _ (by omega), j0b 4 (by omega) (by omega) (by omega) (by omega) (by omega)]
    rw [r1, r4, w2, if_neg (by decide), if_neg (show ¬ Int32.ofNat (T + 1) ≤ (0 : Int32) from fun z => absurd ((n_le (b := 0) (by omega) (by omega)).mp z) (by omega)), if_neg (by decide)]
    exact (w1' 0 (by omega)).1
  have j28 : J 28 5 = Int32.ofNat 0 ∧ J 28 6 = Int32.ofNat (tKK B ln 0) ∧ J 28 7 = 0 ∧ J 28 8 = -1 := by
    rw [hJ, hkA]
    refine ⟨?_, am_up_self _ _ _ _, ?_, ?_⟩
    · rw [up_in, if_neg (by omega), am_up_self]; rfl
    · rw [up_in, if_neg (by omega), up_in, if_neg (by omega), up_in, if_neg (by omega), am_up_self]
    · rw [up_in, if_neg (by omega), up_in, if_neg (by omega), am_up_self]
  have jI : ∀ b, b ≠ 28 → b ≠ 29 → b ≠ 38 → b ≠ 47 → b ≠ 49 → b ≠ 51 → J b = I1 b := fun b z0 z1 z2 z3 z4 z5 => (jb b z0).trans (j0b b z1 z2 z3 z4 z5)
  have j1 : J 1 = I1 1 := jI 1 (by omega) (by omega) (by omega) (by omega) (by omega) (by omega)
  have j4 : J 4 = I1 4 := jI 4 (by omega) (by omega) (by omega) (by omega) (by omega) (by omega)
  have hX : cX (tKK B ln) (bV B ln) T J G1 := by
    refine ⟨hok, by rw [j1]; exact w2, fun p hp => by rw [j4]; exact (w1' p (by omega)).1, fun p hp hkp => ?_⟩
    have hb := bV_le hR p
    rw [(w1' p (by omega)).2.2.2 hkp]
    have e : bV B ln p = tVV B ln p := if_pos hkp
    rw [e] at hb ⊢
    exact i64_32 (by omega)
  have hCC : cC (tKK B ln) (bC B ln) T G1 := by
    refine ⟨bC_lt hR, fun p hp hkp => ?_⟩
    rw [(w1' p (by omega)).2.2.1 hkp]
    unfold bC
    rw [if_pos hkp]
  have hS : cS (tKK B ln) (bC B ln) T J G1 0 X0D od0 := by
    refine ⟨⟨⟨j28.1, j28.2.1, by omega⟩, j28.2.2⟩, ⟨⟨by rw [jb 47 (by omega)]; exact j47.1, by show 0 ≤ 4; omega, fun k hk => absurd hk (Nat.not_lt_zero k)⟩, ⟨by rw [jb 49 (by omega)]; exact j47.2.1, by show 0 ≤ 4; omega, fun k hk => absurd hk (Nat.not_lt_zero k)⟩, ⟨by rw [jb 51 (by omega)]; exact j47.2.2, by show 0 ≤ 5; omega, fun k hk => absurd hk (Nat.not_lt_zero k)⟩⟩, ⟨⟨0, by rw [jb 38 (by omega)]; exact j38.1, by omega⟩, 0, by rw [jb 38 (by omega)]; exact j38.2, by omega⟩, fun _ => ⟨xok0, ?_, ?_⟩⟩
    · refine ⟨?_, fun k hk => absurd hk (Nat.not_lt_zero k), fun k hk => absurd hk (Nat.not_lt_zero k), fun k hk => absurd hk (Nat.not_lt_zero k)⟩
      rw [jb 29 (by omega)]
      exact j29
    · exact ⟨by rw [jb 38 (by omega)]; exact j38.1, by show 0 ≤ 20; omega, 0, by rw [jb 38 (by omega)]; exact j38.2, by omega, fun k hk => absurd hk (Nat.not_lt_zero k)⟩
  obtain ⟨out, I2, G2, e2, f2, o2, q2⟩ := cl_loop (V := bV B ln) (bV_le hR) (Y0 := (X0D, od0)) (T + 1) 0 0 FU J G1 [] (by omega) (by unfold FU; omega) (by omega) hX hCC hS
  refine ⟨T, out, I2, G2, ?_, ⟨t1, t2, t3⟩, ⟨fun b hb z1 z4 z5 => ?_, fun j z1 z2 => ?_, ?_⟩, fun p hp => ?_, o2, q2⟩
  · unfold R_X6_read_28
    rw [e1, rb_go, ← hJ0, ← hJ]
    exact e2
  · rw [f2.1 b hb, jI b (by omega) (by omega) (by omega) (by omega) (by omega) (by omega), w3 b z1 z4 z5]
  · rw [f2.1 1 (by omega), j1, w4 j z1 z2]
  · rw [f2.2 3 (by omega) (by omega) (by omega), w5 3 (by omega) (by omega)]
  · rw [f2.1 5 (by omega), jI 5 (by omega) (by omega) (by omega) (by omega) (by omega) (by omega)]
    exact (w1' p (by omega)).2.1
end CRE
