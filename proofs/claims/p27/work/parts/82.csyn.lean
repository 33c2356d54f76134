/-! the class's reader: dead it stays dead; live it does the syntax -/
def nd0 (md : Nat) : Nat := if md = 0 then 6 else if md = 1 then 5 else if md = 2 then 4 else if md = 3 then 3 else if md = 4 then 2 else 1
section CPB
variable {K V : Nat → Nat} {T : Nat} {nm : Nat → Nat → Option Nat} {G : am_G}
theorem nmd_of_two {op : Nat} (h : s_two op = false) : s_nmd op = false := by
  cases z : s_nmd op with
  | false => rfl
  | true =>
    simp only [s_nmd, Bool.or_eq_true, beq_iff_eq] at z
    rcases z with ((rfl | rfl) | rfl) | rfl <;> cases h
theorem c_refD {I : am_I} {q : Nat} (h : cD I q) : cfr I (g_X6_refuse_28 I G) ∧ cD (g_X6_refuse_28 I G) q := ⟨(c_ref (K := fun _ => 0) (T := 0) I).1, (c_ref (K := fun _ => 0) (T := 0) I).2.2.1 q h⟩
theorem c_refL {I : am_I} {p len no : Nat} {e : Option (Nat × Nat)} (h : cL K T I p e len no) : cfr I (g_X6_refuse_28 I G) ∧ cD (g_X6_refuse_28 I G) p := ⟨(c_ref (K := K) (T := T) I).1, (c_ref I).2.2.2 p e len no h⟩
theorem c_d5 (n : Nat) {I : am_I} {q : Nat} (h : cD I q) (a b : Int32) : ∃ I' : am_I, PG_X6_readTest (n + 1) 5 I G a b = some ((), I', G) ∧ cfr I I' ∧ cD I' q := by
  obtain ⟨n0, hn0⟩ : ∃ n0, FU = n0 + 1 := ⟨FU - 1, by unfold FU; omega⟩
  rw [PG_X6_readTest_5]
  unfold R_X6_readValue_28
  rw [h.1, if_neg (by decide), if_neg (by decide), if_neg (by decide), if_neg (by decide), if_neg (by decide), if_neg (by decide), if_neg (by decide), if_neg (by decide), if_neg (by decide), if_neg (by decide), if_neg (by decide), if_neg (by decide), hn0, L_X6_readValue_28_0]
  exact ⟨_, rfl, c_refD h⟩
theorem c_d6 (n : Nat) {I : am_I} {q : Nat} (h : cD I q) (a b : Int32) : ∃ I' : am_I, PG_X6_readTest (n + 1) 6 I G a b = some ((), I', G) ∧ cfr I I' ∧ cD I' q := by
  rw [PG_X6_readTest_6]
  unfold R_X6_readPair_28
  rw [if_neg (by rw [h.1]; decide)]
  exact ⟨_, rfl, c_refD h⟩
theorem c_dl4 (cal : Nat → am_I → am_G → Int32 → Int32 → Option (Unit × am_I × am_G)) {n : Nat} (hn : 0 < n) {I : am_I} {q i : Nat} (h : cD I q) (hi : i < 400) (a : Int32) : L_X6_readProduct_28 cal n 0 I G a (Int32.ofNat i) = some ((), I, G) := by
  obtain ⟨n, rfl⟩ : ∃ n', n = n' + 1 := ⟨n - 1, by omega⟩
  rw [L_X6_readProduct_28_0, if_neg (show ¬ (400 : Int32) ≤ Int32.ofNat i from fun z => absurd ((n_le (a := 400) (by omega) (by omega)).mp z) (by omega)), h.1, if_neg (by decide), if_neg (by decide)]
theorem c_d4 (n : Nat) {I : am_I} {q : Nat} (h : cD I q) (a b : Int32) : ∃ I' : am_I, PG_X6_readTest (n + 2) 4 I G a b = some ((), I', G) ∧ cfr I I' ∧ cD I' q := by
  obtain ⟨I1, e1, f1, d1⟩ := c_d5 (G := G) n h a 0
  rw [show n + 2 = (n + 1) + 1 from rfl, PG_X6_readTest_4]
  unfold R_X6_readProduct_28
  rw [e1, rb_go]
  exact ⟨I1, c_dl4 _ (by unfold FU; omega) d1 (i := 0) (by omega) a, f1, d1⟩
theorem c_dl3 (cal : Nat → am_I → am_G → Int32 → Int32 → Option (Unit × am_I × am_G)) {n : Nat} (hn : 0 < n) {I : am_I} {q i : Nat} (h : cD I q) (hi : i < 400) (a : Int32) : L_X6_readSum_28 cal n 0 I G a (Int32.ofNat i) = some ((), I, G) := by
  obtain ⟨n, rfl⟩ : ∃ n', n = n' + 1 := ⟨n - 1, by omega⟩
  rw [L_X6_readSum_28_0, if_neg (show ¬ (400 : Int32) ≤ Int32.ofNat i from fun z => absurd ((n_le (a := 400) (by omega) (by omega)).mp z) (by omega)), h.1, if_neg (by decide), if_neg (by decide)]
theorem c_d3 (n : Nat) {I : am_I} {q : Nat} (h : cD I q) (a b : Int32) : ∃ I' : am_I, PG_X6_readTest (n + 3) 3 I G a b = some ((), I', G) ∧ cfr I I' ∧ cD I' q := by
  obtain ⟨I1, e1, f1, d1⟩ := c_d4 (G := G) n h a 0
  rw [show n + 3 = (n + 2) + 1 from rfl, PG_X6_readTest_3]
  unfold R_X6_readSum_28
  rw [e1, rb_go]
  exact ⟨I1, c_dl3 _ (by unfold FU; omega) d1 (i := 0) (by omega) a, f1, d1⟩
theorem c_cmD {I : am_I} {q : Nat} (h : cD I q) : cfr I (g_X6_readComparison_28 I G) ∧ cD (g_X6_readComparison_28 I G) q := by
  unfold g_X6_readComparison_28
  rw [h.1, if_neg (by decide), if_neg (by decide)]
  exact c_refD h
theorem c_d2 (n : Nat) {I : am_I} {q : Nat} (h : cD I q) (a b : Int32) : ∃ I' : am_I, PG_X6_readTest (n + 4) 2 I G a b = some ((), I', G) ∧ cfr I I' ∧ cD I' q := by
  obtain ⟨I1, e1, f1, d1⟩ := c_d3 (G := G) n h a 0
  obtain ⟨f2, d2⟩ := c_cmD (G := G) d1
  obtain ⟨I3, e3, f3, d3⟩ := c_d3 (G := G) n d2 a 0
  rw [show n + 4 = (n + 3) + 1 from rfl, PG_X6_readTest_2]
  unfold R_X6_readSingle_28
  rw [h.1, if_neg (by decide), if_neg (by decide), if_neg (by decide), if_neg (by decide), if_neg (by decide), e1, rb_go, e3, rb_go]
  exact ⟨_, rfl, ((f1.tr f2).tr f3).tr (c_add_f _ _ _), c_add_d d3 _ _⟩
theorem c_dl1 (cal : Nat → am_I → am_G → Int32 → Int32 → Option (Unit × am_I × am_G)) {n : Nat} (hn : 0 < n) {I : am_I} {q i : Nat} (h : cD I q) (hi : i < 400) (a : Int32) : L_X6_readBoth_28 cal n 0 I G a (Int32.ofNat i) = some ((), I, G) := by
  obtain ⟨n, rfl⟩ : ∃ n', n = n' + 1 := ⟨n - 1, by omega⟩
  rw [L_X6_readBoth_28_0, if_neg (show ¬ (400 : Int32) ≤ Int32.ofNat i from fun z => absurd ((n_le (a := 400) (by omega) (by omega)).mp z) (by omega)), h.1, if_neg (by decide)]
theorem c_d1 (n : Nat) {I : am_I} {q : Nat} (h : cD I q) (a b : Int32) : ∃ I' : am_I, PG_X6_readTest (n + 5) 1 I G a b = some ((), I', G) ∧ cfr I I' ∧ cD I' q := by
  obtain ⟨I1, e1, f1, d1⟩ := c_d2 (G := G) n h a 0
  rw [show n + 5 = (n + 4) + 1 from rfl, PG_X6_readTest_1]
  unfold R_X6_readBoth_28
  rw [e1, rb_go]
  exact ⟨I1, c_dl1 _ (by unfold FU; omega) d1 (i := 0) (by omega) a, f1, d1⟩
theorem c_dl0 (cal : Nat → am_I → am_G → Int32 → Int32 → Option (Unit × am_I × am_G)) {n : Nat} (hn : 0 < n) {I : am_I} {q i : Nat} (h : cD I q) (hi : i < 400) (a : Int32) : L_X6_readTest_28 cal n 0 I G a (Int32.ofNat i) = some ((), I, G) := by
  obtain ⟨n, rfl⟩ : ∃ n', n = n' + 1 := ⟨n - 1, by omega⟩
  rw [L_X6_readTest_28_0, if_neg (show ¬ (400 : Int32) ≤ Int32.ofNat i from fun z => absurd ((n_le (a := 400) (by omega) (by omega)).mp z) (by omega)), h.1, if_neg (by decide)]
theorem c_d0 (n : Nat) {I : am_I} {q : Nat} (h : cD I q) (a b : Int32) : ∃ I' : am_I, PG_X6_readTest (n + 6) 0 I G a b = some ((), I', G) ∧ cfr I I' ∧ cD I' q := by
  obtain ⟨I1, e1, f1, d1⟩ := c_d1 (G := G) n h a 0
  rw [show n + 6 = (n + 5) + 1 from rfl, PG_X6_readTest_0]
  unfold R_X6_readTest_28
  rw [e1, rb_go]
  exact ⟨I1, c_dl0 _ (by unfold FU; omega) d1 (i := 0) (by omega) a, f1, d1⟩
theorem c_dead {n md : Nat} (hm : md ≤ 6) (hn : nd0 md ≤ n) {I : am_I} {q : Nat} (h : cD I q) (a b : Int32) : ∃ I' : am_I, PG_X6_readTest n md I G a b = some ((), I', G) ∧ cfr I I' ∧ cD I' q := by
  rcases (show md = 0 ∨ md = 1 ∨ md = 2 ∨ md = 3 ∨ md = 4 ∨ md = 5 ∨ md = 6 by omega) with rfl | rfl | rfl | rfl | rfl | rfl | rfl
  · obtain ⟨k, rfl⟩ : ∃ k, n = k + 6 := ⟨n - 6, by have : 6 ≤ n := hn; omega⟩
    exact c_d0 k h a b
  · obtain ⟨k, rfl⟩ : ∃ k, n = k + 5 := ⟨n - 5, by have : 5 ≤ n := hn; omega⟩
    exact c_d1 k h a b
  · obtain ⟨k, rfl⟩ : ∃ k, n = k + 4 := ⟨n - 4, by have : 4 ≤ n := hn; omega⟩
    exact c_d2 k h a b
  · obtain ⟨k, rfl⟩ : ∃ k, n = k + 3 := ⟨n - 3, by have : 3 ≤ n := hn; omega⟩
    exact c_d3 k h a b
  · obtain ⟨k, rfl⟩ : ∃ k, n = k + 2 := ⟨n - 2, by have : 2 ≤ n := hn; omega⟩
    exact c_d4 k h a b
  · obtain ⟨k, rfl⟩ : ∃ k, n = k + 1 := ⟨n - 1, by have : 1 ≤ n := hn; omega⟩
    exact c_d5 k h a b
  · obtain ⟨k, rfl⟩ : ∃ k, n = k + 1 := ⟨n - 1, by have : 1 ≤ n := hn; omega⟩
    exact c_d6 k h a b
/-- one mode does the syntax, with the budget n -/
def cM (K V : Nat → Nat) (T : Nat) (nm : Nat → Nat → Option Nat) (G : am_G) (n md : Nat) : Prop := ∀ (d p : Nat) (I : am_I) (e : Option (Nat × Nat)) (len no : Nat), d ≤ 8 → nd md d ≤ n → cX K V T I G → cN K T nm I G → cL K T I p e len no → len ≤ p → ∀ b : Int32, ∃ I' : am_I, PG_X6_readTest n md I G (Int32.ofNat d) b = some ((), I', G) ∧ cR K T nm I I' e len no (sp K V n md d p)
theorem c_lp4 {n0 d : Nat} (hM : cM K V T nm G n0 5) (hd : d ≤ 8) (hnd : nd 5 d ≤ n0) {I0 : am_I} {e0 : Option (Nat × Nat)} {len0 no : Nat} : ∀ (m p : Nat) (c : List (Nat × Nat)) (I : am_I) (i n : Nat), cX K V T I G → cN K T nm I G → cfr I0 I → cL K T I p (fe nm c e0) (len0 + c.length) no → cx nm I0 I len0 no c → len0 + c.length ≤ p → i + m = 401 → 2 * i < p → m < n → ∃ I' : am_I, L_X6_readProduct_28 (PG_X6_readTest n0) n 0 I G (Int32.ofNat d) (Int32.ofNat i) = some ((), I', G) ∧ cR K T nm I0 I' e0 len0 no (sp_lp (sp K V n0 5 d) o_mul K m p c) := by
  intro m
  induction m with
  | zero =>
    intro p c I i n hX hN hf hL hc hcl hi hp hn
    have := hL.1.2.2
    have := hX.1.1
    omega
  | succ m ih =>
    intro p c I i n hX hN hf hL hc hcl hi hp hn
    have hpT := hL.1.2.2
    have hT := hX.1.1
    obtain ⟨n, rfl⟩ : ∃ n', n = n' + 1 := ⟨n - 1, by omega⟩
    rw [L_X6_readProduct_28_0, if_neg (show ¬ (400 : Int32) ≤ Int32.ofNat i from fun z => absurd ((n_le (a := 400) (by omega) (by omega)).mp z) (by omega))]
    unfold sp_lp
    by_cases ho : o_mul (K p) = true
    · obtain ⟨k1, k2⟩ := op_mul _ ho
      have hnm := nmd_of_two k2
      have hlt := hX.1.lt hpT k1
      obtain ⟨a1, a2, a3⟩ := c_adv hX hL hlt
      have hX1 := hX.kept a2
      have hN1 := hN.kept a2
      obtain ⟨I1, e1, f1, r1⟩ := hM d (p + 1) _ _ _ _ hd hnd hX1 hN1 a1 (by omega) (0 : Int32)
      have hpr := sp_pr hX.1 n0 5 d (p + 1) (by omega)
      have hLp : ∀ (x : Option (Unit × am_I × am_G)) (hx : L_X6_readProduct_28 (PG_X6_readTest n0) n 0 (g_X3_add_38 I1 G (Int32.ofNat (K p)) (0 : Int32)) G (Int32.ofNat d) (Int32.ofNat (i + 1)) = x), (if (I 28 6) = (32 : Int32) then rb (PG_X6_readTest n0 5 (g_X6_advance_28 I G ) G (Int32.ofNat d) (0 : Int32)) (fun r101 I101 G101 => L_X6_readProduct_28 (PG_X6_readTest n0) n 0 (g_X3_add_38 I101 G101 (I 28 6) (0 : Int32)) G101 (Int32.ofNat d) (Int32.ofNat i + (1 : Int32))) else (if (I 28 6) = (33 : Int32) then rb (PG_X6_readTest n0 5 (g_X6_advance_28 I G ) G (Int32.ofNat d) (0 : Int32)) (fun r101 I101 G101 => L_X6_readProduct_28 (PG_X6_readTest n0) n 0 (g_X3_add_38 I101 G101 (I 28 6) (0 : Int32)) G101 (Int32.ofNat d) (Int32.ofNat i + (1 : Int32))) else some ((), I, G))) = x := by
        intro x hx
        rcases (show K p = 32 ∨ K p = 33 by simpa [o_mul] using ho) with hk | hk
        · rw [if_pos (kY (k := 32) (w := (32 : Int32)) rfl hX.1 hpT hL.1.2.1 (by omega) hk), e1, rb_go, hL.1.2.1, n_inc]; exact hx
        · rw [if_neg (kN (k := 32) (w := (32 : Int32)) rfl hX.1 hpT hL.1.2.1 (by omega) (by omega)), if_pos (kY (k := 33) (w := (33 : Int32)) rfl hX.1 hpT hL.1.2.1 (by omega) hk), e1, rb_go, hL.1.2.1, n_inc]; exact hx
      rw [hLp _ rfl, if_pos ho]
      cases hr : sp K V n0 5 d (p + 1) with
      | inl q =>
        obtain ⟨p', c'⟩ := q
        rw [hr] at r1 hpr
        obtain ⟨b1, b2⟩ := r1
        rw [sb_l rfl]
        have hq3 := hpr.2.2.1
        have hq1 := hpr.1
        have hq2 := hpr.2.1
        obtain ⟨g1, g2, g3⟩ := c_add_L (nm := nm) (G := G) (op := K p) (a := 0) (y := 0) b1 hT (by omega) (by omega) (by
          unfold c_op
          rw [if_neg (show ¬ s_nmd (K p) = true by rw [hnm]; decide)]
          rfl)
        have hfr := (a2.tr f1).tr g2
        refine ih p' _ _ (i + 1) n (hX.kept hfr) (hN.kept hfr) (hf.tr hfr) ?_ ?_ (by simp only [List.length_append, List.length_singleton]; omega) (by omega) (by omega) (by omega)
        · rw [fe_app, fe_app, fe_un hnm, List.length_append, List.length_append, List.length_singleton, show len0 + (c.length + c'.length + 1) = len0 + c.length + c'.length + 1 by omega]
          exact g1
        · have hc0 : cx nm I0 (g_X6_advance_28 I G) len0 no (c ++ []) := hc.tr (cx.nil (a3 44 (by omega)) (a3 45 (by omega)) (a3 46 (by omega)))
          rw [List.append_nil] at hc0
          exact (hc0.tr b2).tr (by rw [List.length_append, ← Nat.add_assoc]; exact g3)
      | inr q =>
        rw [hr] at r1
        rw [sb_r rfl, c_dl4 _ (by omega) (c_add_d r1 _ _) (by omega)]
        exact ⟨_, rfl, (hf.tr ((a2.tr f1).tr (c_add_f _ _ _))), c_add_d r1 _ _⟩
    · rw [if_neg ho]
      have hno : ¬ K p = 32 ∧ ¬ K p = 33 := by simpa [o_mul, not_or] using ho
      rw [if_neg (kN (k := 32) (w := (32 : Int32)) rfl hX.1 hpT hL.1.2.1 (by omega) hno.1), if_neg (kN (k := 33) (w := (33 : Int32)) rfl hX.1 hpT hL.1.2.1 (by omega) hno.2)]
      exact ⟨I, rfl, hf, hL, hc⟩
theorem c_ch4 {n0 : Nat} (hM : cM K V T nm G n0 5) : cM K V T nm G (n0 + 1) 4 := by
  intro d p I e len no hd hnd hX hN hL hlp b
  have hnd1 : nd 5 d ≤ n0 := by rw [nd_4] at hnd; rw [nd_5]; omega
  obtain ⟨I1, e1, f1, r1⟩ := hM d p I e len no hd hnd1 hX hN hL hlp (0 : Int32)
  rw [PG_X6_readTest_4, sp_4]
  unfold R_X6_readProduct_28 sp_ch
  rw [e1, rb_go]
  have hpr := sp_pr hX.1 n0 5 d p hL.1.2.2
  cases hr : sp K V n0 5 d p with
  | inl q =>
    obtain ⟨p', c'⟩ := q
    rw [hr] at r1 hpr
    rw [sb_l rfl]
    exact c_lp4 hM hd hnd1 401 p' c' I1 0 FU (hX.kept f1) (hN.kept f1) f1 r1.1 r1.2 (by have := hpr.1; have := hpr.2.2.1; omega) (by omega) (by have := hpr.1; omega) (by unfold FU; omega)
  | inr q =>
    rw [hr] at r1
    rw [sb_r rfl, show (0 : Int32) = Int32.ofNat 0 from rfl, c_dl4 _ (by unfold FU; omega) r1 (by omega)]
    exact ⟨_, rfl, f1, r1⟩
theorem c_lp3 {n0 d : Nat} (hM : cM K V T nm G n0 4) (hd : d ≤ 8) (hnd : nd 4 d ≤ n0) {I0 : am_I} {e0 : Option (Nat × Nat)} {len0 no : Nat} : ∀ (m p : Nat) (c : List (Nat × Nat)) (I : am_I) (i n : Nat), cX K V T I G → cN K T nm I G → cfr I0 I → cL K T I p (fe nm c e0) (len0 + c.length) no → cx nm I0 I len0 no c → len0 + c.length ≤ p → i + m = 401 → 2 * i < p → m < n → ∃ I' : am_I, L_X6_readSum_28 (PG_X6_readTest n0) n 0 I G (Int32.ofNat d) (Int32.ofNat i) = some ((), I', G) ∧ cR K T nm I0 I' e0 len0 no (sp_lp (sp K V n0 4 d) o_add K m p c) := by
  intro m
  induction m with
  | zero =>
    intro p c I i n hX hN hf hL hc hcl hi hp hn
    have := hL.1.2.2
    have := hX.1.1
    omega
  | succ m ih =>
    intro p c I i n hX hN hf hL hc hcl hi hp hn
    have hpT := hL.1.2.2
    have hT := hX.1.1
    obtain ⟨n, rfl⟩ : ∃ n', n = n' + 1 := ⟨n - 1, by omega⟩
    rw [L_X6_readSum_28_0, if_neg (show ¬ (400 : Int32) ≤ Int32.ofNat i from fun z => absurd ((n_le (a := 400) (by omega) (by omega)).mp z) (by omega))]
    unfold sp_lp
    by_cases ho : o_add (K p) = true
    · obtain ⟨k1, k2⟩ := op_add _ ho
      have hnm := nmd_of_two k2
      have hlt := hX.1.lt hpT k1
      obtain ⟨a1, a2, a3⟩ := c_adv hX hL hlt
      have hX1 := hX.kept a2
      have hN1 := hN.kept a2
      obtain ⟨I1, e1, f1, r1⟩ := hM d (p + 1) _ _ _ _ hd hnd hX1 hN1 a1 (by omega) (0 : Int32)
      have hpr := sp_pr hX.1 n0 4 d (p + 1) (by omega)
      have hLp : ∀ (x : Option (Unit × am_I × am_G)) (hx : L_X6_readSum_28 (PG_X6_readTest n0) n 0 (g_X3_add_38 I1 G (Int32.ofNat (K p)) (0 : Int32)) G (Int32.ofNat d) (Int32.ofNat (i + 1)) = x), (if (I 28 6) = (30 : Int32) then rb (PG_X6_readTest n0 4 (g_X6_advance_28 I G ) G (Int32.ofNat d) (0 : Int32)) (fun r101 I101 G101 => L_X6_readSum_28 (PG_X6_readTest n0) n 0 (g_X3_add_38 I101 G101 (I 28 6) (0 : Int32)) G101 (Int32.ofNat d) (Int32.ofNat i + (1 : Int32))) else (if (I 28 6) = (31 : Int32) then rb (PG_X6_readTest n0 4 (g_X6_advance_28 I G ) G (Int32.ofNat d) (0 : Int32)) (fun r101 I101 G101 => L_X6_readSum_28 (PG_X6_readTest n0) n 0 (g_X3_add_38 I101 G101 (I 28 6) (0 : Int32)) G101 (Int32.ofNat d) (Int32.ofNat i + (1 : Int32))) else some ((), I, G))) = x := by
        intro x hx
        rcases (show K p = 30 ∨ K p = 31 by simpa [o_add] using ho) with hk | hk
        · rw [if_pos (kY (k := 30) (w := (30 : Int32)) rfl hX.1 hpT hL.1.2.1 (by omega) hk), e1, rb_go, hL.1.2.1, n_inc]; exact hx
        · rw [if_neg (kN (k := 30) (w := (30 : Int32)) rfl hX.1 hpT hL.1.2.1 (by omega) (by omega)), if_pos (kY (k := 31) (w := (31 : Int32)) rfl hX.1 hpT hL.1.2.1 (by omega) hk), e1, rb_go, hL.1.2.1, n_inc]; exact hx
      rw [hLp _ rfl, if_pos ho]
      cases hr : sp K V n0 4 d (p + 1) with
      | inl q =>
        obtain ⟨p', c'⟩ := q
        rw [hr] at r1 hpr
        obtain ⟨b1, b2⟩ := r1
        rw [sb_l rfl]
        have hq3 := hpr.2.2.1
        have hq1 := hpr.1
        have hq2 := hpr.2.1
        obtain ⟨g1, g2, g3⟩ := c_add_L (nm := nm) (G := G) (op := K p) (a := 0) (y := 0) b1 hT (by omega) (by omega) (by
          unfold c_op
          rw [if_neg (show ¬ s_nmd (K p) = true by rw [hnm]; decide)]
          rfl)
        have hfr := (a2.tr f1).tr g2
        refine ih p' _ _ (i + 1) n (hX.kept hfr) (hN.kept hfr) (hf.tr hfr) ?_ ?_ (by simp only [List.length_append, List.length_singleton]; omega) (by omega) (by omega) (by omega)
        · rw [fe_app, fe_app, fe_un hnm, List.length_append, List.length_append, List.length_singleton, show len0 + (c.length + c'.length + 1) = len0 + c.length + c'.length + 1 by omega]
          exact g1
        · have hc0 : cx nm I0 (g_X6_advance_28 I G) len0 no (c ++ []) := hc.tr (cx.nil (a3 44 (by omega)) (a3 45 (by omega)) (a3 46 (by omega)))
          rw [List.append_nil] at hc0
          exact (hc0.tr b2).tr (by rw [List.length_append, ← Nat.add_assoc]; exact g3)
      | inr q =>
        rw [hr] at r1
        rw [sb_r rfl, c_dl3 _ (by omega) (c_add_d r1 _ _) (by omega)]
        exact ⟨_, rfl, (hf.tr ((a2.tr f1).tr (c_add_f _ _ _))), c_add_d r1 _ _⟩
    · rw [if_neg ho]
      have hno : ¬ K p = 30 ∧ ¬ K p = 31 := by simpa [o_add, not_or] using ho
      rw [if_neg (kN (k := 30) (w := (30 : Int32)) rfl hX.1 hpT hL.1.2.1 (by omega) hno.1), if_neg (kN (k := 31) (w := (31 : Int32)) rfl hX.1 hpT hL.1.2.1 (by omega) hno.2)]
      exact ⟨I, rfl, hf, hL, hc⟩
theorem c_ch3 {n0 : Nat} (hM : cM K V T nm G n0 4) : cM K V T nm G (n0 + 1) 3 := by
  intro d p I e len no hd hnd hX hN hL hlp b
  have hnd1 : nd 4 d ≤ n0 := by rw [nd_3] at hnd; rw [nd_4]; omega
  obtain ⟨I1, e1, f1, r1⟩ := hM d p I e len no hd hnd1 hX hN hL hlp (0 : Int32)
  rw [PG_X6_readTest_3, sp_3]
  unfold R_X6_readSum_28 sp_ch
  rw [e1, rb_go]
  have hpr := sp_pr hX.1 n0 4 d p hL.1.2.2
  cases hr : sp K V n0 4 d p with
  | inl q =>
    obtain ⟨p', c'⟩ := q
    rw [hr] at r1 hpr
    rw [sb_l rfl]
    exact c_lp3 hM hd hnd1 401 p' c' I1 0 FU (hX.kept f1) (hN.kept f1) f1 r1.1 r1.2 (by have := hpr.1; have := hpr.2.2.1; omega) (by omega) (by have := hpr.1; omega) (by unfold FU; omega)
  | inr q =>
    rw [hr] at r1
    rw [sb_r rfl, show (0 : Int32) = Int32.ofNat 0 from rfl, c_dl3 _ (by unfold FU; omega) r1 (by omega)]
    exact ⟨_, rfl, f1, r1⟩
theorem c_lp1 {n0 d : Nat} (hM : cM K V T nm G n0 2) (hd : d ≤ 8) (hnd : nd 2 d ≤ n0) {I0 : am_I} {e0 : Option (Nat × Nat)} {len0 no : Nat} : ∀ (m p : Nat) (c : List (Nat × Nat)) (I : am_I) (i n : Nat), cX K V T I G → cN K T nm I G → cfr I0 I → cL K T I p (fe nm c e0) (len0 + c.length) no → cx nm I0 I len0 no c → len0 + c.length ≤ p → i + m = 401 → 2 * i < p → m < n → ∃ I' : am_I, L_X6_readBoth_28 (PG_X6_readTest n0) n 0 I G (Int32.ofNat d) (Int32.ofNat i) = some ((), I', G) ∧ cR K T nm I0 I' e0 len0 no (sp_lp (sp K V n0 2 d) o_and K m p c) := by
  intro m
  induction m with
  | zero =>
    intro p c I i n hX hN hf hL hc hcl hi hp hn
    have := hL.1.2.2
    have := hX.1.1
    omega
  | succ m ih =>
    intro p c I i n hX hN hf hL hc hcl hi hp hn
    have hpT := hL.1.2.2
    have hT := hX.1.1
    obtain ⟨n, rfl⟩ : ∃ n', n = n' + 1 := ⟨n - 1, by omega⟩
    rw [L_X6_readBoth_28_0, if_neg (show ¬ (400 : Int32) ≤ Int32.ofNat i from fun z => absurd ((n_le (a := 400) (by omega) (by omega)).mp z) (by omega))]
    unfold sp_lp
    by_cases ho : o_and (K p) = true
    · obtain ⟨k1, k2⟩ := op_and _ ho
      have hnm := nmd_of_two k2
      have hlt := hX.1.lt hpT k1
      obtain ⟨a1, a2, a3⟩ := c_adv hX hL hlt
      have hX1 := hX.kept a2
      have hN1 := hN.kept a2
      obtain ⟨I1, e1, f1, r1⟩ := hM d (p + 1) _ _ _ _ hd hnd hX1 hN1 a1 (by omega) (0 : Int32)
      have hpr := sp_pr hX.1 n0 2 d (p + 1) (by omega)
      have hLp : ∀ (x : Option (Unit × am_I × am_G)) (hx : L_X6_readBoth_28 (PG_X6_readTest n0) n 0 (g_X3_add_38 I1 G (Int32.ofNat (K p)) (0 : Int32)) G (Int32.ofNat d) (Int32.ofNat (i + 1)) = x), (if (I 28 6) = (20 : Int32) then rb (PG_X6_readTest n0 2 (g_X6_advance_28 I G ) G (Int32.ofNat d) (0 : Int32)) (fun r101 I101 G101 => L_X6_readBoth_28 (PG_X6_readTest n0) n 0 (g_X3_add_38 I101 G101 (20 : Int32) (0 : Int32)) G101 (Int32.ofNat d) (Int32.ofNat i + (1 : Int32))) else some ((), I, G)) = x := by
        intro x hx
        have hk : K p = 20 := by simpa [o_and] using ho
        rw [if_pos (kY (k := 20) (w := (20 : Int32)) rfl hX.1 hpT hL.1.2.1 (by omega) hk), e1, rb_go, n_inc]
        rw [hk] at hx
        exact hx
      rw [hLp _ rfl, if_pos ho]
      cases hr : sp K V n0 2 d (p + 1) with
      | inl q =>
        obtain ⟨p', c'⟩ := q
        rw [hr] at r1 hpr
        obtain ⟨b1, b2⟩ := r1
        rw [sb_l rfl]
        have hq3 := hpr.2.2.1
        have hq1 := hpr.1
        have hq2 := hpr.2.1
        obtain ⟨g1, g2, g3⟩ := c_add_L (nm := nm) (G := G) (op := K p) (a := 0) (y := 0) b1 hT (by omega) (by omega) (by
          unfold c_op
          rw [if_neg (show ¬ s_nmd (K p) = true by rw [hnm]; decide)]
          rfl)
        have hfr := (a2.tr f1).tr g2
        refine ih p' _ _ (i + 1) n (hX.kept hfr) (hN.kept hfr) (hf.tr hfr) ?_ ?_ (by simp only [List.length_append, List.length_singleton]; omega) (by omega) (by omega) (by omega)
        · rw [fe_app, fe_app, fe_un hnm, List.length_append, List.length_append, List.length_singleton, show len0 + (c.length + c'.length + 1) = len0 + c.length + c'.length + 1 by omega]
          exact g1
        · have hc0 : cx nm I0 (g_X6_advance_28 I G) len0 no (c ++ []) := hc.tr (cx.nil (a3 44 (by omega)) (a3 45 (by omega)) (a3 46 (by omega)))
          rw [List.append_nil] at hc0
          exact (hc0.tr b2).tr (by rw [List.length_append, ← Nat.add_assoc]; exact g3)
      | inr q =>
        rw [hr] at r1
        rw [sb_r rfl, c_dl1 _ (by omega) (c_add_d r1 _ _) (by omega)]
        exact ⟨_, rfl, (hf.tr ((a2.tr f1).tr (c_add_f _ _ _))), c_add_d r1 _ _⟩
    · rw [if_neg ho]
      have hno : ¬ K p = 20 := by simpa [o_and] using ho
      rw [if_neg (kN (k := 20) (w := (20 : Int32)) rfl hX.1 hpT hL.1.2.1 (by omega) hno)]
      exact ⟨I, rfl, hf, hL, hc⟩
theorem c_ch1 {n0 : Nat} (hM : cM K V T nm G n0 2) : cM K V T nm G (n0 + 1) 1 := by
  intro d p I e len no hd hnd hX hN hL hlp b
  have hnd1 : nd 2 d ≤ n0 := by rw [nd_1] at hnd; rw [nd_2]; omega
  obtain ⟨I1, e1, f1, r1⟩ := hM d p I e len no hd hnd1 hX hN hL hlp (0 : Int32)
  rw [PG_X6_readTest_1, sp_1]
  unfold R_X6_readBoth_28 sp_ch
  rw [e1, rb_go]
  have hpr := sp_pr hX.1 n0 2 d p hL.1.2.2
  cases hr : sp K V n0 2 d p with
  | inl q =>
    obtain ⟨p', c'⟩ := q
    rw [hr] at r1 hpr
    rw [sb_l rfl]
    exact c_lp1 hM hd hnd1 401 p' c' I1 0 FU (hX.kept f1) (hN.kept f1) f1 r1.1 r1.2 (by have := hpr.1; have := hpr.2.2.1; omega) (by omega) (by have := hpr.1; omega) (by unfold FU; omega)
  | inr q =>
    rw [hr] at r1
    rw [sb_r rfl, show (0 : Int32) = Int32.ofNat 0 from rfl, c_dl1 _ (by unfold FU; omega) r1 (by omega)]
    exact ⟨_, rfl, f1, r1⟩
theorem c_lp0 {n0 d : Nat} (hM : cM K V T nm G n0 1) (hd : d ≤ 8) (hnd : nd 1 d ≤ n0) {I0 : am_I} {e0 : Option (Nat × Nat)} {len0 no : Nat} : ∀ (m p : Nat) (c : List (Nat × Nat)) (I : am_I) (i n : Nat), cX K V T I G → cN K T nm I G → cfr I0 I → cL K T I p (fe nm c e0) (len0 + c.length) no → cx nm I0 I len0 no c → len0 + c.length ≤ p → i + m = 401 → 2 * i < p → m < n → ∃ I' : am_I, L_X6_readTest_28 (PG_X6_readTest n0) n 0 I G (Int32.ofNat d) (Int32.ofNat i) = some ((), I', G) ∧ cR K T nm I0 I' e0 len0 no (sp_lp (sp K V n0 1 d) o_or K m p c) := by
  intro m
  induction m with
  | zero =>
    intro p c I i n hX hN hf hL hc hcl hi hp hn
    have := hL.1.2.2
    have := hX.1.1
    omega
  | succ m ih =>
    intro p c I i n hX hN hf hL hc hcl hi hp hn
    have hpT := hL.1.2.2
    have hT := hX.1.1
    obtain ⟨n, rfl⟩ : ∃ n', n = n' + 1 := ⟨n - 1, by omega⟩
    rw [L_X6_readTest_28_0, if_neg (show ¬ (400 : Int32) ≤ Int32.ofNat i from fun z => absurd ((n_le (a := 400) (by omega) (by omega)).mp z) (by omega))]
    unfold sp_lp
    by_cases ho : o_or (K p) = true
    · obtain ⟨k1, k2⟩ := op_or _ ho
      have hnm := nmd_of_two k2
      have hlt := hX.1.lt hpT k1
      obtain ⟨a1, a2, a3⟩ := c_adv hX hL hlt
      have hX1 := hX.kept a2
      have hN1 := hN.kept a2
      obtain ⟨I1, e1, f1, r1⟩ := hM d (p + 1) _ _ _ _ hd hnd hX1 hN1 a1 (by omega) (0 : Int32)
      have hpr := sp_pr hX.1 n0 1 d (p + 1) (by omega)
      have hLp : ∀ (x : Option (Unit × am_I × am_G)) (hx : L_X6_readTest_28 (PG_X6_readTest n0) n 0 (g_X3_add_38 I1 G (Int32.ofNat (K p)) (0 : Int32)) G (Int32.ofNat d) (Int32.ofNat (i + 1)) = x), (if (I 28 6) = (21 : Int32) then rb (PG_X6_readTest n0 1 (g_X6_advance_28 I G ) G (Int32.ofNat d) (0 : Int32)) (fun r101 I101 G101 => L_X6_readTest_28 (PG_X6_readTest n0) n 0 (g_X3_add_38 I101 G101 (21 : Int32) (0 : Int32)) G101 (Int32.ofNat d) (Int32.ofNat i + (1 : Int32))) else some ((), I, G)) = x := by
        intro x hx
        have hk : K p = 21 := by simpa [o_or] using ho
        rw [if_pos (kY (k := 21) (w := (21 : Int32)) rfl hX.1 hpT hL.1.2.1 (by omega) hk), e1, rb_go, n_inc]
        rw [hk] at hx
        exact hx
      rw [hLp _ rfl, if_pos ho]
      cases hr : sp K V n0 1 d (p + 1) with
      | inl q =>
        obtain ⟨p', c'⟩ := q
        rw [hr] at r1 hpr
        obtain ⟨b1, b2⟩ := r1
        rw [sb_l rfl]
        have hq3 := hpr.2.2.1
        have hq1 := hpr.1
        have hq2 := hpr.2.1
        obtain ⟨g1, g2, g3⟩ := c_add_L (nm := nm) (G := G) (op := K p) (a := 0) (y := 0) b1 hT (by omega) (by omega) (by
          unfold c_op
          rw [if_neg (show ¬ s_nmd (K p) = true by rw [hnm]; decide)]
          rfl)
        have hfr := (a2.tr f1).tr g2
        refine ih p' _ _ (i + 1) n (hX.kept hfr) (hN.kept hfr) (hf.tr hfr) ?_ ?_ (by simp only [List.length_append, List.length_singleton]; omega) (by omega) (by omega) (by omega)
        · rw [fe_app, fe_app, fe_un hnm, List.length_append, List.length_append, List.length_singleton, show len0 + (c.length + c'.length + 1) = len0 + c.length + c'.length + 1 by omega]
          exact g1
        · have hc0 : cx nm I0 (g_X6_advance_28 I G) len0 no (c ++ []) := hc.tr (cx.nil (a3 44 (by omega)) (a3 45 (by omega)) (a3 46 (by omega)))
          rw [List.append_nil] at hc0
          exact (hc0.tr b2).tr (by rw [List.length_append, ← Nat.add_assoc]; exact g3)
      | inr q =>
        rw [hr] at r1
        rw [sb_r rfl, c_dl0 _ (by omega) (c_add_d r1 _ _) (by omega)]
        exact ⟨_, rfl, (hf.tr ((a2.tr f1).tr (c_add_f _ _ _))), c_add_d r1 _ _⟩
    · rw [if_neg ho]
      have hno : ¬ K p = 21 := by simpa [o_or] using ho
      rw [if_neg (kN (k := 21) (w := (21 : Int32)) rfl hX.1 hpT hL.1.2.1 (by omega) hno)]
      exact ⟨I, rfl, hf, hL, hc⟩
theorem c_ch0 {n0 : Nat} (hM : cM K V T nm G n0 1) : cM K V T nm G (n0 + 1) 0 := by
  intro d p I e len no hd hnd hX hN hL hlp b
  have hnd1 : nd 1 d ≤ n0 := by rw [nd_0] at hnd; rw [nd_1]; omega
  obtain ⟨I1, e1, f1, r1⟩ := hM d p I e len no hd hnd1 hX hN hL hlp (0 : Int32)
  rw [PG_X6_readTest_0, sp_0]
  unfold R_X6_readTest_28 sp_ch
  rw [e1, rb_go]
  have hpr := sp_pr hX.1 n0 1 d p hL.1.2.2
  cases hr : sp K V n0 1 d p with
  | inl q =>
    obtain ⟨p', c'⟩ := q
    rw [hr] at r1 hpr
    rw [sb_l rfl]
    exact c_lp0 hM hd hnd1 401 p' c' I1 0 FU (hX.kept f1) (hN.kept f1) f1 r1.1 r1.2 (by have := hpr.1; have := hpr.2.2.1; omega) (by omega) (by have := hpr.1; omega) (by unfold FU; omega)
  | inr q =>
    rw [hr] at r1
    rw [sb_r rfl, show (0 : Int32) = Int32.ofNat 0 from rfl, c_dl0 _ (by unfold FU; omega) r1 (by omega)]
    exact ⟨_, rfl, f1, r1⟩
theorem c_pa {n0 : Nat} (hM : cM K V T nm G n0 3) : cM K V T nm G (n0 + 1) 6 := by
  intro d p I e len no hd hnd hX hN hL hlp b
  have hT := hX.1.1
  have hpT := hL.1.2.2
  rw [PG_X6_readTest_6, sp_6]
  unfold R_X6_readPair_28 sp_pa
  by_cases hk : K p = 24
  · rw [if_pos (kY (k := 24) (w := (24 : Int32)) rfl hX.1 hpT hL.1.2.1 (by omega) hk)]
    by_cases h8 : d < 8
    · have hnd1 : nd 3 (d + 1) ≤ n0 := by rw [nd_6] at hnd; rw [nd_3]; omega
      have hlt := hX.1.lt hpT (by omega)
      obtain ⟨a1, a2, a3⟩ := c_adv hX hL hlt
      obtain ⟨I1, e1, f1, r1⟩ := hM (d + 1) (p + 1) _ e len no (by omega) hnd1 (hX.kept a2) (hN.kept a2) a1 (by omega) (0 : Int32)
      have hf1 := a2.tr f1
      have hX1 := hX.kept hf1
      have hN1 := hN.kept hf1
      have hc0 : cx nm I (g_X6_advance_28 I G) len no [] := cx.nil (a3 44 (by omega)) (a3 45 (by omega)) (a3 46 (by omega))
      have hpr := sp_pr hX.1 n0 3 (d + 1) (p + 1) (by omega)
      rw [if_pos (show Int32.ofNat d < (8 : Int32) from (n_lt (b := 8) (by omega) (by omega)).mpr h8), if_pos ⟨hk, h8⟩, n_inc, e1, rb_go]
      cases hr : sp K V n0 3 (d + 1) (p + 1) with
      | inl q =>
        obtain ⟨p1, c1⟩ := q
        rw [hr] at r1 hpr
        obtain ⟨b1, b2⟩ := r1
        rw [sb_l rfl]
        by_cases h29 : K p1 = 29
        · rw [if_pos h29]
          obtain ⟨g1, g2, g3⟩ := c_exY (w := 29) hX1 b1 (by omega) h29
          obtain ⟨I2, e2, f2, r2⟩ := hM (d + 1) (p1 + 1) _ _ _ no (by omega) hnd1 (hX1.kept g2) (hN1.kept g2) g1 (by have := hpr.1; have := hpr.2.2.1; omega) (0 : Int32)
          have hf2 := (hf1.tr g2).tr f2
          have hX2 := hX.kept hf2
          rw [show (29 : Int32) = Int32.ofNat 29 from rfl, e2, rb_go]
          cases hr2 : sp K V n0 3 (d + 1) (p1 + 1) with
          | inl q2 =>
            obtain ⟨p2, c2⟩ := q2
            rw [hr2] at r2
            obtain ⟨m1, m2⟩ := r2
            rw [sb_l rfl]
            by_cases h25 : K p2 = 25
            · rw [if_pos h25]
              obtain ⟨j1, j2, j3⟩ := c_exY (w := 25) hX2 m1 (by omega) h25
              refine ⟨_, rfl, hf2.tr j2, ?_, ?_⟩
              · rw [fe_app, List.length_append, ← Nat.add_assoc]
                exact j1
              · have h1 : cx nm I (g_X6_expect_28 I1 G (Int32.ofNat 29)) len no (([] ++ c1) ++ []) := (hc0.tr b2).tr (cx.nil (g3 44 (by omega)) (g3 45 (by omega)) (g3 46 (by omega)))
                rw [List.append_nil, List.nil_append] at h1
                have h2 := (h1.tr m2).tr (cx.nil (nm := nm) (no := no) (len := len + (c1 ++ c2).length) (j3 44 (by omega)) (j3 45 (by omega)) (j3 46 (by omega)))
                rw [List.append_nil] at h2
                exact h2
            · rw [if_neg h25]
              obtain ⟨j1, j2⟩ := c_exN (w := 25) hX2 m1 (by omega) h25
              exact ⟨_, rfl, hf2.tr j1, j2⟩
          | inr q2 =>
            rw [hr2] at r2
            obtain ⟨j1, j2⟩ := c_exD (G := G) (w := 25) r2 (by omega)
            rw [sb_r rfl]
            exact ⟨_, rfl, hf2.tr j1, j2⟩
        · rw [if_neg h29]
          obtain ⟨g1, g2⟩ := c_exN (w := 29) hX1 b1 (by omega) h29
          obtain ⟨I2, e2, f2, r2⟩ := c_dead (G := G) (n := n0) (md := 3) (by omega) (by rw [nd_3] at hnd1; show 3 ≤ n0; omega) g2 (Int32.ofNat (d + 1)) (0 : Int32)
          rw [show (29 : Int32) = Int32.ofNat 29 from rfl, e2, rb_go]
          obtain ⟨j1, j2⟩ := c_exD (G := G) (w := 25) r2 (by omega)
          exact ⟨_, rfl, ((hf1.tr g1).tr f2).tr j1, j2⟩
      | inr q =>
        rw [hr] at r1
        obtain ⟨g1, g2⟩ := c_exD (G := G) (w := 29) r1 (by omega)
        obtain ⟨I2, e2, f2, r2⟩ := c_dead (G := G) (n := n0) (md := 3) (by omega) (by rw [nd_3] at hnd1; show 3 ≤ n0; omega) g2 (Int32.ofNat (d + 1)) (0 : Int32)
        rw [show (29 : Int32) = Int32.ofNat 29 from rfl, e2, rb_go, sb_r rfl]
        obtain ⟨j1, j2⟩ := c_exD (G := G) (w := 25) r2 (by omega)
        exact ⟨_, rfl, ((hf1.tr g1).tr f2).tr j1, j2⟩
    · rw [if_neg (show ¬ Int32.ofNat d < (8 : Int32) from fun z => h8 ((n_lt (b := 8) (by omega) (by omega)).mp z)), if_neg (fun z => h8 z.2)]
      exact ⟨_, rfl, c_refL hL⟩
  · rw [if_neg (kN (k := 24) (w := (24 : Int32)) rfl hX.1 hpT hL.1.2.1 (by omega) hk), if_neg (fun z => hk z.1)]
    exact ⟨_, rfl, c_refL hL⟩
theorem c_cls {I J I1 : am_I} {e : Option (Nat × Nat)} {len no w : Nat} {r : sR} (hf : cfr I I1) (hX1 : cX K V T I1 G) (hc0 : cx nm I J len no []) (hr : cQ K T nm J I1 e len no r) (hw : w ≤ 40) : cR K T nm I (g_X6_expect_28 I1 G (Int32.ofNat w)) e len no (sb r (fun p' c => if K p' = w then .inl (p' + 1, c) else .inr p')) := by
  cases r with
  | inl q =>
    obtain ⟨p', c'⟩ := q
    obtain ⟨b1, b2⟩ := hr
    rw [sb_l rfl]
    by_cases h : K p' = w
    · rw [if_pos h]
      obtain ⟨j1, j2, j3⟩ := c_exY (w := w) hX1 b1 hw h
      refine ⟨hf.tr j2, j1, ?_⟩
      have h1 := (hc0.tr b2).tr (cx.nil (nm := nm) (no := no) (len := len + ([] ++ c').length) (j3 44 (by omega)) (j3 45 (by omega)) (j3 46 (by omega)))
      rw [List.append_nil, List.nil_append] at h1
      exact h1
    · rw [if_neg h]
      obtain ⟨j1, j2⟩ := c_exN (w := w) hX1 b1 (by omega) h
      exact ⟨hf.tr j1, j2⟩
  | inr q =>
    obtain ⟨j1, j2⟩ := c_exD (G := G) (w := w) hr (by omega)
    rw [sb_r rfl]
    exact ⟨hf.tr j1, j2⟩
theorem c_fin {I I1 : am_I} {e : Option (Nat × Nat)} {len no p' op a : Nat} {c : List (Nat × Nat)} {y : Int32} (f1 : cfr I I1) (b1 : cL K T I1 p' (fe nm c e) (len + c.length) no) (b2 : cx nm I I1 len no c) (hT : T ≤ 400) (hl : len + c.length < 400) (hop : op ≤ 1000) (hu : s_nmd op = false) (hy : y = Int32.ofNat a) : cR K T nm I (g_X3_add_38 I1 G (Int32.ofNat op) y) e len no (.inl (p', c ++ [(op, a)])) := by
  obtain ⟨g1, g2, g3⟩ := c_add_L (nm := nm) (G := G) (op := op) (a := a) (y := y) b1 hT hl hop (by
    unfold c_op
    rw [hu, if_neg (by decide)]
    exact hy)
  refine ⟨f1.tr g2, ?_, b2.tr g3⟩
  rw [fe_app, fe_un hu, List.length_append, List.length_singleton, ← Nat.add_assoc]
  exact g1
theorem c_va {n0 : Nat} (h6 : cM K V T nm G n0 6) (h3 : cM K V T nm G n0 3) (h5 : cM K V T nm G n0 5) : cM K V T nm G (n0 + 1) 5 := by
  intro d p I e len no hd hnd hX hN hL hlp b
  have hT := hX.1.1
  have hpT := hL.1.2.2
  have hb42 := hX.1.le hpT
  have n8 : 8 ≤ d → ¬ Int32.ofNat d < (8 : Int32) := fun q z => absurd ((n_lt (b := 8) (by omega) (by omega)).mp z) (by omega)
  have y8 : d < 8 → Int32.ofNat d < (8 : Int32) := fun q => (n_lt (b := 8) (by omega) (by omega)).mpr q
  rw [PG_X6_readTest_5, sp_5]
  unfold R_X6_readValue_28 sp_va
  by_cases c1 : (K p = 31 ∨ K p = 24) ∧ 8 ≤ d
  · rw [if_pos c1]
    rcases c1.1 with hk | hk
    · have hk6 : I 28 6 = (31 : Int32) := hL.1.2.1.trans (by rw [hk]; rfl)
      rw [hk6, if_pos rfl, if_neg (n8 c1.2)]
      exact ⟨_, rfl, c_refL hL⟩
    · have hk6 : I 28 6 = (24 : Int32) := hL.1.2.1.trans (by rw [hk]; rfl)
      rw [hk6, if_neg (by decide), if_pos rfl, if_neg (n8 c1.2)]
      exact ⟨_, rfl, c_refL hL⟩
  rw [if_neg c1]
  by_cases hk : K p = 40
  · rw [if_pos hk]
    have hk6 : I 28 6 = (40 : Int32) := hL.1.2.1.trans (by rw [hk]; rfl)
    have hlt := hX.1.lt hpT (by omega)
    have hV : (f_X9_contentAt_1 I G (I 28 5)).toInt32 = Int32.ofNat (V p) := by
      unfold f_X9_contentAt_1
      rw [hL.1.1, if_neg (n_nlt0 p (by omega)), if_neg (fun z => absurd ((n_le (by omega) (by omega)).mp z) (by omega)), n_cl (by omega)]
      exact hX.2.2.2 p hpT hk
    obtain ⟨g1, g2, g3⟩ := c_add_L (nm := nm) (G := G) (op := 40) (a := V p) (y := Int32.ofNat (V p)) hL hT (by omega) (by omega) rfl
    obtain ⟨a1, a2, a3⟩ := c_adv (hX.kept g2) g1 hlt
    rw [hk6, if_neg (by decide), if_neg (by decide), if_neg (by decide), if_neg (by decide), if_neg (by decide), if_neg (by decide), if_neg (by decide), if_neg (by decide), if_neg (by decide), if_neg (by decide), if_neg (by decide), if_pos rfl, hV]
    refine ⟨_, rfl, g2.tr a2, a1, ?_⟩
    have h1 := g3.tr (cx.nil (nm := nm) (no := no) (len := len + [(40, V p)].length) (a3 44 (by omega)) (a3 45 (by omega)) (a3 46 (by omega)))
    exact h1
  rw [if_neg hk]
  by_cases hk : K p = 15
  · rw [if_pos hk]
    have hk6 : I 28 6 = (15 : Int32) := hL.1.2.1.trans (by rw [hk]; rfl)
    have hlt := hX.1.lt hpT (by omega)
    obtain ⟨a1, a2, a3⟩ := c_adv hX hL hlt
    rw [hk6, if_neg (by decide), if_neg (by decide), if_neg (by decide), if_neg (by decide), if_pos rfl]
    exact ⟨_, rfl, c_fin (c := []) (op := 15) a2 a1 (cx.nil (a3 44 (by omega)) (a3 45 (by omega)) (a3 46 (by omega))) hT (by simp only [List.length_nil]; omega) (by omega) rfl rfl⟩
  rw [if_neg hk]
  by_cases c4 : K p = 9 ∨ K p = 16 ∨ K p = 6
  · rw [if_pos c4]
    have hlt := hX.1.lt hpT (by omega)
    obtain ⟨a1, a2, a3⟩ := c_adv hX hL hlt
    have hX1 := hX.kept a2
    have hc0 : cx nm I (g_X6_advance_28 I G) len no [] := cx.nil (a3 44 (by omega)) (a3 45 (by omega)) (a3 46 (by omega))
    rcases c4 with hk | hk | hk
    · have hk6 : I 28 6 = (9 : Int32) := hL.1.2.1.trans (by rw [hk]; rfl)
      rw [hk6, if_neg (by decide), if_neg (by decide), if_neg (by decide), if_pos rfl, hk]
      by_cases h39 : K (p + 1) = 39
      · rw [if_pos h39]
        obtain ⟨I2, e2, l2, f2, x2⟩ := c_kn49 hX1 (hN.kept a2) a1 h39
        rw [e2, rb_go]
        obtain ⟨g1, g2, g3⟩ := c_add_L (nm := nm) (G := G) (op := 9) (a := p + 1) (y := fi (nm 9 (p + 1))) l2 hT (by omega) (by omega) rfl
        refine ⟨_, rfl, (a2.tr f2).tr g2, g1, ?_⟩
        have h1 := (hc0.tr (cx.nil (nm := nm) (no := no) (len := len + ([] : List (Nat × Nat)).length) (x2 44 (by omega)) (x2 45 (by omega)) (x2 46 (by omega)))).tr g3
        exact h1
      · rw [if_neg h39, c_kx49 hX1 a1 h39, rb_go]
        obtain ⟨f2, d2⟩ := c_refL (G := G) a1
        exact ⟨_, rfl, (a2.tr f2).tr (c_add_f _ _ _), c_add_d d2 _ _⟩
    · have hk6 : I 28 6 = (16 : Int32) := hL.1.2.1.trans (by rw [hk]; rfl)
      rw [hk6, if_neg (by decide), if_neg (by decide), if_neg (by decide), if_neg (by decide), if_neg (by decide), if_pos rfl, hk]
      by_cases h39 : K (p + 1) = 39
      · rw [if_pos h39]
        obtain ⟨I2, e2, l2, f2, x2⟩ := c_kn51 hX1 (hN.kept a2) a1 h39
        rw [e2, rb_go]
        obtain ⟨g1, g2, g3⟩ := c_add_L (nm := nm) (G := G) (op := 16) (a := p + 1) (y := fi (nm 16 (p + 1))) l2 hT (by omega) (by omega) rfl
        refine ⟨_, rfl, (a2.tr f2).tr g2, g1, ?_⟩
        have h1 := (hc0.tr (cx.nil (nm := nm) (no := no) (len := len + ([] : List (Nat × Nat)).length) (x2 44 (by omega)) (x2 45 (by omega)) (x2 46 (by omega)))).tr g3
        exact h1
      · rw [if_neg h39, c_kx51 hX1 a1 h39, rb_go]
        obtain ⟨f2, d2⟩ := c_refL (G := G) a1
        exact ⟨_, rfl, (a2.tr f2).tr (c_add_f _ _ _), c_add_d d2 _ _⟩
    · have hk6 : I 28 6 = (6 : Int32) := hL.1.2.1.trans (by rw [hk]; rfl)
      rw [hk6, if_neg (by decide), if_neg (by decide), if_pos rfl, hk]
      by_cases h39 : K (p + 1) = 39
      · rw [if_pos h39]
        obtain ⟨I2, e2, l2, f2, x2⟩ := c_kn47 hX1 (hN.kept a2) a1 h39
        rw [e2, rb_go]
        obtain ⟨g1, g2, g3⟩ := c_add_L (nm := nm) (G := G) (op := 6) (a := p + 1) (y := fi (nm 6 (p + 1))) l2 hT (by omega) (by omega) rfl
        refine ⟨_, rfl, (a2.tr f2).tr g2, g1, ?_⟩
        have h1 := (hc0.tr (cx.nil (nm := nm) (no := no) (len := len + ([] : List (Nat × Nat)).length) (x2 44 (by omega)) (x2 45 (by omega)) (x2 46 (by omega)))).tr g3
        exact h1
      · rw [if_neg h39, c_kx47 hX1 a1 h39, rb_go]
        obtain ⟨f2, d2⟩ := c_refL (G := G) a1
        exact ⟨_, rfl, (a2.tr f2).tr (c_add_f _ _ _), c_add_d d2 _ _⟩
  rw [if_neg c4]
  by_cases c5 : K p = 17 ∨ K p = 22 ∨ K p = 23
  · rw [if_pos c5]
    have hlt := hX.1.lt hpT (by omega)
    have hnd1 : nd 6 d ≤ n0 := by rw [nd_5] at hnd; rw [nd_6]; omega
    obtain ⟨a1, a2, a3⟩ := c_adv hX hL hlt
    have hc0 : cx nm I (g_X6_advance_28 I G) len no [] := cx.nil (a3 44 (by omega)) (a3 45 (by omega)) (a3 46 (by omega))
    obtain ⟨I1, e1, f1, r1⟩ := h6 d (p + 1) _ e len no hd hnd1 (hX.kept a2) (hN.kept a2) a1 (by omega) (0 : Int32)
    have hpr := sp_pr hX.1 n0 6 d (p + 1) (by omega)
    have key : ∀ op : Nat, op ≤ 1000 → s_nmd op = false → cR K T nm I (g_X3_add_38 I1 G (Int32.ofNat op) (0 : Int32)) e len no (sb (sp K V n0 6 d (p + 1)) (fun p' c => .inl (p', c ++ [(op, 0)]))) := by
      intro op ho hu
      cases hr : sp K V n0 6 d (p + 1) with
      | inl q =>
        obtain ⟨p', c'⟩ := q
        rw [hr] at r1 hpr
        rw [sb_l rfl]
        exact c_fin (a2.tr f1) r1.1 (hc0.tr r1.2) hT (by have := hpr.1; have := hpr.2.1; have := hpr.2.2.1; omega) ho hu rfl
      | inr q =>
        rw [hr] at r1
        rw [sb_r rfl]
        exact ⟨(a2.tr f1).tr (c_add_f _ _ _), c_add_d r1 _ _⟩
    rcases c5 with hk | hk | hk
    · have hk6 : I 28 6 = (17 : Int32) := hL.1.2.1.trans (by rw [hk]; rfl)
      rw [hk6, if_neg (by decide), if_neg (by decide), if_neg (by decide), if_neg (by decide), if_neg (by decide), if_neg (by decide), if_pos rfl, e1, rb_go, hk]
      exact ⟨_, rfl, key 17 (by omega) rfl⟩
    · have hk6 : I 28 6 = (22 : Int32) := hL.1.2.1.trans (by rw [hk]; rfl)
      rw [hk6, if_neg (by decide), if_neg (by decide), if_neg (by decide), if_neg (by decide), if_neg (by decide), if_neg (by decide), if_neg (by decide), if_pos rfl, e1, rb_go, hk]
      exact ⟨_, rfl, key 22 (by omega) rfl⟩
    · have hk6 : I 28 6 = (23 : Int32) := hL.1.2.1.trans (by rw [hk]; rfl)
      rw [hk6, if_neg (by decide), if_neg (by decide), if_neg (by decide), if_neg (by decide), if_neg (by decide), if_neg (by decide), if_neg (by decide), if_neg (by decide), if_pos rfl, e1, rb_go, hk]
      exact ⟨_, rfl, key 23 (by omega) rfl⟩
  rw [if_neg c5]
  by_cases hk : K p = 31
  · rw [if_pos hk]
    have hk6 : I 28 6 = (31 : Int32) := hL.1.2.1.trans (by rw [hk]; rfl)
    have h8 : d < 8 := by
      by_cases z : d < 8
      · exact z
      · exact absurd ⟨Or.inl hk, by omega⟩ c1
    have hlt := hX.1.lt hpT (by omega)
    have hnd1 : nd 5 (d + 1) ≤ n0 := by rw [nd_5] at hnd; rw [nd_5]; omega
    obtain ⟨a1, a2, a3⟩ := c_adv hX hL hlt
    have hc0 : cx nm I (g_X6_advance_28 I G) len no [] := cx.nil (a3 44 (by omega)) (a3 45 (by omega)) (a3 46 (by omega))
    obtain ⟨I1, e1, f1, r1⟩ := h5 (d + 1) (p + 1) _ e len no (by omega) hnd1 (hX.kept a2) (hN.kept a2) a1 (by omega) (0 : Int32)
    have hpr := sp_pr hX.1 n0 5 (d + 1) (p + 1) (by omega)
    rw [hk6, if_pos rfl, if_pos (y8 h8), if_neg (by decide), if_neg (by decide), if_neg (by decide), if_neg (by decide), if_neg (by decide), if_neg (by decide), if_neg (by decide), if_neg (by decide), if_pos rfl, n_inc, e1, rb_go]
    cases hr : sp K V n0 5 (d + 1) (p + 1) with
    | inl q =>
      obtain ⟨p', c'⟩ := q
      rw [hr] at r1 hpr
      rw [sb_l rfl]
      exact ⟨_, rfl, c_fin (op := 43) (a2.tr f1) r1.1 (hc0.tr r1.2) hT (by have := hpr.1; have := hpr.2.1; have := hpr.2.2.1; omega) (by omega) rfl rfl⟩
    | inr q =>
      rw [hr] at r1
      rw [sb_r rfl]
      exact ⟨_, rfl, (a2.tr f1).tr (c_add_f _ _ _), c_add_d r1 _ _⟩
  rw [if_neg hk]
  by_cases hk : K p = 24
  · rw [if_pos hk]
    have hk6 : I 28 6 = (24 : Int32) := hL.1.2.1.trans (by rw [hk]; rfl)
    have h8 : d < 8 := by
      by_cases z : d < 8
      · exact z
      · exact absurd ⟨Or.inr hk, by omega⟩ c1
    have hlt := hX.1.lt hpT (by omega)
    have hnd1 : nd 3 (d + 1) ≤ n0 := by rw [nd_5] at hnd; rw [nd_3]; omega
    obtain ⟨a1, a2, a3⟩ := c_adv hX hL hlt
    have hc0 : cx nm I (g_X6_advance_28 I G) len no [] := cx.nil (a3 44 (by omega)) (a3 45 (by omega)) (a3 46 (by omega))
    obtain ⟨I1, e1, f1, r1⟩ := h3 (d + 1) (p + 1) _ e len no (by omega) hnd1 (hX.kept a2) (hN.kept a2) a1 (by omega) (0 : Int32)
    have hX1 := hX.kept (a2.tr f1)
    rw [hk6, if_neg (by decide), if_pos rfl, if_pos (y8 h8), if_neg (by decide), if_neg (by decide), if_neg (by decide), if_neg (by decide), if_neg (by decide), if_neg (by decide), if_neg (by decide), if_pos rfl, n_inc, e1, rb_go]
    exact ⟨_, rfl, c_cls (w := 25) (a2.tr f1) hX1 hc0 r1 (by omega)⟩
  rw [if_neg hk]
  have no31 : ¬ I 28 6 = (31 : Int32) := fun z => absurd ((k_is (k := 31) hX.1 hpT hL.1.2.1 (by omega)).mp z) (by omega)
  have no24 : ¬ I 28 6 = (24 : Int32) := fun z => absurd ((k_is (k := 24) hX.1 hpT hL.1.2.1 (by omega)).mp z) (by omega)
  obtain ⟨n9, hn9⟩ : ∃ n9, FU = n9 + 1 := ⟨FU - 1, by unfold FU; omega⟩
  rw [if_neg no31, if_neg no24, if_neg (kN (k := 6) (w := (6 : Int32)) rfl hX.1 hpT hL.1.2.1 (by omega) (by omega)), if_neg (kN (k := 9) (w := (9 : Int32)) rfl hX.1 hpT hL.1.2.1 (by omega) (by omega)), if_neg (kN (k := 15) (w := (15 : Int32)) rfl hX.1 hpT hL.1.2.1 (by omega) (by omega)), if_neg (kN (k := 16) (w := (16 : Int32)) rfl hX.1 hpT hL.1.2.1 (by omega) (by omega)), if_neg (kN (k := 17) (w := (17 : Int32)) rfl hX.1 hpT hL.1.2.1 (by omega) (by omega)), if_neg (kN (k := 22) (w := (22 : Int32)) rfl hX.1 hpT hL.1.2.1 (by omega) (by omega)), if_neg (kN (k := 23) (w := (23 : Int32)) rfl hX.1 hpT hL.1.2.1 (by omega) (by omega)), if_neg no24, if_neg no31, if_neg (kN (k := 40) (w := (40 : Int32)) rfl hX.1 hpT hL.1.2.1 (by omega) (by omega)), hn9, L_X6_readValue_28_0]
  exact ⟨_, rfl, c_refL hL⟩
theorem c_si {n0 : Nat} (h2 : cM K V T nm G n0 2) (h0 : cM K V T nm G n0 0) (h3 : cM K V T nm G n0 3) : cM K V T nm G (n0 + 1) 2 := by
  intro d p I e len no hd hnd hX hN hL hlp b
  have hT := hX.1.1
  have hpT := hL.1.2.2
  have hb42 := hX.1.le hpT
  have n8 : 8 ≤ d → ¬ Int32.ofNat d < (8 : Int32) := fun q z => absurd ((n_lt (b := 8) (by omega) (by omega)).mp z) (by omega)
  have y8 : d < 8 → Int32.ofNat d < (8 : Int32) := fun q => (n_lt (b := 8) (by omega) (by omega)).mpr q
  rw [PG_X6_readTest_2, sp_2]
  unfold R_X6_readSingle_28 sp_si
  by_cases c1 : (K p = 19 ∨ K p = 26) ∧ 8 ≤ d
  · rw [if_pos c1]
    rcases c1.1 with hk | hk
    · have hk6 : I 28 6 = (19 : Int32) := hL.1.2.1.trans (by rw [hk]; rfl)
      rw [hk6, if_pos rfl, if_neg (n8 c1.2)]
      exact ⟨_, rfl, c_refL hL⟩
    · have hk6 : I 28 6 = (26 : Int32) := hL.1.2.1.trans (by rw [hk]; rfl)
      rw [hk6, if_neg (by decide), if_pos rfl, if_neg (n8 c1.2)]
      exact ⟨_, rfl, c_refL hL⟩
  rw [if_neg c1]
  by_cases hk : K p = 19
  · rw [if_pos hk]
    have hk6 : I 28 6 = (19 : Int32) := hL.1.2.1.trans (by rw [hk]; rfl)
    have h8 : d < 8 := by
      by_cases z : d < 8
      · exact z
      · exact absurd ⟨Or.inl hk, by omega⟩ c1
    have hlt := hX.1.lt hpT (by omega)
    have hnd1 : nd 2 (d + 1) ≤ n0 := by rw [nd_2] at hnd; rw [nd_2]; omega
    obtain ⟨a1, a2, a3⟩ := c_adv hX hL hlt
    have hc0 : cx nm I (g_X6_advance_28 I G) len no [] := cx.nil (a3 44 (by omega)) (a3 45 (by omega)) (a3 46 (by omega))
    obtain ⟨I1, e1, f1, r1⟩ := h2 (d + 1) (p + 1) _ e len no (by omega) hnd1 (hX.kept a2) (hN.kept a2) a1 (by omega) (0 : Int32)
    have hpr := sp_pr hX.1 n0 2 (d + 1) (p + 1) (by omega)
    rw [hk6, if_pos rfl, if_pos (y8 h8), if_pos rfl, n_inc, e1, rb_go]
    cases hr : sp K V n0 2 (d + 1) (p + 1) with
    | inl q =>
      obtain ⟨p', c'⟩ := q
      rw [hr] at r1 hpr
      rw [sb_l rfl]
      exact ⟨_, rfl, c_fin (op := 19) (a2.tr f1) r1.1 (hc0.tr r1.2) hT (by have := hpr.1; have := hpr.2.1; have := hpr.2.2.1; omega) (by omega) rfl rfl⟩
    | inr q =>
      rw [hr] at r1
      rw [sb_r rfl]
      exact ⟨_, rfl, (a2.tr f1).tr (c_add_f _ _ _), c_add_d r1 _ _⟩
  rw [if_neg hk]
  have no19 : ¬ I 28 6 = (19 : Int32) := fun z => hk ((k_is (k := 19) hX.1 hpT hL.1.2.1 (by omega)).mp z)
  by_cases hk : K p = 26
  · rw [if_pos hk]
    have hk6 : I 28 6 = (26 : Int32) := hL.1.2.1.trans (by rw [hk]; rfl)
    have h8 : d < 8 := by
      by_cases z : d < 8
      · exact z
      · exact absurd ⟨Or.inr hk, by omega⟩ c1
    have hlt := hX.1.lt hpT (by omega)
    have hnd1 : nd 0 (d + 1) ≤ n0 := by rw [nd_2] at hnd; rw [nd_0]; omega
    obtain ⟨a1, a2, a3⟩ := c_adv hX hL hlt
    have hc0 : cx nm I (g_X6_advance_28 I G) len no [] := cx.nil (a3 44 (by omega)) (a3 45 (by omega)) (a3 46 (by omega))
    obtain ⟨I1, e1, f1, r1⟩ := h0 (d + 1) (p + 1) _ e len no (by omega) hnd1 (hX.kept a2) (hN.kept a2) a1 (by omega) (0 : Int32)
    have hX1 := hX.kept (a2.tr f1)
    rw [hk6, if_neg (by decide), if_pos rfl, if_pos (y8 h8), if_neg (by decide), if_pos rfl, n_inc, e1, rb_go]
    exact ⟨_, rfl, c_cls (w := 27) (a2.tr f1) hX1 hc0 r1 (by omega)⟩
  rw [if_neg hk]
  have no26 : ¬ I 28 6 = (26 : Int32) := fun z => hk ((k_is (k := 26) hX.1 hpT hL.1.2.1 (by omega)).mp z)
  rw [if_neg no19, if_neg no26, if_neg no19, if_neg no26]
  by_cases hk : K p = 18
  · rw [if_pos hk]
    have hk6 : I 28 6 = (18 : Int32) := hL.1.2.1.trans (by rw [hk]; rfl)
    have hlt := hX.1.lt hpT (by omega)
    obtain ⟨a1, a2, a3⟩ := c_adv hX hL hlt
    have hX1 := hX.kept a2
    have hc0 : cx nm I (g_X6_advance_28 I G) len no [] := cx.nil (a3 44 (by omega)) (a3 45 (by omega)) (a3 46 (by omega))
    rw [if_pos hk6]
    by_cases h39 : K (p + 1) = 39
    · rw [if_pos h39]
      obtain ⟨I2, e2, l2, f2, x2⟩ := c_kn51 hX1 (hN.kept a2) a1 h39
      have h18 := (hN I rfl rfl rfl (p + 1) (by omega) h39).2.2.2.1
      rw [e2, rb_go]
      obtain ⟨g1, g2, g3⟩ := c_add_L (nm := nm) (G := G) (op := 18) (a := p + 1) (y := fi (nm 16 (p + 1))) l2 hT (by omega) (by omega) (by
        show fi (nm 16 (p + 1)) = fi (nm 18 (p + 1))
        rw [h18])
      refine ⟨_, rfl, (a2.tr f2).tr g2, ?_, ?_⟩
      · have e9 : fe nm [(16, p + 1)] e = fe nm [(18, p + 1)] e := by simp only [fe, h18]; rfl
        rw [← e9]
        exact g1
      · have h1 := (hc0.tr (cx.nil (nm := nm) (no := no) (len := len + ([] : List (Nat × Nat)).length) (x2 44 (by omega)) (x2 45 (by omega)) (x2 46 (by omega)))).tr g3
        exact h1
    · rw [if_neg h39, c_kx51 hX1 a1 h39, rb_go]
      obtain ⟨f2, d2⟩ := c_refL (G := G) a1
      exact ⟨_, rfl, (a2.tr f2).tr (c_add_f _ _ _), c_add_d d2 _ _⟩
  rw [if_neg hk, if_neg (kN (k := 18) (w := (18 : Int32)) rfl hX.1 hpT hL.1.2.1 (by omega) hk)]
  have hnd1 : nd 3 d ≤ n0 := by rw [nd_2] at hnd; rw [nd_3]; omega
  obtain ⟨I1, e1, f1, r1⟩ := h3 d p I e len no hd hnd1 hX hN hL hlp (0 : Int32)
  have hX1 := hX.kept f1
  have hN1 := hN.kept f1
  have hpr := sp_pr hX.1 n0 3 d p hpT
  rw [e1, rb_go]
  cases hr : sp K V n0 3 d p with
  | inl q =>
    obtain ⟨p1, c1'⟩ := q
    rw [hr] at r1 hpr
    obtain ⟨b1, b2⟩ := r1
    have hp1 := b1.1.2.2
    have hb1 := hX.1.le hp1
    rw [sb_l rfl]
    have ef : f_X6_readComparison_28 I1 G = Int32.ofNat (K p1) := by
      unfold f_X6_readComparison_28
      rw [b1.1.2.1]
      split <;> rfl
    by_cases hc : 34 ≤ K p1 ∧ K p1 ≤ 38
    · rw [if_pos hc]
      have hlt := hX.1.lt hp1 (by omega)
      have eg : g_X6_readComparison_28 I1 G = g_X6_advance_28 I1 G := by
        unfold g_X6_readComparison_28
        rw [b1.1.2.1, if_neg (show ¬ Int32.ofNat (K p1) < (34 : Int32) from fun z => absurd ((n_lt (b := 34) (by omega) (by omega)).mp z) (by omega)), if_pos (show Int32.ofNat (K p1) ≤ (38 : Int32) from (n_le (b := 38) (by omega) (by omega)).mpr (by omega))]
      obtain ⟨a1, a2, a3⟩ := c_adv hX1 b1 hlt
      obtain ⟨I2, e2, f2, r2⟩ := h3 d (p1 + 1) _ _ _ no hd hnd1 (hX1.kept a2) (hN1.kept a2) a1 (by have := hpr.1; have := hpr.2.2.1; omega) (0 : Int32)
      have hpr2 := sp_pr hX.1 n0 3 d (p1 + 1) (by omega)
      have hc0 : cx nm I (g_X6_advance_28 I1 G) len no (c1' ++ []) := b2.tr (cx.nil (a3 44 (by omega)) (a3 45 (by omega)) (a3 46 (by omega)))
      rw [List.append_nil] at hc0
      rw [eg, e2, rb_go, ef]
      cases hr2 : sp K V n0 3 d (p1 + 1) with
      | inl q2 =>
        obtain ⟨p2, c2'⟩ := q2
        rw [hr2] at r2 hpr2
        rw [sb_l rfl]
        refine ⟨_, rfl, c_fin (c := c1' ++ c2') ((f1.tr a2).tr f2) ?_ (hc0.tr r2.2) hT ?_ (by omega) ?_ rfl⟩
        · rw [fe_app, List.length_append, ← Nat.add_assoc]; exact r2.1
        · have := hpr.1; have := hpr.2.2.1; have := hpr2.1; have := hpr2.2.1; have := hpr2.2.2.1
          rw [List.length_append]; omega
        · rcases (show K p1 = 34 ∨ K p1 = 35 ∨ K p1 = 36 ∨ K p1 = 37 ∨ K p1 = 38 by omega) with h | h | h | h | h <;> rw [h] <;> rfl
      | inr q2 =>
        rw [hr2] at r2
        rw [sb_r rfl]
        exact ⟨_, rfl, ((f1.tr a2).tr f2).tr (c_add_f _ _ _), c_add_d r2 _ _⟩
    · rw [if_neg hc]
      have eg : g_X6_readComparison_28 I1 G = g_X6_refuse_28 I1 G := by
        unfold g_X6_readComparison_28
        rw [b1.1.2.1]
        by_cases h34 : K p1 < 34
        · rw [if_pos (show Int32.ofNat (K p1) < (34 : Int32) from (n_lt (b := 34) (by omega) (by omega)).mpr h34)]
        · rw [if_neg (show ¬ Int32.ofNat (K p1) < (34 : Int32) from fun z => h34 ((n_lt (b := 34) (by omega) (by omega)).mp z)), if_neg (show ¬ Int32.ofNat (K p1) ≤ (38 : Int32) from fun z => absurd ((n_le (b := 38) (by omega) (by omega)).mp z) (by omega))]
      obtain ⟨g1, g2⟩ := c_refL (G := G) b1
      obtain ⟨I2, e2, f2, r2⟩ := c_dead (G := G) (n := n0) (md := 3) (by omega) (by rw [nd_3] at hnd1; show 3 ≤ n0; omega) g2 (Int32.ofNat d) (0 : Int32)
      rw [eg, e2, rb_go]
      exact ⟨_, rfl, ((f1.tr g1).tr f2).tr (c_add_f _ _ _), c_add_d r2 _ _⟩
  | inr q =>
    rw [hr] at r1
    rw [sb_r rfl]
    obtain ⟨g1, g2⟩ := c_cmD (G := G) r1
    obtain ⟨I2, e2, f2, r2⟩ := c_dead (G := G) (n := n0) (md := 3) (by omega) (by rw [nd_3] at hnd1; show 3 ≤ n0; omega) g2 (Int32.ofNat d) (0 : Int32)
    rw [e2, rb_go]
    exact ⟨_, rfl, ((f1.tr g1).tr f2).tr (c_add_f _ _ _), c_add_d r2 _ _⟩
theorem c_all : ∀ (n md : Nat), md ≤ 6 → cM K V T nm G n md := by
  intro n
  induction n with
  | zero =>
    intro md hm d p I e len no hd hnd
    unfold nd at hnd
    split at hnd
    · omega
    · split at hnd
      · omega
      · split at hnd
        · omega
        · split at hnd
          · omega
          · split at hnd
            · omega
            · split at hnd <;> omega
  | succ n ih =>
    intro md hm
    rcases (show md = 0 ∨ md = 1 ∨ md = 2 ∨ md = 3 ∨ md = 4 ∨ md = 5 ∨ md = 6 by omega) with rfl | rfl | rfl | rfl | rfl | rfl | rfl
    · exact c_ch0 (ih 1 (by omega))
    · exact c_ch1 (ih 2 (by omega))
    · exact c_si (ih 2 (by omega)) (ih 0 (by omega)) (ih 3 (by omega))
    · exact c_ch3 (ih 4 (by omega))
    · exact c_ch4 (ih 5 (by omega))
    · exact c_va (ih 6 (by omega)) (ih 3 (by omega)) (ih 5 (by omega))
    · exact c_pa (ih 3 (by omega))
end CPB
