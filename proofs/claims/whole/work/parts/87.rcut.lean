/-! the reference cuts the tape -/
theorem bI_r0 : (List.range 257).all (fun b => decide (b = 256 ∨ ((am_tix (am_tB.getD 2 (0, [])).2 ((bI b).toUInt32 % 65536).toInt32 < 0 ↔ sgi b = 42) ∧ (sgi b = 42 ∨ (rk (sgi b) = 50 + b ∧ 1 ≤ b ∧ b < 128))))) = true := by decide +kernel
theorem bI_r {b : Nat} (hb : b ≤ 255) : (am_tix (am_tB.getD 2 (0, [])).2 ((bI b).toUInt32 % 65536).toInt32 < 0 ↔ sgi b = 42) ∧ (sgi b = 42 ∨ (rk (sgi b) = 50 + b ∧ 1 ≤ b ∧ b < 128)) := (of_decide_eq_true (b_all bI_r0 (b := b) (by omega))).resolve_left (by omega)
theorem rI_L1 {I : am_I} {G : am_G} {b : Nat} (hb : b ≤ 256) (h : qL b = true) : ¬ f_X14_isLetter I G (bI b) = 0 := bI_L1 (I := I) (G := G) hb h
theorem rI_L2 {I : am_I} {G : am_G} {b : Nat} (hb : b ≤ 256) (h : qL b = false) : f_X14_isLetter I G (bI b) = 0 := bI_L2 (I := I) (G := G) hb h
theorem rI_D1 {I : am_I} {G : am_G} {b : Nat} (hb : b ≤ 256) (h : qD b = true) : ¬ f_X14_isDigit I G (bI b) = 0 := bI_D1 (I := I) (G := G) hb h
theorem rI_D2 {I : am_I} {G : am_G} {b : Nat} (hb : b ≤ 256) (h : qD b = false) : f_X14_isDigit I G (bI b) = 0 := bI_D2 (I := I) (G := G) hb h
theorem lv_inj0 : (List.range 257).all (fun a => (List.range 257).all (fun b => !(qW a && qW b && (lv a == lv b)) || a == b)) = true := by decide +kernel
theorem lv_inj {a b : Nat} (ha : a ≤ 256) (hb : b ≤ 256) (h1 : qW a = true) (h2 : qW b = true) (h : lv a = lv b) : a = b := by
  have := b_all (b_all (p := fun a => (List.range 257).all (fun b => !(qW a && qW b && (lv a == lv b)) || a == b)) lv_inj0 ha) hb
  rw [h1, h2, h] at this
  simpa using this
theorem cd_inj {B B' : Nat → Nat} {s s' : Nat} : ∀ (n n' : Nat), (∀ i, i < n → B (s + i) ≤ 256 ∧ qW (B (s + i)) = true) → (∀ i, i < n' → B' (s' + i) ≤ 256 ∧ qW (B' (s' + i)) = true) → cd B s n = cd B' s' n' → n = n' ∧ ∀ i, i < n → B (s + i) = B' (s' + i)
  | 0, 0, _, _, _ => ⟨rfl, fun i hi => by omega⟩
  | 0, n' + 1, _, h2, h => by
    have a2 := h2 n' (by omega)
    have b2 := (bI_v a2.1).2.2.2.1 a2.2
    have : cd B s 0 = 0 := rfl
    have : cd B' s' (n' + 1) = cd B' s' n' * 37 + lv (B' (s' + n')) := rfl
    omega
  | n + 1, 0, h1, _, h => by
    have a1 := h1 n (by omega)
    have b1 := (bI_v a1.1).2.2.2.1 a1.2
    have : cd B' s' 0 = 0 := rfl
    have : cd B s (n + 1) = cd B s n * 37 + lv (B (s + n)) := rfl
    omega
  | n + 1, n' + 1, h1, h2, h => by
    have a1 := h1 n (by omega)
    have b1 := (bI_v a1.1).2.2.2.1 a1.2
    have a2 := h2 n' (by omega)
    have b2 := (bI_v a2.1).2.2.2.1 a2.2
    have e1 : cd B s (n + 1) = cd B s n * 37 + lv (B (s + n)) := rfl
    have e2 : cd B' s' (n' + 1) = cd B' s' n' * 37 + lv (B' (s' + n')) := rfl
    have e3 : lv (B (s + n)) = lv (B' (s' + n')) := by omega
    have e4 : cd B s n = cd B' s' n' := by omega
    obtain ⟨c1, c2⟩ := cd_inj n n' (fun i hi => h1 i (by omega)) (fun i hi => h2 i (by omega)) e4
    subst c1
    refine ⟨rfl, fun i hi => ?_⟩
    by_cases hin : i = n
    · rw [hin]; exact lv_inj a1.1 a2.1 a1.2 a2.2 e3
    · exact c2 i (by omega)
theorem cd_cg {B B' : Nat → Nat} {s s' : Nat} : ∀ (n : Nat), (∀ i, i < n → B (s + i) = B' (s' + i)) → cd B s n = cd B' s' n
  | 0, _ => rfl
  | n + 1, h => by
    show cd B s n * 37 + lv (B (s + n)) = cd B' s' n * 37 + lv (B' (s' + n))
    rw [cd_cg n (fun i hi => h i (by omega)), h n (by omega)]
/-- the words -/
def wl (k : Nat) : List Int32 := (am_tB.getD (3 + k) (0, [])).2
def wB (k j : Nat) : Nat := ((wl k).getD j 0).toInt.toNat
theorem wl_ok : (List.range 24).all (fun k => decide (cd (wB k) 0 (wl k).length = kwN.getD k 0 ∧ (wl k).length ≤ 8) && (List.range 9).all (fun j => decide ((wl k).length ≤ j ∨ ((wl k).getD j 0 = Int32.ofNat (wB k j) ∧ wB k j ≤ 255 ∧ qW (wB k j) = true)))) = true := by decide +kernel
theorem wl_at {k : Nat} (hk : k < 24) : cd (wB k) 0 (wl k).length = kwN.getD k 0 ∧ (wl k).length ≤ 8 ∧ ∀ j, j < (wl k).length → (wl k).getD j 0 = Int32.ofNat (wB k j) ∧ wB k j ≤ 255 ∧ qW (wB k j) = true := by
  have h := List.all_eq_true.mp wl_ok k (List.mem_range.mpr hk)
  rw [Bool.and_eq_true] at h
  have h1 := of_decide_eq_true h.1
  refine ⟨h1.1, h1.2, fun j hj => ?_⟩
  exact (of_decide_eq_true (List.all_eq_true.mp h.2 j (List.mem_range.mpr (by omega)))).resolve_left (by omega)
/-- the tape in the reference's cells -/
def tpR (B : Nat → Nat) (ln : Nat) (I : am_I) : Prop := I 79 2 = Int32.ofNat ln ∧ ln ≤ 2000 ∧ (∀ i, i < ln → I 80 i = Int32.ofNat (B i) ∧ B i ≤ 255) ∧ ∀ i, ln ≤ i → B i = 256
section RT
variable {B : Nat → Nat} {ln : Nat} {I : am_I} {G : am_G}
theorem tpR.le (h : tpR B ln I) (i : Nat) : B i ≤ 256 := by
  by_cases hi : i < ln
  · have := (h.2.2.1 i hi).2; omega
  · rw [h.2.2.2 i (by omega)]; exact Nat.le_refl _
theorem tpR.lt (h : tpR B ln I) {i : Nat} (hb : ¬ B i = 256) : i < ln := by
  by_cases hi : i < ln
  · exact hi
  · exact absurd (h.2.2.2 i (by omega)) hb
theorem tpR.kept {J : am_I} (h : tpR B ln I) (h2 : J 79 2 = I 79 2) (h8 : J 80 = I 80) : tpR B ln J := by
  unfold tpR
  rw [h2, h8]
  exact h
theorem r_by (h : tpR B ln I) {a : Nat} (ha : a ≤ 3000) : q_X14_byteOf_79 I G (Int32.ofNat a) ∧ f_X14_byteOf_79 I G (Int32.ofNat a) = bI (B a) := by
  have hl := h.2.1
  constructor
  · refine ⟨fun _ => trivial, fun z => ⟨(n_in (by omega)).mpr ?_, trivial⟩⟩
    rw [h.1, n_le (by omega) (by omega)] at z
    omega
  · unfold f_X14_byteOf_79
    rw [h.1]
    by_cases hi : a < ln
    · obtain ⟨e1, e2⟩ := h.2.2.1 a hi
      rw [if_neg (fun z => absurd ((n_le (by omega) (by omega)).mp z) (by omega)), n_cl (by omega), e1]
      unfold bI
      rw [if_neg (by omega)]
    · rw [if_pos ((n_le (by omega) (by omega)).mpr (by omega)), h.2.2.2 a (by omega)]
      rfl
theorem r_wd1 (hT : tpR B ln I) {a len k : Nat} (hk : k < 24) (hlen : (wl k).length = len) (ha : a + len ≤ ln) (N : Nat) (R : Option (Int32 × am_I × am_G)) (hR : ∀ n, N ≤ n → L_X14_word_79 n 0 I G (Int32.ofNat a) (Int32.ofNat len) (Int32.ofNat (k + 1)) 0 0 = R) : ∀ (m j n : Nat), j + m = len → N + m + 2 ≤ n → L_X14_word_79 n 1 I G (Int32.ofNat a) (Int32.ofNat len) (Int32.ofNat k) (1 : Int32) (Int32.ofNat j) = if (List.range m).all (fun i => B (a + (j + i)) == wB k (j + i)) = true then some (Int32.ofNat k, I, G) else R := by
  have hl := hT.2.1
  obtain ⟨w1', w2, w3⟩ := wl_at hk
  intro m
  induction m with
  | zero =>
    intro j n hj hn
    obtain ⟨n, rfl⟩ : ∃ n', n = n' + 1 := ⟨n - 1, by omega⟩
    rw [L_X14_word_79_1, if_neg (by decide), if_pos ((n_le (by omega) (by omega)).mpr (by omega)), if_neg (by decide)]
    rfl
  | succ m ih =>
    intro j n hj hn
    obtain ⟨n, rfl⟩ : ∃ n', n = n' + 1 := ⟨n - 1, by omega⟩
    obtain ⟨e1, e2, e3⟩ := w3 j (by omega)
    obtain ⟨f1, f2⟩ := hT.2.2.1 (a + j) (by omega)
    rw [L_X14_word_79_1, if_neg (by decide), if_neg (fun z => absurd ((n_le (by omega) (by omega)).mp z) (by omega)), rg_pos ((n_in (by omega)).mpr (by omega)), n_cl (by omega)]
    have e4 : (am_tB.getD (3 + k) (0, [])).2 = wl k := rfl
    rw [e4, rg_pos ⟨by rw [n_ti (by omega)]; omega, by rw [n_ti (by omega)]; omega⟩, n_add, rg_pos ((n_in (by omega)).mpr (by omega)), n_tn (by omega), e1, n_cl (by omega), f1, n_inc]
    have hall : (List.range (m + 1)).all (fun i => B (a + (j + i)) == wB k (j + i)) = (B (a + j) == wB k j && (List.range m).all (fun i => B (a + (j + 1 + i)) == wB k (j + 1 + i))) := by
      rw [List.range_succ_eq_map, List.all_cons, List.all_map]
      congr 1
      congr 1
      funext i
      show (B (a + (j + (i + 1))) == wB k (j + (i + 1))) = _
      rw [show j + (i + 1) = j + 1 + i by omega]
    rw [hall]
    by_cases hb : B (a + j) = wB k j
    · rw [if_pos (by rw [hb]), ih (j + 1) n (by omega) (by omega), hb, beq_self_eq_true, Bool.true_and]
    · rw [if_neg (fun z => hb ((n_eq (by omega) (by omega)).mp z).symm)]
      obtain ⟨n, rfl⟩ : ∃ n', n = n' + 1 := ⟨n - 1, by omega⟩
      rw [L_X14_word_79_1, if_pos rfl, if_pos rfl, n_inc, hR n (by omega), if_neg (by rw [show (B (a + j) == wB k j) = false from beq_eq_false_iff_ne.mpr hb, Bool.false_and]; decide)]
theorem rk_w {k : Nat} (h : k < 24) : rk k = k := by
  have h1 : (List.range 24).all (fun k => rk k == k) = true := by decide +kernel
  exact eq_of_beq (List.all_eq_true.mp h1 k (List.mem_range.mpr h))
theorem r_wd0 (hT : tpR B ln I) {a len : Nat} (ha : a + len ≤ ln) (hq : ∀ i, i < len → qW (B (a + i)) = true) : ∀ (m k n : Nat), k + m = 24 → (len + 6) * m + 1 ≤ n → L_X14_word_79 n 0 I G (Int32.ofNat a) (Int32.ofNat len) (Int32.ofNat k) 0 0 = some (Int32.ofNat (rk (kwf (cd B a len) m k)), I, G) := by
  have hl := hT.2.1
  intro m
  induction m with
  | zero =>
    intro k n hk hn
    obtain ⟨n, rfl⟩ : ∃ n', n = n' + 1 := ⟨n - 1, by omega⟩
    rw [L_X14_word_79_0, if_pos ((n_le (by omega) (by omega)).mpr (by omega))]
    rfl
  | succ m ih =>
    intro k n hk hn
    rw [Nat.mul_succ] at hn
    obtain ⟨n, rfl⟩ : ∃ n', n = n' + 1 := ⟨n - 1, by omega⟩
    have hk24 : k < 24 := by omega
    obtain ⟨w1', w2, w3⟩ := wl_at hk24
    have e4 : (am_tB.getD (3 + k) (0, [])).2 = wl k := rfl
    have hR : ∀ n, (len + 6) * m + 1 ≤ n → L_X14_word_79 n 0 I G (Int32.ofNat a) (Int32.ofNat len) (Int32.ofNat (k + 1)) 0 0 = some (Int32.ofNat (rk (kwf (cd B a len) m (k + 1))), I, G) := fun n hn => ih (k + 1) n (by omega) hn
    rw [L_X14_word_79_0, if_neg (fun z => absurd ((n_le (by omega) (by omega)).mp z) (by omega)), rg_pos ((n_in (by omega)).mpr (by omega)), n_cl (by omega), e4]
    unfold kwf
    by_cases hlen : (wl k).length = len
    · rw [if_pos (by rw [hlen]), show (0 : Int32) = Int32.ofNat 0 from rfl, r_wd1 (G := G) hT hk24 hlen ha _ _ hR len 0 n (by omega) (by omega)]
      by_cases hc : kwN.getD k 0 = cd B a len
      · rw [if_pos hc, rk_w hk24]
        have hi := cd_inj (B := wB k) (B' := B) (s := 0) (s' := a) (wl k).length len (fun i hi => by rw [Nat.zero_add]; have := w3 i hi; exact ⟨by omega, this.2.2⟩) (fun i hi => ⟨hT.le _, hq i hi⟩) (by rw [w1', hc])
        rw [if_pos (List.all_eq_true.mpr (fun i hi' => by
          have h1 := hi.2 i (by have := List.mem_range.mp hi'; omega)
          rw [Nat.zero_add] at h1
          rw [Nat.zero_add, h1]
          exact beq_self_eq_true _))]
      · rw [if_neg hc]
        rw [if_neg (fun z => hc (by
          rw [← w1', hlen]
          refine cd_cg len (fun i hi => ?_)
          have := eq_of_beq (List.all_eq_true.mp z i (List.mem_range.mpr hi))
          rw [Nat.zero_add] at this
          rw [Nat.zero_add, this]))]
    · have hc : ¬ kwN.getD k 0 = cd B a len := by
        intro hc
        have hi := cd_inj (B := wB k) (B' := B) (s := 0) (s' := a) (wl k).length len (fun i hi => by rw [Nat.zero_add]; have := w3 i hi; exact ⟨by omega, this.2.2⟩) (fun i hi => ⟨hT.le _, hq i hi⟩) (by rw [w1', hc])
        exact hlen hi.1
      rw [if_neg (fun z => hlen ((n_eq (by omega) (by omega)).mp z)), if_neg hc]
      obtain ⟨n, rfl⟩ : ∃ n', n = n' + 1 := ⟨n - 1, by omega⟩
      rw [L_X14_word_79_1, if_pos rfl, if_pos rfl, n_inc]
      exact hR n (by omega)
theorem r_word (hT : tpR B ln I) {a len : Nat} (ha : a + len ≤ ln) (hl10 : len ≤ 10) (hq : ∀ i, i < len → qW (B (a + i)) = true) : R_X14_word_79 I G (Int32.ofNat a) (Int32.ofNat len) = some (Int32.ofNat (rk (kwi (cd B a len))), I, G) := by
  have h : (len + 6) * 24 ≤ 384 := by omega
  exact r_wd0 hT ha hq 24 0 FU rfl (by unfold FU; omega)
/-- the run -/
theorem r_k0 (hT : tpR B ln I) {q : Nat → Bool} {b : Nat} (hb : b ≤ 256) (hq : (qL b = true ∧ q = qW) ∨ (qL b = false ∧ q = qD)) (v1 v2 : Int32) (N : Nat) (R : Option (Int32 × am_I × am_G)) : ∀ (m e n : Nat), e + m = ln → N + 2 * m + 1 ≤ n → (∀ n', N ≤ n' → L_X14_kindAt_79 n' 2 I G v1 v2 (bI b) (Int32.ofNat (ru q B m e)) 0 = R) → L_X14_kindAt_79 n 0 I G v1 v2 (bI b) (Int32.ofNat e) 0 = R := by
  have hl := hT.2.1
  have hqe : ∀ x, q x = (qD x || (qL b && qL x)) := by
    intro x
    rcases hq with ⟨h1, h2⟩ | ⟨h1, h2⟩
    · rw [h1, h2, Bool.true_and]; unfold qW; exact Bool.or_comm _ _
    · rw [h1, h2, Bool.false_and, Bool.or_false]
  intro m
  induction m with
  | zero =>
    intro e n he hn hR
    obtain ⟨n, rfl⟩ : ∃ n', n = n' + 1 := ⟨n - 1, by omega⟩
    obtain ⟨c1, c2⟩ := r_by (G := G) hT (a := e) (by omega)
    have h256 : B e = 256 := hT.2.2.2 e (by omega)
    rw [L_X14_kindAt_79_0, rg_pos c1, c2, h256, if_pos (rI_D2 (by omega) rfl)]
    cases hL : qL b with
    | false => rw [if_pos (rI_L2 hb hL)]; exact hR n (by omega)
    | true => rw [if_neg (rI_L1 hb hL), rg_pos c1, if_pos (rI_L2 (by omega) rfl)]; exact hR n (by omega)
  | succ m ih =>
    intro e n he hn hR
    obtain ⟨n, rfl⟩ : ∃ n', n = n' + 1 := ⟨n - 1, by omega⟩
    obtain ⟨c1, c2⟩ := r_by (G := G) hT (a := e) (by omega)
    have hbe := hT.le e
    rw [L_X14_kindAt_79_0, rg_pos c1, c2, rg_pos c1]
    have go : q (B e) = true → L_X14_kindAt_79 n 1 I G v1 v2 (bI b) (Int32.ofNat e) 0 = R := by
      intro h
      obtain ⟨n, rfl⟩ : ∃ n', n = n' + 1 := ⟨n - 1, by omega⟩
      have er : ru q B (m + 1) e = ru q B m (e + 1) := by
        show (if q (B e) = true then _ else _) = _
        rw [if_pos h]
      rw [er] at hR
      rw [L_X14_kindAt_79_1, n_inc]
      exact ih (e + 1) n (by omega) (by omega) hR
    have st : q (B e) = false → L_X14_kindAt_79 n 2 I G v1 v2 (bI b) (Int32.ofNat e) 0 = R := by
      intro h
      have er : ru q B (m + 1) e = e := by
        show (if q (B e) = true then _ else _) = _
        rw [if_neg (by rw [h]; decide)]
      rw [er] at hR
      exact hR n (by omega)
    cases hD : qD (B e) with
    | true => rw [if_neg (rI_D1 hbe hD)]; exact go (by rw [hqe, hD]; rfl)
    | false =>
      rw [if_pos (rI_D2 hbe hD)]
      cases hL : qL b with
      | false => rw [if_pos (rI_L2 hb hL)]; exact st (by rw [hqe, hD, hL]; rfl)
      | true =>
        rw [if_neg (rI_L1 hb hL)]
        cases hLe : qL (B e) with
        | true => rw [if_neg (rI_L1 hbe hLe)]; exact go (by rw [hqe, hD, hL, hLe]; rfl)
        | false => rw [if_pos (rI_L2 hbe hLe)]; exact st (by rw [hqe, hD, hL, hLe]; rfl)
theorem r_ka (hT : tpR B ln I) {a i : Nat} (ha : a ≤ ln) (hi : i ≤ 400) : ∃ I' : am_I, R_X14_kindAt_79 I G (Int32.ofNat a) (Int32.ofNat i) = some (Int32.ofNat (rk (tK B ln 0 a)), I', G) ∧ (∀ b, b ≠ 83 → I' b = I b) ∧ (∀ j, j ≠ i → I' 83 j = I 83 j) ∧ (tK B ln 0 a ≤ 40 → I' 83 i = Int32.ofNat (tE B ln 0 a - a)) := by
  have hl := hT.2.1
  have hb := hT.le a
  obtain ⟨c1, c2⟩ := r_by (G := G) hT (a := a) (by omega)
  obtain ⟨_, _, _, f60, f62, f256, f0, f128⟩ := bI_e hb
  unfold R_X14_kindAt_79
  rw [rg_pos c1, c2]
  by_cases h256 : B a = 256
  · rw [if_pos (f256.mpr h256)]
    have eK : tK B ln 0 a = 41 := by unfold tK; rw [if_pos h256]
    rw [eK]
    exact ⟨I, rfl, fun b _ => rfl, fun j _ => rfl, fun z => by omega⟩
  · have hlt := hT.lt h256
    have hb255 := (hT.2.2.1 a hlt).2
    rw [if_neg (fun z => h256 (f256.mp z)), n_inc]
    obtain ⟨n0, hn0⟩ : ∃ n, FU = n + 5000 := ⟨FU - 5000, by unfold FU; omega⟩
    have hin : vp_in (Int32.ofNat i) 401 := (n_in (by omega)).mpr (by omega)
    cases hL : qL (B a) with
    | true =>
      rw [if_neg (rI_L1 hb hL)]
      have hw : qW (B a) = true := by unfold qW; rw [hL]; rfl
      have er : rn B ln qW a = ru qW B (ln - (a + 1)) (a + 1) := by
        unfold rn
        rw [show ln - a = (ln - (a + 1)) + 1 by omega]
        show (if qW (B a) = true then _ else _) = _
        rw [if_pos hw]
      have hrb := ru_b qW B (ln - (a + 1)) (a + 1)
      have eK : tK B ln 0 a = if rn B ln qW a - a ≤ 10 then kwi (cd B a (rn B ln qW a - a)) else 42 := by
        unfold tK; rw [if_neg h256, if_neg (by omega), if_pos hL]
      have eE : tE B ln 0 a = rn B ln qW a := by
        unfold tE; rw [if_neg h256, if_neg (by omega), if_pos hL]
      refine ⟨am_up I 83 i (Int32.ofNat (rn B ln qW a - a)), ?_, fun b hb => up_row _ _ _ hb, fun j hj => by rw [up_in, if_neg hj], fun _ => by rw [am_up_self, eE]⟩
      refine r_k0 (q := qW) hT hb (Or.inl ⟨hL, rfl⟩) _ _ 6 _ (ln - (a + 1)) (a + 1) FU (by omega) (by omega) (fun n hn => ?_)
      obtain ⟨n, rfl⟩ : ∃ n', n = n' + 5 := ⟨n - 5, by omega⟩
      rw [← er, L_X14_kindAt_79_2, rg_pos hin, n_cl (by omega), n_sub (by omega), L_X14_kindAt_79_3, if_neg (rI_L1 hb hL), n_sub (by omega), eK]
      by_cases h10 : rn B ln qW a - a ≤ 10
      · rw [if_pos (show Int32.ofNat (rn B ln qW a - a) ≤ (10 : Int32) from (n_le (b := 10) (by omega) (by omega)).mpr h10), if_pos h10, L_X14_kindAt_79_5, if_neg (rI_L1 hb hL), L_X14_kindAt_79_6, n_sub (by omega), r_word (hT.kept (by rw [up_row _ _ _ (by omega)]) (up_row _ _ _ (by omega))) (by omega) h10 (fun j hj => ru_in qW B (ln - a) a (a + j) (by omega) (by show a + j < rn B ln qW a; omega)), rb_go]
      · rw [if_neg (show ¬ Int32.ofNat (rn B ln qW a - a) ≤ (10 : Int32) from fun z => h10 ((n_le (b := 10) (by omega) (by omega)).mp z)), if_neg h10, L_X14_kindAt_79_4]
        rfl
    | false =>
      rw [if_pos (rI_L2 hb hL)]
      cases hD : qD (B a) with
      | true =>
        rw [if_neg (rI_D1 hb hD)]
        have er : rn B ln qD a = ru qD B (ln - (a + 1)) (a + 1) := by
          unfold rn
          rw [show ln - a = (ln - (a + 1)) + 1 by omega]
          show (if qD (B a) = true then _ else _) = _
          rw [if_pos hD]
        have hrb := ru_b qD B (ln - (a + 1)) (a + 1)
        have eK : tK B ln 0 a = if rn B ln qD a - a ≤ 6 then 40 else 42 := by
          unfold tK; rw [if_neg h256, if_neg (by omega), if_neg (by rw [hL]; decide), if_pos hD]
        have eE : tE B ln 0 a = rn B ln qD a := by
          unfold tE; rw [if_neg h256, if_neg (by omega), if_neg (by rw [hL]; decide), if_pos hD]
        refine ⟨am_up I 83 i (Int32.ofNat (rn B ln qD a - a)), ?_, fun b hb => up_row _ _ _ hb, fun j hj => by rw [up_in, if_neg hj], fun _ => by rw [am_up_self, eE]⟩
        refine r_k0 (q := qD) hT hb (Or.inr ⟨hL, rfl⟩) _ _ 6 _ (ln - (a + 1)) (a + 1) FU (by omega) (by omega) (fun n hn => ?_)
        obtain ⟨n, rfl⟩ : ∃ n', n = n' + 5 := ⟨n - 5, by omega⟩
        rw [← er, L_X14_kindAt_79_2, rg_pos hin, n_cl (by omega), n_sub (by omega), L_X14_kindAt_79_3, if_pos (rI_L2 hb hL), n_sub (by omega), eK]
        by_cases h6 : rn B ln qD a - a ≤ 6
        · rw [if_pos (show Int32.ofNat (rn B ln qD a - a) ≤ (6 : Int32) from (n_le (b := 6) (by omega) (by omega)).mpr h6), if_pos h6, L_X14_kindAt_79_5, if_pos (rI_L2 hb hL), L_X14_kindAt_79_7]
          rfl
        · rw [if_neg (show ¬ Int32.ofNat (rn B ln qD a - a) ≤ (6 : Int32) from fun z => h6 ((n_le (b := 6) (by omega) (by omega)).mp z)), if_neg h6, L_X14_kindAt_79_4]
          rfl
      | false =>
        rw [if_pos (rI_D2 hb hD)]
        obtain ⟨d1, d2⟩ := r_by (G := G) hT (a := a + 1) (by omega)
        obtain ⟨_, _, g61, _⟩ := bI_e (hT.le (a + 1))
        obtain ⟨s1, s2⟩ := bI_r hb255
        have eK : tK B ln 0 a = if is2 B a then (if B a = 60 then 37 else 38) else sgi (B a) := by
          unfold tK; rw [if_neg h256, if_neg (by omega), if_neg (by rw [hL]; decide), if_neg (by rw [hD]; decide)]
        have eE : tE B ln 0 a = if is2 B a then a + 2 else if sgi (B a) = 42 then a else a + 1 := by
          unfold tE; rw [if_neg h256, if_neg (by omega), if_neg (by rw [hL]; decide), if_neg (by rw [hD]; decide)]
        have one : ¬ is2 B a → ∀ n, 10 ≤ n → L_X14_kindAt_79 n 10 I G (Int32.ofNat a) (Int32.ofNat i) (bI (B a)) (Int32.ofNat (a + 1)) 0 = some (Int32.ofNat (rk (tK B ln 0 a)), am_up I 83 i (1 : Int32), G) := by
          intro h2 n hn
          obtain ⟨n, rfl⟩ : ∃ n', n = n' + 8 := ⟨n - 8, by omega⟩
          rw [eK, if_neg h2, L_X14_kindAt_79_10, L_X14_kindAt_79_11, if_pos rfl, rg_pos hin, n_cl (by omega), L_X14_kindAt_79_12, if_pos rfl, L_X14_kindAt_79_16]
          by_cases h42 : sgi (B a) = 42
          · have e20 : ∀ n, L_X14_kindAt_79 (n + 1) 20 (am_up I 83 i (1 : Int32)) G (Int32.ofNat a) (Int32.ofNat i) (bI (B a)) (Int32.ofNat (a + 1)) 0 = some (Int32.ofNat (rk (sgi (B a))), am_up I 83 i (1 : Int32), G) := fun n => by rw [L_X14_kindAt_79_20, h42]; rfl
            rw [L_X14_kindAt_79_17, L_X14_kindAt_79_18, if_pos (s1.mpr h42)]
            split
            · exact e20 _
            · split
              · exact e20 _
              · exact e20 _
          · obtain ⟨t1, t2, t3⟩ := s2.resolve_left h42
            rw [if_neg (fun z => by have := f0.mp z; omega), L_X14_kindAt_79_17, if_neg (fun z => by have := f128.mp z; omega), L_X14_kindAt_79_18, if_neg (fun z => h42 (s1.mp z)), L_X14_kindAt_79_19, t1]
            congr 2
            unfold bI
            rw [if_neg h256, show (50 : Int32) = Int32.ofNat 50 from rfl, n_add]
        have fr : ∀ x, (∀ b, b ≠ 83 → (am_up I 83 i x) b = I b) ∧ (∀ j, j ≠ i → (am_up I 83 i x) 83 j = I 83 j) := fun x => ⟨fun b hb => up_row _ _ _ hb, fun j hj => by rw [up_in, if_neg hj]⟩
        have one' : ¬ is2 B a → tK B ln 0 a ≤ 40 → (am_up I 83 i (1 : Int32)) 83 i = Int32.ofNat (tE B ln 0 a - a) := by
          intro h2 hk
          rw [eK, if_neg h2] at hk
          rw [am_up_self, eE, if_neg h2, if_neg (by omega), show a + 1 - a = 1 by omega]
          rfl
        have two : (B a = 60 ∨ B a = 62) → ∃ I' : am_I, L_X14_kindAt_79 FU 8 I G (Int32.ofNat a) (Int32.ofNat i) (bI (B a)) (Int32.ofNat (a + 1)) 0 = some (Int32.ofNat (rk (tK B ln 0 a)), I', G) ∧ (∀ b, b ≠ 83 → I' b = I b) ∧ (∀ j, j ≠ i → I' 83 j = I 83 j) ∧ (tK B ln 0 a ≤ 40 → I' 83 i = Int32.ofNat (tE B ln 0 a - a)) := by
          intro h
          rw [hn0, L_X14_kindAt_79_8, rg_pos d1, d2]
          by_cases h61 : B (a + 1) = 61
          · have h2 : is2 B a := ⟨h, h61⟩
            refine ⟨am_up I 83 i (2 : Int32), ?_, (fr _).1, (fr _).2, fun _ => by rw [am_up_self, eE, if_pos h2, show a + 2 - a = 2 by omega]; rfl⟩
            rw [if_pos (g61.mpr h61), L_X14_kindAt_79_9, L_X14_kindAt_79_11, if_neg (by decide), rg_pos hin, n_cl (by omega), L_X14_kindAt_79_12, if_neg (by decide), L_X14_kindAt_79_13, eK, if_pos h2]
            by_cases h60 : B a = 60
            · rw [if_pos (f60.mpr h60), if_pos h60, L_X14_kindAt_79_14]
              rfl
            · rw [if_neg (fun z => h60 (f60.mp z)), if_neg h60, L_X14_kindAt_79_15]
              rfl
          · have h2 : ¬ is2 B a := fun z => h61 z.2
            refine ⟨am_up I 83 i (1 : Int32), ?_, (fr _).1, (fr _).2, one' h2⟩
            rw [if_neg (fun z => h61 (g61.mp z))]
            exact one h2 _ (by omega)
        by_cases h60 : B a = 60
        · rw [if_pos (f60.mpr h60)]
          exact two (Or.inl h60)
        · rw [if_neg (fun z => h60 (f60.mp z))]
          by_cases h62 : B a = 62
          · rw [if_pos (f62.mpr h62)]
            exact two (Or.inr h62)
          · have h2 : ¬ is2 B a := fun z => z.1.elim h60 h62
            rw [if_neg (fun z => h62 (f62.mp z))]
            exact ⟨am_up I 83 i (1 : Int32), one h2 FU (by omega), (fr _).1, (fr _).2, one' h2⟩
/-- what cut leaves -/
def tkR (B : Nat → Nat) (ln : Nat) (I I' : am_I) (i : Nat) : Prop := (∀ p, p < i → I' 81 p = Int32.ofNat (rk (tKK B ln p)) ∧ I' 82 p = Int32.ofNat (tS B ln p) ∧ (tKK B ln p ≤ 40 → I' 83 p = Int32.ofNat (tE B ln 0 (tS B ln p) - tS B ln p)) ∧ I' 84 p = 0 ∧ I' 85 p = 0) ∧ ∀ b, (b < 81 ∨ 85 < b) → I' b = I b
theorem tK_i {i a : Nat} (h : ¬ i = 400) : tK B ln i a = tK B ln 0 a ∧ tE B ln i a = tE B ln 0 a := by
  unfold tK tE
  rw [if_neg h, if_neg h, if_neg (show ¬ (0 : Nat) = 400 by omega), if_neg (show ¬ (0 : Nat) = 400 by omega)]
  exact ⟨rfl, rfl⟩
theorem tK_400 (a : Nat) : tK B ln 400 a = if B a = 256 then 41 else 42 := by
  unfold tK
  rw [if_pos rfl]
theorem tK_0e (hT : tpR B ln I) (a : Nat) : tK B ln 0 a = 41 ↔ B a = 256 := by
  constructor
  · intro h
    by_cases h2 : B a = 256
    · exact h2
    · exfalso
      unfold tK at h
      rw [if_neg h2, if_neg (by omega)] at h
      have h1 := (kwf_le (cd B a (rn B ln qW a - a)) 24 0 rfl).1
      have h3 := (bI_v (hT.le a)).2.2.2.2.1
      unfold kwi at h
      split at h
      · split at h <;> omega
      · split at h
        · split at h <;> omega
        · split at h
          · split at h <;> omega
          · omega
  · intro h; unfold tK; rw [if_pos h]
theorem tK_0le (hT : tpR B ln I) (a : Nat) : tK B ln 0 a ≤ 42 := by
  unfold tK
  have h1 := (kwf_le (cd B a (rn B ln qW a - a)) 24 0 rfl).1
  have h2 := (bI_v (hT.le a)).2.2.2.2.1
  unfold kwi
  repeat' split
  all_goals omega
theorem rk_e0 : (List.range 43).all (fun k => decide ((rk k = 900 ↔ k = 41) ∧ (rk k < 900 ↔ k ≤ 40))) = true := by decide +kernel
theorem rk_e {k : Nat} (h : k ≤ 42) : (rk k = 900 ↔ k = 41) ∧ (rk k < 900 ↔ k ≤ 40) := of_decide_eq_true (List.all_eq_true.mp rk_e0 k (List.mem_range.mpr (by omega)))
theorem tE_leR (hT : tpR B ln I) {i a : Nat} (ha : a ≤ ln) : tE B ln i a ≤ ln ∧ a ≤ tE B ln i a := by
  have hl := hT.2.1
  unfold tE
  by_cases h1 : B a = 256
  · rw [if_pos h1]; omega
  · have h2 := hT.lt h1
    rw [if_neg h1]
    by_cases h3 : i = 400
    · rw [if_pos h3]; omega
    · rw [if_neg h3]
      have r1 := ru_b qW B (ln - a) a
      have r2 := ru_b qD B (ln - a) a
      split
      · unfold rn; omega
      · split
        · unfold rn; omega
        · split
          · rename_i h5
            have := hT.lt (i := a + 1) (by rw [h5.2]; omega)
            omega
          · split <;> omega
theorem r_cu1 (hT : tpR B ln I) (v2 : Int32) (N : Nat) (Q : Option (Unit × am_I × am_G) → Prop) : ∀ (m a n : Nat), a + m = ln → N + m ≤ n → (∀ n', N ≤ n' → ∀ x, x = ru qS B m a → B x ≠ 32 → B x ≠ 10 → Q (L_X14_cut_79 n' 1 I G (Int32.ofNat x) v2)) → Q (L_X14_cut_79 n 1 I G (Int32.ofNat a) v2) := by
  have hl := hT.2.1
  intro m
  induction m with
  | zero =>
    intro a n ha hn hR
    have h256 : B a = 256 := hT.2.2.2 a (by omega)
    exact hR n (by omega) a rfl (by omega) (by omega)
  | succ m ih =>
    intro a n ha hn hR
    by_cases h : qS (B a) = true
    · obtain ⟨n, rfl⟩ : ∃ n', n = n' + 1 := ⟨n - 1, by omega⟩
      obtain ⟨c1, c2⟩ := r_by (G := G) hT (a := a) (by omega)
      obtain ⟨e32, e10, _⟩ := bI_e (hT.le a)
      have er : ru qS B (m + 1) a = ru qS B m (a + 1) := by
        show (if qS (B a) = true then _ else _) = _
        rw [if_pos h]
      rw [er] at hR
      have hh : B a = 32 ∨ B a = 10 := by
        simpa [qS] using h
      rw [L_X14_cut_79_1, rg_pos c1, c2]
      by_cases h32 : B a = 32
      · rw [if_pos (e32.mpr h32), n_inc]
        exact ih (a + 1) n (by omega) (by omega) hR
      · rw [if_neg (fun z => h32 (e32.mp z)), rg_pos c1, if_pos (e10.mpr (hh.resolve_left h32)), n_inc]
        exact ih (a + 1) n (by omega) (by omega) hR
    · have er : ru qS B (m + 1) a = a := by
        show (if qS (B a) = true then _ else _) = _
        rw [if_neg h]
      rw [er] at hR
      exact hR n (by omega) a rfl (fun z => h (by unfold qS; rw [z]; rfl)) (fun z => h (by unfold qS; rw [z]; rfl))
theorem r_cul {I0 : am_I} (hT0 : tpR B ln I0) {T : Nat} (hTT : T ≤ 400) (hK : ∀ p, p < T → tKK B ln p ≤ 40) (h41 : 41 ≤ tKK B ln T) : ∀ (m i n a : Nat) (I : am_I), i + m = 401 → i ≤ T → 2010 * m ≤ n → a ≤ ln → rn B ln qS a = tS B ln i → tkR B ln I0 I i → ∃ I' : am_I, L_X14_cut_79 n 0 I G (Int32.ofNat a) (Int32.ofNat i) = some ((), I', G) ∧ tkR B ln I0 I' (T + 1) := by
  intro m
  induction m with
  | zero => intro i n a I h1 h2 h3 h4 h5 h6; omega
  | succ m ih =>
    intro i n a I him hiT hmn ha ht hW
    obtain ⟨n, rfl⟩ : ∃ n', n = n' + 1 := ⟨n - 1, by omega⟩
    obtain ⟨w1', w2⟩ := hW
    have hT : tpR B ln I := hT0.kept (by rw [w2 79 (by omega)]) (w2 80 (by omega))
    have hl := hT.2.1
    have hrb := ru_b qS B (ln - a) a
    have hin : vp_in (Int32.ofNat i) 401 := (n_in (by omega)).mpr (by omega)
    obtain ⟨x, hx⟩ : ∃ x, x = tS B ln i := ⟨_, rfl⟩
    have hxl : x ≤ ln := by rw [hx, ← ht]; show ru qS B (ln - a) a ≤ ln; omega
    obtain ⟨J, hJ⟩ : ∃ J : am_I, J = am_up (am_up (am_up I 82 i (Int32.ofNat x)) 84 i (0 : Int32)) 85 i (0 : Int32) := ⟨_, rfl⟩
    have j82 : J 82 = w1 (I 82) i (Int32.ofNat x) := by rw [hJ, up_row _ _ _ (by omega), up_row _ _ _ (by omega), up_w1]
    have j84 : J 84 = w1 (I 84) i (0 : Int32) := by rw [hJ, up_row _ _ _ (by omega), up_w1, up_row _ _ _ (by omega)]
    have j85 : J 85 = w1 (I 85) i (0 : Int32) := by rw [hJ, up_w1, up_row _ _ _ (by omega), up_row _ _ _ (by omega)]
    have jo : ∀ b, b ≠ 82 → b ≠ 84 → b ≠ 85 → J b = I b := fun b z1 z2 z3 => by rw [hJ, up_row _ _ _ z3, up_row _ _ _ z2, up_row _ _ _ z1]
    obtain ⟨I1, e1, f1, f2, f3⟩ := r_ka (G := G) (i := i) (hT.kept (J := J) (by rw [jo 79 (by omega) (by omega) (by omega)]) (jo 80 (by omega) (by omega) (by omega))) hxl (by omega)
    have hK42 : tKK B ln i ≤ 42 := by
      unfold tKK
      by_cases h : i = 400
      · rw [h, tK_400]; split <;> omega
      · rw [(tK_i h).1]; exact tK_0le hT _
    have key : ∀ y, y = Int32.ofNat (rk (tKK B ln i)) → tkR B ln I0 (am_up I1 81 i y) (i + 1) := by
      intro y hy
      subst hy
      refine ⟨fun p hp => ?_, fun b hb => by rw [up_row _ _ _ (by omega), f1 b (by omega), jo b (by omega) (by omega) (by omega), w2 b hb]⟩
      have g82 : am_up I1 81 i (Int32.ofNat (rk (tKK B ln i))) 82 = J 82 := by rw [up_row _ _ _ (by omega), f1 82 (by omega)]
      have g83 : am_up I1 81 i (Int32.ofNat (rk (tKK B ln i))) 83 = I1 83 := up_row _ _ _ (by omega)
      have g84 : am_up I1 81 i (Int32.ofNat (rk (tKK B ln i))) 84 = J 84 := by rw [up_row _ _ _ (by omega), f1 84 (by omega)]
      have g85 : am_up I1 81 i (Int32.ofNat (rk (tKK B ln i))) 85 = J 85 := by rw [up_row _ _ _ (by omega), f1 85 (by omega)]
      rw [g82, g83, g84, g85, j82, j84, j85]
      by_cases hpi : p = i
      · subst hpi
        refine ⟨am_up_self _ _ _ _, by show (if p = p then _ else _) = _; rw [if_pos rfl, hx], fun z => ?_, by show (if p = p then _ else _) = _; rw [if_pos rfl], by show (if p = p then _ else _) = _; rw [if_pos rfl]⟩
        have h400 : ¬ p = 400 := by
          intro h
          subst h
          unfold tKK at z
          rw [tK_400] at z
          split at z <;> omega
        unfold tKK at z
        rw [(tK_i h400).1] at z
        rw [← hx] at z ⊢
        exact f3 z
      · obtain ⟨b1, b2, b3, b4, b5⟩ := w1' p (by omega)
        refine ⟨by rw [up_in, if_neg hpi, f1 81 (by omega), jo 81 (by omega) (by omega) (by omega)]; exact b1, by show (if p = i then _ else _) = _; rw [if_neg hpi]; exact b2, fun z => by rw [f2 p hpi, jo 83 (by omega) (by omega) (by omega)]; exact b3 z, by show (if p = i then _ else _) = _; rw [if_neg hpi]; exact b4, by show (if p = i then _ else _) = _; rw [if_neg hpi]; exact b5⟩
    have goal : ∀ (n : Nat), 2010 * m ≤ n → ∀ y, y = Int32.ofNat (rk (tKK B ln i)) → (if y < (900 : Int32) then rg (vp_in (Int32.ofNat i) 401) (L_X14_cut_79 n 0 (am_up I1 81 i y) G (Int32.ofNat x + I1 83 i) (Int32.ofNat i + (1 : Int32))) else some ((), am_up I1 81 i y, G)) = (if tKK B ln i ≤ 40 then L_X14_cut_79 n 0 (am_up I1 81 i y) G (Int32.ofNat (tE B ln i x)) (Int32.ofNat (i + 1)) else some ((), am_up I1 81 i y, G)) := by
      intro n hn y hy
      have hrl := rk_lt (tKK B ln i)
      by_cases h40 : tKK B ln i ≤ 40
      · have h400 : ¬ i = 400 := by
          intro h
          subst h
          unfold tKK at h40
          rw [tK_400] at h40
          split at h40 <;> omega
        rw [if_pos (show y < (900 : Int32) by rw [hy]; exact (n_lt (b := 900) (by omega) (by omega)).mpr ((rk_e hK42).2.mpr h40)), if_pos h40, rg_pos hin, n_inc]
        have h0 : tK B ln 0 x ≤ 40 := by rw [← (tK_i h400).1, hx]; exact h40
        rw [f3 h0, n_add, (tK_i h400).2]
        have := (tE_leR hT (i := 0) hxl).2
        rw [show x + (tE B ln 0 x - x) = tE B ln 0 x by omega]
      · rw [if_neg (show ¬ y < (900 : Int32) by rw [hy]; exact fun z => h40 ((rk_e hK42).2.mp ((n_lt (b := 900) (by omega) (by omega)).mp z))), if_neg h40]
    have fin : ∀ (n : Nat), 2010 * m ≤ n → ∀ y, y = Int32.ofNat (rk (tKK B ln i)) → ∃ I' : am_I, (if tKK B ln i ≤ 40 then L_X14_cut_79 n 0 (am_up I1 81 i y) G (Int32.ofNat (tE B ln i x)) (Int32.ofNat (i + 1)) else some ((), am_up I1 81 i y, G)) = some ((), I', G) ∧ tkR B ln I0 I' (T + 1) := by
      intro n hn y hy
      by_cases h40 : tKK B ln i ≤ 40
      · have hne : ¬ i = T := fun z => by rw [z] at h40; omega
        rw [if_pos h40]
        exact ih (i + 1) n (tE B ln i x) (am_up I1 81 i y) (by omega) (by omega) hn (tE_leR hT hxl).1 (by rw [hx]; rfl) (key y hy)
      · have he : i = T := by
          by_cases h : i < T
          · exact absurd (hK i h) h40
          · omega
        rw [if_neg h40]
        subst he
        exact ⟨_, rfl, key y hy⟩
    rw [L_X14_cut_79_0, if_neg (show ¬ (400 : Int32) < Int32.ofNat i from fun z => absurd ((n_lt (a := 400) (by omega) (by omega)).mp z) (by omega))]
    refine r_cu1 (G := G) hT (Int32.ofNat i) (2010 * m + 1) (fun o => ∃ I' : am_I, o = some ((), I', G) ∧ tkR B ln I0 I' (T + 1)) (ln - a) a n (by omega) (by omega) (fun n' hn' z hz h32 h10 => ?_)
    have hzx : z = x := by rw [hz, hx]; exact ht
    subst hzx
    obtain ⟨n', rfl⟩ : ∃ k, n' = k + 1 := ⟨n' - 1, by omega⟩
    obtain ⟨c1, c2⟩ := r_by (G := G) hT (a := z) (by omega)
    obtain ⟨e32, e10, _⟩ := bI_e (hT.le z)
    show ∃ I' : am_I, L_X14_cut_79 (n' + 1) 1 I G (Int32.ofNat z) (Int32.ofNat i) = some ((), I', G) ∧ tkR B ln I0 I' (T + 1)
    have ec : (Int32.ofNat i).toNatClampNeg = i := n_cl (by omega)
    rw [L_X14_cut_79_1, rg_pos c1, c2, if_neg (fun q => h32 (e32.mp q)), rg_pos c1, if_neg (fun q => h10 (e10.mp q)), rg_pos hin, rg_pos hin, rg_pos hin, ec, ← hJ, e1, rb_go, rg_pos hin]
    by_cases h400 : i = 400
    · rw [if_pos (show Int32.ofNat i = (400 : Int32) by rw [h400]; rfl), rg_pos hin, am_up_self]
      have hr0 := tK_0le hT z
      by_cases h256 : B z = 256
      · have e41 : tK B ln 0 z = 41 := (tK_0e hT z).mpr h256
        have eKK : tKK B ln i = 41 := by unfold tKK; rw [h400, tK_400, ← h400, ← hx, if_pos h256]
        rw [if_pos (show Int32.ofNat (rk (tK B ln 0 z)) = (900 : Int32) by rw [e41]; rfl), rg_pos hin]
        have hg := goal n' (by omega) (Int32.ofNat (rk (tK B ln 0 z))) (by rw [e41, eKK])
        rw [hg]
        exact fin n' (by omega) _ (by rw [e41, eKK])
      · have e41 : ¬ tK B ln 0 z = 41 := fun q => h256 ((tK_0e hT z).mp q)
        have eKK : tKK B ln i = 42 := by unfold tKK; rw [h400, tK_400, ← h400, ← hx, if_neg h256]
        have hrl := rk_lt (tK B ln 0 z)
        rw [if_neg (show ¬ Int32.ofNat (rk (tK B ln 0 z)) = (900 : Int32) from fun q => e41 ((rk_e hr0).1.mp ((n_eq (b := 900) (by omega) (by omega)).mp q))), rg_pos hin, rg_pos hin, am_up_up, am_up_self]
        have hg := goal n' (by omega) (901 : Int32) (by rw [eKK]; rfl)
        rw [hg]
        exact fin n' (by omega) _ (by rw [eKK]; rfl)
    · have eKK : tKK B ln i = tK B ln 0 z := by unfold tKK; rw [(tK_i h400).1, hx]
      rw [if_neg (show ¬ Int32.ofNat i = (400 : Int32) from fun q => h400 ((n_eq (b := 400) (by omega) (by omega)).mp q)), rg_pos hin, am_up_self]
      have hg := goal n' (by omega) (Int32.ofNat (rk (tK B ln 0 z))) (by rw [eKK])
      rw [hg]
      exact fin n' (by omega) _ (by rw [eKK])
theorem r_cut (hT : tpR B ln I) {T : Nat} (hTT : T ≤ 400) (hK : ∀ p, p < T → tKK B ln p ≤ 40) (h41 : 41 ≤ tKK B ln T) : ∃ I' : am_I, R_X14_cut_79 I G = some ((), I', G) ∧ tkR B ln I I' (T + 1) :=
  r_cul hT hTT hK h41 401 0 FU 0 I rfl (by omega) (by unfold FU; omega) (by omega) rfl ⟨fun p hp => by omega, fun b _ => rfl⟩
/-- a number's value -/
theorem r_nal (hT : tpR B ln I) {p a N : Nat} (hp : p ≤ 400) (h82 : I 82 p = Int32.ofNat a) (h83 : I 83 p = Int32.ofNat N) (ha : a + N ≤ ln) (hN : N ≤ 6) (hd : ∀ i, i < N → qD (B (a + i)) = true) : ∀ (m j n : Nat), j + m = N → m < n → L_X14_numberAt_79 n 0 I G (Int32.ofNat p) (Int32.ofNat (nv B a j)) (Int32.ofNat j) = some (Int32.ofNat (nv B a N), I, G) := by
  have hl := hT.2.1
  intro m
  induction m with
  | zero =>
    intro j n hj hn
    obtain ⟨n, rfl⟩ : ∃ n', n = n' + 1 := ⟨n - 1, by omega⟩
    rw [L_X14_numberAt_79_0, rg_pos ((n_in (by omega)).mpr (by omega)), n_cl (by omega), h83, if_pos ((n_le (by omega) (by omega)).mpr (by omega)), show j = N by omega]
  | succ m ih =>
    intro j n hj hn
    obtain ⟨n, rfl⟩ : ∃ n', n = n' + 1 := ⟨n - 1, by omega⟩
    have hdj : 48 ≤ B (a + j) ∧ B (a + j) ≤ 57 := of_decide_eq_true (hd j (by omega))
    have e8 := (hT.2.2.1 (a + j) (by omega)).1
    rw [L_X14_numberAt_79_0, rg_pos ((n_in (by omega)).mpr (by omega)), n_cl (by omega), h83, if_neg (fun z => absurd ((n_le (by omega) (by omega)).mp z) (by omega)), rg_pos ((n_in (by omega)).mpr (by omega)), h82, n_add, rg_pos ((n_in (by omega)).mpr (by omega)), n_cl (by omega), e8, n_inc]
    rw [show ((10 : Int32) * Int32.ofNat (nv B a j) + Int32.ofNat (B (a + j))) - (48 : Int32) = Int32.ofNat (nv B a (j + 1)) by
      rw [show (10 : Int32) = Int32.ofNat 10 from rfl, n_mul, n_add, show (48 : Int32) = Int32.ofNat 48 from rfl, n_sub (by omega)]
      congr 1
      show _ = nv B a j * 10 + (B (a + j) - 48)
      omega]
    exact ih (j + 1) n (by omega) (by omega)
theorem tK_40 (hT : tpR B ln I) {i a : Nat} (ha : a ≤ ln) (h : tK B ln i a = 40) : ¬ i = 400 ∧ qL (B a) = false ∧ qD (B a) = true ∧ rn B ln qD a - a ≤ 6 ∧ tE B ln i a = rn B ln qD a := by
  have h1 := (kwf_le (cd B a (rn B ln qW a - a)) 24 0 rfl)
  have h2 := (bI_v (hT.le a)).2.2.2.2.1
  unfold tK at h
  unfold kwi at h
  unfold tE
  by_cases c1 : B a = 256
  · rw [if_pos c1] at h; omega
  · rw [if_neg c1] at h ⊢
    by_cases c2 : i = 400
    · rw [if_pos c2] at h; omega
    · rw [if_neg c2] at h ⊢
      by_cases c3 : qL (B a) = true
      · rw [if_pos c3] at h; split at h <;> omega
      · rw [if_neg c3] at h ⊢
        by_cases c4 : qD (B a) = true
        · rw [if_pos c4] at h ⊢
          by_cases c5 : rn B ln qD a - a ≤ 6
          · exact ⟨c2, Bool.eq_false_iff.mpr c3, c4, c5, rfl⟩
          · rw [if_neg c5] at h; omega
        · rw [if_neg c4] at h
          split at h
          · split at h <;> omega
          · omega
theorem tK_39 (hT : tpR B ln I) {i a : Nat} (ha : a ≤ ln) (h : tK B ln i a = 39) : ¬ i = 400 ∧ qL (B a) = true ∧ rn B ln qW a - a ≤ 10 ∧ tE B ln i a = rn B ln qW a := by
  have h2 := (bI_v (hT.le a)).2.2.2.2.1
  unfold tK at h
  unfold tE
  by_cases c1 : B a = 256
  · rw [if_pos c1] at h; omega
  · rw [if_neg c1] at h ⊢
    by_cases c2 : i = 400
    · rw [if_pos c2] at h; omega
    · rw [if_neg c2] at h ⊢
      by_cases c3 : qL (B a) = true
      · rw [if_pos c3] at h ⊢
        by_cases c5 : rn B ln qW a - a ≤ 10
        · exact ⟨c2, c3, c5, rfl⟩
        · rw [if_neg c5] at h; omega
      · rw [if_neg c3] at h
        by_cases c4 : qD (B a) = true
        · rw [if_pos c4] at h; split at h <;> omega
        · rw [if_neg c4] at h
          split at h
          · split at h <;> omega
          · omega
theorem tS_le (hT : tpR B ln I) : ∀ i, tS B ln i ≤ ln
  | 0 => by
    have := ru_b qS B (ln - 0) 0
    show ru qS B (ln - 0) 0 ≤ ln
    omega
  | i + 1 => by
    have h := (tE_leR hT (i := i) (tS_le hT i)).1
    have := ru_b qS B (ln - tE B ln i (tS B ln i)) (tE B ln i (tS B ln i))
    show ru qS B (ln - tE B ln i (tS B ln i)) (tE B ln i (tS B ln i)) ≤ ln
    omega
end RT
