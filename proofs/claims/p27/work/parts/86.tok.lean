/-! bytes and tokens; the class cuts the tape -/
def qL (b : Nat) : Bool := decide (97 ≤ b ∧ b ≤ 122)
def qD (b : Nat) : Bool := decide (48 ≤ b ∧ b ≤ 57)
def qW (b : Nat) : Bool := qL b || qD b
def qS (b : Nat) : Bool := b == 32 || b == 10
def bI (b : Nat) : Int32 := if b = 256 then -1 else Int32.ofNat b
def lv (b : Nat) : Nat := if qL b = true then b - 96 else b - 21
def sgL : List Nat := [40, 41, 91, 93, 59, 44, 43, 45, 42, 47, 60, 62, 61]
def sgi (b : Nat) : Nat := (List.range 13).foldr (fun j r => if sgL.getD j 0 = b then 24 + j else r) 42
def kwN : List Nat := [30059336, 99, 1046797086, 75899451, 224012, 1856278475211, 969441, 172977, 37744078, 839653, 12850, 329128, 8420961, 755, 1176170, 5825, 36016323, 564588237, 259005, 19741, 1891, 573, 18144, 17858]
def kwf (c : Nat) : Nat → Nat → Nat
  | 0, _ => 39
  | m + 1, k => if kwN.getD k 0 = c then k else kwf c m (k + 1)
def kwi (c : Nat) : Nat := kwf c 24 0
theorem b_all {p : Nat → Bool} (h : (List.range 257).all p = true) {b : Nat} (hb : b ≤ 256) : p b = true := List.all_eq_true.mp h b (List.mem_range.mpr (by omega))
theorem bI_L0 : (List.range 257).all (fun b => decide ((if bI b < (97 : Int32) then (0 : Int32) else (if (122 : Int32) < bI b then (0 : Int32) else (1 : Int32))) = if qL b = true then 1 else 0)) = true := by decide +kernel
theorem bI_D0 : (List.range 257).all (fun b => decide ((if bI b < (48 : Int32) then (0 : Int32) else (if (57 : Int32) < bI b then (0 : Int32) else (1 : Int32))) = if qD b = true then 1 else 0)) = true := by decide +kernel
theorem bI_e0 : (List.range 257).all (fun b => decide ((bI b = (32 : Int32) ↔ b = 32) ∧ (bI b = (10 : Int32) ↔ b = 10) ∧ (bI b = (61 : Int32) ↔ b = 61) ∧ (bI b = (60 : Int32) ↔ b = 60) ∧ (bI b = (62 : Int32) ↔ b = 62) ∧ (bI b = (-1 : Int32) ↔ b = 256) ∧ (bI b ≤ (0 : Int32) ↔ (b = 0 ∨ b = 256)) ∧ ((128 : Int32) ≤ bI b ↔ (128 ≤ b ∧ b < 256)))) = true := by decide +kernel
theorem bI_v0 : (List.range 257).all (fun b => decide ((qL b = true → ((bI b - (97 : Int32)) + (1 : Int32)).toInt64 = Int64.ofNat (lv b)) ∧ (qL b = false → qD b = true → ((bI b - (48 : Int32)) + (27 : Int32)).toInt64 = Int64.ofNat (lv b)) ∧ (qD b = true → (bI b - (48 : Int32)).toInt64 = Int64.ofNat (b - 48)) ∧ (qW b = true → 1 ≤ lv b ∧ lv b ≤ 36) ∧ (sgi b ≤ 36 ∨ sgi b = 42) ∧ 24 ≤ sgi b)) = true := by decide +kernel
theorem bI_s0 : (List.range 257).all (fun b => decide (b = 256 ∨ (am_tix (am_tB.getD 1 (0, [])).2 ((bI b).toUInt32 % 65536).toInt32 = if sgi b = 42 then -1 else Int32.ofNat (sgi b - 24)))) = true := by decide +kernel
theorem bI_L {I : am_I} {G : am_G} {b : Nat} (hb : b ≤ 256) : f_X9_isLetter I G (bI b) = if qL b = true then 1 else 0 := of_decide_eq_true (b_all bI_L0 hb)
theorem bI_D {I : am_I} {G : am_G} {b : Nat} (hb : b ≤ 256) : f_X9_isDigit I G (bI b) = if qD b = true then 1 else 0 := of_decide_eq_true (b_all bI_D0 hb)
theorem bI_e {b : Nat} (hb : b ≤ 256) : (bI b = (32 : Int32) ↔ b = 32) ∧ (bI b = (10 : Int32) ↔ b = 10) ∧ (bI b = (61 : Int32) ↔ b = 61) ∧ (bI b = (60 : Int32) ↔ b = 60) ∧ (bI b = (62 : Int32) ↔ b = 62) ∧ (bI b = (-1 : Int32) ↔ b = 256) ∧ (bI b ≤ (0 : Int32) ↔ (b = 0 ∨ b = 256)) ∧ ((128 : Int32) ≤ bI b ↔ (128 ≤ b ∧ b < 256)) := of_decide_eq_true (b_all bI_e0 hb)
theorem bI_v {b : Nat} (hb : b ≤ 256) : (qL b = true → ((bI b - (97 : Int32)) + (1 : Int32)).toInt64 = Int64.ofNat (lv b)) ∧ (qL b = false → qD b = true → ((bI b - (48 : Int32)) + (27 : Int32)).toInt64 = Int64.ofNat (lv b)) ∧ (qD b = true → (bI b - (48 : Int32)).toInt64 = Int64.ofNat (b - 48)) ∧ (qW b = true → 1 ≤ lv b ∧ lv b ≤ 36) ∧ (sgi b ≤ 36 ∨ sgi b = 42) ∧ 24 ≤ sgi b := of_decide_eq_true (b_all bI_v0 hb)
theorem bI_s {b : Nat} (hb : b ≤ 255) : am_tix (am_tB.getD 1 (0, [])).2 ((bI b).toUInt32 % 65536).toInt32 = if sgi b = 42 then -1 else Int32.ofNat (sgi b - 24) := (of_decide_eq_true (b_all bI_s0 (b := b) (by omega))).resolve_left (by omega)
theorem bI_L1 {I : am_I} {G : am_G} {b : Nat} (hb : b ≤ 256) (h : qL b = true) : ¬ f_X9_isLetter I G (bI b) = 0 := by rw [bI_L hb, if_pos h]; decide
theorem bI_L2 {I : am_I} {G : am_G} {b : Nat} (hb : b ≤ 256) (h : qL b = false) : f_X9_isLetter I G (bI b) = 0 := by rw [bI_L hb, h]; rfl
theorem bI_D1 {I : am_I} {G : am_G} {b : Nat} (hb : b ≤ 256) (h : qD b = true) : ¬ f_X9_isDigit I G (bI b) = 0 := by rw [bI_D hb, if_pos h]; decide
theorem bI_D2 {I : am_I} {G : am_G} {b : Nat} (hb : b ≤ 256) (h : qD b = false) : f_X9_isDigit I G (bI b) = 0 := by rw [bI_D hb, h]; rfl
/-! runs of bytes -/
def ru (q : Nat → Bool) (B : Nat → Nat) : Nat → Nat → Nat
  | 0, a => a
  | n + 1, a => if q (B a) = true then ru q B n (a + 1) else a
theorem ru_b (q : Nat → Bool) (B : Nat → Nat) : ∀ (n a : Nat), a ≤ ru q B n a ∧ ru q B n a ≤ a + n
  | 0, a => ⟨Nat.le_refl _, Nat.le_refl _⟩
  | n + 1, a => by
    unfold ru
    split
    · have := ru_b q B n (a + 1); omega
    · omega
theorem ru_in (q : Nat → Bool) (B : Nat → Nat) : ∀ (n a i : Nat), a ≤ i → i < ru q B n a → q (B i) = true
  | 0, a, i, h1, h2 => by unfold ru at h2; omega
  | n + 1, a, i, h1, h2 => by
    unfold ru at h2
    by_cases h : q (B a) = true
    · rw [if_pos h] at h2
      by_cases h3 : i = a
      · rw [h3]; exact h
      · exact ru_in q B n (a + 1) i (by omega) h2
    · rw [if_neg h] at h2; omega
theorem ru_st (q : Nat → Bool) (B : Nat → Nat) : ∀ (n a : Nat), q (B (a + n)) = false → q (B (ru q B n a)) = false
  | 0, a, h => h
  | n + 1, a, h => by
    unfold ru
    by_cases h1 : q (B a) = true
    · rw [if_pos h1]; exact ru_st q B n (a + 1) (by rw [show a + 1 + n = a + (n + 1) by omega]; exact h)
    · rw [if_neg h1]; exact Bool.eq_false_iff.mpr h1
def cd (B : Nat → Nat) (s : Nat) : Nat → Nat
  | 0 => 0
  | n + 1 => cd B s n * 37 + lv (B (s + n))
def nv (B : Nat → Nat) (s : Nat) : Nat → Nat
  | 0 => 0
  | n + 1 => nv B s n * 10 + (B (s + n) - 48)
theorem cd_lt {B : Nat → Nat} {s : Nat} : ∀ (n : Nat), (∀ i, i < n → lv (B (s + i)) ≤ 36) → cd B s n < 37 ^ n
  | 0, _ => by simp [cd]
  | n + 1, h => by
    have h1 := cd_lt n (fun i hi => h i (by omega))
    have h2 := h n (by omega)
    rw [Nat.pow_succ]
    unfold cd
    omega
theorem nv_lt {B : Nat → Nat} {s : Nat} : ∀ (n : Nat), (∀ i, i < n → B (s + i) ≤ 57) → nv B s n < 10 ^ n
  | 0, _ => by simp [nv]
  | n + 1, h => by
    have h1 := nv_lt n (fun i hi => h i (by omega))
    have h2 := h n (by omega)
    rw [Nat.pow_succ]
    unfold nv
    omega
/-! tokens -/
section TK
variable (B : Nat → Nat) (ln : Nat)
def rn (q : Nat → Bool) (a : Nat) : Nat := ru q B (ln - a) a
abbrev is2 (a : Nat) : Prop := (B a = 60 ∨ B a = 62) ∧ B (a + 1) = 61
def tK (i a : Nat) : Nat := if B a = 256 then 41 else if i = 400 then 42 else if qL (B a) = true then (if rn B ln qW a - a ≤ 10 then kwi (cd B a (rn B ln qW a - a)) else 42) else if qD (B a) = true then (if rn B ln qD a - a ≤ 6 then 40 else 42) else if is2 B a then (if B a = 60 then 37 else 38) else sgi (B a)
def tE (i a : Nat) : Nat := if B a = 256 then a else if i = 400 then a else if qL (B a) = true then rn B ln qW a else if qD (B a) = true then rn B ln qD a else if is2 B a then a + 2 else if sgi (B a) = 42 then a else a + 1
def tC (a : Nat) : Nat := cd B a (rn B ln qW a - a)
def tV (a : Nat) : Nat := nv B a (rn B ln qD a - a)
end TK
/-- the tape in the class's cells -/
def tpC (B : Nat → Nat) (ln : Nat) (I : am_I) : Prop := I 1 5 = Int32.ofNat ln ∧ ln ≤ 2000 ∧ (∀ i, i < ln → I 2 i = Int32.ofNat (B i) ∧ B i ≤ 255) ∧ ∀ i, ln ≤ i → B i = 256
theorem am_up_up {α : Type} (f : Nat → Nat → α) (a k : Nat) (x y : α) : am_up (am_up f a k x) a k y = am_up f a k y := by
  funext b j
  rw [am_up_lit2, am_up_lit2, am_up_lit2]
  split <;> rfl
theorem kwN_ok : (List.range 24).all (fun k => decide (kwL.getD k 0 = Int64.ofNat (kwN.getD k 0) ∧ kwN.getD k 0 < 9000000000000000000)) = true := by decide +kernel
theorem kwN_at {k : Nat} (hk : k < 24) : kwL.getD k 0 = Int64.ofNat (kwN.getD k 0) ∧ kwN.getD k 0 < 9000000000000000000 := of_decide_eq_true (List.all_eq_true.mp kwN_ok k (List.mem_range.mpr hk))
theorem l_of {n : Nat} (h : n < 9000000000000000000) : (Int64.ofNat n).toInt = (n : Int) := Int64.toInt_ofNat_of_lt (by omega)
section CT
variable {B : Nat → Nat} {ln : Nat} {I : am_I} {G : am_G}
theorem tpC.le (h : tpC B ln I) (i : Nat) : B i ≤ 256 := by
  by_cases hi : i < ln
  · have := (h.2.2.1 i hi).2; omega
  · rw [h.2.2.2 i (by omega)]; exact Nat.le_refl _
theorem tpC.lt (h : tpC B ln I) {i : Nat} (hb : ¬ B i = 256) : i < ln := by
  by_cases hi : i < ln
  · exact hi
  · exact absurd (h.2.2.2 i (by omega)) hb
theorem c_bh (h : tpC B ln I) {a : Nat} (ha : a ≤ 3000) : f_X9_byteHere_1 (am_up I 1 7 (Int32.ofNat a)) G = bI (B a) := by
  have hl := h.2.1
  unfold f_X9_byteHere_1
  rw [am_up_self, show am_up I 1 7 (Int32.ofNat a) 1 5 = I 1 5 by rw [up_in, if_neg (by omega)], h.1, show am_up I 1 7 (Int32.ofNat a) 2 = I 2 from up_row _ _ _ (by omega), if_neg (n_nlt0 a (by omega))]
  by_cases hi : a < ln
  · obtain ⟨e1, e2⟩ := h.2.2.1 a hi
    rw [if_neg (fun z => absurd ((n_le (by omega) (by omega)).mp z) (by omega)), if_neg (fun z => absurd ((n_le (by omega) (by omega)).mp z) (by omega)), n_cl (by omega), e1]
    unfold bI
    rw [if_neg (by omega)]
  · rw [if_pos ((n_le (by omega) (by omega)).mpr (by omega)), h.2.2.2 a (by omega)]
    rfl
theorem c_pe (h : tpC B ln I) {a : Nat} (ha : a ≤ 3000) : ((am_up I 1 7 (Int32.ofNat a)) 1 5 ≤ (am_up I 1 7 (Int32.ofNat a)) 1 7) ↔ ln ≤ a := by
  have hl := h.2.1
  rw [am_up_self, up_in, if_neg (by omega), h.1, n_le (by omega) (by omega)]
theorem c_w1 (hk : ∀ k, k < 24 → G 3 k = kwL.getD k 0) {c : Nat} (hc : c < 9000000000000000000) (v1 : Int32) : ∀ (m k n : Nat), k + m = 24 → m < n → L_X9_readWord_1 n 1 I G v1 (Int64.ofNat c) (Int32.ofNat k) = some (Int32.ofNat (kwf c m k), I, if kwf c m k = 39 then am_up G 1 8 (Int64.ofNat c) else G) := by
  intro m
  induction m with
  | zero =>
    intro k n hkm hn
    obtain ⟨n, rfl⟩ : ∃ n', n = n' + 1 := ⟨n - 1, by omega⟩
    rw [L_X9_readWord_1_1, if_pos ((n_le (by omega) (by omega)).mpr (by omega))]
    rfl
  | succ m ih =>
    intro k n hkm hn
    obtain ⟨n, rfl⟩ : ∃ n', n = n' + 1 := ⟨n - 1, by omega⟩
    obtain ⟨e1, e2⟩ := kwN_at (k := k) (by omega)
    rw [L_X9_readWord_1_1, if_neg (fun z => absurd ((n_le (by omega) (by omega)).mp z) (by omega)), rg_pos ((n_in (by omega)).mpr (by omega)), n_cl (by omega), hk k (by omega), e1]
    unfold kwf
    by_cases h : kwN.getD k 0 = c
    · rw [if_pos ((am_cmp_eq _ _).mpr (by rw [h])), if_pos h, if_neg (by omega)]
    · rw [if_neg (fun z => h (by have := (am_cmp_eq _ _).mp z; rw [l_of e2, l_of hc] at this; omega)), if_neg h, n_inc]
      exact ih (k + 1) n (by omega) (by omega)
theorem l_add (a b : Nat) : Int64.ofNat a + Int64.ofNat b = Int64.ofNat (a + b) := (Int64.ofNat_add a b).symm
theorem l_mul (a b : Nat) : Int64.ofNat a * Int64.ofNat b = Int64.ofNat (a * b) := (Int64.ofNat_mul a b).symm
theorem cd_s {s a : Nat} (hs : s ≤ a) : cd B s (a + 1 - s) = cd B s (a - s) * 37 + lv (B a) := by
  rw [show a + 1 - s = (a - s) + 1 by omega]
  show cd B s (a - s) * 37 + lv (B (s + (a - s))) = _
  rw [show s + (a - s) = a by omega]
theorem nv_s {s a : Nat} (hs : s ≤ a) : nv B s (a + 1 - s) = nv B s (a - s) * 10 + (B a - 48) := by
  rw [show a + 1 - s = (a - s) + 1 by omega]
  show nv B s (a - s) * 10 + (B (s + (a - s)) - 48) = _
  rw [show s + (a - s) = a by omega]
theorem c_w0 (hT : tpC B ln I) (hk : ∀ k, k < 24 → G 3 k = kwL.getD k 0) : ∀ (m a n s : Nat), a + m = ln → s ≤ a → 26 + m ≤ n → (∀ i, s ≤ i → i < a → qW (B i) = true) → L_X9_readWord_1 n 0 (am_up I 1 7 (Int32.ofNat a)) G (Int32.ofNat s) (Int64.ofNat (cd B s (a - s))) 0 = if ru qW B m a - s ≤ 10 then some (Int32.ofNat (kwi (cd B s (ru qW B m a - s))), am_up I 1 7 (Int32.ofNat (ru qW B m a)), if kwi (cd B s (ru qW B m a - s)) = 39 then am_up G 1 8 (Int64.ofNat (cd B s (ru qW B m a - s))) else G) else some ((42 : Int32), am_up I 1 7 (Int32.ofNat (ru qW B m a)), G) := by
  have hl := hT.2.1
  have fin : ∀ (a n s : Nat), a ≤ ln → s ≤ a → 25 ≤ n → (∀ i, s ≤ i → i < a → qW (B i) = true) → (if (((am_up I 1 7 (Int32.ofNat a)) 1 7) - Int32.ofNat s) ≤ (10 : Int32) then L_X9_readWord_1 n 1 (am_up I 1 7 (Int32.ofNat a)) G (Int32.ofNat s) (Int64.ofNat (cd B s (a - s))) (0 : Int32) else some ((42 : Int32), (am_up I 1 7 (Int32.ofNat a)), G)) = if a - s ≤ 10 then some (Int32.ofNat (kwi (cd B s (a - s))), am_up I 1 7 (Int32.ofNat a), if kwi (cd B s (a - s)) = 39 then am_up G 1 8 (Int64.ofNat (cd B s (a - s))) else G) else some ((42 : Int32), am_up I 1 7 (Int32.ofNat a), G) := by
    intro a n s ha hs hn hq
    rw [am_up_self, n_sub hs]
    by_cases h10 : a - s ≤ 10
    · rw [if_pos (show Int32.ofNat (a - s) ≤ (10 : Int32) from (n_le (b := 10) (by omega) (by omega)).mpr h10), if_pos h10]
      refine c_w1 hk ?_ _ 24 0 n rfl (by omega)
      have h1 := cd_lt (B := B) (s := s) (a - s) (fun i hi => ((bI_v (hT.le (s + i))).2.2.2.1 (hq (s + i) (by omega) (by omega))).2)
      have h2 : (37 : Nat) ^ (a - s) ≤ 37 ^ 10 := Nat.pow_le_pow_right (by omega) h10
      have h3 : (37 : Nat) ^ 10 < 9000000000000000000 := by decide
      omega
    · rw [if_neg (show ¬ Int32.ofNat (a - s) ≤ (10 : Int32) from fun z => h10 ((n_le (b := 10) (by omega) (by omega)).mp z)), if_neg h10]
  intro m
  induction m with
  | zero =>
    intro a n s hm hs hn hq
    obtain ⟨n, rfl⟩ : ∃ n', n = n' + 1 := ⟨n - 1, by omega⟩
    rw [L_X9_readWord_1_0, if_pos ((c_pe hT (by omega)).mpr (by omega))]
    exact fin a n s (by omega) hs (by omega) hq
  | succ m ih =>
    intro a n s hm hs hn hq
    obtain ⟨n, rfl⟩ : ∃ n', n = n' + 1 := ⟨n - 1, by omega⟩
    have hb := hT.le a
    have hv := bI_v hb
    rw [L_X9_readWord_1_0, if_neg (fun z => absurd ((c_pe hT (by omega)).mp z) (by omega)), c_bh hT (by omega), am_up_self, n_inc, am_up_up]
    have nx : qW (B a) = true → L_X9_readWord_1 n 0 (am_up I 1 7 (Int32.ofNat (a + 1))) G (Int32.ofNat s) (Int64.ofNat (cd B s (a - s)) * (37) + Int64.ofNat (lv (B a))) 0 = if ru qW B (m + 1) a - s ≤ 10 then some (Int32.ofNat (kwi (cd B s (ru qW B (m + 1) a - s))), am_up I 1 7 (Int32.ofNat (ru qW B (m + 1) a)), if kwi (cd B s (ru qW B (m + 1) a - s)) = 39 then am_up G 1 8 (Int64.ofNat (cd B s (ru qW B (m + 1) a - s))) else G) else some ((42 : Int32), am_up I 1 7 (Int32.ofNat (ru qW B (m + 1) a)), G) := by
      intro hw
      have e : Int64.ofNat (cd B s (a - s)) * (37) + Int64.ofNat (lv (B a)) = Int64.ofNat (cd B s (a + 1 - s)) := by
        rw [cd_s hs, show (37 : Int64) = Int64.ofNat 37 from rfl, l_mul, l_add]
      have er : ru qW B (m + 1) a = ru qW B m (a + 1) := by
        show (if qW (B a) = true then _ else _) = _
        rw [if_pos hw]
      rw [e, er]
      refine ih (a + 1) n s (by omega) (by omega) (by omega) (fun i h1 h2 => ?_)
      by_cases hi : i = a
      · rw [hi]; exact hw
      · exact hq i h1 (by omega)
    cases hL : qL (B a) with
    | true =>
      rw [if_neg (bI_L1 hb hL), if_neg (bI_L1 hb hL), hv.1 hL]
      exact nx (by unfold qW; rw [hL]; rfl)
    | false =>
      rw [if_pos (bI_L2 hb hL)]
      cases hD : qD (B a) with
      | true =>
        rw [if_neg (bI_D1 hb hD), if_pos (bI_L2 hb hL), hv.2.1 hL hD]
        exact nx (by unfold qW; rw [hL, hD]; rfl)
      | false =>
        rw [if_pos (bI_D2 hb hD)]
        have hw : ¬ qW (B a) = true := by unfold qW; rw [hL, hD]; decide
        have er : ru qW B (m + 1) a = a := by
          show (if qW (B a) = true then _ else _) = _
          rw [if_neg hw]
        rw [er]
        have := fin a n s (by omega) hs (by omega) hq
        rw [am_up_self] at this
        exact this
theorem c_n0 (hT : tpC B ln I) : ∀ (m a n s : Nat), a + m = ln → s ≤ a → 1 + m ≤ n → L_X9_readNumber_1 n 0 (am_up I 1 7 (Int32.ofNat a)) G (Int32.ofNat s) (Int64.ofNat (nv B s (a - s))) = some (Int32.ofNat (if ru qD B m a - s ≤ 6 then 40 else 42), am_up I 1 7 (Int32.ofNat (ru qD B m a)), am_up G 1 8 (Int64.ofNat (nv B s (ru qD B m a - s)))) := by
  have hl := hT.2.1
  have fin : ∀ (a s : Nat), a ≤ ln → s ≤ a → (if (((am_up I 1 7 (Int32.ofNat a)) 1 7) - Int32.ofNat s) ≤ (6 : Int32) then some ((40 : Int32), (am_up I 1 7 (Int32.ofNat a)), am_up G 1 8 (Int64.ofNat (nv B s (a - s)))) else some ((42 : Int32), (am_up I 1 7 (Int32.ofNat a)), am_up G 1 8 (Int64.ofNat (nv B s (a - s))))) = some (Int32.ofNat (if a - s ≤ 6 then 40 else 42), am_up I 1 7 (Int32.ofNat a), am_up G 1 8 (Int64.ofNat (nv B s (a - s)))) := by
    intro a s ha hs
    rw [am_up_self, n_sub hs]
    by_cases h6 : a - s ≤ 6
    · rw [if_pos (show Int32.ofNat (a - s) ≤ (6 : Int32) from (n_le (b := 6) (by omega) (by omega)).mpr h6), if_pos h6]
      rfl
    · rw [if_neg (show ¬ Int32.ofNat (a - s) ≤ (6 : Int32) from fun z => h6 ((n_le (b := 6) (by omega) (by omega)).mp z)), if_neg h6]
      rfl
  intro m
  induction m with
  | zero =>
    intro a n s hm hs hn
    obtain ⟨n, rfl⟩ : ∃ n', n = n' + 1 := ⟨n - 1, by omega⟩
    rw [L_X9_readNumber_1_0, if_pos ((c_pe hT (by omega)).mpr (by omega))]
    exact fin a s (by omega) hs
  | succ m ih =>
    intro a n s hm hs hn
    obtain ⟨n, rfl⟩ : ∃ n', n = n' + 1 := ⟨n - 1, by omega⟩
    have hb := hT.le a
    have hv := bI_v hb
    rw [L_X9_readNumber_1_0, if_neg (fun z => absurd ((c_pe hT (by omega)).mp z) (by omega)), c_bh hT (by omega), am_up_self, n_inc, am_up_up]
    cases hD : qD (B a) with
    | true =>
      have er : ru qD B (m + 1) a = ru qD B m (a + 1) := by
        show (if qD (B a) = true then _ else _) = _
        rw [if_pos hD]
      rw [if_neg (bI_D1 hb hD), hv.2.2.1 hD, er, show Int64.ofNat (nv B s (a - s)) * (10) + Int64.ofNat (B a - 48) = Int64.ofNat (nv B s (a + 1 - s)) by rw [nv_s hs, show (10 : Int64) = Int64.ofNat 10 from rfl, l_mul, l_add]]
      exact ih (a + 1) n s (by omega) (by omega) (by omega)
    | false =>
      rw [if_pos (bI_D2 hb hD)]
      have er : ru qD B (m + 1) a = a := by
        show (if qD (B a) = true then _ else _) = _
        rw [if_neg (by rw [hD]; decide)]
      rw [er]
      have := fin a s (by omega) hs
      rw [am_up_self] at this
      exact this
theorem c_sy (hT : tpC B ln I) {a : Nat} (ha : a < ln) (hL : ¬ a = 0 ∨ True) : R_X9_readSymbol_1 (am_up I 1 7 (Int32.ofNat a)) G = some (Int32.ofNat (if is2 B a then (if B a = 60 then 37 else 38) else sgi (B a)), am_up I 1 7 (Int32.ofNat (if is2 B a then a + 2 else if sgi (B a) = 42 then a else a + 1)), G) := by
  have hl := hT.2.1
  have hb := (hT.2.2.1 a ha).2
  have hs := bI_s hb
  have hv := (bI_v (b := B a) (by omega)).2.2.2.2
  obtain ⟨_, _, e61, e60, e62, _⟩ := bI_e (hT.le (a + 1))
  obtain ⟨_, _, _, f60, f62, _⟩ := bI_e (hT.le a)
  unfold R_X9_readSymbol_1
  rw [c_bh hT (by omega), hs, am_up_self, n_inc, am_up_up, c_bh hT (by omega), n_inc, am_up_up]
  by_cases h42 : sgi (B a) = 42
  · have n2 : ¬ is2 B a := by
      rintro ⟨h | h, _⟩ <;> rw [h] at h42 <;> exact absurd h42 (by decide)
    rw [if_pos h42, if_neg (by decide), if_neg n2, if_neg n2, if_pos h42, h42]
    rfl
  · rw [if_neg h42, if_pos (show (0 : Int32) ≤ Int32.ofNat (sgi (B a) - 24) from (n_le (a := 0) (by omega) (by omega)).mpr (by omega)), show (24 : Int32) + Int32.ofNat (sgi (B a) - 24) = Int32.ofNat (sgi (B a)) by rw [show (24 : Int32) = Int32.ofNat 24 from rfl, n_add]; congr 1; omega]
    by_cases h61 : B (a + 1) = 61
    · rw [if_pos (e61.mpr h61)]
      by_cases h60 : B a = 60
      · rw [if_pos (f60.mpr h60), if_pos (f60.mpr h60), if_pos ⟨Or.inl h60, h61⟩, if_pos h60, if_pos ⟨Or.inl h60, h61⟩]
        rfl
      · rw [if_neg (fun z => h60 (f60.mp z))]
        by_cases h62 : B a = 62
        · rw [if_pos (f62.mpr h62), if_neg (fun z => h60 (f60.mp z)), if_pos ⟨Or.inr h62, h61⟩, if_neg h60, if_pos ⟨Or.inr h62, h61⟩]
          rfl
        · have n2 : ¬ is2 B a := fun z => z.1.elim h60 h62
          rw [if_neg (fun z => h62 (f62.mp z)), if_neg n2, if_neg n2, if_neg h42]
    · have n2 : ¬ is2 B a := fun z => h61 z.2
      rw [if_neg (fun z => h61 (e61.mp z)), if_neg n2, if_neg n2, if_neg h42]
theorem tE_le (hT : tpC B ln I) {i a : Nat} (ha : a ≤ ln) : tE B ln i a ≤ ln := by
  have hl := hT.2.1
  unfold tE
  by_cases h1 : B a = 256
  · rw [if_pos h1]; exact ha
  · have h2 := hT.lt h1
    rw [if_neg h1]
    by_cases h3 : i = 400
    · rw [if_pos h3]; exact ha
    · rw [if_neg h3]
      have r1 := ru_b qW B (ln - a) a
      have r2 := ru_b qD B (ln - a) a
      split
      · unfold rn; omega
      · split
        · unfold rn; omega
        · split
          · rename_i h5
            have := hT.lt (i := a + 1) (by rw [h5.2]; omega)
            omega
          · split <;> omega
theorem c_kd (hT : tpC B ln I) (hk : ∀ k, k < 24 → G 3 k = kwL.getD k 0) {a i : Nat} (ha : a ≤ ln) (hi : i ≤ 400) (h6 : I 1 6 = Int32.ofNat i) : ∃ G' : am_G, R_X9_readKind_1 (am_up I 1 7 (Int32.ofNat a)) (am_up G 1 8 (0)) = some (Int32.ofNat (tK B ln i a), am_up I 1 7 (Int32.ofNat (tE B ln i a)), G') ∧ (∀ b, b ≠ 1 → G' b = G b) ∧ (tK B ln i a = 39 → G' 1 8 = Int64.ofNat (tC B ln a)) ∧ (tK B ln i a = 40 → G' 1 8 = Int64.ofNat (tV B ln a)) := by
  have hl := hT.2.1
  have hb := hT.le a
  have hkG : ∀ k, k < 24 → (am_up G 1 8 (0)) 3 k = kwL.getD k 0 := fun k h => by rw [up_row _ _ _ (by omega)]; exact hk k h
  unfold R_X9_readKind_1
  by_cases h256 : B a = 256
  · have hla : ln ≤ a := by
      by_cases h : a < ln
      · have := (hT.2.2.1 a h).2; omega
      · omega
    rw [if_neg (show ¬ (am_up I 1 7 (Int32.ofNat a)) 1 7 < (am_up I 1 7 (Int32.ofNat a)) 1 5 from fun z => by rw [i_lt] at z; have := (c_pe hT (a := a) (by omega)).mpr hla; rw [i_le] at this; omega)]
    refine ⟨am_up G 1 8 (0), ?_, fun b hb => up_row _ _ _ hb, fun z => ?_, fun z => ?_⟩
    · unfold tK tE
      rw [if_pos h256, if_pos h256]
      rfl
    · unfold tK at z; rw [if_pos h256] at z; omega
    · unfold tK at z; rw [if_pos h256] at z; omega
  · have hlt := hT.lt h256
    have e6 : (am_up I 1 7 (Int32.ofNat a)) 1 6 = Int32.ofNat i := by rw [up_in, if_neg (by omega)]; exact h6
    rw [if_pos (show (am_up I 1 7 (Int32.ofNat a)) 1 7 < (am_up I 1 7 (Int32.ofNat a)) 1 5 by rw [i_lt]; have h := mt (c_pe hT (a := a) (by omega)).mp (by omega); rw [i_le] at h; omega), e6]
    by_cases h400 : i = 400
    · rw [if_neg (show ¬ Int32.ofNat i < (400 : Int32) from fun z => absurd ((n_lt (b := 400) (by omega) (by omega)).mp z) (by omega))]
      refine ⟨am_up G 1 8 (0), ?_, fun b hb => up_row _ _ _ hb, fun z => ?_, fun z => ?_⟩
      · unfold tK tE
        rw [if_neg h256, if_neg h256, if_pos h400, if_pos h400]
        rfl
      · unfold tK at z; rw [if_neg h256, if_pos h400] at z; omega
      · unfold tK at z; rw [if_neg h256, if_pos h400] at z; omega
    · rw [if_pos (show Int32.ofNat i < (400 : Int32) from (n_lt (b := 400) (by omega) (by omega)).mpr (by omega)), c_bh hT (by omega)]
      have hfu : ∃ n, FU = n + 5000 := ⟨FU - 5000, by unfold FU; omega⟩
      obtain ⟨n0, hn0⟩ := hfu
      cases hL : qL (B a) with
      | true =>
        have e := c_w0 (G := am_up G 1 8 (0)) hT hkG (ln - a) a FU a (by omega) (Nat.le_refl _) (by omega) (fun j h1 h2 => by omega)
        rw [Nat.sub_self] at e
        rw [if_neg (bI_L1 hb hL)]
        unfold R_X9_readWord_1
        rw [am_up_self, show (0 : Int64) = Int64.ofNat (cd B a 0) from rfl]
        rw [show L_X9_readWord_1 FU 0 (am_up I 1 7 (Int32.ofNat a)) (am_up G 1 8 (Int64.ofNat (cd B a 0))) (Int32.ofNat a) (Int64.ofNat (cd B a 0)) 0 = _ from e]
        have eK : tK B ln i a = if ru qW B (ln - a) a - a ≤ 10 then kwi (cd B a (ru qW B (ln - a) a - a)) else 42 := by
          unfold tK; rw [if_neg h256, if_neg h400, if_pos hL]; rfl
        have eE : tE B ln i a = ru qW B (ln - a) a := by
          unfold tE; rw [if_neg h256, if_neg h400, if_pos hL]; rfl
        rw [eK, eE]
        by_cases h10 : ru qW B (ln - a) a - a ≤ 10
        · rw [if_pos h10, if_pos h10]
          by_cases h39 : kwi (cd B a (ru qW B (ln - a) a - a)) = 39
          · rw [if_pos h39]
            exact ⟨_, rfl, fun b hb => by rw [up_row _ _ _ hb, up_row _ _ _ hb], fun _ => am_up_self _ _ _ _, fun z => by omega⟩
          · rw [if_neg h39]
            have h40 : ¬ kwi (cd B a (ru qW B (ln - a) a - a)) = 40 := by
              have key : ∀ m k c, k + m = 24 → ¬ kwf c m k = 40 := by
                intro m
                induction m with
                | zero => intro k c _; show ¬ 39 = 40; omega
                | succ m ih =>
                  intro k c hk
                  unfold kwf
                  split
                  · omega
                  · exact ih (k + 1) c (by omega)
              exact key 24 0 _ rfl
            exact ⟨_, rfl, fun b hb => up_row _ _ _ hb, fun z => absurd z h39, fun z => absurd z h40⟩
        · rw [if_neg h10, if_neg h10]
          exact ⟨_, rfl, fun b hb => up_row _ _ _ hb, fun z => by omega, fun z => by omega⟩
      | false =>
        rw [if_pos (bI_L2 hb hL)]
        cases hD : qD (B a) with
        | true =>
          have e := c_n0 (G := am_up G 1 8 (0)) hT (ln - a) a FU a (by omega) (Nat.le_refl _) (by omega)
          rw [Nat.sub_self] at e
          rw [if_neg (bI_D1 hb hD)]
          unfold R_X9_readNumber_1
          rw [am_up_self, show (0 : Int64) = Int64.ofNat (nv B a 0) from rfl]
          rw [show L_X9_readNumber_1 FU 0 (am_up I 1 7 (Int32.ofNat a)) (am_up G 1 8 (Int64.ofNat (nv B a 0))) (Int32.ofNat a) (Int64.ofNat (nv B a 0)) = _ from e]
          have eK : tK B ln i a = if ru qD B (ln - a) a - a ≤ 6 then 40 else 42 := by
            unfold tK; rw [if_neg h256, if_neg h400, if_neg (by rw [hL]; decide), if_pos hD]; rfl
          have eE : tE B ln i a = ru qD B (ln - a) a := by
            unfold tE; rw [if_neg h256, if_neg h400, if_neg (by rw [hL]; decide), if_pos hD]; rfl
          rw [eK, eE]
          refine ⟨_, rfl, fun b hb => by rw [up_row _ _ _ hb, up_row _ _ _ hb], fun z => ?_, fun _ => am_up_self _ _ _ _⟩
          split at z <;> omega
        | false =>
          rw [if_pos (bI_D2 hb hD), c_sy hT hlt (Or.inr trivial)]
          have eK : tK B ln i a = if is2 B a then (if B a = 60 then 37 else 38) else sgi (B a) := by
            unfold tK; rw [if_neg h256, if_neg h400, if_neg (by rw [hL]; decide), if_neg (by rw [hD]; decide)]
          have eE : tE B ln i a = if is2 B a then a + 2 else if sgi (B a) = 42 then a else a + 1 := by
            unfold tE; rw [if_neg h256, if_neg h400, if_neg (by rw [hL]; decide), if_neg (by rw [hD]; decide)]
          have hv := (bI_v hb).2.2.2.2.1
          rw [← eK, ← eE]
          refine ⟨_, rfl, fun b hb => up_row _ _ _ hb, fun z => ?_, fun z => ?_⟩
          · rw [eK] at z; split at z
            · split at z <;> omega
            · omega
          · rw [eK] at z; split at z
            · split at z <;> omega
            · omega
/-- a token is read and kept -/
def tkW (I I' : am_I) (G G' : am_G) (i a k : Nat) : Prop := I' 4 = w1 (I 4) i (Int32.ofNat k) ∧ I' 5 = w1 (I 5) i (Int32.ofNat a) ∧ I' 1 6 = Int32.ofNat (i + 1) ∧ (∀ b, b ≠ 1 → b ≠ 4 → b ≠ 5 → I' b = I b) ∧ (∀ j, j ≠ 6 → j ≠ 7 → I' 1 j = I 1 j) ∧ (∀ b, b ≠ 1 → b ≠ 6 → G' b = G b) ∧ ∀ j, j ≠ i → G' 6 j = G 6 j
theorem c_tk0 {J : am_I} {G1 : am_G} {i a k : Nat} (hi : i ≤ 400) (h6 : J 1 6 = Int32.ofNat i) (hJ : ∀ b, b ≠ 1 → J b = I b) (hJ1 : ∀ j, j ≠ 7 → J 1 j = I 1 j) (hG : ∀ b, b ≠ 1 → G1 b = G b) (hk : k ≤ 42) (x : Int32) (hx : x = Int32.ofNat a) : ∃ (v : Int32) (I' : am_I) (G' : am_G), (if (J 1 6) < 0 then (if Int32.ofNat k = (41 : Int32) then some ((0 : Int32), J, G1) else (if Int32.ofNat k = (42 : Int32) then some ((0 : Int32), J, G1) else some ((1 : Int32), J, G1))) else (if (Int32.ofNat 401) ≤ (J 1 6) then (if Int32.ofNat k = (41 : Int32) then some ((0 : Int32), J, G1) else (if Int32.ofNat k = (42 : Int32) then some ((0 : Int32), J, G1) else some ((1 : Int32), J, G1))) else (if (Int32.ofNat 401) ≤ (J 1 6) then (if Int32.ofNat k = (41 : Int32) then some ((0 : Int32), J, G1) else (if Int32.ofNat k = (42 : Int32) then some ((0 : Int32), J, G1) else some ((1 : Int32), J, G1))) else (if (Int32.ofNat 401) ≤ (J 1 6) then (if Int32.ofNat k = (41 : Int32) then some ((0 : Int32), J, G1) else (if Int32.ofNat k = (42 : Int32) then some ((0 : Int32), J, G1) else some ((1 : Int32), J, G1))) else rg (vp_in (J 1 6) 401) (rg (vp_in (J 1 6) 401) (rg (vp_in (J 1 6) 401) ((if Int32.ofNat k = (41 : Int32) then some ((0 : Int32), (am_up (am_up (am_up J 4 (J 1 6).toNatClampNeg (Int32.ofNat k)) 5 (J 1 6).toNatClampNeg x) 1 6 ((J 1 6) + (1 : Int32))), (am_up G1 6 (J 1 6).toNatClampNeg (G1 1 8))) else (if Int32.ofNat k = (42 : Int32) then some ((0 : Int32), (am_up (am_up (am_up J 4 (J 1 6).toNatClampNeg (Int32.ofNat k)) 5 (J 1 6).toNatClampNeg x) 1 6 ((J 1 6) + (1 : Int32))), (am_up G1 6 (J 1 6).toNatClampNeg (G1 1 8))) else some ((1 : Int32), (am_up (am_up (am_up J 4 (J 1 6).toNatClampNeg (Int32.ofNat k)) 5 (J 1 6).toNatClampNeg x) 1 6 ((J 1 6) + (1 : Int32))), (am_up G1 6 (J 1 6).toNatClampNeg (G1 1 8)))))))))))) = some (v, I', G') ∧ v = (if 41 ≤ k then 0 else 1) ∧ tkW I I' G G' i a k ∧ G' 6 i = G1 1 8 ∧ I' 1 7 = J 1 7 := by
  have f1 : ¬ Int32.ofNat 401 ≤ Int32.ofNat i := fun z => absurd ((n_le (by omega) (by omega)).mp z) (by omega)
  rw [h6, if_neg (n_nlt0 i (by omega)), if_neg f1, if_neg f1, if_neg f1, rg_pos ((n_in (by omega)).mpr (by omega)), rg_pos ((n_in (by omega)).mpr (by omega)), rg_pos ((n_in (by omega)).mpr (by omega)), n_cl (by omega), hx, n_inc]
  have hW : tkW I (am_up (am_up (am_up J 4 i (Int32.ofNat k)) 5 i (Int32.ofNat a)) 1 6 (Int32.ofNat (i + 1))) G (am_up G1 6 i (G1 1 8)) i a k := by
    refine ⟨?_, ?_, am_up_self _ _ _ _, fun b z1 z2 z3 => ?_, fun j z1 z2 => ?_, fun b z1 z2 => ?_, fun j z => ?_⟩
    · rw [up_row _ _ _ (by omega), up_row _ _ _ (by omega), up_w1, hJ 4 (by omega)]
    · rw [up_row _ _ _ (by omega), up_w1, up_row _ _ _ (by omega), hJ 5 (by omega)]
    · rw [up_row _ _ _ z1, up_row _ _ _ z3, up_row _ _ _ z2, hJ b z1]
    · rw [up_in, if_neg z1, up_row _ _ _ (by omega), up_row _ _ _ (by omega), hJ1 j z2]
    · rw [up_row _ _ _ z2, hG b z1]
    · rw [up_in, if_neg z, hG 6 (by omega)]
  have h7 : am_up (am_up (am_up J 4 i (Int32.ofNat k)) 5 i (Int32.ofNat a)) 1 6 (Int32.ofNat (i + 1)) 1 7 = J 1 7 := by
    rw [up_in, if_neg (by omega), up_row _ _ _ (by omega), up_row _ _ _ (by omega)]
  by_cases h41 : k = 41
  · rw [if_pos (show Int32.ofNat k = (41 : Int32) by rw [h41]; rfl)]
    exact ⟨_, _, _, rfl, by rw [if_pos (by omega)], hW, am_up_self _ _ _ _, h7⟩
  · rw [if_neg (show ¬ Int32.ofNat k = (41 : Int32) from fun z => h41 ((n_eq (b := 41) (by omega) (by omega)).mp z))]
    by_cases h42 : k = 42
    · rw [if_pos (show Int32.ofNat k = (42 : Int32) by rw [h42]; rfl)]
      exact ⟨_, _, _, rfl, by rw [if_pos (by omega)], hW, am_up_self _ _ _ _, h7⟩
    · rw [if_neg (show ¬ Int32.ofNat k = (42 : Int32) from fun z => h42 ((n_eq (b := 42) (by omega) (by omega)).mp z))]
      exact ⟨_, _, _, rfl, by rw [if_neg (by omega)], hW, am_up_self _ _ _ _, h7⟩
theorem kwf_le (c : Nat) : ∀ m k, k + m = 24 → kwf c m k ≤ 39 ∧ (kwf c m k < 24 ∨ kwf c m k = 39) := by
  intro m
  induction m with
  | zero => intro k _; exact ⟨Nat.le_refl _, Or.inr rfl⟩
  | succ m ih =>
    intro k hk
    unfold kwf
    split
    · omega
    · exact ih (k + 1) (by omega)
theorem tK_le (hT : tpC B ln I) (i a : Nat) : tK B ln i a ≤ 42 := by
  unfold tK
  have h1 := (kwf_le (cd B a (rn B ln qW a - a)) 24 0 rfl).1
  have h2 := (bI_v (hT.le a)).2.2.2.2.1
  unfold kwi
  repeat' split
  all_goals omega
/-- readToken -/
theorem c_tok (hT : tpC B ln I) (hk : ∀ k, k < 24 → G 3 k = kwL.getD k 0) {i : Nat} (hi : i ≤ 400) (h6 : I 1 6 = Int32.ofNat i) : ∀ (m a n : Nat), a + m = ln → m < n → ∃ (v : Int32) (I' : am_I) (G' : am_G), L_X9_readToken_1 n 0 (am_up I 1 7 (Int32.ofNat a)) G = some (v, I', G') ∧ v = (if 41 ≤ tK B ln i (ru qS B m a) then 0 else 1) ∧ tkW I I' G G' i (ru qS B m a) (tK B ln i (ru qS B m a)) ∧ (tK B ln i (ru qS B m a) = 39 → G' 6 i = Int64.ofNat (tC B ln (ru qS B m a))) ∧ (tK B ln i (ru qS B m a) = 40 → G' 6 i = Int64.ofNat (tV B ln (ru qS B m a))) ∧ I' 1 7 = Int32.ofNat (tE B ln i (ru qS B m a)) := by
  have hl := hT.2.1
  have fin : ∀ a, a ≤ ln → ∀ f : Int32 → am_I → am_G → Option (Int32 × am_I × am_G), (∀ (r : Int32) (J : am_I) (G1 : am_G), f r J G1 = (if (J 1 6) < 0 then (if r = (41 : Int32) then some ((0 : Int32), J, G1) else (if r = (42 : Int32) then some ((0 : Int32), J, G1) else some ((1 : Int32), J, G1))) else (if (Int32.ofNat 401) ≤ (J 1 6) then (if r = (41 : Int32) then some ((0 : Int32), J, G1) else (if r = (42 : Int32) then some ((0 : Int32), J, G1) else some ((1 : Int32), J, G1))) else (if (Int32.ofNat 401) ≤ (J 1 6) then (if r = (41 : Int32) then some ((0 : Int32), J, G1) else (if r = (42 : Int32) then some ((0 : Int32), J, G1) else some ((1 : Int32), J, G1))) else (if (Int32.ofNat 401) ≤ (J 1 6) then (if r = (41 : Int32) then some ((0 : Int32), J, G1) else (if r = (42 : Int32) then some ((0 : Int32), J, G1) else some ((1 : Int32), J, G1))) else rg (vp_in (J 1 6) 401) (rg (vp_in (J 1 6) 401) (rg (vp_in (J 1 6) 401) ((if r = (41 : Int32) then some ((0 : Int32), (am_up (am_up (am_up J 4 (J 1 6).toNatClampNeg r) 5 (J 1 6).toNatClampNeg ((am_up I 1 7 (Int32.ofNat a)) 1 7)) 1 6 ((J 1 6) + (1 : Int32))), (am_up G1 6 (J 1 6).toNatClampNeg (G1 1 8))) else (if r = (42 : Int32) then some ((0 : Int32), (am_up (am_up (am_up J 4 (J 1 6).toNatClampNeg r) 5 (J 1 6).toNatClampNeg ((am_up I 1 7 (Int32.ofNat a)) 1 7)) 1 6 ((J 1 6) + (1 : Int32))), (am_up G1 6 (J 1 6).toNatClampNeg (G1 1 8))) else some ((1 : Int32), (am_up (am_up (am_up J 4 (J 1 6).toNatClampNeg r) 5 (J 1 6).toNatClampNeg ((am_up I 1 7 (Int32.ofNat a)) 1 7)) 1 6 ((J 1 6) + (1 : Int32))), (am_up G1 6 (J 1 6).toNatClampNeg (G1 1 8))))))))))))) → ∃ (v : Int32) (I' : am_I) (G' : am_G), rb (R_X9_readKind_1 (am_up I 1 7 (Int32.ofNat a)) (am_up G 1 8 (0))) f = some (v, I', G') ∧ v = (if 41 ≤ tK B ln i a then 0 else 1) ∧ tkW I I' G G' i a (tK B ln i a) ∧ (tK B ln i a = 39 → G' 6 i = Int64.ofNat (tC B ln a)) ∧ (tK B ln i a = 40 → G' 6 i = Int64.ofNat (tV B ln a)) ∧ I' 1 7 = Int32.ofNat (tE B ln i a) := by
    intro a ha f hf
    obtain ⟨G1, e, g1, g2, g3⟩ := c_kd hT hk ha hi h6
    obtain ⟨v, I', G', r1, r2, r3, r4, r5⟩ := c_tk0 (I := I) (G := G) (J := am_up I 1 7 (Int32.ofNat (tE B ln i a))) (G1 := G1) (a := a) hi (by rw [up_in, if_neg (by omega)]; exact h6) (fun b hb => up_row _ _ _ hb) (fun j hj => by rw [up_in, if_neg hj]) g1 (tK_le hT i a) _ (am_up_self I 1 7 (Int32.ofNat a))
    refine ⟨v, I', G', ?_, r2, r3, fun z => by rw [r4]; exact g2 z, fun z => by rw [r4]; exact g3 z, by rw [r5, am_up_self]⟩
    rw [e, rb_go, hf]
    exact r1
  intro m
  induction m with
  | zero =>
    intro a n hm hn
    obtain ⟨n, rfl⟩ : ∃ n', n = n' + 1 := ⟨n - 1, by omega⟩
    rw [L_X9_readToken_1_0, if_pos ((c_pe hT (by omega)).mpr (by omega))]
    exact fin a (by omega) _ (fun r J G1 => rfl)
  | succ m ih =>
    intro a n hm hn
    obtain ⟨n, rfl⟩ : ∃ n', n = n' + 1 := ⟨n - 1, by omega⟩
    have hb := hT.le a
    obtain ⟨e32, e10, _⟩ := bI_e hb
    rw [L_X9_readToken_1_0, if_neg (fun z => absurd ((c_pe hT (by omega)).mp z) (by omega)), c_bh hT (by omega)]
    have nx : qS (B a) = true → ru qS B (m + 1) a = ru qS B m (a + 1) := fun h => by
      show (if qS (B a) = true then _ else _) = _
      rw [if_pos h]
    have e7 : am_up (am_up I 1 7 (Int32.ofNat a)) 1 7 ((am_up I 1 7 (Int32.ofNat a)) 1 7 + (1 : Int32)) = am_up I 1 7 (Int32.ofNat (a + 1)) := by rw [am_up_self, n_inc, am_up_up]
    by_cases h32 : B a = 32
    · rw [if_pos (e32.mpr h32), nx (by rw [h32]; rfl), e7]
      exact ih (a + 1) n (by omega) (by omega)
    · rw [if_neg (fun z => h32 (e32.mp z))]
      by_cases h10 : B a = 10
      · rw [if_pos (e10.mpr h10), nx (by rw [h10]; rfl), e7]
        exact ih (a + 1) n (by omega) (by omega)
      · rw [if_neg (fun z => h10 (e10.mp z))]
        have er : ru qS B (m + 1) a = a := by
          show (if qS (B a) = true then _ else _) = _
          rw [if_neg (by unfold qS; simp [h32, h10])]
        rw [er]
        exact fin a (by omega) _ (fun r J G1 => rfl)
end CT
/-! the row of tokens -/
section TR
variable (B : Nat → Nat) (ln : Nat)
def tS : Nat → Nat
  | 0 => rn B ln qS 0
  | i + 1 => rn B ln qS (tE B ln i (tS i))
def tKK (i : Nat) : Nat := tK B ln i (tS B ln i)
def tVV (i : Nat) : Nat := tV B ln (tS B ln i)
def tCC (i : Nat) : Nat := tC B ln (tS B ln i)
end TR
section CS
variable {B : Nat → Nat} {ln : Nat}
theorem tpC.kept {I I' : am_I} (h : tpC B ln I) (h5 : I' 1 5 = I 1 5) (h2 : I' 2 = I 2) : tpC B ln I' := by
  unfold tpC
  rw [h5, h2]
  exact h
/-- what scan leaves -/
def tkC (I I' : am_I) (G G' : am_G) (i : Nat) : Prop := (∀ p, p < i → I' 4 p = Int32.ofNat (tKK B ln p) ∧ I' 5 p = Int32.ofNat (tS B ln p) ∧ (tKK B ln p = 39 → G' 6 p = Int64.ofNat (tCC B ln p)) ∧ (tKK B ln p = 40 → G' 6 p = Int64.ofNat (tVV B ln p))) ∧ I' 1 6 = Int32.ofNat i ∧ (∀ b, b ≠ 1 → b ≠ 4 → b ≠ 5 → I' b = I b) ∧ (∀ j, j ≠ 6 → j ≠ 7 → I' 1 j = I 1 j) ∧ ∀ b, b ≠ 1 → b ≠ 6 → G' b = G b
theorem c_scl {I0 : am_I} {G0 : am_G} (hT0 : tpC B ln I0) (hk0 : ∀ k, k < 24 → G0 3 k = kwL.getD k 0) : ∀ (m i n a : Nat) (I : am_I) (G : am_G), i + m = 401 → m < n → a ≤ ln → rn B ln qS a = tS B ln i → I 1 7 = Int32.ofNat a → tkC (B := B) (ln := ln) I0 I G0 G i → (∀ p, p < i → tKK B ln p ≤ 40) → 1 ≤ m → ∃ (T : Nat) (I' : am_I) (G' : am_G), L_X9_scan_1 n 0 I G (1 : Int32) (Int32.ofNat i) = some ((), I', G') ∧ T ≤ 400 ∧ (∀ p, p < T → tKK B ln p ≤ 40) ∧ 41 ≤ tKK B ln T ∧ tkC (B := B) (ln := ln) I0 I' G0 G' (T + 1) := by
  intro m
  induction m with
  | zero => intro i n a I G h1 h2 h3 h4 h5 h6 h7 h8; omega
  | succ m ih =>
    intro i n a I G him hmn ha ht h7 hW hK _
    obtain ⟨n, rfl⟩ : ∃ n', n = n' + 1 := ⟨n - 1, by omega⟩
    obtain ⟨w1', w2, w3, w4, w5⟩ := hW
    have hT : tpC B ln I := hT0.kept (w4 5 (by omega) (by omega)) (w3 2 (by omega) (by omega) (by omega))
    have hl := hT.2.1
    have hk : ∀ k, k < 24 → G 3 k = kwL.getD k 0 := fun k h => by rw [w5 3 (by omega) (by omega)]; exact hk0 k h
    obtain ⟨v, I1, G1, e1, e2, e3, e4, e5, e6⟩ := c_tok hT hk (i := i) (by omega) w2 (ln - a) a FU (by omega) (by unfold FU; omega)
    rw [show am_up I 1 7 (Int32.ofNat a) = I from am_up_id h7] at e1
    have et : ru qS B (ln - a) a = tS B ln i := ht
    rw [et] at e2 e3 e4 e5 e6
    have eK : tK B ln i (tS B ln i) = tKK B ln i := rfl
    rw [eK] at e2 e3 e4 e5
    rw [L_X9_scan_1_0, if_neg (show ¬ (400 : Int32) < Int32.ofNat i from fun z => absurd ((n_lt (a := 400) (by omega) (by omega)).mp z) (by omega)), if_neg (by decide)]
    unfold R_X9_readToken_1
    rw [e1, rb_go, n_inc]
    obtain ⟨a1, a2, a3, a4, a5, a6, a7⟩ := e3
    have hW1 : tkC (B := B) (ln := ln) I0 I1 G0 G1 (i + 1) := by
      refine ⟨fun p hp => ?_, a3, fun b z1 z2 z3 => (a4 b z1 z2 z3).trans (w3 b z1 z2 z3), fun j z1 z2 => (a5 j z1 z2).trans (w4 j z1 z2), fun b z1 z2 => (a6 b z1 z2).trans (w5 b z1 z2)⟩
      by_cases hpi : p = i
      · subst hpi
        refine ⟨by rw [a1]; show (if p = p then _ else _) = _; rw [if_pos rfl], by rw [a2]; show (if p = p then _ else _) = _; rw [if_pos rfl], e4, e5⟩
      · obtain ⟨b1, b2, b3, b4⟩ := w1' p (by omega)
        refine ⟨by rw [a1]; show (if p = i then _ else _) = _; rw [if_neg hpi]; exact b1, by rw [a2]; show (if p = i then _ else _) = _; rw [if_neg hpi]; exact b2, fun z => by rw [a7 p hpi]; exact b3 z, fun z => by rw [a7 p hpi]; exact b4 z⟩
    by_cases h41 : 41 ≤ tKK B ln i
    · rw [e2, if_pos h41]
      refine ⟨i, I1, G1, ?_, by omega, hK, h41, hW1⟩
      obtain ⟨n, rfl⟩ : ∃ n', n = n' + 1 := ⟨n - 1, by omega⟩
      rw [L_X9_scan_1_0]
      split
      · rfl
      · rw [if_pos rfl]
    · rw [e2, if_neg h41]
      have h400 : i < 400 := by
        by_cases h : i = 400
        · subst h
          exfalso
          apply h41
          unfold tKK tK
          split
          · omega
          · rw [if_pos rfl]; omega
        · omega
      refine ih (i + 1) n (tE B ln i (tS B ln i)) I1 G1 (by omega) (by omega) (tE_le hT ?_) rfl e6 hW1 (fun p hp => ?_) (by omega)
      · rw [← et]; have := ru_b qS B (ln - a) a; omega
      · by_cases hpi : p = i
        · subst hpi; omega
        · exact hK p (by omega)
theorem c_scan {I : am_I} {G : am_G} (hT : tpC B ln I) (hk : ∀ k, k < 24 → G 3 k = kwL.getD k 0) : ∃ (T : Nat) (I' : am_I) (G' : am_G), R_X9_scan_1 I G = some ((), I', G') ∧ T ≤ 400 ∧ (∀ p, p < T → tKK B ln p ≤ 40) ∧ 41 ≤ tKK B ln T ∧ tkC (B := B) (ln := ln) I I' G G' (T + 1) := by
  unfold R_X9_scan_1
  refine c_scl hT hk 401 0 FU 0 _ G rfl (by unfold FU; omega) (by omega) rfl ?_ ⟨fun p hp => by omega, am_up_self _ _ _ _, fun b z1 _ _ => by rw [up_row _ _ _ z1, up_row _ _ _ z1], fun j z1 z2 => by rw [up_in, if_neg z1, up_in, if_neg z2], fun b _ _ => rfl⟩ (fun p hp => by omega) (by omega)
  rw [up_in, if_neg (by omega), am_up_self]
  rfl
end CS
