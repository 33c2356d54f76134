/-! tokens out of a row of bytes -/
def lw (q : Nat → Bool) : List Nat → Nat
  | [] => 0
  | b :: r => if q b = true then lw q r + 1 else 0
def tk_k (u : List Nat) : Nat := match u with
  | [] => 41
  | b :: r => if qL b = true then (if lw qW (b :: r) ≤ 10 then kwi (cd (fun i => (b :: r).getD i 0) 0 (lw qW (b :: r))) else 42) else if qD b = true then (if lw qD (b :: r) ≤ 6 then 40 else 42) else if (b = 60 ∨ b = 62) ∧ r.getD 0 0 = 61 then (if b = 60 then 37 else 38) else sgi b
def tk_e (u : List Nat) : Nat := match u with
  | [] => 0
  | b :: r => if qL b = true then lw qW (b :: r) else if qD b = true then lw qD (b :: r) else if (b = 60 ∨ b = 62) ∧ r.getD 0 0 = 61 then 2 else if sgi b = 42 then 0 else 1
def tk_v (u : List Nat) : Nat := match u with
  | [] => 0
  | b :: r => if qL b = true then cd (fun i => (b :: r).getD i 0) 0 (lw qW (b :: r)) else nv (fun i => (b :: r).getD i 0) 0 (lw qD (b :: r))
def tk_s (s : List Nat) : List Nat := s.drop (lw qS s)
/-- the tokens l lead from the bytes s to the bytes s' -/
def tks : List (Nat × Nat) → List Nat → List Nat → Prop
  | [], s, s' => s = s'
  | (k, v) :: r, s, s' => (tk_k (tk_s s) = k ∧ ((k = 40 ∨ k = 39) → tk_v (tk_s s) = v)) ∧ tks r ((tk_s s).drop (tk_e (tk_s s))) s'
theorem tks_app : ∀ {l1 l2 : List (Nat × Nat)} {s s1 s2 : List Nat}, tks l1 s s1 → tks l2 s1 s2 → tks (l1 ++ l2) s s2
  | [], _, s, s1, s2, h1, h2 => by
    have h1 : s = s1 := h1
    rw [h1]; exact h2
  | (k, v) :: r, _, _, _, _, h1, h2 => ⟨h1.1, tks_app h1.2 h2⟩
theorem lw_le (q : Nat → Bool) : ∀ s : List Nat, lw q s ≤ s.length
  | [] => Nat.le_refl _
  | b :: r => by
    have := lw_le q r
    unfold lw
    split
    · simp only [List.length_cons]; omega
    · omega
section F1
variable {B : Nat → Nat} {ln : Nat} {T : List Nat}
/-- the tape holds the text -/
def tpT (B : Nat → Nat) (ln : Nat) (T : List Nat) : Prop := ln = T.length ∧ ∀ i, B i = if i < ln then T.getD i 0 else 256
theorem ru_lw {q : Nat → Bool} : ∀ (s : List Nat) (a : Nat), (∀ i, i < s.length → B (a + i) = s.getD i 0) → ru q B s.length a = a + lw q s
  | [], a, _ => rfl
  | b :: r, a, h => by
    have h0 : B a = b := h 0 (by simp)
    unfold lw
    show (if q (B a) = true then ru q B r.length (a + 1) else a) = _
    rw [h0]
    by_cases c : q b = true
    · rw [if_pos c, if_pos c, ru_lw r (a + 1) (fun i hi => by
        have := h (i + 1) (by simp only [List.length_cons]; omega)
        rw [show a + 1 + i = a + (i + 1) by omega]; exact this)]
      omega
    · rw [if_neg c, if_neg c]; rfl
theorem cd_cg {f g : Nat → Nat} {a b : Nat} : ∀ n, (∀ i, i < n → f (a + i) = g (b + i)) → cd f a n = cd g b n
  | 0, _ => rfl
  | n + 1, h => by
    unfold cd
    rw [cd_cg n (fun i hi => h i (by omega)), h n (by omega)]
theorem nv_cg {f g : Nat → Nat} {a b : Nat} : ∀ n, (∀ i, i < n → f (a + i) = g (b + i)) → nv f a n = nv g b n
  | 0, _ => rfl
  | n + 1, h => by
    unfold nv
    rw [nv_cg n (fun i hi => h i (by omega)), h n (by omega)]
theorem tpT.atx (h : tpT B ln T) {a : Nat} (ha : a ≤ ln) : ∀ i, i < (T.drop a).length → B (a + i) = (T.drop a).getD i 0 := by
  intro i hi
  rw [List.length_drop] at hi
  rw [h.2, if_pos (by have := h.1; omega)]
  simp only [List.getD_eq_getElem?_getD, List.getElem?_drop]
theorem tpT.rnx (h : tpT B ln T) {a : Nat} (ha : a ≤ ln) (q : Nat → Bool) : rn B ln q a = a + lw q (T.drop a) := by
  have e : ln - a = (T.drop a).length := by rw [List.length_drop, h.1]
  unfold rn
  rw [e]
  exact ru_lw _ _ (h.atx ha)
theorem tpT.spx (h : tpT B ln T) {a : Nat} (ha : a ≤ ln) : rn B ln qS a ≤ ln ∧ T.drop (rn B ln qS a) = tk_s (T.drop a) := by
  have h1 := lw_le qS (T.drop a)
  rw [List.length_drop] at h1
  rw [h.rnx ha]
  refine ⟨by have := h.1; omega, ?_⟩
  unfold tk_s
  rw [List.drop_drop]
theorem tpT.tkx (h : tpT B ln T) (hb : ∀ b ∈ T, b ≤ 255) {a : Nat} (ha : a ≤ ln) : tK B ln 0 a = tk_k (T.drop a) ∧ tE B ln 0 a = a + tk_e (T.drop a) ∧ (qL (B a) = true → tC B ln a = tk_v (T.drop a)) ∧ (qL (B a) = false → qD (B a) = true → tV B ln a = tk_v (T.drop a)) := by
  have hat := h.atx ha
  have hW := h.rnx ha qW
  have hD := h.rnx ha qD
  have hlW := lw_le qW (T.drop a)
  have hlD := lw_le qD (T.drop a)
  unfold tC tV
  rw [hW, hD, show a + lw qW (T.drop a) - a = lw qW (T.drop a) by omega, show a + lw qD (T.drop a) - a = lw qD (T.drop a) by omega]
  have eC : cd B a (lw qW (T.drop a)) = cd (fun i => (T.drop a).getD i 0) 0 (lw qW (T.drop a)) := cd_cg _ (fun i hi => by rw [hat i (by omega), Nat.zero_add])
  have eN : nv B a (lw qD (T.drop a)) = nv (fun i => (T.drop a).getD i 0) 0 (lw qD (T.drop a)) := nv_cg _ (fun i hi => by rw [hat i (by omega), Nat.zero_add])
  unfold tK tE
  rw [hW, hD, show a + lw qW (T.drop a) - a = lw qW (T.drop a) by omega, show a + lw qD (T.drop a) - a = lw qD (T.drop a) by omega, eC, eN]
  cases hs : T.drop a with
  | nil =>
    have hl : T.length ≤ a := List.drop_eq_nil_iff.mp hs
    have e1 : B a = 256 := by rw [h.2, if_neg (by have := h.1; omega)]
    refine ⟨if_pos e1, if_pos e1, fun z => ?_, fun _ z => ?_⟩
    · rw [e1] at z; exact absurd z (by decide)
    · rw [e1] at z; exact absurd z (by decide)
  | cons b r =>
    rw [hs] at hat
    have e0 : B a = b := hat 0 (by simp)
    have hbm : b ∈ T := List.drop_subset a T (by rw [hs]; exact List.mem_cons_self)
    have hbl := hb b hbm
    have e1 : is2 B a ↔ ((b = 60 ∨ b = 62) ∧ r.getD 0 0 = 61) := by
      unfold is2
      rw [e0]
      have e2 : B (a + 1) = 61 ↔ r.getD 0 0 = 61 := by
        cases r with
        | nil =>
          have hl : (T.drop a).length = 1 := by rw [hs]; rfl
          rw [List.length_drop] at hl
          rw [h.2, if_neg (by have := h.1; omega)]
          exact ⟨fun z => absurd z (by decide), fun z => absurd z (by decide)⟩
        | cons b2 r2 =>
          have := hat 1 (by simp)
          rw [this]; rfl
      rw [e2]
    have n256 : ¬ b = 256 := by omega
    simp only [e1, e0, if_neg n256, if_neg (show ¬ (0 : Nat) = 400 by decide)]
    unfold tk_k tk_e tk_v
    refine ⟨?_, ?_, fun z => ?_, fun z1 z2 => ?_⟩
    · rfl
    · dsimp only
      split
      · rfl
      · split
        · rfl
        · split
          · rfl
          · split <;> rfl
    · dsimp only
      rw [if_pos z]
    · dsimp only
      rw [if_neg (by rw [z1]; decide)]
/-- kinds, numbers, names from the place p on -/
def sg (K V C : Nat → Nat) : Nat → List (Nat × Nat) → Prop
  | _, [] => True
  | p, (k, v) :: r => (K p = k ∧ (k = 40 → V p = v) ∧ (k = 39 → C p = v)) ∧ sg K V C (p + 1) r
theorem sg_app {K V C : Nat → Nat} : ∀ {l1 l2 : List (Nat × Nat)} {p : Nat}, sg K V C p (l1 ++ l2) → sg K V C p l1 ∧ sg K V C (p + l1.length) l2
  | [], _, _, h => ⟨trivial, h⟩
  | (k, v) :: r, l2, p, h => by
    obtain ⟨h1, h2⟩ := sg_app (l1 := r) h.2
    refine ⟨⟨h.1, h1⟩, ?_⟩
    rw [show p + ((k, v) :: r).length = p + 1 + r.length by simp only [List.length_cons]; omega]
    exact h2
theorem tks_sg (h : tpT B ln T) (hb : ∀ b ∈ T, b ≤ 255) (hR : tpR B ln (fun _ _ => 0)) : ∀ (l : List (Nat × Nat)) (i a : Nat) (s s' : List Nat), i + l.length ≤ 399 → a ≤ ln → T.drop a = s → tS B ln i = rn B ln qS a → tks l s s' → sg (tKK B ln) (bV B ln) (bC B ln) i l ∧ ∃ a', a' ≤ ln ∧ T.drop a' = s' ∧ tS B ln (i + l.length) = rn B ln qS a'
  | [], i, a, s, s', hi, ha, hs, hS, hk => ⟨trivial, a, ha, hs.trans hk, hS⟩
  | (k, v) :: r, i, a, s, s', hi, ha, hs, hS, hk => by
    simp only [List.length_cons] at hi
    obtain ⟨⟨k1, k2⟩, k3⟩ := hk
    obtain ⟨b1, b2⟩ := h.spx ha
    rw [hs] at b2
    have hi4 : ¬ i = 400 := by omega
    obtain ⟨t1, t2, t3, t4⟩ := h.tkx hb b1
    rw [b2] at t1 t2 t3 t4
    have eK : tKK B ln i = k := by
      unfold tKK
      rw [hS, (tK_i hi4).1, t1, k1]
    have le : tk_e (tk_s s) ≤ (tk_s s).length := by
      have := (tE_leR hR (i := 0) b1).1
      rw [t2] at this
      have e : (tk_s s).length = T.length - rn B ln qS a := by rw [← b2, List.length_drop]
      have := h.1
      omega
    have hE : tE B ln i (tS B ln i) = rn B ln qS a + tk_e (tk_s s) := by rw [hS, (tK_i hi4).2, t2]
    have hl2 : rn B ln qS a + tk_e (tk_s s) ≤ ln := by
      have e : (tk_s s).length = T.length - rn B ln qS a := by rw [← b2, List.length_drop]
      have := h.1
      omega
    obtain ⟨g1, a', g2, g3, g4⟩ := tks_sg h hb hR r (i + 1) (rn B ln qS a + tk_e (tk_s s)) ((tk_s s).drop (tk_e (tk_s s))) s' (by omega) hl2 (by rw [← b2, List.drop_drop]) (by show rn B ln qS (tE B ln i (tS B ln i)) = _; rw [hE]) k3
    refine ⟨⟨⟨eK, fun z => ?_, fun z => ?_⟩, g1⟩, a', g2, g3, by rw [show i + ((k, v) :: r).length = i + 1 + r.length by simp only [List.length_cons]; omega]; exact g4⟩
    · have z0 : tK B ln i (tS B ln i) = 40 := eK.trans z
      obtain ⟨-, c1, c2, -, -⟩ := tK_40 hR (tS_le hR i) z0
      rw [hS] at c1 c2
      unfold bV
      rw [if_pos (eK.trans z)]
      unfold tVV
      rw [hS, t4 c1 c2]
      exact k2 (Or.inl z)
    · have z0 : tK B ln i (tS B ln i) = 39 := eK.trans z
      obtain ⟨-, c1, -, -⟩ := tK_39 hR (tS_le hR i) z0
      rw [hS] at c1
      unfold bC
      rw [if_pos (eK.trans z)]
      unfold tCC
      rw [hS, t3 c1]
      exact k2 (Or.inr z)
end F1
