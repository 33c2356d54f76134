/-! heads of lines: steps on (place, items) -/
section LN
variable {K V C : Nat → Nat} {T : Nat} {G : am_G}
def stp (K : Nat → Nat) (s : sR) (q : Nat × Nat) : sR := match s with
  | .inl (p, l) => if (if q.1 = 100 then (K p = 3 ∨ K p = 4) else K p = q.1) then .inl (p + 1, if q.2 = 0 then l else l ++ [(q.2, p)]) else .inr p
  | .inr t => .inr t
def pts (K : Nat → Nat) (s : sR) (l : List (Nat × Nat)) : sR := l.foldl (stp K) s
theorem stp_l {s : sR} {k r p' : Nat} {l' : List (Nat × Nat)} (h : stp K s (k, r) = .inl (p', l')) : ∃ (p : Nat) (l : List (Nat × Nat)), s = .inl (p, l) ∧ (if k = 100 then (K p = 3 ∨ K p = 4) else K p = k) ∧ p' = p + 1 ∧ l' = (if r = 0 then l else l ++ [(r, p)]) := by
  cases s with
  | inl q =>
    obtain ⟨p, l⟩ := q
    unfold stp at h
    dsimp only at h
    by_cases hk : (if k = 100 then (K p = 3 ∨ K p = 4) else K p = k)
    · rw [if_pos hk] at h
      cases h
      exact ⟨p, l, rfl, hk, rfl, rfl⟩
    · rw [if_neg hk] at h; cases h
  | inr t => cases h
theorem stp_y {p k r : Nat} {l : List (Nat × Nat)} (h : if k = 100 then (K p = 3 ∨ K p = 4) else K p = k) : stp K (.inl (p, l)) (k, r) = .inl (p + 1, if r = 0 then l else l ++ [(r, p)]) := if_pos h
theorem stp_n {p k r : Nat} {l : List (Nat × Nat)} (h : ¬ (if k = 100 then (K p = 3 ∨ K p = 4) else K p = k)) : stp K (.inl (p, l)) (k, r) = .inr p := if_neg h
theorem mk_y {p k : Nat} (h : K p = k) (hk : k ≤ 42) : if k = 100 then (K p = 3 ∨ K p = 4) else K p = k := by rw [if_neg (by omega)]; exact h
theorem mk_n {p k : Nat} (h : ¬ K p = k) (hk : k ≤ 42) : ¬ (if k = 100 then (K p = 3 ∨ K p = 4) else K p = k) := by rw [if_neg (by omega)]; exact h
/-- the class stands where the steps stand -/
def hR (K V C : Nat → Nat) (T : Nat) (X : sX) (J : am_I) (s : sR) : Prop := match s with
  | .inl (p, l) => cH K T J p (its K V C l X).2.1
  | .inr q => cD J q
theorem its_app (l1 l2 : List (Nat × Nat)) (X : sX) : its K V C (l1 ++ l2) X = its K V C l2 (its K V C l1 X) := List.foldl_append
theorem its_1 (l : List (Nat × Nat)) (q : Nat × Nat) (X : sX) : its K V C (l ++ [q]) X = it K V C (its K V C l X) q := by rw [its_app]; rfl
theorem hR_ex {X : sX} {J : am_I} {s : sR} (hX : cX K V T J G) (h : hR K V C T X J s) {w : Nat} (hw : w ≤ 40) : hR K V C T X (g_X6_expect_28 J G (Int32.ofNat w)) (stp K s (w, 0)) ∧ hf J (g_X6_expect_28 J G (Int32.ofNat w)) := by
  cases s with
  | inl q =>
    obtain ⟨p, l⟩ := q
    by_cases hk : K p = w
    · rw [stp_y (mk_y hk (by omega)), if_pos rfl]
      exact h_exY hX h hw hk
    · rw [stp_n (mk_n hk (by omega))]
      exact h_exN hX h (by omega) hk
  | inr t => exact h_exD h (by omega)
theorem hR_nu {X : sX} {J : am_I} {s : sR} (hX : cX K V T J G) (h : hR K V C T X J s) {r : Nat} (hr : r ≠ 0) {lo hi : Int32} (he : ∀ p l, s = .inl (p, l) → K p = 40 → (it K V C (its K V C l X) (r, p)).2.1 = h_ne (its K V C l X).2.1 (Int32.ofNat (V p)) lo hi p) : hR K V C T X (g_X6_readNumber_28 J G lo hi) (stp K s (40, r)) ∧ hf J (g_X6_readNumber_28 J G lo hi) := by
  cases s with
  | inl q =>
    obtain ⟨p, l⟩ := q
    by_cases hk : K p = 40
    · rw [stp_y (mk_y hk (by omega)), if_neg hr]
      have h1 := (h_nuY hX h hk lo hi).1
      rw [← he p l rfl hk, ← its_1] at h1
      exact h1
    · rw [stp_n (mk_n hk (by omega))]
      exact h_nuN hX h hk lo hi
  | inr t => exact h_nuD h lo hi
theorem hR_wy {X : sX} {J : am_I} {s : sR} (hX : cX K V T J G) (h : hR K V C T X J s) {r : Nat} (hr : r ≠ 0) (he : ∀ p l, (it K V C (its K V C l X) (r, p)).2.1 = (its K V C l X).2.1) : hR K V C T X (g_X6_readWay_28 J G) (stp K s (100, r)) ∧ hf J (g_X6_readWay_28 J G) := by
  cases s with
  | inl q =>
    obtain ⟨p, l⟩ := q
    by_cases hk : K p = 3 ∨ K p = 4
    · rw [stp_y (by rw [if_pos rfl]; exact hk), if_neg hr]
      have h1 := (h_wyY hX h hk).1
      rw [← he p l, ← its_1] at h1
      exact h1
    · rw [stp_n (by rw [if_pos rfl]; exact hk)]
      exact h_wyN hX h hk
  | inr t => exact h_wyD h
theorem hR_nv {X : sX} {J : am_I} {p p' : Nat} {l l' : List (Nat × Nat)} {r : Nat} {lo hi : Int32} (hX : cX K V T J G) (h : hR K V C T X J (.inl (p, l))) (hs : stp K (.inl (p, l)) (40, r) = .inl (p', l')) : f_X6_readNumber_28 J G lo hi = Int32.ofNat (V p) := by
  obtain ⟨p0, l0, e, hk, _, _⟩ := stp_l hs
  cases e
  rw [if_neg (show ¬ (40 : Nat) = 100 by omega)] at hk
  exact (h_nuY hX h hk lo hi).2
theorem h_neN {e : Option (Nat × Nat)} {v lo hi p : Nat} (hv : v ≤ 999999) (hlo : lo ≤ 999999) (hhi : hi ≤ 999999) : h_ne e (Int32.ofNat v) (Int32.ofNat lo) (Int32.ofNat hi) p = if lo ≤ v ∧ v ≤ hi then e else e_or e (5, p) := by
  unfold h_ne
  by_cases h1 : v < lo
  · rw [if_pos ((n_lt (by omega) (by omega)).mpr h1), if_neg (by omega)]
  · rw [if_neg (fun z => h1 ((n_lt (by omega) (by omega)).mp z))]
    by_cases h2 : v ≤ hi
    · rw [if_pos ((n_le (by omega) (by omega)).mpr h2), if_pos ⟨by omega, h2⟩]
    · rw [if_neg (fun z => h2 ((n_le (by omega) (by omega)).mp z)), if_neg (by omega)]
theorem e_orS {x y : Nat × Nat} : e_or (some x) y = some x := rfl
theorem e_or_n (e : Option (Nat × Nat)) (y : Nat × Nat) : ¬ e_or e y = none := by
  cases e with
  | none => intro h; cases h
  | some x => intro h; cases h
theorem rgE_n {e : Option (Nat × Nat)} {a lo hi : Nat} (h : rgE V e a lo hi = none) : e = none ∧ lo ≤ V a ∧ V a ≤ hi := by
  unfold rgE at h
  by_cases hc : lo ≤ V a ∧ V a ≤ hi
  · rw [if_pos hc] at h; exact ⟨h, hc⟩
  · rw [if_neg hc] at h; exact absurd h (e_or_n _ _)
theorem eo_n {e : Option (Nat × Nat)} {n a : Nat} (h : eo e n a = none) : e = none ∧ n = 0 := by
  unfold eo at h
  by_cases hc : n = 0
  · rw [if_pos hc] at h; exact ⟨h, hc⟩
  · rw [if_neg hc] at h; exact absurd h (e_or_n _ _)
/-! what the draft holds -/
def dP (I : am_I) (p : sP) : Prop := (I 29 9 = Int32.ofNat (p 0 0) ∧ I 29 10 = Int32.ofNat (p 0 1) ∧ I 29 11 = Int32.ofNat (p 0 2) ∧ I 29 12 = Int32.ofNat (p 0 3) ∧ I 29 13 = Int32.ofNat (p 0 4)) ∧
  (∀ k, k < p 0 2 → I 30 k = Int32.ofNat (p 1 k) ∧ I 31 k = Int32.ofNat (p 2 k) ∧ I 32 k = Int32.ofNat (p 3 k) ∧ I 33 k = Int32.ofNat (p 7 k)) ∧
  (∀ k, k < p 0 3 → I 34 k = Int32.ofNat (p 4 k) ∧ I 35 k = Int32.ofNat (p 5 k) ∧ I 36 k = Int32.ofNat (p 8 k)) ∧ (∀ k, k < p 0 4 → I 37 k = Int32.ofNat (p 6 k))
theorem dP.kept {I I' : am_I} {p : sP} (h : dP I p) (hk : ∀ b, 29 ≤ b → b ≤ 37 → I' b = I b) : dP I' p := by
  unfold dP
  rw [hk 29 (by omega) (by omega), hk 30 (by omega) (by omega), hk 31 (by omega) (by omega), hk 32 (by omega) (by omega), hk 33 (by omega) (by omega), hk 34 (by omega) (by omega), hk 35 (by omega) (by omega), hk 36 (by omega) (by omega), hk 37 (by omega) (by omega)]
  exact h
/-- the orders so far -/
def d_code (I : am_I) : Nat → List (Nat × Nat) → Prop
  | _, [] => True
  | k, (op, a) :: r => I 45 k = Int32.ofNat op ∧ I 46 k = Int32.ofNat a ∧ d_code I (k + 1) r
def dO (I : am_I) (n : Nat) (od : sO) : Prop := I 38 8 = Int32.ofNat n ∧ n ≤ 20 ∧ ∃ len : Nat, I 38 9 = Int32.ofNat len ∧ len ≤ 400 ∧ ∀ k, k < n → I 39 k = Int32.ofNat (od k).1.1 ∧ I 40 k = Int32.ofNat (od k).1.2 ∧ ∃ a : Nat, (I 41 k = Int32.ofNat a ∧ I 42 k = Int32.ofNat (a + (od k).2.1.length) ∧ I 43 k = Int32.ofNat (a + (od k).2.1.length + (od k).2.2.length) ∧ a + (od k).2.1.length + (od k).2.2.length ≤ len) ∧
  d_code I a (od k).2.1 ∧ d_code I (a + (od k).2.1.length) (od k).2.2 ∧ ((s_lk (od k).2.1 || s_lk (od k).2.2) = true → ¬ I 44 k = 0)
theorem d_code.kept {I I' : am_I} : ∀ {k : Nat} {c : List (Nat × Nat)}, d_code I k c → I' 45 = I 45 → I' 46 = I 46 → d_code I' k c
  | _, [], _, _, _ => trivial
  | k, (op, a) :: r, h, h1, h2 => ⟨by rw [h1]; exact h.1, by rw [h2]; exact h.2.1, h.2.2.kept h1 h2⟩
theorem dO.kept {I I' : am_I} {n : Nat} {od : sO} (h : dO I n od) (hk : ∀ b, 38 ≤ b → b ≤ 46 → I' b = I b) : dO I' n od := by
  obtain ⟨a, b, len, c, d, e⟩ := h
  refine ⟨by rw [hk 38 (by omega) (by omega)]; exact a, b, len, by rw [hk 38 (by omega) (by omega)]; exact c, d, fun k hkn => ?_⟩
  rw [hk 39 (by omega) (by omega), hk 40 (by omega) (by omega), hk 41 (by omega) (by omega), hk 42 (by omega) (by omega), hk 43 (by omega) (by omega), hk 44 (by omega) (by omega)]
  obtain ⟨e1, e2, x, e3, e4, e5, e6⟩ := e k hkn
  exact ⟨e1, e2, x, e3, e4.kept (hk 45 (by omega) (by omega)) (hk 46 (by omega) (by omega)), e5.kept (hk 45 (by omega) (by omega)) (hk 46 (by omega) (by omega)), e6⟩
/-- what is told is right as long as nothing is wrong -/
def pk (p : sP) : Prop := (4 ≤ p 0 0 ∧ p 0 0 ≤ 24 ∧ 4 ≤ p 0 1 ∧ p 0 1 ≤ 24 ∧ p 0 2 ≤ 4 ∧ p 0 3 ≤ 4 ∧ p 0 4 ≤ 5) ∧ (∀ k, k < p 0 2 → 1 ≤ p 1 k ∧ p 1 k ≤ 8 ∧ 1 ≤ p 2 k ∧ p 2 k ≤ 8 ∧ 1 ≤ p 3 k ∧ p 3 k ≤ 9 ∧ p 7 k ≤ 999) ∧ (∀ k, k < p 0 3 → p 4 k ≤ 1 ∧ 1 ≤ p 5 k ∧ p 5 k ≤ 8 ∧ p 8 k ≤ 16) ∧ (∀ k, k < p 0 4 → p 6 k ≤ 999) ∧ ∀ i j, i < j → j < p 0 4 → p 6 i < p 6 j
def xok (X : sX) : Prop := pk X.1.1 ∧ X.1.1 0 2 = (X.1.2 6).length ∧ X.1.1 0 3 = (X.1.2 9).length ∧ X.1.1 0 4 = (X.1.2 16).length ∧ X.1.1 0 5 ≤ 20
/-- the class between lines -/
def cS (K C : Nat → Nat) (T : Nat) (I : am_I) (G : am_G) (p : Nat) (X : sX) (od : sO) : Prop := cH K T I p X.2.1 ∧ cNm C X.1.2 I G ∧ ((∃ no : Nat, I 38 8 = Int32.ofNat no ∧ no ≤ 20) ∧ ∃ len : Nat, I 38 9 = Int32.ofNat len ∧ len ≤ p) ∧ (X.2.1 = none → xok X ∧ dP I X.1.1 ∧ dO I (X.1.1 0 5) od)
def hF (I I' : am_I) (G G' : am_G) : Prop := (∀ b, (b < 28 ∨ 52 < b) → I' b = I b) ∧ ∀ b, b ≠ 48 → b ≠ 50 → b ≠ 52 → G' b = G b
theorem hF.rf (I : am_I) (G : am_G) : hF I I G G := ⟨fun _ _ => rfl, fun _ _ _ _ => rfl⟩
theorem hF.tr {I I1 I2 : am_I} {G G1 G2 : am_G} (h1 : hF I I1 G G1) (h2 : hF I1 I2 G1 G2) : hF I I2 G G2 := ⟨fun b z => (h2.1 b z).trans (h1.1 b z), fun b z1 z2 z3 => (h2.2 b z1 z2 z3).trans (h1.2 b z1 z2 z3)⟩
theorem hf.F {I I' : am_I} (h : hf I I') (G : am_G) : hF I I' G G := ⟨fun b z => h.1 b (by omega), fun _ _ _ _ => rfl⟩
theorem cX.F {I I' : am_I} {G' : am_G} (h : cX K V T I G) (hh : hF I I' G G') : cX K V T I' G' := by
  obtain ⟨a, b, c, d⟩ := h
  exact ⟨a, by rw [hh.1 1 (by omega)]; exact b, by rw [hh.1 4 (by omega)]; exact c, by rw [hh.2 6 (by omega) (by omega) (by omega)]; exact d⟩
theorem cC.F {I I' : am_I} {G' : am_G} (h : cC K C T G) (hh : hF I I' G G') : cC K C T G' := ⟨h.1, by rw [hh.2 6 (by omega) (by omega) (by omega)]; exact h.2⟩
theorem cNm.kept {L : Nat → List Nat} {I I' : am_I} (h : cNm C L I G) (h1 : I' 47 = I 47) (h2 : I' 49 = I 49) (h3 : I' 51 = I 51) : cNm C L I' G := ⟨h.1.kept h1 rfl, h.2.1.kept h2 rfl, h.2.2.kept h3 rfl⟩
theorem cD.kept {I I' : am_I} {q : Nat} (h : cD I q) (h28 : I' 28 = I 28) (h5 : I' 5 = I 5) : cD I' q := by
  unfold cD
  rw [h28, h5]
  exact h
theorem cH.kept {I I' : am_I} {p : Nat} {e : Option (Nat × Nat)} (h : cH K T I p e) (h28 : I' 28 = I 28) (h5 : I' 5 = I 5) : cH K T I' p e := ⟨by rw [h28]; exact h.1, h.2.kept (by rw [h28]) (by rw [h28]) h5⟩
theorem it_1 (X : sX) (a : Nat) : it K V C X (1, a) = ((am_up X.1.1 0 0 (V a), X.1.2), (rgE V X.2.1 a 4 24, X.2.2)) := rfl
theorem it_2 (X : sX) (a : Nat) : it K V C X (2, a) = ((am_up X.1.1 0 1 (V a), X.1.2), (rgE V X.2.1 a 4 24, X.2.2)) := rfl
theorem it_3 (X : sX) (a : Nat) : it K V C X (3, a) = ((am_up X.1.1 0 2 (X.1.1 0 2 + 1), Lup X.1.2 6 4 a), (eo X.2.1 (nwE C (X.1.2 6) 4 a) a, X.2.2)) := rfl
theorem it_4 (X : sX) (a : Nat) : it K V C X (4, a) = ((am_up X.1.1 1 (X.1.1 0 2 - 1) (V a), X.1.2), (rgE V X.2.1 a 1 8, X.2.2)) := rfl
theorem it_5 (X : sX) (a : Nat) : it K V C X (5, a) = ((am_up X.1.1 2 (X.1.1 0 2 - 1) (V a), X.1.2), (rgE V X.2.1 a 1 8, X.2.2)) := rfl
theorem it_6 (X : sX) (a : Nat) : it K V C X (6, a) = ((am_up X.1.1 3 (X.1.1 0 2 - 1) (V a), X.1.2), (rgE V X.2.1 a 1 9, X.2.2)) := rfl
theorem it_7 (X : sX) (a : Nat) : it K V C X (7, a) = ((am_up X.1.1 7 (X.1.1 0 2 - 1) (V a), X.1.2), (rgE V X.2.1 a 0 999, X.2.2)) := rfl
theorem it_8 (X : sX) (a : Nat) : it K V C X (8, a) = ((am_up X.1.1 0 3 (X.1.1 0 3 + 1), Lup X.1.2 9 4 a), (eo X.2.1 (nwE C (X.1.2 9) 4 a) a, X.2.2)) := rfl
theorem it_9 (X : sX) (a : Nat) : it K V C X (9, a) = ((am_up X.1.1 4 (X.1.1 0 3 - 1) (K a - 3), X.1.2), X.2) := rfl
theorem it_10 (X : sX) (a : Nat) : it K V C X (10, a) = ((am_up X.1.1 5 (X.1.1 0 3 - 1) (V a), X.1.2), (rgE V X.2.1 a 1 8, X.2.2)) := rfl
theorem it_11 (X : sX) (a : Nat) : it K V C X (11, a) = ((am_up X.1.1 8 (X.1.1 0 3 - 1) (V a), X.1.2), (rgE V X.2.1 a 0 16, X.2.2)) := rfl
theorem it_12 (X : sX) (a : Nat) : it K V C X (12, a) = ((am_up X.1.1 0 4 (X.1.1 0 4 + 1), Lup X.1.2 16 5 a), (eo X.2.1 (nwE C (X.1.2 16) 5 a) a, X.2.2)) := rfl
theorem it_13 (X : sX) (a : Nat) : it K V C X (13, a) = ((am_up X.1.1 6 (X.1.1 0 4 - 1) (V a), X.1.2), (rgE V X.2.1 a (lwl X.1.1) 999, X.2.2)) := rfl
theorem it_14 (X : sX) (a : Nat) : it K V C X (14, a) = ((am_up X.1.1 0 5 (X.1.1 0 5 + 1), X.1.2), (eo X.2.1 (if X.1.1 0 5 < 20 then 0 else 4) a, X.2.2)) := rfl
theorem nwE_0 {l : List Nat} {cap a : Nat} (h : nwE C l cap a = 0) : fnd C a l 0 = none ∧ l.length < cap := by
  unfold nwE at h
  by_cases h1 : fnd C a l 0 = none
  · rw [if_pos h1] at h
    by_cases h2 : l.length < cap
    · exact ⟨h1, h2⟩
    · rw [if_neg h2] at h; omega
  · rw [if_neg h1] at h; omega
theorem Lup_s {L : Nat → List Nat} {op cap a : Nat} (h : (L op).length < cap) : (Lup L op cap a op).length = (L op).length + 1 := by
  unfold Lup
  rw [if_pos rfl, if_pos h, List.length_append]
  rfl
theorem Lup_o {L : Nat → List Nat} {op cap a o : Nat} (h : o ≠ op) : Lup L op cap a o = L o := by
  unfold Lup
  rw [if_neg h]
theorem Lup_e {L : Nat → List Nat} {op cap a : Nat} : Lup L op cap a op = if (L op).length < cap then L op ++ [a] else L op := by
  unfold Lup
  rw [if_pos rfl]
/-! the spec of lines: what is right after them -/
theorem x_oct {X : sX} (hx : X.2.1 = none → xok X) {a b c d f : Nat} (he : (its K V C [(3, a), (4, b), (5, c), (6, d), (7, f)] X).2.1 = none) : X.2.1 = none ∧ (X.1.2 6).length < 4 ∧ xok (its K V C [(3, a), (4, b), (5, c), (6, d), (7, f)] X) ∧ (its K V C [(3, a), (4, b), (5, c), (6, d), (7, f)] X).1.1 = am_up (am_up (am_up (am_up (am_up X.1.1 0 2 (X.1.1 0 2 + 1)) 1 (X.1.1 0 2) (V b)) 2 (X.1.1 0 2) (V c)) 3 (X.1.1 0 2) (V d)) 7 (X.1.1 0 2) (V f) := by
  have e0 : its K V C [(3, a), (4, b), (5, c), (6, d), (7, f)] X = it K V C (it K V C (it K V C (it K V C (it K V C X (3, a)) (4, b)) (5, c)) (6, d)) (7, f) := rfl
  rw [e0, it_7] at he
  obtain ⟨h7, v7⟩ := rgE_n he
  rw [it_6] at h7
  obtain ⟨h6, v6⟩ := rgE_n h7
  rw [it_5] at h6
  obtain ⟨h5, v5⟩ := rgE_n h6
  rw [it_4] at h5
  obtain ⟨h4, v4⟩ := rgE_n h5
  rw [it_3] at h4
  obtain ⟨h3, v3⟩ := eo_n h4
  obtain ⟨_, hl⟩ := nwE_0 v3
  obtain ⟨⟨k1, k2, k2b, k2c, k3⟩, x1, x2, x3, x4⟩ := hx h3
  have ep : (its K V C [(3, a), (4, b), (5, c), (6, d), (7, f)] X).1.1 = am_up (am_up (am_up (am_up (am_up X.1.1 0 2 (X.1.1 0 2 + 1)) 1 (X.1.1 0 2) (V b)) 2 (X.1.1 0 2) (V c)) 3 (X.1.1 0 2) (V d)) 7 (X.1.1 0 2) (V f) := by
    rw [e0, it_7, it_6, it_5, it_4, it_3]
    dsimp only
    simp only [up_row _ _ _ (show (0 : Nat) ≠ 3 by omega), up_row _ _ _ (show (0 : Nat) ≠ 2 by omega), up_row _ _ _ (show (0 : Nat) ≠ 1 by omega), am_up_self, Nat.add_sub_cancel]
  have eL : (its K V C [(3, a), (4, b), (5, c), (6, d), (7, f)] X).1.2 = Lup X.1.2 6 4 a := rfl
  refine ⟨h3, hl, ?_, ep⟩
  unfold xok
  rw [ep, eL]
  have z0 : ∀ j, (am_up (am_up (am_up (am_up (am_up X.1.1 0 2 (X.1.1 0 2 + 1)) 1 (X.1.1 0 2) (V b)) 2 (X.1.1 0 2) (V c)) 3 (X.1.1 0 2) (V d)) 7 (X.1.1 0 2) (V f)) 0 j = if j = 2 then X.1.1 0 2 + 1 else X.1.1 0 j := fun j => by
    rw [up_row _ _ _ (by omega), up_row _ _ _ (by omega), up_row _ _ _ (by omega), up_row _ _ _ (by omega), up_in]
  refine ⟨⟨?_, fun k hkk => ?_, fun k hkk => ?_, fun k hkk => ?_, fun i j hij hj => ?_⟩, ?_, ?_, ?_, ?_⟩
  · simp only [z0]
    simp
    omega
  · rw [z0, if_pos rfl] at hkk
    rw [up_row _ _ _ (show (1 : Nat) ≠ 7 by omega), up_row _ _ _ (show (1 : Nat) ≠ 3 by omega), up_row _ _ _ (show (1 : Nat) ≠ 2 by omega), up_in, up_row _ _ _ (show (2 : Nat) ≠ 7 by omega), up_row _ _ _ (show (2 : Nat) ≠ 3 by omega), up_in, up_row _ _ _ (show (2 : Nat) ≠ 1 by omega), up_row _ _ _ (show (2 : Nat) ≠ 0 by omega), up_row _ _ _ (show (1 : Nat) ≠ 0 by omega)]
    rw [up_row _ _ _ (show (3 : Nat) ≠ 7 by omega), up_in, up_row _ _ _ (show (3 : Nat) ≠ 2 by omega), up_row _ _ _ (show (3 : Nat) ≠ 1 by omega), up_row _ _ _ (show (3 : Nat) ≠ 0 by omega), up_in (k := X.1.1 0 2) (a := 7), up_row _ _ _ (show (7 : Nat) ≠ 3 by omega), up_row _ _ _ (show (7 : Nat) ≠ 2 by omega), up_row _ _ _ (show (7 : Nat) ≠ 1 by omega), up_row _ _ _ (show (7 : Nat) ≠ 0 by omega)]
    by_cases hkn : k = X.1.1 0 2
    · rw [if_pos hkn, if_pos hkn, if_pos hkn, if_pos hkn]; omega
    · have hk := k2 k (by omega)
      rw [if_neg hkn, if_neg hkn, if_neg hkn, if_neg hkn]; omega
  · rw [z0, if_neg (by omega)] at hkk
    rw [up_row _ _ _ (show (4 : Nat) ≠ 7 by omega), up_row _ _ _ (show (4 : Nat) ≠ 3 by omega), up_row _ _ _ (show (4 : Nat) ≠ 2 by omega), up_row _ _ _ (show (4 : Nat) ≠ 1 by omega), up_row _ _ _ (show (4 : Nat) ≠ 0 by omega), up_row _ _ _ (show (5 : Nat) ≠ 7 by omega), up_row _ _ _ (show (5 : Nat) ≠ 3 by omega), up_row _ _ _ (show (5 : Nat) ≠ 2 by omega), up_row _ _ _ (show (5 : Nat) ≠ 1 by omega), up_row _ _ _ (show (5 : Nat) ≠ 0 by omega), up_row _ _ _ (show (8 : Nat) ≠ 7 by omega), up_row _ _ _ (show (8 : Nat) ≠ 3 by omega), up_row _ _ _ (show (8 : Nat) ≠ 2 by omega), up_row _ _ _ (show (8 : Nat) ≠ 1 by omega), up_row _ _ _ (show (8 : Nat) ≠ 0 by omega)]
    exact k2b k hkk
  · rw [z0, if_neg (by omega)] at hkk
    rw [up_row _ _ _ (by omega), up_row _ _ _ (by omega), up_row _ _ _ (by omega), up_row _ _ _ (by omega), up_row _ _ _ (by omega)]
    exact k2c k hkk
  · rw [z0, if_neg (by omega)] at hj
    rw [up_row _ _ _ (by omega), up_row _ _ _ (by omega), up_row _ _ _ (by omega), up_row _ _ _ (by omega), up_row _ _ _ (by omega)]
    exact k3 i j hij hj
  · rw [z0, if_pos rfl, Lup_s hl, x1]
  · rw [z0, if_neg (by omega), Lup_o (by omega)]; exact x2
  · rw [z0, if_neg (by omega), Lup_o (by omega)]; exact x3
  · rw [z0, if_neg (by omega)]; exact x4
end LN
