/-! the law's own paper: sums, tests, orders, dips -/
def oS (k a n : Nat) : List (Nat × Nat) := if k = 0 then [(40, a)] else if k = 1 then [(15, 0), (40, a), (32, 0), (40, 3), (31, 0)] else if k = 2 then [(16, n - 1), (40, a + 1), (33, 0)] else if k = 3 then [(6, 0), (40, a), (30, 0), (40, 8), (31, 0)] else [(40, a), (15, 0), (17, 0), (40, 50), (33, 0)]
def oT (k a n : Nat) : List (Nat × Nat) := if k = 0 then [] else if k = 1 then [(15, 0), (15, 0), (40, 3), (33, 0), (40, 3), (32, 0), (31, 0), (40, a), (36, 0)] else if k = 2 then [(40, 0), (40, 0), (17, 0), (40, 440 + 40 * a), (38, 0)] else if k = 3 then [(16, n - 1), (40, 30 * (a + 1)), (37, 0), (15, 0), (40, 2), (36, 0), (21, 0)] else [(18, n - 1), (19, 0), (6, 0), (40, 900), (34, 0), (20, 0)]
/-- the orders told, in the law's rows and in the class's words -/
def q_ok (p : sP) (q : Nat → Nat → Nat) : Prop := ∀ k, k < p 0 5 → q k 0 < 4 ∧ (q k 0 = 0 → q k 1 < p 0 3) ∧ (q k 0 = 3 → q k 1 < p 0 2) ∧ q k 2 < 5 ∧ q k 3 < 17 ∧ q k 4 < 5 ∧ q k 5 < 3
def oq (p : sP) (q : Nat → Nat → Nat) : sO := fun k => ((if q k 0 = 0 then (9, q k 1) else if q k 0 = 3 then (6, q k 1) else if q k 0 = 1 then (12, 0) else (12, 1)), (oS (q k 2) (q k 3) (p 0 4), oT (q k 4) (q k 5) (p 0 4)))
def iO (p : sP) (q : Nat → Nat → Nat) (I : am_I) : Prop := ∀ k, k < p 0 5 → ∀ j, j < 6 → I (84 + p 0 2 + p 0 3 + k) j = Int32.ofNat (q k j)
section E6a
variable {p t : sP} {dp : Int32}
theorem b30 (l r : Int32) : s_bin 30 l r = l + r := by unfold s_bin f_X7_combine; rw [if_neg (by decide), if_neg (by decide), if_pos (by decide)]
theorem b31 (l r : Int32) : s_bin 31 l r = l - r := by unfold s_bin f_X7_combine; rw [if_neg (by decide), if_neg (by decide), if_neg (by decide), if_pos (by decide)]
theorem b32 (l r : Int32) : s_bin 32 l r = l * r := by unfold s_bin f_X7_combine; rw [if_neg (by decide), if_neg (by decide), if_neg (by decide), if_neg (by decide), if_pos (by decide)]
theorem b33 (l r : Int32) : s_bin 33 l r = gQu l r := by unfold s_bin f_X7_combine; rw [if_neg (by decide), if_neg (by decide), if_neg (by decide), if_neg (by decide), if_neg (by decide), if_pos (by decide)]
theorem bso {op : Nat} (h : ¬ Int32.ofNat op = 22 ∧ ¬ Int32.ofNat op = 23 ∧ ¬ Int32.ofNat op = 30 ∧ ¬ Int32.ofNat op = 31 ∧ ¬ Int32.ofNat op = 32 ∧ ¬ Int32.ofNat op = 33) (l r : Int32) : (s_bin op l r = 0) ↔ f_X7_isSo (fun _ _ => 0) (fun _ _ => 0) (Int32.ofNat op) l r = 0 := by
  unfold s_bin f_X7_combine
  rw [if_neg h.1, if_neg h.2.1, if_neg h.2.2.1, if_neg h.2.2.2.1, if_neg h.2.2.2.2.1, if_neg h.2.2.2.2.2]
  split
  · next z => exact ⟨fun _ => z, fun _ => rfl⟩
  · next z => exact ⟨fun q => absurd q (by decide), fun q => absurd q z⟩
theorem b20 (l r : Int32) : s_bin 20 l r = 0 ↔ (l = 0 ∨ r = 0) := by
  rw [bso (by decide)]
  unfold f_X7_isSo
  rw [if_pos (by decide)]
  by_cases h1 : l = 0
  · rw [if_pos h1]; exact ⟨fun _ => Or.inl h1, fun _ => rfl⟩
  · rw [if_neg h1]
    by_cases h2 : r = 0
    · rw [if_pos h2]; exact ⟨fun _ => Or.inr h2, fun _ => rfl⟩
    · rw [if_neg h2]; exact ⟨fun q => absurd q (by decide), fun q => q.elim (fun z => absurd z h1) (fun z => absurd z h2)⟩
theorem b21 (l r : Int32) : s_bin 21 l r = 0 ↔ (l = 0 ∧ r = 0) := by
  rw [bso (by decide)]
  unfold f_X7_isSo
  rw [if_neg (by decide), if_neg (by decide), if_neg (by decide), if_neg (by decide), if_neg (by decide), if_neg (by decide)]
  by_cases h1 : l = 0
  · rw [if_pos h1]
    by_cases h2 : r = 0
    · rw [if_pos h2]; exact ⟨fun _ => ⟨h1, h2⟩, fun _ => rfl⟩
    · rw [if_neg h2]; exact ⟨fun q => absurd q (by decide), fun q => absurd q.2 h2⟩
  · rw [if_neg h1]; exact ⟨fun q => absurd q (by decide), fun q => absurd q.1 h1⟩
theorem b34 (l r : Int32) : s_bin 34 l r = 0 ↔ r ≤ l := by
  rw [bso (by decide)]
  unfold f_X7_isSo
  rw [if_neg (by decide), if_pos (by decide)]
  split
  · next z => exact ⟨fun _ => z, fun _ => rfl⟩
  · next z => exact ⟨fun q => absurd q (by decide), fun q => absurd q z⟩
theorem b36 (l r : Int32) : s_bin 36 l r = 0 ↔ ¬ l = r := by
  rw [bso (by decide)]
  unfold f_X7_isSo
  rw [if_neg (by decide), if_neg (by decide), if_neg (by decide), if_pos (by decide)]
  split
  · next z => exact ⟨fun q => absurd q (by decide), fun q => absurd z q⟩
  · next z => exact ⟨fun _ => z, fun _ => rfl⟩
theorem b37 (l r : Int32) : s_bin 37 l r = 0 ↔ r < l := by
  rw [bso (by decide)]
  unfold f_X7_isSo
  rw [if_neg (by decide), if_neg (by decide), if_neg (by decide), if_neg (by decide), if_pos (by decide)]
  split
  · next z => exact ⟨fun _ => z, fun _ => rfl⟩
  · next z => exact ⟨fun q => absurd q (by decide), fun q => absurd q z⟩
theorem b38 (l r : Int32) : s_bin 38 l r = 0 ↔ l < r := by
  rw [bso (by decide)]
  unfold f_X7_isSo
  rw [if_neg (by decide), if_neg (by decide), if_neg (by decide), if_neg (by decide), if_neg (by decide), if_pos (by decide)]
  split
  · next z => exact ⟨fun _ => z, fun _ => rfl⟩
  · next z => exact ⟨fun q => absurd q (by decide), fun q => absurd q z⟩
theorem qu_ne {a b : Int32} (h : ¬ b = 0) : gQu a b = a / b := if_neg h
theorem st40 (a : Nat) (st : List Int32) : s_st p t dp 40 a st = Int32.ofNat a :: st := rfl
theorem st15 (a : Nat) (st : List Int32) : s_st p t dp 15 a st = dp :: st := rfl
theorem st6 (a : Nat) (st : List Int32) : s_st p t dp 6 a st = Int32.ofNat (t 1 a) :: st := rfl
theorem st16 (a : Nat) (st : List Int32) : s_st p t dp 16 a st = Int32.ofNat (s_shr p t (a + 1) (s_S p)) :: st := rfl
theorem st18 (a : Nat) (st : List Int32) : s_st p t dp 18 a st = s_eg p t (a + 1) (p 0 1) 0 :: st := rfl
theorem st19 (a : Nat) (x : Int32) (st : List Int32) : s_st p t dp 19 a (x :: st) = (if x = 0 then 1 else 0) :: st := rfl
theorem st17 (a : Nat) (x y : Int32) (st : List Int32) : s_st p t dp 17 a (x :: y :: st) = s_ht p t (s_spot p y x) :: st := rfl
theorem stb {op : Nat} (h : op = 20 ∨ op = 21 ∨ op = 30 ∨ op = 31 ∨ op = 32 ∨ op = 33 ∨ op = 34 ∨ op = 36 ∨ op = 37 ∨ op = 38) (a : Nat) (x y : Int32) (st : List Int32) : s_st p t dp op a (x :: y :: st) = s_bin op y x :: st := by
  unfold s_st
  rw [if_neg (by omega), if_neg (by omega), if_neg (by omega), if_neg (by omega), if_neg (by omega), if_neg (by omega)]
  show (if op = 43 then _ else if op = 19 then _ else _) = _
  rw [if_neg (by omega), if_neg (by omega)]
  show (if op = 17 then _ else _) :: st = _
  rw [if_neg (by omega)]
theorem sev (op a : Nat) (r : List (Nat × Nat)) (st : List Int32) : s_ev p t dp ((op, a) :: r) st = s_ev p t dp r (s_st p t dp op a st) := rfl
theorem sev0 (st : List Int32) : s_ev p t dp [] st = st := rfl
theorem oT1 (a n : Nat) : oT 1 a n = [(15, 0), (15, 0), (40, 3), (33, 0), (40, 3), (32, 0), (31, 0), (40, a), (36, 0)] := rfl
theorem oT2 (a n : Nat) : oT 2 a n = [(40, 0), (40, 0), (17, 0), (40, 440 + 40 * a), (38, 0)] := rfl
theorem oT3 (a n : Nat) : oT 3 a n = [(16, n - 1), (40, 30 * (a + 1)), (37, 0), (15, 0), (40, 2), (36, 0), (21, 0)] := rfl
theorem oT4 (a n : Nat) : oT 4 a n = [(18, n - 1), (19, 0), (6, 0), (40, 900), (34, 0), (20, 0)] := rfl
theorem sres (c : List (Nat × Nat)) : s_res p t dp c = (s_ev p t dp c []).headD 0 := rfl
theorem hd1 (x : Int32) (st : List Int32) : (x :: st).headD 0 = x := rfl
theorem r_s0 (a n : Nat) : s_res p t dp (oS 0 a n) = Int32.ofNat a := rfl
theorem oS1 (a n : Nat) : oS 1 a n = [(15, 0), (40, a), (32, 0), (40, 3), (31, 0)] := rfl
theorem oS2 (a n : Nat) : oS 2 a n = [(16, n - 1), (40, a + 1), (33, 0)] := rfl
theorem oS3 (a n : Nat) : oS 3 a n = [(6, 0), (40, a), (30, 0), (40, 8), (31, 0)] := rfl
theorem oS4 (a n : Nat) : oS 4 a n = [(40, a), (15, 0), (17, 0), (40, 50), (33, 0)] := rfl
theorem r_s1 (a n : Nat) : s_res p t dp (oS 1 a n) = dp * Int32.ofNat a - (3 : Int32) := by
  rw [oS1, sres, sev, st15, sev, st40, sev, stb (by decide), sev, st40, sev, stb (by decide), sev0, hd1, b31, b32]; rfl
theorem r_s2 (a n : Nat) (ha : a < 100) : s_res p t dp (oS 2 a n) = Int32.ofNat (s_shr p t (n - 1 + 1) (s_S p)) / Int32.ofNat (a + 1) := by
  rw [oS2, sres, sev, st16, sev, st40, sev, stb (by decide), sev0, hd1, b33, qu_ne (n_ne0 (by omega) (by omega))]
theorem r_s3 (a n : Nat) : s_res p t dp (oS 3 a n) = Int32.ofNat (t 1 0) + Int32.ofNat a - (8 : Int32) := by
  rw [oS3, sres, sev, st6, sev, st40, sev, stb (by decide), sev, st40, sev, stb (by decide), sev0, hd1, b31, b30]; rfl
theorem r_s4 (a n : Nat) : s_res p t dp (oS 4 a n) = s_ht p t (s_spot p (Int32.ofNat a) dp) / (50 : Int32) := by
  rw [oS4, sres, sev, st40, sev, st15, sev, st17, sev, st40, sev, stb (by decide), sev0, hd1, b33, qu_ne (by decide)]; rfl
theorem r_t1 (a n : Nat) : s_res p t dp (oT 1 a n) = 0 ↔ ¬ dp - dp / (3 : Int32) * (3 : Int32) = Int32.ofNat a := by
  have e : s_res p t dp (oT 1 a n) = s_bin 36 (s_bin 31 dp (s_bin 32 (s_bin 33 dp (Int32.ofNat 3)) (Int32.ofNat 3))) (Int32.ofNat a) := by
    rw [oT1, sres, sev, st15, sev, st15, sev, st40, sev, stb (by decide), sev, st40, sev, stb (by decide), sev, stb (by decide), sev, st40, sev, stb (by decide), sev0, hd1]
  rw [e, b36, b31, b32, b33, qu_ne (by decide)]
  exact Iff.rfl
theorem r_t2 (a n : Nat) : s_res p t dp (oT 2 a n) = 0 ↔ s_ht p t (s_spot p 0 0) < Int32.ofNat (440 + 40 * a) := by
  have e : s_res p t dp (oT 2 a n) = s_bin 38 (s_ht p t (s_spot p (Int32.ofNat 0) (Int32.ofNat 0))) (Int32.ofNat (440 + 40 * a)) := by
    rw [oT2, sres, sev, st40, sev, st40, sev, st17, sev, st40, sev, stb (by decide), sev0, hd1]
  rw [e, b38]
  exact Iff.rfl
theorem r_t3 (a n : Nat) : s_res p t dp (oT 3 a n) = 0 ↔ (Int32.ofNat (30 * (a + 1)) < Int32.ofNat (s_shr p t (n - 1 + 1) (s_S p)) ∧ ¬ dp = (2 : Int32)) := by
  have e : s_res p t dp (oT 3 a n) = s_bin 21 (s_bin 37 (Int32.ofNat (s_shr p t (n - 1 + 1) (s_S p))) (Int32.ofNat (30 * (a + 1)))) (s_bin 36 dp (Int32.ofNat 2)) := by
    rw [oT3, sres, sev, st16, sev, st40, sev, stb (by decide), sev, st15, sev, st40, sev, stb (by decide), sev, stb (by decide), sev0, hd1]
  rw [e, b21, b37, b36]
  exact Iff.rfl
theorem r_t4 (a n : Nat) : s_res p t dp (oT 4 a n) = 0 ↔ (¬ s_eg p t (n - 1 + 1) (p 0 1) 0 = 0 ∨ (900 : Int32) ≤ Int32.ofNat (t 1 0)) := by
  have e : s_res p t dp (oT 4 a n) = s_bin 20 (if s_eg p t (n - 1 + 1) (p 0 1) 0 = 0 then 1 else 0) (s_bin 34 (Int32.ofNat (t 1 0)) (Int32.ofNat 900)) := by
    rw [oT4, sres, sev, st18, sev, st19, sev, st6, sev, st40, sev, stb (by decide), sev, stb (by decide), sev0, hd1]
  rw [e, b20, b34]
  constructor
  · rintro (h | h)
    · refine Or.inl fun z => ?_
      rw [if_pos z] at h
      exact absurd h (by decide)
    · exact Or.inr h
  · rintro (h | h)
    · exact Or.inl (if_neg h)
    · exact Or.inr h
end E6a
section E6b
variable {p t : sP} {dp ca : Int32} {I : am_I} {nd a : Nat} {q : Nat → Nat}
theorem i_sum (hp : p_ok p) (ht : t_ok p t) (hS2 : s_S p ≤ 200) (h1o : 1 ≤ p 0 2) (h1i : 1 ≤ p 0 4) (h : iS p t dp ca I) {N : Nat} (hN : 84 + p 0 2 + p 0 3 ≤ N) (hd : 0 ≤ dp.toInt) (hq : ∀ j, j < 6 → I a j = Int32.ofNat (q j)) (h2 : q 2 < 5) (h3 : q 3 < 17) : R_X12_sum N I (p 0 4) (p 0 2) (p 0 3) nd a = some (s_res p t dp (oS (q 2) (q 3) (p 0 4))) := by
  have h0 := hp.1
  have hS := s_S_le hp
  have e2 : I a (2 : Int32).toNatClampNeg = Int32.ofNat (q 2) := hq 2 (by omega)
  have e3 : I a (3 : Int32).toNatClampNeg = Int32.ofNat (q 3) := hq 3 (by omega)
  have en : p 0 4 - 1 + 1 = p 0 4 := by omega
  unfold R_X12_sum
  rw [e2, e3]
  rcases (by omega : q 2 = 0 ∨ q 2 = 1 ∨ q 2 = 2 ∨ q 2 = 3 ∨ q 2 = 4) with e | e | e | e | e <;> rw [e]
  · rw [if_pos (by decide), r_s0]
  · rw [if_neg (by decide), if_pos (by decide), h.1.2.2.2.2.1, r_s1]
  · obtain ⟨F, f1, f2⟩ := i_ins (nd := nd) hp ht hS2 h hN
    rw [if_neg (by decide), if_neg (by decide), if_pos (by decide), f1, Option.bind_some]
    dsimp only
    rw [i_many (a := N) (na := s_S p) (by omega) (Int32.ofNat (p 0 4)) (fun y => s_ik p t y = p 0 4) (fun y hy => by
      have := s_ik_b p t y
      rw [am_row_self, f2 y hy]; exact n_eq (by omega) (by omega)), Option.bind_some, n_inc, rg_pos (n_ne0 (by omega) (by omega)), r_s2 _ _ (by omega), en, s_shr_num]
  · have e4 : I (84 + (0 : Int32).toNatClampNeg) (3 : Int32).toNatClampNeg = Int32.ofNat (t 1 0) := (h.2.1 0 (by omega)).2.2.2
    rw [if_neg (by decide), if_neg (by decide), if_neg (by decide), if_pos (by decide), rg_pos (show vp_in (0 : Int32) (p 0 2) from (n_in (k := 0) (by omega)).mpr (by omega)), e4, r_s3]
  · obtain ⟨F, f1, f2⟩ := i_hs (ni := p 0 4) (nd := nd) hp ht hS2 h hN
    obtain ⟨d, rfl⟩ : ∃ d, dp = Int32.ofNat d := ⟨_, n_ex hd⟩
    have hdb := i_b (Int32.ofNat d)
    have hdm : (Int32.ofNat d).toInt.toNat < 2147483648 := by omega
    have ed : Int32.ofNat d = Int32.ofNat (Int32.ofNat d).toInt.toNat := n_ex hd
    generalize hz : (Int32.ofNat d).toInt.toNat = z at ed hdm
    have hsp : s_spot p (Int32.ofNat (q 3)) (Int32.ofNat z) = z % p 0 1 * p 0 0 + q 3 % p 0 0 := by
      unfold s_spot
      rw [n_ti hdm, n_ti (by omega), s_md_nat, s_md_nat]
    have hlt : z % p 0 1 * p 0 0 + q 3 % p 0 0 < s_S p := s_pair_b (Nat.mod_lt _ (by omega)) (Nat.mod_lt _ (by omega))
    rw [if_neg (by decide), if_neg (by decide), if_neg (by decide), if_neg (by decide), f1, Option.bind_some]
    dsimp only
    rw [h.1.1, h.1.2.1, h.1.2.2.2.2.1, rg_pos (n_ne0 (by omega) (by omega)), rg_pos (n_ne0 (by omega) (by omega)), ed, n_mod hdm (by omega), n_mod (by omega) (by omega), n_mul, n_add, rg_pos ((n_in (by omega)).mpr hlt), n_cl (by omega), f2 _ hlt, r_s4, hsp]
theorem i_edL (hp : p_ok p) (h : iS p t dp ca I) (h1o : 1 ≤ p 0 2) {N : Nat} {F : Nat → Int32} (hF : ∀ y, y < s_S p → F y = Int32.ofNat (s_ik p t y)) : ∀ (m y n : Nat) (v4 : Int32), y + m = p 0 1 → m < n → (v4 = 0 ∨ v4 = 1) → L_X12_holds n 0 N I (p 0 4) (p 0 2) (p 0 3) nd a F (s_S p) (Int32.ofNat (q 5)) v4 (Int32.ofNat y) = some (if (¬ v4 = 0 ∨ ¬ s_eg p t (p 0 4) m y = 0) ∨ (900 : Int32) ≤ Int32.ofNat (t 1 0) then 0 else 1) := by
  have h0 := hp.1
  have hS := s_S_le hp
  intro m
  induction m with
  | zero =>
    intro y n v4 hy hn hv
    obtain ⟨n, rfl⟩ : ∃ n', n = n' + 1 := ⟨n - 1, by omega⟩
    have e4 : I (84 + (0 : Int32).toNatClampNeg) (3 : Int32).toNatClampNeg = Int32.ofNat (t 1 0) := (h.2.1 0 (by omega)).2.2.2
    rw [L_X12_holds_0, h.1.2.1, if_pos ((n_le (by omega) (by omega)).mpr (by omega)), rg_pos (show vp_in (0 : Int32) (p 0 2) from (n_in (k := 0) (by omega)).mpr (by omega)), e4]
    by_cases c : v4 = 0
    · rw [if_pos c]
      by_cases c2 : (900 : Int32) ≤ Int32.ofNat (t 1 0)
      · rw [if_pos c2, if_pos (Or.inr c2)]
      · rw [if_neg c2, if_neg]
        rintro ((z | z) | z)
        · exact z c
        · exact z rfl
        · exact c2 z
    · rw [if_neg c, if_pos (Or.inl (Or.inl c))]
  | succ m ih =>
    intro y n v4 hy hn hv
    obtain ⟨n, rfl⟩ : ∃ n', n = n' + 1 := ⟨n - 1, by omega⟩
    have hl : p 0 0 * y < s_S p := by rw [Nat.mul_comm]; exact s_row_lt hp (show y < p 0 1 by omega)
    have hb := s_ik_b p t (p 0 0 * y)
    rw [L_X12_holds_0, h.1.1, h.1.2.1, if_neg (fun q => absurd ((n_le (by omega) (by omega)).mp q) (by omega)), n_mul, rg_pos ((n_in (by omega)).mpr hl), n_cl (by omega), hF _ hl, n_inc]
    have eg : s_eg p t (p 0 4) (m + 1) y = if s_ik p t (y * p 0 0) = p 0 4 then 1 else s_eg p t (p 0 4) m (y + 1) := rfl
    rw [Nat.mul_comm (p 0 0)] at hb ⊢
    by_cases c : s_ik p t (y * p 0 0) = p 0 4
    · rw [if_pos (by rw [c]), ih (y + 1) n (v4 ||| 1) (by omega) (by omega) (by rcases hv with rfl | rfl <;> decide), eg, if_pos c]
      have hz : ¬ (v4 ||| 1) = 0 := by rcases hv with rfl | rfl <;> decide
      rw [if_pos (Or.inl (Or.inl hz)), if_pos (Or.inl (Or.inr (by decide)))]
    · rw [if_neg (fun z => c ((n_eq (by omega) (by omega)).mp z)), show (v4 ||| (0 : Int32)) = v4 by rcases hv with rfl | rfl <;> rfl, ih (y + 1) n v4 (by omega) (by omega) hv, eg, if_neg c]
theorem i_holds (hp : p_ok p) (ht : t_ok p t) (hS2 : s_S p ≤ 200) (h1o : 1 ≤ p 0 2) (h1i : 1 ≤ p 0 4) (h : iS p t dp ca I) {N : Nat} (hN : 84 + p 0 2 + p 0 3 ≤ N) (hq : ∀ j, j < 6 → I a j = Int32.ofNat (q j)) (h4 : q 4 < 5) (h5 : q 5 < 3) : ∃ v, R_X12_holds N I (p 0 4) (p 0 2) (p 0 3) nd a = some v ∧ (v = 0 ↔ ¬ (oT (q 4) (q 5) (p 0 4) = [] ∨ ¬ s_res p t dp (oT (q 4) (q 5) (p 0 4)) = 0)) := by
  have h0 := hp.1
  have hS := s_S_le hp
  have e4 : I a (4 : Int32).toNatClampNeg = Int32.ofNat (q 4) := hq 4 (by omega)
  have e5 : I a (5 : Int32).toNatClampNeg = Int32.ofNat (q 5) := hq 5 (by omega)
  have en : p 0 4 - 1 + 1 = p 0 4 := by omega
  unfold R_X12_holds
  rw [e4, e5]
  have fin : ∀ (v : Int32) (c : List (Nat × Nat)), ¬ c = [] → (v = 0 ↔ s_res p t dp c = 0) → (v = 0 ↔ ¬ (c = [] ∨ ¬ s_res p t dp c = 0)) := fun v c hc hv => by
    rw [hv]
    exact ⟨fun z w => w.elim hc (fun y => y z), fun z => Classical.byContradiction fun w => z (Or.inr w)⟩
  rcases (by omega : q 4 = 0 ∨ q 4 = 1 ∨ q 4 = 2 ∨ q 4 = 3 ∨ q 4 = 4) with e | e | e | e | e <;> rw [e]
  · rw [if_pos (by decide)]
    exact ⟨1, rfl, ⟨fun z => absurd z (by decide), fun z => absurd (Or.inl rfl) z⟩⟩
  · rw [if_neg (by decide), if_pos (by decide), h.1.2.2.2.2.1]
    by_cases c : dp - dp / (3 : Int32) * (3 : Int32) = Int32.ofNat (q 5)
    · rw [if_pos c]
      exact ⟨1, rfl, fin _ _ (by intro z; cases z) (by rw [r_t1]; exact ⟨fun z => absurd z (by decide), fun z => absurd c z⟩)⟩
    · rw [if_neg c]
      exact ⟨0, rfl, fin _ _ (by intro z; cases z) (by rw [r_t1]; exact ⟨fun _ => c, fun _ => rfl⟩)⟩
  · obtain ⟨F, f1, f2⟩ := i_hs (ni := p 0 4) (nd := nd) hp ht hS2 h hN
    have hs1 := s_S_pos hp
    have e00 : s_spot p 0 0 = 0 := by
      show s_md 0 (p 0 1) * p 0 0 + s_md 0 (p 0 0) = 0
      unfold s_md
      simp
    rw [if_neg (by decide), if_neg (by decide), if_pos (by decide), f1, Option.bind_some]
    dsimp only
    rw [rg_pos (show vp_in (0 : Int32) (s_S p) from (n_in (k := 0) (by omega)).mpr (by omega))]
    simp only [show F (0 : Int32).toNatClampNeg = s_ht p t 0 from f2 0 (by omega)]
    rw [show (440 : Int32) + (40 : Int32) * Int32.ofNat (q 5) = Int32.ofNat (440 + 40 * q 5) from by rw [show (440 : Int32) = Int32.ofNat 440 from rfl, show (40 : Int32) = Int32.ofNat 40 from rfl, n_mul, n_add]]
    by_cases c : s_ht p t 0 < Int32.ofNat (440 + 40 * q 5)
    · rw [if_pos c]
      exact ⟨0, rfl, fin _ _ (by intro z; cases z) (by rw [r_t2, e00]; exact ⟨fun _ => c, fun _ => rfl⟩)⟩
    · rw [if_neg c]
      exact ⟨1, rfl, fin _ _ (by intro z; cases z) (by rw [r_t2, e00]; exact ⟨fun z => absurd z (by decide), fun z => absurd z c⟩)⟩
  · obtain ⟨F, f1, f2⟩ := i_ins (nd := nd) hp ht hS2 h hN
    have hsh := s_shr_b p t (p 0 4) (s_S p)
    rw [if_neg (by decide), if_neg (by decide), if_neg (by decide), if_pos (by decide), f1, Option.bind_some]
    dsimp only
    rw [i_many (a := N) (na := s_S p) (by omega) (Int32.ofNat (p 0 4)) (fun y => s_ik p t y = p 0 4) (fun y hy => by
      have := s_ik_b p t y
      rw [am_row_self, f2 y hy]; exact n_eq (by omega) (by omega)), Option.bind_some, ← s_shr_num, show (30 : Int32) * (Int32.ofNat (q 5) + 1) = Int32.ofNat (30 * (q 5 + 1)) from by rw [n_inc, show (30 : Int32) = Int32.ofNat 30 from rfl, n_mul], h.1.2.2.2.2.1]
    by_cases c : Int32.ofNat (s_shr p t (p 0 4) (s_S p)) ≤ Int32.ofNat (30 * (q 5 + 1))
    · rw [if_pos c]
      refine ⟨1, rfl, fin _ _ (by intro z; cases z) ?_⟩
      rw [r_t3, en]
      exact ⟨fun z => absurd z (by decide), fun z => absurd z.1 (by rw [i_lt]; rw [i_le] at c; omega)⟩
    · rw [if_neg c]
      by_cases c2 : dp = (2 : Int32)
      · rw [if_pos c2]
        refine ⟨1, rfl, fin _ _ (by intro z; cases z) ?_⟩
        rw [r_t3, en]
        exact ⟨fun z => absurd z (by decide), fun z => absurd c2 z.2⟩
      · rw [if_neg c2]
        refine ⟨0, rfl, fin _ _ (by intro z; cases z) ?_⟩
        rw [r_t3, en]
        exact ⟨fun _ => ⟨by rw [i_lt]; rw [i_le] at c; omega, c2⟩, fun _ => rfl⟩
  · obtain ⟨F, f1, f2⟩ := i_ins (nd := nd) hp ht hS2 h hN
    rw [if_neg (by decide), if_neg (by decide), if_neg (by decide), if_neg (by decide), f1, Option.bind_some]
    have := i_edL (nd := nd) (a := a) (q := q) (N := N) hp h h1o f2 (p 0 1) 0 FU 0 (by omega) (by unfold FU; omega) (Or.inl rfl)
    refine ⟨_, this, fin _ _ (by intro z; cases z) ?_⟩
    rw [r_t4, en]
    by_cases c : (¬ (0 : Int32) = 0 ∨ ¬ s_eg p t (p 0 4) (p 0 1) 0 = 0) ∨ (900 : Int32) ≤ Int32.ofNat (t 1 0)
    · rw [if_pos c]
      exact ⟨fun _ => c.elim (fun z => z.elim (fun w => absurd rfl w) Or.inl) Or.inr, fun _ => rfl⟩
    · rw [if_neg c]
      exact ⟨fun z => absurd z (by decide), fun z => absurd (z.elim (fun w => Or.inl (Or.inr w)) Or.inr) c⟩
end E6b
