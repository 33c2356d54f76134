/-! what the tokens say: sums and tests parsed -/
section F4
variable {K V C : Nat → Nat}
theorem pa_va {n d p p' : Nat} {c : List (Nat × Nat)} (h : sp K V n 5 d p = .inl (p', c)) (ho : o_mul (K p') = false) : sp K V (n + 1) 4 d p = .inl (p', c) := by
  rw [sp_4]
  unfold sp_ch
  rw [sb_l h]
  show (if o_mul (K p') = true then _ else _) = _
  rw [if_neg (by rw [ho]; decide)]
theorem pa_pr {n d p p' : Nat} {c : List (Nat × Nat)} (h : sp K V n 4 d p = .inl (p', c)) (ho : o_add (K p') = false) : sp K V (n + 1) 3 d p = .inl (p', c) := by
  rw [sp_3]
  unfold sp_ch
  rw [sb_l h]
  show (if o_add (K p') = true then _ else _) = _
  rw [if_neg (by rw [ho]; decide)]
/-- two, three values in a product -/
theorem pa_pr2 {n d p p1 p2 : Nat} {c1 c2 : List (Nat × Nat)} (h1 : sp K V n 5 d p = .inl (p1, c1)) (o1 : o_mul (K p1) = true) (h2 : sp K V n 5 d (p1 + 1) = .inl (p2, c2)) (o2 : o_mul (K p2) = false) : sp K V (n + 1) 4 d p = .inl (p2, c1 ++ c2 ++ [(K p1, 0)]) := by
  rw [sp_4]
  unfold sp_ch
  rw [sb_l h1]
  show (if o_mul (K p1) = true then _ else _) = _
  rw [if_pos o1, sb_l h2]
  show (if o_mul (K p2) = true then _ else _) = _
  rw [if_neg (by rw [o2]; decide)]
theorem pa_pr3 {n d p p1 p2 p3 : Nat} {c1 c2 c3 : List (Nat × Nat)} (h1 : sp K V n 5 d p = .inl (p1, c1)) (o1 : o_mul (K p1) = true) (h2 : sp K V n 5 d (p1 + 1) = .inl (p2, c2)) (o2 : o_mul (K p2) = true) (h3 : sp K V n 5 d (p2 + 1) = .inl (p3, c3)) (o3 : o_mul (K p3) = false) : sp K V (n + 1) 4 d p = .inl (p3, c1 ++ c2 ++ [(K p1, 0)] ++ c3 ++ [(K p2, 0)]) := by
  rw [sp_4]
  unfold sp_ch
  rw [sb_l h1]
  show (if o_mul (K p1) = true then _ else _) = _
  rw [if_pos o1, sb_l h2]
  show (if o_mul (K p2) = true then _ else _) = _
  rw [if_pos o2, sb_l h3]
  show (if o_mul (K p3) = true then _ else _) = _
  rw [if_neg (by rw [o3]; decide)]
theorem pa_su2 {n d p p1 p2 : Nat} {c1 c2 : List (Nat × Nat)} (h1 : sp K V n 4 d p = .inl (p1, c1)) (o1 : o_add (K p1) = true) (h2 : sp K V n 4 d (p1 + 1) = .inl (p2, c2)) (o2 : o_add (K p2) = false) : sp K V (n + 1) 3 d p = .inl (p2, c1 ++ c2 ++ [(K p1, 0)]) := by
  rw [sp_3]
  unfold sp_ch
  rw [sb_l h1]
  show (if o_add (K p1) = true then _ else _) = _
  rw [if_pos o1, sb_l h2]
  show (if o_add (K p2) = true then _ else _) = _
  rw [if_neg (by rw [o2]; decide)]
theorem pa_su3 {n d p p1 p2 p3 : Nat} {c1 c2 c3 : List (Nat × Nat)} (h1 : sp K V n 4 d p = .inl (p1, c1)) (o1 : o_add (K p1) = true) (h2 : sp K V n 4 d (p1 + 1) = .inl (p2, c2)) (o2 : o_add (K p2) = true) (h3 : sp K V n 4 d (p2 + 1) = .inl (p3, c3)) (o3 : o_add (K p3) = false) : sp K V (n + 1) 3 d p = .inl (p3, c1 ++ c2 ++ [(K p1, 0)] ++ c3 ++ [(K p2, 0)]) := by
  rw [sp_3]
  unfold sp_ch
  rw [sb_l h1]
  show (if o_add (K p1) = true then _ else _) = _
  rw [if_pos o1, sb_l h2]
  show (if o_add (K p2) = true then _ else _) = _
  rw [if_pos o2, sb_l h3]
  show (if o_add (K p3) = true then _ else _) = _
  rw [if_neg (by rw [o3]; decide)]
/-- one value -/
theorem va_n {n d p : Nat} (h : K p = 40) : sp K V (n + 1) 5 d p = .inl (p + 1, [(40, V p)]) := by
  rw [sp_5]
  unfold sp_va
  rw [if_neg (by omega), if_pos h]
theorem va_d {n d p : Nat} (h : K p = 15) : sp K V (n + 1) 5 d p = .inl (p + 1, [(15, 0)]) := by
  rw [sp_5]
  unfold sp_va
  rw [if_neg (by omega), if_neg (by omega), if_pos h]
theorem va_m {n d p k : Nat} (h : K p = k) (hk : k = 16 ∨ k = 6) (h2 : K (p + 1) = 39) : sp K V (n + 1) 5 d p = .inl (p + 2, [(k, p + 1)]) := by
  rw [sp_5]
  unfold sp_va
  rw [if_neg (by omega), if_neg (by omega), if_neg (by omega), if_pos (by omega), if_pos h2, h]
theorem va_h {n p p1 p2 : Nat} {c1 c2 : List (Nat × Nat)} (h : K p = 17) (h1 : K (p + 1) = 24) (h2 : sp K V n 3 1 (p + 2) = .inl (p1, c1)) (h3 : K p1 = 29) (h4 : sp K V n 3 1 (p1 + 1) = .inl (p2, c2)) (h5 : K p2 = 25) : sp K V (n + 2) 5 0 p = .inl (p2 + 1, c1 ++ c2 ++ [(17, 0)]) := by
  rw [sp_5]
  unfold sp_va
  rw [if_neg (by omega), if_neg (by omega), if_neg (by omega), if_neg (by omega), if_pos (Or.inl h), sp_6]
  unfold sp_pa
  rw [if_pos ⟨h1, by omega⟩, sb_l h2, if_pos h3, sb_l h4, if_pos h5, h]
  rfl
/-- one number or name as a sum -/
theorem su_1 {n d p p' : Nat} {c : List (Nat × Nat)} (h : sp K V n 5 d p = .inl (p', c)) (o1 : o_mul (K p') = false) (o2 : o_add (K p') = false) : sp K V (n + 2) 3 d p = .inl (p', c) := pa_pr (pa_va h o1) o2
/-- a comparison, one after another -/
theorem te_c {n d p p1 p2 : Nat} {c1 c2 : List (Nat × Nat)} (hp : ¬ K p = 19 ∧ ¬ K p = 26 ∧ ¬ K p = 18) (h1 : sp K V n 3 d p = .inl (p1, c1)) (hk : 34 ≤ K p1 ∧ K p1 ≤ 38) (h2 : sp K V n 3 d (p1 + 1) = .inl (p2, c2)) : sp K V (n + 1) 2 d p = .inl (p2, c1 ++ c2 ++ [(K p1, 0)]) := by
  rw [sp_2]
  unfold sp_si
  rw [if_neg (by omega), if_neg hp.1, if_neg hp.2.1, if_neg hp.2.2, sb_l h1, if_pos hk, sb_l h2]
theorem te_1 {n d p p' : Nat} {c : List (Nat × Nat)} (h : sp K V n 2 d p = .inl (p', c)) (ho : o_and (K p') = false) : sp K V (n + 1) 1 d p = .inl (p', c) := by
  rw [sp_1]
  unfold sp_ch
  rw [sb_l h]
  show (if o_and (K p') = true then _ else _) = _
  rw [if_neg (by rw [ho]; decide)]
theorem te_0 {n d p p' : Nat} {c : List (Nat × Nat)} (h : sp K V n 1 d p = .inl (p', c)) (ho : o_or (K p') = false) : sp K V (n + 1) 0 d p = .inl (p', c) := by
  rw [sp_0]
  unfold sp_ch
  rw [sb_l h]
  show (if o_or (K p') = true then _ else _) = _
  rw [if_neg (by rw [ho]; decide)]
theorem te_or {n d p p1 p2 : Nat} {c1 c2 : List (Nat × Nat)} (h1 : sp K V n 1 d p = .inl (p1, c1)) (o1 : o_or (K p1) = true) (h2 : sp K V n 1 d (p1 + 1) = .inl (p2, c2)) (o2 : o_or (K p2) = false) : sp K V (n + 1) 0 d p = .inl (p2, c1 ++ c2 ++ [(K p1, 0)]) := by
  rw [sp_0]
  unfold sp_ch
  rw [sb_l h1]
  show (if o_or (K p1) = true then _ else _) = _
  rw [if_pos o1, sb_l h2]
  show (if o_or (K p2) = true then _ else _) = _
  rw [if_neg (by rw [o2]; decide)]
theorem te_and {n d p p1 p2 : Nat} {c1 c2 : List (Nat × Nat)} (h1 : sp K V n 2 d p = .inl (p1, c1)) (o1 : o_and (K p1) = true) (h2 : sp K V n 2 d (p1 + 1) = .inl (p2, c2)) (o2 : o_and (K p2) = false) : sp K V (n + 1) 1 d p = .inl (p2, c1 ++ c2 ++ [(K p1, 0)]) := by
  rw [sp_1]
  unfold sp_ch
  rw [sb_l h1]
  show (if o_and (K p1) = true then _ else _) = _
  rw [if_pos o1, sb_l h2]
  show (if o_and (K p2) = true then _ else _) = _
  rw [if_neg (by rw [o2]; decide)]
theorem te_ne {n p : Nat} (h1 : K p = 19) (h2 : K (p + 1) = 18) (h3 : K (p + 2) = 39) : sp K V (n + 2) 2 0 p = .inl (p + 3, [(18, p + 2), (19, 0)]) := by
  have e : sp K V (n + 1) 2 (0 + 1) (p + 1) = .inl (p + 1 + 2, [(18, p + 1 + 1)]) := by
    rw [sp_2]
    unfold sp_si
    rw [if_neg (by omega), if_neg (by omega), if_neg (by omega), if_pos h2, if_pos h3]
  rw [sp_2]
  unfold sp_si
  rw [if_neg (by omega), if_pos h1, sb_l e]
  rfl
/-- sums: the code with names by their tokens -/
def uS (k a p : Nat) : List (Nat × Nat) := if k = 0 then [(40, a)] else if k = 1 then [(15, 0), (40, a), (32, 0), (40, 3), (31, 0)] else if k = 2 then [(16, p + 1), (40, a + 1), (33, 0)] else if k = 3 then [(6, p + 1), (40, a), (30, 0), (40, 8), (31, 0)] else [(40, a), (15, 0), (17, 0), (40, 50), (33, 0)]
def uT (k a p : Nat) : List (Nat × Nat) := if k = 0 then [] else if k = 1 then [(15, 0), (15, 0), (40, 3), (33, 0), (40, 3), (32, 0), (31, 0), (40, a), (36, 0)] else if k = 2 then [(40, 0), (40, 0), (17, 0), (40, 440 + 40 * a), (38, 0)] else if k = 3 then [(16, p + 1), (40, 30 * (a + 1)), (37, 0), (15, 0), (40, 2), (36, 0), (21, 0)] else [(18, p + 2), (19, 0), (6, p + 5), (40, 900), (34, 0), (20, 0)]
theorem o_end {x : Nat} (h : x = 14 ∨ x = 28) : o_mul x = false ∧ o_add x = false := by rcases h with rfl | rfl <;> decide
theorem p_sum {k a n p : Nat} (hk : k < 5) (h : sg K V C p (lSum k a n)) (he : K (p + (lSum k a n).length) = 14 ∨ K (p + (lSum k a n).length) = 28) : sp K V GDN 3 0 p = .inl (p + (lSum k a n).length, uS k a p) := by
  obtain ⟨e1, e2⟩ := o_end he
  rcases (by omega : k = 0 ∨ k = 1 ∨ k = 2 ∨ k = 3 ∨ k = 4) with rfl | rfl | rfl | rfl | rfl
  · obtain ⟨⟨k0, v0, -⟩, -⟩ := h
    have := su_1 (n := 38) (d := 0) (va_n (V := V) (n := 37) k0) e1 e2
    rw [v0 rfl] at this
    exact this
  · obtain ⟨⟨k0, -, -⟩, ⟨k1, -, -⟩, ⟨k2, v2, -⟩, ⟨k3, -, -⟩, ⟨k4, v4, -⟩, -⟩ := h
    have a1 := pa_pr2 (n := 38) (d := 0) (va_d (V := V) (n := 37) k0) (by rw [k1]; rfl) (va_n (n := 37) k2) (by rw [k3]; rfl)
    have a2 := pa_va (n := 38) (d := 0) (va_n (V := V) (n := 37) k4) e1
    have := pa_su2 a1 (by rw [k3]; rfl) a2 e2
    rw [k1, k3, v2 rfl, v4 rfl] at this
    exact this
  · obtain ⟨⟨k0, -, -⟩, ⟨k1, -, -⟩, ⟨k2, -, -⟩, ⟨k3, v3, -⟩, -⟩ := h
    have a1 := pa_pr2 (n := 38) (d := 0) (va_m (V := V) (n := 37) k0 (Or.inl rfl) k1) (by rw [k2]; rfl) (va_n (n := 37) k3) e1
    have := pa_pr a1 e2
    rw [k2, v3 rfl] at this
    exact this
  · obtain ⟨⟨k0, -, -⟩, ⟨k1, -, -⟩, ⟨k2, -, -⟩, ⟨k3, v3, -⟩, ⟨k4, -, -⟩, ⟨k5, v5, -⟩, -⟩ := h
    have a1 := pa_va (n := 38) (d := 0) (va_m (V := V) (n := 37) k0 (Or.inr rfl) k1) (by rw [k2]; rfl)
    have a2 := pa_va (n := 38) (d := 0) (va_n (V := V) (n := 37) k3) (by rw [k4]; rfl)
    have a3 := pa_va (n := 38) (d := 0) (va_n (V := V) (n := 37) k5) e1
    have := pa_su3 a1 (by rw [k2]; rfl) a2 (by rw [k4]; rfl) a3 e2
    rw [k2, k4, v3 rfl, v5 rfl] at this
    exact this
  · obtain ⟨⟨k0, -, -⟩, ⟨k1, -, -⟩, ⟨k2, v2, -⟩, ⟨k3, -, -⟩, ⟨k4, -, -⟩, ⟨k5, -, -⟩, ⟨k6, -, -⟩, ⟨k7, v7, -⟩, -⟩ := h
    have b1 := su_1 (n := 34) (d := 1) (va_n (V := V) (n := 33) k2) (by rw [k3]; rfl) (by rw [k3]; rfl)
    have b2 := su_1 (n := 34) (d := 1) (va_d (V := V) (n := 33) k4) (by rw [k5]; rfl) (by rw [k5]; rfl)
    have a1 := pa_pr2 (n := 38) (d := 0) (va_h k0 k1 b1 k3 b2 k5) (by rw [k6]; rfl) (va_n (n := 37) k7) e1
    have := pa_pr a1 e2
    rw [k6, v2 rfl, v7 rfl] at this
    exact this
theorem p_tst {k a n p : Nat} (hk : k < 5) (h0 : ¬ k = 0) (h : sg K V C p (lTst k a n)) (he : K (p + (lTst k a n).length) = 28) : K p = 14 ∧ sp K V GDN 0 0 (p + 1) = .inl (p + (lTst k a n).length, uT k a (p + 1)) := by
  rcases (by omega : k = 1 ∨ k = 2 ∨ k = 3 ∨ k = 4) with rfl | rfl | rfl | rfl
  · obtain ⟨⟨k0, -, -⟩, ⟨k1, -, -⟩, ⟨k2, -, -⟩, ⟨k3, -, -⟩, ⟨k4, -, -⟩, ⟨k5, v5, -⟩, ⟨k6, -, -⟩, ⟨k7, v7, -⟩, ⟨k8, -, -⟩, ⟨k9, v9, -⟩, -⟩ := h
    have he : K (p + 1 + 1 + 1 + 1 + 1 + 1 + 1 + 1 + 1 + 1) = 28 := he
    have a1 := pa_va (n := 35) (d := 0) (va_d (V := V) (n := 34) k1) (by rw [k2]; rfl)
    have a2 := pa_pr3 (n := 35) (d := 0) (va_d (V := V) (n := 34) k3) (by rw [k4]; rfl) (va_n (n := 34) k5) (by rw [k6]; rfl) (va_n (n := 34) k7) (by rw [k8]; rfl)
    have a3 := pa_su2 (n := 36) a1 (by rw [k2]; rfl) a2 (by rw [k8]; rfl)
    have a4 := su_1 (n := 35) (d := 0) (va_n (V := V) (n := 34) k9) (by rw [he]; rfl) (by rw [he]; rfl)
    have b1 := te_c (n := 37) (by omega) a3 (by omega) a4
    have this := te_0 (n := 39) (te_1 (n := 38) b1 (by rw [he]; rfl)) (by rw [he]; rfl)
    rw [k2, k4, k6, k8, v5 rfl, v7 rfl, v9 rfl] at this
    exact ⟨k0, this⟩
  · obtain ⟨⟨k0, -, -⟩, ⟨k1, -, -⟩, ⟨k2, -, -⟩, ⟨k3, v3, -⟩, ⟨k4, -, -⟩, ⟨k5, v5, -⟩, ⟨k6, -, -⟩, ⟨k7, -, -⟩, ⟨k8, v8, -⟩, -⟩ := h
    have he : K (p + 1 + 1 + 1 + 1 + 1 + 1 + 1 + 1 + 1) = 28 := he
    have b1 := su_1 (n := 31) (d := 1) (va_n (V := V) (n := 30) k3) (by rw [k4]; rfl) (by rw [k4]; rfl)
    have b2 := su_1 (n := 31) (d := 1) (va_n (V := V) (n := 30) k5) (by rw [k6]; rfl) (by rw [k6]; rfl)
    have a1 := su_1 (n := 35) (d := 0) (va_h (n := 33) k1 k2 b1 k4 b2 k6) (by rw [k7]; rfl) (by rw [k7]; rfl)
    have a4 := su_1 (n := 35) (d := 0) (va_n (V := V) (n := 34) k8) (by rw [he]; rfl) (by rw [he]; rfl)
    have b3 := te_c (n := 37) (by omega) a1 (by omega) a4
    have this := te_0 (n := 39) (te_1 (n := 38) b3 (by rw [he]; rfl)) (by rw [he]; rfl)
    rw [k7, v3 rfl, v5 rfl, v8 rfl] at this
    exact ⟨k0, this⟩
  · obtain ⟨⟨k0, -, -⟩, ⟨k1, -, -⟩, ⟨k2, -, -⟩, ⟨k3, -, -⟩, ⟨k4, v4, -⟩, ⟨k5, -, -⟩, ⟨k6, -, -⟩, ⟨k7, -, -⟩, ⟨k8, v8, -⟩, -⟩ := h
    have he : K (p + 1 + 1 + 1 + 1 + 1 + 1 + 1 + 1 + 1) = 28 := he
    have a1 := su_1 (n := 35) (d := 0) (va_m (V := V) (n := 34) k1 (Or.inl rfl) k2) (by rw [k3]; rfl) (by rw [k3]; rfl)
    have a2 := su_1 (n := 35) (d := 0) (va_n (V := V) (n := 34) k4) (by rw [k5]; rfl) (by rw [k5]; rfl)
    have b1 := te_c (n := 37) (by omega) a1 (by rw [k3]; omega) a2
    have a3 := su_1 (n := 35) (d := 0) (va_d (V := V) (n := 34) k6) (by rw [k7]; rfl) (by rw [k7]; rfl)
    have a4 := su_1 (n := 35) (d := 0) (va_n (V := V) (n := 34) k8) (by rw [he]; rfl) (by rw [he]; rfl)
    have b2 := te_c (n := 37) (by omega) a3 (by omega) a4
    have this := te_or (n := 39) (te_1 (n := 38) b1 (by rw [k5]; rfl)) (by rw [k5]; rfl) (te_1 (n := 38) b2 (by rw [he]; rfl)) (by rw [he]; rfl)
    rw [k3, k5, k7, v4 rfl, v8 rfl] at this
    exact ⟨k0, this⟩
  · obtain ⟨⟨k0, -, -⟩, ⟨k1, -, -⟩, ⟨k2, -, -⟩, ⟨k3, -, -⟩, ⟨k4, -, -⟩, ⟨k5, -, -⟩, ⟨k6, -, -⟩, ⟨k7, -, -⟩, ⟨k8, v8, -⟩, -⟩ := h
    have he : K (p + 1 + 1 + 1 + 1 + 1 + 1 + 1 + 1 + 1) = 28 := he
    have b1 := te_ne (V := V) (n := 36) k1 k2 k3
    have a3 := su_1 (n := 35) (d := 0) (va_m (V := V) (n := 34) k5 (Or.inr rfl) k6) (by rw [k7]; rfl) (by rw [k7]; rfl)
    have a4 := su_1 (n := 35) (d := 0) (va_n (V := V) (n := 34) k8) (by rw [he]; rfl) (by rw [he]; rfl)
    have b2 := te_c (n := 37) (by omega) a3 (by rw [k7]; omega) a4
    have this := te_0 (n := 39) (te_and (n := 38) b1 (show o_and (K (p + 1 + 3)) = true by rw [show p + 1 + 3 = p + 1 + 1 + 1 + 1 from rfl, k4]; rfl) b2 (by rw [he]; rfl)) (by rw [he]; rfl)
    rw [show K (p + 1 + 3) = 20 from k4, show K (p + 1 + 1 + 1 + 1 + 1 + 2) = 34 from k7, v8 rfl] at this
    exact ⟨k0, this⟩
end F4
