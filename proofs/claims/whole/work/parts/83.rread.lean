/-! the reference's reader of sums and tests does the syntax -/
section STB
variable {K V : Nat → Nat}
/-- with budget enough, more is the same -/
theorem sp_lp_cg {cal cal' : Nat → sR} {op : Nat → Bool} (h : ∀ p, cal p = cal' p) : ∀ (m p : Nat) (c : List (Nat × Nat)), sp_lp cal op K m p c = sp_lp cal' op K m p c := by
  have : cal = cal' := funext h
  subst this
  intro m p c; rfl
theorem sp_ch_cg {cal cal' : Nat → sR} {op : Nat → Bool} (h : ∀ p, cal p = cal' p) (p : Nat) : sp_ch cal op K p = sp_ch cal' op K p := by
  have : cal = cal' := funext h
  subst this
  rfl
theorem sp_st : ∀ (n md d p : Nat), md ≤ 6 → d ≤ 8 → nd md d ≤ n → sp K V (n + 1) md d p = sp K V n md d p := by
  intro n
  induction n with
  | zero =>
    intro md d p hm hd hnd
    unfold nd at hnd
    split at hnd
    · omega
    · split at hnd
      · omega
      · split at hnd
        · omega
        · split at hnd
          · omega
          · split at hnd
            · omega
            · split at hnd <;> omega
  | succ n ih =>
    intro md d p hm hd hnd
    rcases (show md = 0 ∨ md = 1 ∨ md = 2 ∨ md = 3 ∨ md = 4 ∨ md = 5 ∨ md = 6 by omega) with rfl | rfl | rfl | rfl | rfl | rfl | rfl
    · rw [nd_0] at hnd
      rw [sp_0, sp_0]
      exact sp_ch_cg (fun p => ih 1 d p (by omega) hd (by rw [nd_1]; omega)) p
    · rw [nd_1] at hnd
      rw [sp_1, sp_1]
      exact sp_ch_cg (fun p => ih 2 d p (by omega) hd (by rw [nd_2]; omega)) p
    · rw [nd_2] at hnd
      rw [sp_2, sp_2]
      have e3 : sp K V (n + 1) 3 d = sp K V n 3 d := funext fun p => ih 3 d p (by omega) hd (by rw [nd_3]; omega)
      unfold sp_si
      rw [e3]
      by_cases h8 : 8 ≤ d
      · by_cases c1 : K p = 19 ∨ K p = 26
        · rw [if_pos ⟨c1, h8⟩, if_pos ⟨c1, h8⟩]
        · have hn : ¬ ((K p = 19 ∨ K p = 26) ∧ 8 ≤ d) := fun z => c1 z.1
          have n19 : ¬ K p = 19 := fun z => c1 (Or.inl z)
          have n26 : ¬ K p = 26 := fun z => c1 (Or.inr z)
          simp only [if_neg hn, if_neg n19, if_neg n26]
      · have e2 : sp K V (n + 1) 2 (d + 1) = sp K V n 2 (d + 1) := funext fun p => ih 2 (d + 1) p (by omega) (by omega) (by rw [nd_2]; omega)
        have e0 : sp K V (n + 1) 0 (d + 1) = sp K V n 0 (d + 1) := funext fun p => ih 0 (d + 1) p (by omega) (by omega) (by rw [nd_0]; omega)
        rw [e2, e0]
    · rw [nd_3] at hnd
      rw [sp_3, sp_3]
      exact sp_ch_cg (fun p => ih 4 d p (by omega) hd (by rw [nd_4]; omega)) p
    · rw [nd_4] at hnd
      rw [sp_4, sp_4]
      exact sp_ch_cg (fun p => ih 5 d p (by omega) hd (by rw [nd_5]; omega)) p
    · rw [nd_5] at hnd
      rw [sp_5, sp_5]
      have e6 : sp K V (n + 1) 6 d = sp K V n 6 d := funext fun p => ih 6 d p (by omega) hd (by rw [nd_6]; omega)
      unfold sp_va
      rw [e6]
      by_cases h8 : 8 ≤ d
      · by_cases c1 : K p = 31 ∨ K p = 24
        · rw [if_pos ⟨c1, h8⟩, if_pos ⟨c1, h8⟩]
        · have hn : ¬ ((K p = 31 ∨ K p = 24) ∧ 8 ≤ d) := fun z => c1 z.1
          have n31 : ¬ K p = 31 := fun z => c1 (Or.inl z)
          have n24 : ¬ K p = 24 := fun z => c1 (Or.inr z)
          simp only [if_neg hn, if_neg n31, if_neg n24]
      · have e5 : sp K V (n + 1) 5 (d + 1) = sp K V n 5 (d + 1) := funext fun p => ih 5 (d + 1) p (by omega) (by omega) (by rw [nd_5]; omega)
        have e3 : sp K V (n + 1) 3 (d + 1) = sp K V n 3 (d + 1) := funext fun p => ih 3 (d + 1) p (by omega) (by omega) (by rw [nd_3]; omega)
        rw [e5, e3]
    · rw [nd_6] at hnd
      rw [sp_6, sp_6]
      unfold sp_pa
      by_cases c1 : K p = 24 ∧ d < 8
      · have e3 : sp K V (n + 1) 3 (d + 1) = sp K V n 3 (d + 1) := funext fun p => ih 3 (d + 1) p (by omega) (by omega) (by rw [nd_3]; omega)
        rw [if_pos c1, if_pos c1, e3]
      · rw [if_neg c1, if_neg c1]
end STB
/-! how the reference counts kinds -/
def rkL : List Nat := [0, 1, 2, 3, 4, 5, 6, 7, 8, 9, 10, 11, 12, 13, 14, 15, 16, 17, 18, 19, 20, 21, 22, 23, 90, 91, 141, 143, 109, 94, 93, 95, 92, 97, 110, 112, 111, 300, 301, 40, 41, 900, 901]
def rk (k : Nat) : Nat := rkL.getD k 902
theorem rk_inj0 : (List.range 43).all (fun i => (List.range 43).all (fun j => (rk i != rk j) || (i == j))) = true := by decide +kernel
theorem rk_inj {i j : Nat} (hi : i ≤ 42) (hj : j ≤ 42) (h : rk i = rk j) : i = j := by
  have h1 := List.all_eq_true.mp (List.all_eq_true.mp rk_inj0 i (List.mem_range.mpr (by omega))) j (List.mem_range.mpr (by omega))
  rw [h] at h1
  simpa using h1
theorem rk_lt (k : Nat) : rk k ≤ 902 := by
  unfold rk
  have h1 : rkL.all (fun n => decide (n ≤ 902)) = true := by decide
  rw [List.getD_eq_getElem?_getD]
  cases h : rkL[k]? with
  | none => show 902 ≤ 902; omega
  | some n => exact of_decide_eq_true (List.all_eq_true.mp h1 n (List.mem_of_getElem? h))
/-! what the reference writes -/
def w1 (f : Nat → Int32) (k : Nat) (v : Int32) : Nat → Int32 := fun x => if x = k then v else f x
theorem up_w1 (I : am_I) (a k : Nat) (v : Int32) : am_up I a k v a = w1 (I a) k v := am_up_row I v
def s_rl (op : Nat) : Nat := if op = 9 then 18 else if op = 6 then 20 else 19
def s_ov : List (Nat × Nat) → (Nat → Int32) → Nat → Int32
  | [], f => f
  | (r, a) :: l, f => s_ov l (w1 f a (Int32.ofNat r))
def s_im : List (Nat × Nat) → List (Nat × Nat)
  | [] => []
  | (op, a) :: r => if s_nmd op = true then (s_rl op, a) :: s_im r else s_im r
def s_cw : Nat → List (Nat × Nat) → (Nat → Int32) → Nat → Int32
  | _, [], f => f
  | k, (op, a) :: r, f => if s_two op = true then s_cw (k + 2) r (w1 (w1 f k (Int32.ofNat (s_rop op))) (k + 1) (Int32.ofNat a)) else s_cw (k + 1) r (w1 f k (Int32.ofNat (s_rop op)))
def s_nn : List (Nat × Nat) → Nat
  | [] => 0
  | (op, _) :: r => (if s_nmd op = true then 1 else 0) + s_nn r
def s_ow : Nat → Nat → List (Nat × Nat) → (Nat → Int32) → Nat → Int32
  | _, _, [], f => f
  | os, sz, (op, _) :: r, f => if s_nmd op = true then s_ow (os + 1) (sz + 2) r (w1 f os (Int32.ofNat (sz + 1))) else s_ow os (sz + (if s_two op = true then 2 else 1)) r f
theorem s_ov_app : ∀ (a b : List (Nat × Nat)) (f : Nat → Int32), s_ov (a ++ b) f = s_ov b (s_ov a f)
  | [], _, _ => rfl
  | (r, x) :: l, b, f => by simp only [List.cons_append, s_ov]; exact s_ov_app l b _
theorem s_im_app : ∀ (a b : List (Nat × Nat)), s_im (a ++ b) = s_im a ++ s_im b
  | [], _ => rfl
  | (op, x) :: l, b => by
    simp only [List.cons_append, s_im, s_im_app l b]
    split <;> rfl
theorem s_cw_app : ∀ (a b : List (Nat × Nat)) (k : Nat) (f : Nat → Int32), s_cw k (a ++ b) f = s_cw (k + s_el a) b (s_cw k a f)
  | [], _, _, _ => rfl
  | (op, x) :: l, b, k, f => by
    simp only [List.cons_append, s_cw, s_el]
    split
    · rw [s_cw_app l b, Nat.add_assoc]
    · rw [s_cw_app l b, Nat.add_assoc]
theorem s_nn_app : ∀ (a b : List (Nat × Nat)), s_nn (a ++ b) = s_nn a + s_nn b
  | [], b => by simp [s_nn]
  | (op, x) :: l, b => by simp only [List.cons_append, s_nn, s_nn_app l b]; omega
theorem s_nmd_two {op : Nat} (h : s_nmd op = true) : s_two op = true := by
  simp only [s_nmd, Bool.or_eq_true, beq_iff_eq] at h
  simp only [s_two, Bool.or_eq_true, beq_iff_eq]
  omega
theorem s_ow_app : ∀ (a b : List (Nat × Nat)) (os sz : Nat) (f : Nat → Int32), s_ow os sz (a ++ b) f = s_ow (os + s_nn a) (sz + s_el a) b (s_ow os sz a f)
  | [], _, _, _, _ => rfl
  | (op, x) :: l, b, os, sz, f => by
    simp only [List.cons_append, s_ow, s_nn, s_el]
    split
    · rename_i h
      rw [s_ow_app l b, if_pos (s_nmd_two h), ← Nat.add_assoc, ← Nat.add_assoc]
    · rw [s_ow_app l b, Nat.zero_add, ← Nat.add_assoc]
theorem s_nn_le : ∀ (c : List (Nat × Nat)), s_nn c ≤ c.length
  | [] => Nat.le_refl _
  | (op, x) :: l => by
    have := s_nn_le l
    simp only [s_nn, List.length_cons]
    split <;> omega
section RPA
variable {K V : Nat → Nat} {T : Nat} {G : am_G}
def rX (K V : Nat → Nat) (T : Nat) (I : am_I) (G : am_G) : Prop := k_ok K V T ∧ (∀ p, p ≤ T → I 81 p = Int32.ofNat (rk (K p))) ∧ ∀ I' : am_I, I' 80 = I 80 → I' 82 = I 82 → I' 83 = I 83 → ∀ p, p ≤ T → K p = 40 → R_X14_numberAt_79 I' G (Int32.ofNat p) = some (Int32.ofNat (V p), I', G)
def rfr (I I' : am_I) : Prop := (∀ b, b ≠ 79 → b ≠ 84 → b ≠ 123 → b ≠ 137 → b ≠ 138 → I' b = I b) ∧ (∀ k, k ≠ 9 → k ≠ 10 → I' 79 k = I 79 k) ∧ ∀ k, k ≠ 21 → k ≠ 23 → I' 123 k = I 123 k
theorem rfr.rf (I : am_I) : rfr I I := ⟨fun _ _ _ _ _ _ => rfl, fun _ _ _ => rfl, fun _ _ _ => rfl⟩
theorem rfr.tr {I I1 I2 : am_I} (h1 : rfr I I1) (h2 : rfr I1 I2) : rfr I I2 := ⟨fun b z1 z2 z3 z4 z5 => (h2.1 b z1 z2 z3 z4 z5).trans (h1.1 b z1 z2 z3 z4 z5), fun k z1 z2 => (h2.2.1 k z1 z2).trans (h1.2.1 k z1 z2), fun k z1 z2 => (h2.2.2 k z1 z2).trans (h1.2.2 k z1 z2)⟩
theorem rX.kept {I I' : am_I} (h : rX K V T I G) (hf : rfr I I') : rX K V T I' G := by
  obtain ⟨a, b, c⟩ := h
  have e : ∀ b, 80 ≤ b → b ≤ 83 → I' b = I b := fun b h1 h2 => hf.1 b (by omega) (by omega) (by omega) (by omega) (by omega)
  exact ⟨a, by rw [e 81 (by omega) (by omega)]; exact b, fun J h1 h2 h3 => c J (h1.trans (e 80 (by omega) (by omega))) (h2.trans (e 82 (by omega) (by omega))) (h3.trans (e 83 (by omega) (by omega)))⟩
def rS4 (I : am_I) (p dp sz os : Nat) : Prop := I 79 9 = Int32.ofNat p ∧ I 79 10 = Int32.ofNat dp ∧ I 123 21 = Int32.ofNat sz ∧ I 123 23 = Int32.ofNat os
def rG4 (I I' : am_I) (dp sz os p' : Nat) (c : List (Nat × Nat)) : Prop := rS4 I' p' dp (sz + s_el c) (os + s_nn c) ∧ I' 84 = s_ov (s_im c) (I 84) ∧ I' 137 = s_cw sz c (I 137) ∧ I' 138 = s_ow os sz c (I 138)
theorem rG4.tr {I I1 I2 : am_I} {dp sz os p1 p2 : Nat} {a b : List (Nat × Nat)} (h1 : rG4 I I1 dp sz os p1 a) (h2 : rG4 I1 I2 dp (sz + s_el a) (os + s_nn a) p2 b) : rG4 I I2 dp sz os p2 (a ++ b) := by
  obtain ⟨q1, q2, q3, q4⟩ := h1
  obtain ⟨r1, r2, r3, r4⟩ := h2
  refine ⟨by rw [s_el_app, s_nn_app, ← Nat.add_assoc, ← Nat.add_assoc]; exact r1, ?_, ?_, ?_⟩
  · rw [r2, q2, s_im_app, s_ov_app]
  · rw [r3, q3, s_cw_app]
  · rw [r4, q4, s_ow_app]
theorem rG4.nil {I I' : am_I} {dp sz os p' : Nat} (h : rS4 I' p' dp sz os) (h1 : I' 84 = I 84) (h2 : I' 137 = I 137) (h3 : I' 138 = I 138) : rG4 I I' dp sz os p' [] := ⟨h, h1, h2, h3⟩
def rQ (I I' : am_I) (dp sz os : Nat) (r : sR) (v : Int32) : Prop := match r with
  | .inl (p', c) => v = 1 ∧ rG4 I I' dp sz os p' c
  | .inr q => v = 0 ∧ I' 79 9 = Int32.ofNat q
/-! the steps -/
theorem r_tq {I : am_I} {p : Nat} (h : I 79 9 = Int32.ofNat p) (hp : p ≤ 400) : vp_in (I 79 9) 401 := by rw [h]; exact (n_in (by omega)).mpr (by omega)
theorem r_q1 {I : am_I} {p : Nat} (h : I 79 9 = Int32.ofNat p) (hp : p ≤ 400) (x : Int32) : q_X14_is_79 I G x := ⟨r_tq h hp, trivial⟩
theorem r_q2 {I : am_I} {p : Nat} (h : I 79 9 = Int32.ofNat p) (hp : p ≤ 400) (x : Int32) : q_X14_isSign_79 I G x := ⟨r_tq h hp, trivial⟩
theorem r_q3 {I : am_I} {p : Nat} (h : I 79 9 = Int32.ofNat p) (hp : p ≤ 400) (x : Int32) : q_X14_eat_79 I G x := ⟨r_q1 h hp x, trivial⟩
theorem r_kd {I : am_I} (hX : rX K V T I G) {p : Nat} (h : I 79 9 = Int32.ofNat p) (hp : p ≤ T) : I 81 (I 79 9).toNatClampNeg = Int32.ofNat (rk (K p)) := by
  rw [h, n_cl (by have := hX.1.1; omega), hX.2.1 p hp]
theorem r_is0 {I : am_I} (hX : rX K V T I G) {p : Nat} (h : I 79 9 = Int32.ofNat p) (hp : p ≤ T) {k : Nat} {w : Int32} (hw : w = Int32.ofNat (rk k)) (hk : k ≤ 42) (hn : ¬ K p = k) : f_X14_is_79 I G w = 0 := by
  unfold f_X14_is_79
  rw [r_kd hX h hp, hw, if_neg]
  intro z
  have h1 := rk_lt (K p)
  have h2 := rk_lt k
  exact hn (rk_inj (hX.1.le hp) hk ((n_eq (by omega) (by omega)).mp z))
theorem r_is1 {I : am_I} (hX : rX K V T I G) {p : Nat} (h : I 79 9 = Int32.ofNat p) (hp : p ≤ T) {k : Nat} {w : Int32} (hw : w = Int32.ofNat (rk k)) (hn : K p = k) : f_X14_is_79 I G w = 1 := by
  unfold f_X14_is_79
  rw [r_kd hX h hp, hw, hn, if_pos rfl]
theorem r_sg {I : am_I} (x : Int32) : f_X14_isSign_79 I G x = f_X14_is_79 I G ((50 : Int32) + x) := rfl
theorem one_ne : ¬ (1 : Int32) = 0 := by decide
theorem r_isY {I : am_I} (hX : rX K V T I G) {p : Nat} (h : I 79 9 = Int32.ofNat p) (hp : p ≤ T) {k : Nat} {w : Int32} (hw : w = Int32.ofNat (rk k)) (hn : K p = k) : ¬ f_X14_is_79 I G w = 0 := by rw [r_is1 hX h hp hw hn]; decide
theorem r_sg0 {I : am_I} (hX : rX K V T I G) {p : Nat} (h : I 79 9 = Int32.ofNat p) (hp : p ≤ T) {k : Nat} {w : Int32} (hw : (50 : Int32) + w = Int32.ofNat (rk k)) (hk : k ≤ 42) (hn : ¬ K p = k) : f_X14_isSign_79 I G w = 0 := r_is0 hX h hp hw hk hn
theorem r_sgY {I : am_I} (hX : rX K V T I G) {p : Nat} (h : I 79 9 = Int32.ofNat p) (hp : p ≤ T) {k : Nat} {w : Int32} (hw : (50 : Int32) + w = Int32.ofNat (rk k)) (hn : K p = k) : ¬ f_X14_isSign_79 I G w = 0 := r_isY hX h hp hw hn
theorem r_eat0 {I : am_I} {w : Int32} (h : f_X14_is_79 I G w = 0) : f_X14_eat_79 I G w = 0 ∧ g_X14_eat_79 I G w = I := by
  unfold f_X14_eat_79 g_X14_eat_79
  rw [if_pos h, if_pos h]
  exact ⟨rfl, rfl⟩
theorem r_eat1 {I : am_I} {p : Nat} {w : Int32} (h9 : I 79 9 = Int32.ofNat p) (h : ¬ f_X14_is_79 I G w = 0) : f_X14_eat_79 I G w = 1 ∧ g_X14_eat_79 I G w = am_up I 79 9 (Int32.ofNat (p + 1)) := by
  unfold f_X14_eat_79 g_X14_eat_79
  rw [if_neg h, if_neg h, h9, n_inc]
  exact ⟨rfl, rfl⟩
/-- the token moves -/
theorem r_tk {I : am_I} (p : Nat) : rfr I (am_up I 79 9 (Int32.ofNat p)) ∧ am_up I 79 9 (Int32.ofNat p) 79 9 = Int32.ofNat p := ⟨⟨fun b z _ _ _ _ => up_row _ _ _ z, fun k z _ => by rw [up_in, if_neg z], fun k _ _ => by rw [up_row _ _ _ (by omega)]⟩, am_up_self _ _ _ _⟩
theorem rG4.tk {I J : am_I} {dp sz os p p2 : Nat} {c : List (Nat × Nat)} (h : rG4 I J dp sz os p c) : rG4 I (am_up J 79 9 (Int32.ofNat p2)) dp sz os p2 c := by
  obtain ⟨⟨a1, a2, a3, a4⟩, b, cc, d⟩ := h
  exact ⟨⟨am_up_self _ _ _ _, by rw [up_in, if_neg (by omega)]; exact a2, by rw [up_row _ _ _ (by omega)]; exact a3, by rw [up_row _ _ _ (by omega)]; exact a4⟩, by rw [up_row _ _ _ (by omega)]; exact b, by rw [up_row _ _ _ (by omega)]; exact cc, by rw [up_row _ _ _ (by omega)]; exact d⟩
theorem rG4.dp {I J : am_I} {dp dp2 sz os p : Nat} {c : List (Nat × Nat)} (h : rG4 I J dp sz os p c) : rG4 I (am_up J 79 10 (Int32.ofNat dp2)) dp2 sz os p c := by
  obtain ⟨⟨a1, a2, a3, a4⟩, b, cc, d⟩ := h
  exact ⟨⟨by rw [up_in, if_neg (by omega)]; exact a1, am_up_self _ _ _ _, by rw [up_row _ _ _ (by omega)]; exact a3, by rw [up_row _ _ _ (by omega)]; exact a4⟩, by rw [up_row _ _ _ (by omega)]; exact b, by rw [up_row _ _ _ (by omega)]; exact cc, by rw [up_row _ _ _ (by omega)]; exact d⟩
theorem rfr.dp {I J : am_I} (h : rfr I J) (x : Int32) : rfr I (am_up J 79 10 x) := h.tr ⟨fun b z _ _ _ _ => up_row _ _ _ z, fun k _ z => by rw [up_in, if_neg z], fun k _ _ => by rw [up_row _ _ _ (by omega)]⟩
/-- an operator is put -/
theorem r_put {I J : am_I} {dp sz os p op : Nat} {c : List (Nat × Nat)} {w : Int32} (h : rG4 I J dp sz os p c) (hf : rfr I J) (hb : sz + s_el c < 800) (hw : w = Int32.ofNat (s_rop op)) (h2 : s_two op = false) : q_X14_put_79 J G w ∧ rfr I (g_X14_put_79 J G w) ∧ rG4 I (g_X14_put_79 J G w) dp sz os p (c ++ [(op, 0)]) := by
  have hn : s_nmd op = false := by
    cases z : s_nmd op with
    | false => rfl
    | true => rw [s_nmd_two z] at h2; cases h2
  obtain ⟨⟨a1, a2, a3, a4⟩, b, cc, d⟩ := h
  have e : g_X14_put_79 J G w = am_up (am_up J 137 (sz + s_el c) w) 123 21 (Int32.ofNat (sz + s_el c + 1)) := by
    unfold g_X14_put_79
    rw [a3, n_cl (by omega), n_inc]
  refine ⟨⟨by rw [a3]; exact (n_in (by omega)).mpr hb, trivial⟩, ?_, ?_⟩
  · rw [e]
    exact hf.tr ⟨fun b z1 z2 z3 z4 z5 => by rw [up_row _ _ _ z3, up_row _ _ _ z4], fun k _ _ => by rw [up_row _ _ _ (by omega), up_row _ _ _ (by omega)], fun k z1 z2 => by rw [up_in, if_neg z1, up_row _ _ _ (by omega)]⟩
  · rw [e]
    have e1 : s_el (c ++ [(op, 0)]) = s_el c + 1 := by rw [s_el_app]; simp [s_el, h2]
    have e2 : s_nn (c ++ [(op, 0)]) = s_nn c := by rw [s_nn_app]; simp [s_nn, hn]
    refine ⟨⟨by rw [up_row _ _ _ (by omega), up_row _ _ _ (by omega)]; exact a1, by rw [up_row _ _ _ (by omega), up_row _ _ _ (by omega)]; exact a2, by rw [am_up_self, e1, ← Nat.add_assoc], by rw [up_in, if_neg (by omega), up_row _ _ _ (by omega), e2]; exact a4⟩, ?_, ?_, ?_⟩
    · rw [up_row _ _ _ (by omega), up_row _ _ _ (by omega), b, s_im_app]
      simp [s_im, hn]
    · rw [up_row _ _ _ (by omega), up_w1, cc, s_cw_app, hw]
      simp [s_cw, h2]
    · rw [up_row _ _ _ (by omega), up_row _ _ _ (by omega), d, s_ow_app]
      simp [s_ow, hn]
/-- deeper, and up again -/
theorem r_de0 {I : am_I} (h : I 79 10 = Int32.ofNat 8) : f_X14_isDeeper_79 I G = 0 ∧ g_X14_isDeeper_79 I G = I := by
  have h' : I 79 10 = (8 : Int32) := h
  unfold f_X14_isDeeper_79 g_X14_isDeeper_79
  rw [if_pos h', if_pos h']
  exact ⟨rfl, rfl⟩
theorem r_de1 {I : am_I} {p dp sz os : Nat} (h : rS4 I p dp sz os) (hd : dp < 8) : ¬ f_X14_isDeeper_79 I G = 0 ∧ rfr I (g_X14_isDeeper_79 I G) ∧ rG4 I (g_X14_isDeeper_79 I G) (dp + 1) sz os (p + 1) [] := by
  have hn : ¬ I 79 10 = (8 : Int32) := by rw [h.2.1]; exact fun z => absurd ((n_eq (b := 8) (by omega) (by omega)).mp z) (by omega)
  unfold f_X14_isDeeper_79 g_X14_isDeeper_79
  rw [if_neg hn, if_neg hn, h.1, h.2.1, n_inc, n_inc]
  refine ⟨by decide, ⟨fun b z1 _ _ _ _ => by rw [up_row _ _ _ z1, up_row _ _ _ z1], fun k z1 z2 => by rw [up_in, if_neg z1, up_in, if_neg z2], fun k _ _ => by rw [up_row _ _ _ (by omega), up_row _ _ _ (by omega)]⟩, ⟨am_up_self _ _ _ _, by rw [up_in, if_neg (by omega), am_up_self], by rw [up_row _ _ _ (by omega), up_row _ _ _ (by omega)]; exact h.2.2.1, by rw [up_row _ _ _ (by omega), up_row _ _ _ (by omega)]; exact h.2.2.2⟩, ?_, ?_, ?_⟩ <;> rw [up_row _ _ _ (by omega), up_row _ _ _ (by omega)] <;> rfl
/-- a closing sign -/
theorem r_cls {I : am_I} (hX : rX K V T I G) {p k : Nat} {x : Int32} (h9 : I 79 9 = Int32.ofNat p) (hp : p ≤ T) (hx : (50 : Int32) + x = Int32.ofNat (rk k)) (hk : k ≤ 42) : R_X14_eatSign_79 I G x = if K p = k then some ((1 : Int32), am_up I 79 9 (Int32.ofNat (p + 1)), G) else some ((0 : Int32), I, G) := by
  have hT := hX.1.1
  unfold R_X14_eatSign_79
  rw [rg_pos (r_q3 h9 (by omega) _)]
  by_cases hq : K p = k
  · obtain ⟨e1, e2⟩ := r_eat1 (G := G) h9 (r_isY hX h9 hp hx hq)
    rw [if_pos hq, e1, e2, rg_pos (Or.inr rfl)]
  · obtain ⟨e1, e2⟩ := r_eat0 (G := G) (r_is0 hX h9 hp hx hk hq)
    rw [if_neg hq, e1, e2, rg_pos (Or.inl rfl)]
/-- a name behind a word -/
theorem r_nmd {I : am_I} (hX : rX K V T I G) {p dp sz os op : Nat} {x : Int32} (h : rS4 I p dp sz os) (hp : p < T) (hsz : sz ≤ 2 * p) (hos : os ≤ p) (hk : K p = op) (ho : s_nmd op = true) (hx : x = Int32.ofNat (s_rl op)) : ∃ (v : Int32) (I' : am_I), R_X14_isNamed_79 I G x = some (v, I', G) ∧ (v = 0 ∨ v = 1) ∧ rfr I I' ∧ rQ I I' dp sz os (if K (p + 1) = 39 then .inl (p + 2, [(op, p + 1)]) else .inr (p + 1)) v := by
  have hT := hX.1.1
  have hrk : rk op = op ∧ s_rop op = op := by
    simp only [s_nmd, Bool.or_eq_true, beq_iff_eq] at ho
    rcases ho with ((rfl | rfl) | rfl) | rfl <;> exact ⟨rfl, rfl⟩
  have h2 := s_nmd_two ho
  have ek : I 81 (I 79 9).toNatClampNeg = Int32.ofNat op := by rw [r_kd hX h.1 (by omega), hk, hrk.1]
  obtain ⟨J1, hJ1⟩ : ∃ J : am_I, J = g_X14_put_79 I G (Int32.ofNat op) := ⟨_, rfl⟩
  have e1 : J1 = am_up (am_up I 137 sz (Int32.ofNat op)) 123 21 (Int32.ofNat (sz + 1)) := by
    rw [hJ1]
    unfold g_X14_put_79
    rw [h.2.2.1, n_cl (by omega), n_inc]
  obtain ⟨J2, hJ2⟩ : ∃ J : am_I, J = am_up J1 79 9 (Int32.ofNat (p + 1)) := ⟨_, rfl⟩
  have j9 : J1 79 9 = Int32.ofNat p := by rw [e1, up_row _ _ _ (by omega), up_row _ _ _ (by omega)]; exact h.1
  have m9 : J2 79 9 = Int32.ofNat (p + 1) := by rw [hJ2, am_up_self]
  have m21 : J2 123 21 = Int32.ofNat (sz + 1) := by rw [hJ2, up_row _ _ _ (by omega), e1, am_up_self]
  have m23 : J2 123 23 = Int32.ofNat os := by rw [hJ2, up_row _ _ _ (by omega), e1, up_in, if_neg (by omega), up_row _ _ _ (by omega)]; exact h.2.2.2
  obtain ⟨J3, hJ3⟩ : ∃ J : am_I, J = am_up (am_up J2 138 os (Int32.ofNat (sz + 1))) 123 23 (Int32.ofNat (os + 1)) := ⟨_, rfl⟩
  have n9 : J3 79 9 = Int32.ofNat (p + 1) := by rw [hJ3, up_row _ _ _ (by omega), up_row _ _ _ (by omega)]; exact m9
  have n21 : J3 123 21 = Int32.ofNat (sz + 1) := by rw [hJ3, up_in, if_neg (by omega), up_row _ _ _ (by omega)]; exact m21
  obtain ⟨J4, hJ4⟩ : ∃ J : am_I, J = am_up (am_up J3 137 (sz + 1) (Int32.ofNat (p + 1))) 123 21 (Int32.ofNat (sz + 2)) := ⟨_, rfl⟩
  have e4 : g_X14_put_79 J3 G (J2 79 9) = J4 := by
    rw [hJ4]
    unfold g_X14_put_79
    rw [n21, n_cl (by omega), n_inc, m9]
  have o9 : J4 79 9 = Int32.ofNat (p + 1) := by rw [hJ4, up_row _ _ _ (by omega), up_row _ _ _ (by omega)]; exact n9
  obtain ⟨J5, hJ5⟩ : ∃ J : am_I, J = am_up J4 84 (p + 1) x := ⟨_, rfl⟩
  have p9 : J5 79 9 = Int32.ofNat (p + 1) := by rw [hJ5, up_row _ _ _ (by omega)]; exact o9
  have fr : rfr I J5 := by
    rw [hJ5, hJ4, hJ3, hJ2, e1]
    refine ⟨fun b z1 z2 z3 z4 z5 => by rw [up_row _ _ _ z2, up_row _ _ _ z3, up_row _ _ _ z4, up_row _ _ _ z3, up_row _ _ _ z5, up_row _ _ _ z1, up_row _ _ _ z3, up_row _ _ _ z4], fun k z1 z2 => by rw [up_row _ _ _ (by omega), up_row _ _ _ (by omega), up_row _ _ _ (by omega), up_row _ _ _ (by omega), up_row _ _ _ (by omega), up_in, if_neg z1, up_row _ _ _ (by omega), up_row _ _ _ (by omega)], fun k z1 z2 => by rw [up_row _ _ _ (by omega), up_in, if_neg z1, up_row _ _ _ (by omega), up_in, if_neg z2, up_row _ _ _ (by omega), up_row _ _ _ (by omega), up_in, if_neg z1, up_row _ _ _ (by omega)]⟩
  have hX5 := hX.kept fr
  have c84 : J5 84 = w1 (I 84) (p + 1) x := by rw [hJ5, up_w1, hJ4, up_row _ _ _ (by omega), up_row _ _ _ (by omega), hJ3, up_row _ _ _ (by omega), up_row _ _ _ (by omega), hJ2, up_row _ _ _ (by omega), e1, up_row _ _ _ (by omega), up_row _ _ _ (by omega)]
  have c137 : J5 137 = w1 (w1 (I 137) sz (Int32.ofNat op)) (sz + 1) (Int32.ofNat (p + 1)) := by rw [hJ5, up_row _ _ _ (by omega), hJ4, up_row _ _ _ (by omega), up_w1, hJ3, up_row _ _ _ (by omega), up_row _ _ _ (by omega), hJ2, up_row _ _ _ (by omega), e1, up_row _ _ _ (by omega), up_w1]
  have c138 : J5 138 = w1 (I 138) os (Int32.ofNat (sz + 1)) := by rw [hJ5, up_row _ _ _ (by omega), hJ4, up_row _ _ _ (by omega), up_row _ _ _ (by omega), hJ3, up_row _ _ _ (by omega), up_w1, hJ2, up_row _ _ _ (by omega), e1, up_row _ _ _ (by omega), up_row _ _ _ (by omega)]
  have c21 : J5 123 21 = Int32.ofNat (sz + 2) := by rw [hJ5, up_row _ _ _ (by omega), hJ4, am_up_self]
  have c23 : J5 123 23 = Int32.ofNat (os + 1) := by rw [hJ5, up_row _ _ _ (by omega), hJ4, up_in, if_neg (by omega), up_row _ _ _ (by omega), hJ3, am_up_self]
  have c10 : J5 79 10 = Int32.ofNat dp := by rw [hJ5, up_row _ _ _ (by omega), hJ4, up_row _ _ _ (by omega), up_row _ _ _ (by omega), hJ3, up_row _ _ _ (by omega), up_row _ _ _ (by omega), hJ2, up_in, if_neg (by omega), e1, up_row _ _ _ (by omega), up_row _ _ _ (by omega)]; exact h.2.1
  have eA : R_X14_eatAs_79 J4 G (40 : Int32) x = if K (p + 1) = 39 then some ((1 : Int32), am_up J5 79 9 (Int32.ofNat (p + 2)), G) else some ((0 : Int32), J5, G) := by
    unfold R_X14_eatAs_79
    rw [rg_pos (r_tq o9 (by omega)), o9, n_cl (by omega), ← hJ5, rg_pos (r_q3 p9 (by omega) _)]
    by_cases hq : K (p + 1) = 39
    · obtain ⟨u1, u2⟩ := r_eat1 (G := G) p9 (r_isY (k := 39) (w := (40 : Int32)) hX5 p9 (by omega) rfl hq)
      rw [if_pos hq, u1, u2, rg_pos (Or.inr rfl)]
    · obtain ⟨u1, u2⟩ := r_eat0 (G := G) (r_is0 (k := 39) (w := (40 : Int32)) hX5 p9 (by omega) rfl (by omega) hq)
      rw [if_neg hq, u1, u2, rg_pos (Or.inl rfl)]
  have e0 : R_X14_isNamed_79 I G x = R_X14_isName_79 J2 G x := by
    unfold R_X14_isNamed_79
    rw [rg_pos (r_tq h.1 (by omega)), ek, rg_pos ⟨by rw [h.2.2.1]; exact (n_in (by omega)).mpr (by omega), trivial⟩, ← hJ1, j9, n_inc, ← hJ2]
    unfold R_X14_isName_79
    rw [rg_pos (by rw [m23]; exact (n_in (by omega)).mpr (by omega)), m23, n_cl (by omega), m21, n_inc, ← hJ3, rg_pos ⟨by rw [n21]; exact (n_in (by omega)).mpr (by omega), trivial⟩, e4, eA]
    by_cases hq : K (p + 1) = 39
    · rw [if_pos hq, rb_go, rg_pos (Or.inr rfl), rb_go, rg_pos (Or.inr rfl)]
    · rw [if_neg hq, rb_go, rg_pos (Or.inl rfl), rb_go, rg_pos (Or.inl rfl)]
  rw [e0]
  unfold R_X14_isName_79
  rw [rg_pos (by rw [m23]; exact (n_in (by omega)).mpr (by omega)), m23, n_cl (by omega), m21, n_inc, ← hJ3, rg_pos ⟨by rw [n21]; exact (n_in (by omega)).mpr (by omega), trivial⟩, e4, eA]
  by_cases hq : K (p + 1) = 39
  · rw [if_pos hq, rb_go, rg_pos (Or.inr rfl), if_pos hq]
    refine ⟨1, _, rfl, Or.inr rfl, fr.tr (r_tk _).1, rfl, ?_⟩
    have e5 : s_el [(op, p + 1)] = 2 := by simp [s_el, h2]
    have e6 : s_nn [(op, p + 1)] = 1 := by simp [s_nn, ho]
    have g0 : rG4 I J5 dp sz os (p + 1) [(op, p + 1)] := by
      refine ⟨⟨p9, c10, by rw [e5]; exact c21, by rw [e6]; exact c23⟩, ?_, ?_, ?_⟩
      · rw [c84, hx]; simp [s_im, s_ov, ho]
      · rw [c137]; simp [s_cw, h2, hrk.2]
      · rw [c138]; simp [s_ow, ho]
    exact g0.tk
  · rw [if_neg hq, rb_go, rg_pos (Or.inl rfl), if_neg hq]
    exact ⟨0, _, rfl, Or.inl rfl, fr, rfl, p9⟩
end RPA
