/-! the class's patches -/
theorem n_sac (a b c : Int32) : a - b + c = a + c - b := by
  rw [Int32.sub_eq_add_neg, Int32.sub_eq_add_neg, Int32.add_assoc, Int32.add_comm (-b), ← Int32.add_assoc]
theorem n_nle0 {b : Nat} (h : 0 < b) (hb : b < 2147483648) : ¬ Int32.ofNat b ≤ 0 := by rw [i_le, n_ti hb, i_0]; omega
section MNB
variable {I : am_I} {G : am_G} {C S s : Nat}
theorem c_nb2 (hC : 0 < C) (hC2 : C < 100000) (hs : s < 100000) : f_X4_leftOf I G (Int32.ofNat s) (Int32.ofNat C) = Int32.ofNat (s_nb C S 2 s) := by
  have hm := Nat.mod_lt s hC
  unfold f_X4_leftOf
  rw [if_neg (n_nle0 (by omega) (by omega)), n_mod (by omega) (by omega), s_nb2]
  by_cases h : s % C = 0
  · rw [if_pos (by rw [h]; rfl), if_pos h, n_sac, n_add, n_dec (by omega)]
  · rw [if_neg (n_ne0 (by omega) (by omega)), if_neg h, n_dec (by
      rcases Nat.eq_zero_or_pos s with z | z
      · subst z; exact absurd (Nat.zero_mod C) h
      · exact z)]
theorem c_nb0 (hC : 0 < C) (hC2 : C < 100000) (hs : s < 100000) : f_X4_rightOf I G (Int32.ofNat s) (Int32.ofNat C) = Int32.ofNat (s_nb C S 0 s) := by
  have hm := Nat.mod_lt s hC
  have hle := Nat.mod_le s C
  unfold f_X4_rightOf
  rw [if_neg (n_nle0 (by omega) (by omega)), n_mod (by omega) (by omega), n_dec (by omega), s_nb0, n_inc]
  by_cases h : s % C = C - 1
  · rw [if_pos (by rw [h]), if_pos h, n_sub (by omega)]
  · rw [if_neg (fun z => h ((n_eq (by omega) (by omega)).mp z)), if_neg h]
theorem c_nb3 (hC2 : C < 100000) (hs : s < 100000) (hS : S < 100000) (hCS : C ≤ S) : f_X4_above I G (Int32.ofNat s) (Int32.ofNat C) (Int32.ofNat S) = Int32.ofNat (s_nb C S 3 s) := by
  unfold f_X4_above
  rw [s_nb3]
  by_cases h : s < C
  · rw [if_pos ((n_lt (by omega) (by omega)).mpr h), if_pos h, n_sac, n_add, n_sub (by omega)]
  · rw [if_neg (fun z => h ((n_lt (by omega) (by omega)).mp z)), if_neg h, n_sub (by omega)]
theorem c_nb1 (hC2 : C < 100000) (hs : s < 100000) (hS : S < 100000) : f_X4_below I G (Int32.ofNat s) (Int32.ofNat C) (Int32.ofNat S) = Int32.ofNat (s_nb C S 1 s) := by
  unfold f_X4_below
  rw [s_nb1, n_add]
  by_cases h : S ≤ s + C
  · rw [if_pos ((n_le (by omega) (by omega)).mpr h), if_pos h, n_sub (by omega)]
  · rw [if_neg (fun z => h ((n_le (by omega) (by omega)).mp z)), if_neg h]
end MNB
/-- a patch that is being spread over: M those that have joined, q how many -/
def cJ_60 (I0 I : am_I) (C S : Nat) (k : Nat → Nat) (f N0 : Nat) (M : Nat → Prop) (q : Nat) : Prop :=
  (I 60 3 = Int32.ofNat q ∧ I 60 4 = Int32.ofNat N0 ∧ (∀ b, b ≠ 60 → b ≠ 61 → b ≠ 63 → I b = I0 b) ∧ ∀ j, j ≠ 3 → I 60 j = I0 60 j) ∧
  (q = s_num M S ∧ (∀ x, M x → x < S ∧ s_con C S k f x ∧ ∃ i, i < q ∧ I 63 i = Int32.ofNat x) ∧ ∀ i, i < q → ∃ x, M x ∧ I 63 i = Int32.ofNat x) ∧
  ∀ x, x < S → (M x → I 61 x = Int32.ofNat N0) ∧ (¬ M x → I 61 x = I0 61 x)
section MJ60
variable {C S : Nat} {k : Nat → Nat} {f N0 : Nat} {I0 : am_I} {G : am_G}
theorem c_jn_60 {I : am_I} {M : Nat → Prop} {q : Nat} (hS : S ≤ 576) (hN : N0 ≤ 576) (hZ : ∀ x, x < S → s_con C S k f x → (I0 61 x).toInt < 0) (h : cJ_60 I0 I C S k f N0 M q) {x : Nat} (hx : x < S) (hc : s_con C S k f x) :
    ∃ (M' : Nat → Prop) (q' : Nat), cJ_60 I0 (g_X4_join_60 I G (Int32.ofNat x) 1) C S k f N0 M' q' ∧ (∀ y, M y → M' y) ∧ M' x ∧ q ≤ q' ∧ ∀ i, i < q → g_X4_join_60 I G (Int32.ofNat x) 1 63 i = I 63 i := by
  obtain ⟨⟨h1, h2, h3, h4⟩, ⟨h5, h6, h7⟩, h8⟩ := h
  by_cases hM : M x
  · have e : g_X4_join_60 I G (Int32.ofNat x) 1 = I := by
      unfold g_X4_join_60
      rw [if_neg (by decide), if_pos]
      rw [n_gAt (by omega) (by omega), (h8 x hx).1 hM, i_le, n_ti (by omega), i_0]; omega
    rw [e]
    exact ⟨M, q, ⟨⟨h1, h2, h3, h4⟩, ⟨h5, h6, h7⟩, h8⟩, fun y hy => hy, hM, Nat.le_refl _, fun i _ => rfl⟩
  · have ha : s_num (fun y => M y ∨ y = x) S = s_num M S + 1 := s_num_add hM (fun y => Iff.rfl) hx
    have hb := s_num_le (fun y => M y ∨ y = x) S
    have hq : q < 576 := by omega
    have e : g_X4_join_60 I G (Int32.ofNat x) 1 = am_up (am_up (am_up I 61 x (Int32.ofNat N0)) 63 q (Int32.ofNat x)) 60 3 (Int32.ofNat (q + 1)) := by
      unfold g_X4_join_60
      rw [if_neg (by decide), if_neg, if_neg]
      · rw [n_gPut (by omega) (by omega), h2, up_row _ _ _ (by omega), h1, n_gPut (by omega) (by omega), up_row _ _ _ (by omega), up_row _ _ _ (by omega), h1, n_inc]
      · rw [h1, n_le (by omega) (by omega)]; omega
      · rw [n_gAt (by omega) (by omega), (h8 x hx).2 hM, i_le, i_0]
        have := hZ x hx hc
        omega
    rw [e]
    refine ⟨fun y => M y ∨ y = x, q + 1, ⟨⟨by rw [up_in, if_pos rfl], by rw [up_in, if_neg (by omega), up_row _ _ _ (by omega), up_row _ _ _ (by omega), h2], fun b z1 z2 z3 => by rw [up_row _ _ _ z1, up_row _ _ _ z3, up_row _ _ _ z2, h3 b z1 z2 z3], fun j hj => by rw [up_in, if_neg hj, up_row _ _ _ (by omega), up_row _ _ _ (by omega), h4 j hj]⟩, ⟨by omega, fun y hy => ?_, fun i hi => ?_⟩, fun y hy => ⟨fun hM' => ?_, fun hM' => ?_⟩⟩, fun y hy => Or.inl hy, Or.inr rfl, by omega, fun i hi => by rw [up_row _ _ _ (by omega), up_in, if_neg (by omega), up_row _ _ _ (by omega)]⟩
    · by_cases hyx : y = x
      · subst hyx
        exact ⟨hx, hc, q, by omega, by rw [up_row _ _ _ (by omega), up_in, if_pos rfl]⟩
      · obtain ⟨a1, a2, i, a3, a4⟩ := h6 y (hy.resolve_right hyx)
        exact ⟨a1, a2, i, by omega, by rw [up_row _ _ _ (by omega), up_in, if_neg (by omega), up_row _ _ _ (by omega), a4]⟩
    · by_cases hiq : i = q
      · subst hiq
        exact ⟨x, Or.inr rfl, by rw [up_row _ _ _ (by omega), up_in, if_pos rfl]⟩
      · obtain ⟨y, a1, a2⟩ := h7 i (by omega)
        exact ⟨y, Or.inl a1, by rw [up_row _ _ _ (by omega), up_in, if_neg hiq, up_row _ _ _ (by omega), a2]⟩
    · rw [up_row _ _ _ (by omega), up_row _ _ _ (by omega), up_in]
      by_cases hyx : y = x
      · rw [if_pos hyx]
      · rw [if_neg hyx]; exact (h8 y hy).1 (hM'.resolve_right hyx)
    · rw [up_row _ _ _ (by omega), up_row _ _ _ (by omega), up_in, if_neg (fun z => hM' (Or.inr z))]
      exact (h8 y hy).2 (fun z => hM' (Or.inl z))
/-- one neighbour -/
theorem c_jd_60 {α : Type} (F : am_I → α) {R : Nat} (hC : 0 < C) (hSR : S = C * R) (hS : S ≤ 576) (hN : N0 ≤ 576) (hk : ∀ x, x < S → I0 58 x = Int32.ofNat (k x) ∧ k x ≤ 5) (hf : f < S) (hZ : ∀ x, x < S → s_con C S k f x → (I0 61 x).toInt < 0) {I : am_I} {M : Nat → Prop} {q : Nat} (h : cJ_60 I0 I C S k f N0 M q) {x d : Nat} (hM : M x) (hd : d < 4) :
    ∃ (I' : am_I) (M' : Nat → Prop) (q' : Nat), (if gAt (I 58) 576 (Int32.ofNat (s_nb C S d x)) = Int32.ofNat (k f) then F (g_X4_join_60 I G (Int32.ofNat (s_nb C S d x)) 1) else F (g_X4_join_60 I G (Int32.ofNat (s_nb C S d x)) 0)) = F I' ∧ cJ_60 I0 I' C S k f N0 M' q' ∧ (∀ y, M y → M' y) ∧ (k (s_nb C S d x) = k f → M' (s_nb C S d x)) ∧ q ≤ q' ∧ ∀ i, i < q → I' 63 i = I 63 i := by
  have hx := h.2.1.2.1 x hM
  have hy : s_nb C S d x < S := by
    have := hx.1
    subst hSR; exact s_nb_lt hC this
  rw [n_gAt (by omega) (by omega), h.1.2.2.1 58 (by omega) (by omega) (by omega), (hk _ hy).1]
  have hb1 := (hk _ hy).2
  have hb2 := (hk _ hf).2
  by_cases he : k (s_nb C S d x) = k f
  · rw [if_pos (by rw [he])]
    have hc : s_con C S k f (s_nb C S d x) := s_con_tr hx.2.1 (s_con_st hd (by rw [he, s_con_ink hx.2.1]))
    obtain ⟨M', q', a1, a2, a3, a4, a5⟩ := c_jn_60 (G := G) hS hN hZ h hy hc
    exact ⟨_, M', q', rfl, a1, a2, fun _ => a3, a4, a5⟩
  · rw [if_neg (fun z => he ((n_eq (by omega) (by omega)).mp z))]
    exact ⟨I, M, q, rfl, h, fun y hy => hy, fun z => absurd z he, Nat.le_refl _, fun i _ => rfl⟩
theorem c_spL_60 {R : Nat} (hC : 0 < C) (hSR : S = C * R) (hCS : C ≤ S) (hS : S ≤ 576) (hN : N0 < 576) (hk : ∀ x, x < S → I0 58 x = Int32.ofNat (k x) ∧ k x ≤ 5) (hf : f < S) (hZ : ∀ x, x < S → s_con C S k f x → (I0 61 x).toInt < 0) (v2 : Int32) : ∀ (m nx n : Nat) (I : am_I) (M : Nat → Prop) (q : Nat), cJ_60 I0 I C S k f N0 M q → M f → nx ≤ q →
    (∀ i x, i < nx → M x → I 63 i = Int32.ofNat x → ∀ d, d < 4 → k (s_nb C S d x) = k f → M (s_nb C S d x)) → nx + m = S → m * 5 + 3 < n →
    ∃ (I' : am_I) (q' : Nat), L_X4_spread_60_58 n 0 I G v2 (Int32.ofNat C) (Int32.ofNat S) (Int32.ofNat (k f)) (Int32.ofNat nx) 0 0 0 0 0 = some ((), am_up (am_up I' 62 N0 (Int32.ofNat q')) 60 4 (Int32.ofNat (N0 + 1)), G) ∧ cJ_60 I0 I' C S k f N0 (fun x => s_con C S k f x) q' := by
  intro m
  induction m with
  | zero =>
    intro nx n I M q h hMf hnq hpr hk2 hn
    obtain ⟨n, rfl⟩ : ∃ n', n = n' + 3 := ⟨n - 3, by omega⟩
    have hqS : q ≤ S := by rw [h.2.1.1]; exact s_num_le M S
    have hnx : nx = q := by omega
    have hM : ∀ x, M x ↔ s_con C S k f x := fun x => ⟨fun z => (h.2.1.2.1 x z).2.1, fun z => s_con_cl hMf (fun y d hy hd hke => by
      obtain ⟨b1, b2, i, b3, b4⟩ := h.2.1.2.1 y hy
      exact hpr i y (by omega) hy b4 d hd hke) z⟩
    refine ⟨I, q, ?_, ⟨h.1, ⟨by rw [h.2.1.1]; exact s_num_eq (fun x _ => hM x), fun x hx => h.2.1.2.1 x ((hM x).mpr hx), fun i hi => by obtain ⟨x, c1, c2⟩ := h.2.1.2.2 i hi; exact ⟨x, (hM x).mp c1, c2⟩⟩, fun x hx => ⟨fun z => (h.2.2 x hx).1 ((hM x).mpr z), fun z => (h.2.2 x hx).2 (fun y => z ((hM x).mp y))⟩⟩⟩
    rw [L_X4_spread_60_58_0, h.1.1, if_pos ((n_le (by omega) (by omega)).mpr (by omega)), L_X4_spread_60_58_5, h.1.1, h.1.2.1, n_gPut (by omega) (by omega), L_X4_spread_60_58_6, up_row _ _ _ (by omega), h.1.2.1, n_inc]
  | succ m ih =>
    intro nx n I M q h hMf hnq hpr hk2 hn
    have hqS : q ≤ S := by rw [h.2.1.1]; exact s_num_le M S
    by_cases hnx : nx = q
    · obtain ⟨n, rfl⟩ : ∃ n', n = n' + 3 := ⟨n - 3, by omega⟩
      have hM : ∀ x, M x ↔ s_con C S k f x := fun x => ⟨fun z => (h.2.1.2.1 x z).2.1, fun z => s_con_cl hMf (fun y d hy hd hke => by
        obtain ⟨b1, b2, i, b3, b4⟩ := h.2.1.2.1 y hy
        exact hpr i y (by omega) hy b4 d hd hke) z⟩
      refine ⟨I, q, ?_, ⟨h.1, ⟨by rw [h.2.1.1]; exact s_num_eq (fun x _ => hM x), fun x hx => h.2.1.2.1 x ((hM x).mpr hx), fun i hi => by obtain ⟨x, c1, c2⟩ := h.2.1.2.2 i hi; exact ⟨x, (hM x).mp c1, c2⟩⟩, fun x hx => ⟨fun z => (h.2.2 x hx).1 ((hM x).mpr z), fun z => (h.2.2 x hx).2 (fun y => z ((hM x).mp y))⟩⟩⟩
      rw [L_X4_spread_60_58_0, h.1.1, if_pos ((n_le (by omega) (by omega)).mpr (by omega)), L_X4_spread_60_58_5, h.1.1, h.1.2.1, n_gPut (by omega) (by omega), L_X4_spread_60_58_6, up_row _ _ _ (by omega), h.1.2.1, n_inc]
    · obtain ⟨n, rfl⟩ : ∃ n', n = n' + 5 := ⟨n - 5, by omega⟩
      obtain ⟨x, hMx, hQx⟩ := h.2.1.2.2 nx (by omega)
      have hxS := (h.2.1.2.1 x hMx).1
      rw [show n + 5 = (n + 4) + 1 by omega, L_X4_spread_60_58_0, h.1.1, if_neg (fun z => absurd ((n_le (by omega) (by omega)).mp z) (by omega)), if_neg (fun z => absurd ((n_le (by omega) (by omega)).mp z) (by omega)), n_gAt (by omega) (by omega), hQx,
        c_nb2 (S := S) hC (by omega) (by omega), c_nb0 (S := S) hC (by omega) (by omega), c_nb3 (S := S) (by omega) (by omega) (by omega) hCS, c_nb1 (S := S) (by omega) (by omega) (by omega)]
      obtain ⟨I1, M1, q1, a1, a2, a3, a4, a5, a6⟩ := c_jd_60 (G := G) (fun J => L_X4_spread_60_58 (n + 4) 1 J G v2 (Int32.ofNat C) (Int32.ofNat S) (Int32.ofNat (k f)) (Int32.ofNat nx) (Int32.ofNat x) (Int32.ofNat (s_nb C S 2 x)) (Int32.ofNat (s_nb C S 0 x)) (Int32.ofNat (s_nb C S 3 x)) (Int32.ofNat (s_nb C S 1 x))) hC hSR hS (by omega) hk hf hZ h hMx (d := 2) (by omega)
      rw [a1]
      rw [show n + 4 = (n + 3) + 1 by omega, L_X4_spread_60_58_1]
      obtain ⟨I2, M2, q2, b1, b2, b3, b4, b5, b6⟩ := c_jd_60 (G := G) (fun J => L_X4_spread_60_58 (n + 3) 2 J G v2 (Int32.ofNat C) (Int32.ofNat S) (Int32.ofNat (k f)) (Int32.ofNat nx) (Int32.ofNat x) (Int32.ofNat (s_nb C S 2 x)) (Int32.ofNat (s_nb C S 0 x)) (Int32.ofNat (s_nb C S 3 x)) (Int32.ofNat (s_nb C S 1 x))) hC hSR hS (by omega) hk hf hZ a2 (a3 x hMx) (d := 0) (by omega)
      rw [b1]
      rw [show n + 3 = (n + 2) + 1 by omega, L_X4_spread_60_58_2]
      obtain ⟨I3, M3, q3, e1, e2, e3, e4, e5, e6⟩ := c_jd_60 (G := G) (fun J => L_X4_spread_60_58 (n + 2) 3 J G v2 (Int32.ofNat C) (Int32.ofNat S) (Int32.ofNat (k f)) (Int32.ofNat nx) (Int32.ofNat x) (Int32.ofNat (s_nb C S 2 x)) (Int32.ofNat (s_nb C S 0 x)) (Int32.ofNat (s_nb C S 3 x)) (Int32.ofNat (s_nb C S 1 x))) hC hSR hS (by omega) hk hf hZ b2 (b3 x (a3 x hMx)) (d := 3) (by omega)
      rw [e1]
      rw [show n + 2 = (n + 1) + 1 by omega, L_X4_spread_60_58_3]
      obtain ⟨I4, M4, q4, g1, g2, g3, g4, g5, g6⟩ := c_jd_60 (G := G) (fun J => L_X4_spread_60_58 (n + 1) 4 J G v2 (Int32.ofNat C) (Int32.ofNat S) (Int32.ofNat (k f)) (Int32.ofNat nx) (Int32.ofNat x) (Int32.ofNat (s_nb C S 2 x)) (Int32.ofNat (s_nb C S 0 x)) (Int32.ofNat (s_nb C S 3 x)) (Int32.ofNat (s_nb C S 1 x))) hC hSR hS (by omega) hk hf hZ e2 (e3 x (b3 x (a3 x hMx))) (d := 1) (by omega)
      rw [g1]
      rw [L_X4_spread_60_58_4, n_inc]
      have mono : ∀ y, M y → M4 y := fun y hy => g3 y (e3 y (b3 y (a3 y hy)))
      have same : ∀ i, i < q → I4 63 i = I 63 i := fun i hi => by rw [g6 i (by omega), e6 i (by omega), b6 i (by omega), a6 i hi]
      refine ih (nx + 1) n I4 M4 q4 g2 (mono f hMf) (by omega) (fun i y hi hy hQ d hd hke => ?_) (by omega) (by omega)
      have hyS := (g2.2.1.2.1 y hy).1
      rw [same i (by omega)] at hQ
      obtain ⟨z, hMz, hQz⟩ := h.2.1.2.2 i (by omega)
      have hzS := (h.2.1.2.1 z hMz).1
      rw [hQz] at hQ
      have hzy : z = y := (n_eq (by omega) (by omega)).mp hQ
      subst hzy
      by_cases hin : i = nx
      · subst hin
        rw [hQx] at hQz
        have hxz : x = z := (n_eq (by omega) (by omega)).mp hQz
        subst hxz
        have hd4 : d = 0 ∨ d = 1 ∨ d = 2 ∨ d = 3 := by omega
        rcases hd4 with rfl | rfl | rfl | rfl
        · exact g3 _ (e3 _ (b4 hke))
        · exact g4 hke
        · exact g3 _ (e3 _ (b3 _ (a4 hke)))
        · exact g3 _ (e4 hke)
      · exact mono _ (hpr i z (by omega) hMz hQz d hd hke)
/-- spread -/
theorem c_sp_60 {R : Nat} (hC : 0 < C) (hSR : S = C * R) (hCS : C ≤ S) (hS : S ≤ 576) (hN : N0 < 576) (hI : I0 60 4 = Int32.ofNat N0) (hk : ∀ x, x < S → I0 58 x = Int32.ofNat (k x) ∧ k x ≤ 5) (hf : f < S) (hZ : ∀ x, x < S → s_con C S k f x → (I0 61 x).toInt < 0) :
    ∃ I' : am_I, R_X4_spread_60_58 I0 G (Int32.ofNat f) (Int32.ofNat C) (Int32.ofNat S) = some ((), I', G) ∧ (∀ b, b ≠ 60 → b ≠ 61 → b ≠ 63 → b ≠ 62 → I' b = I0 b) ∧ (∀ j, j ≠ 3 → j ≠ 4 → I' 60 j = I0 60 j) ∧ I' 60 4 = Int32.ofNat (N0 + 1) ∧ (∀ x, x < S → (s_con C S k f x → I' 61 x = Int32.ofNat N0) ∧ (¬ s_con C S k f x → I' 61 x = I0 61 x)) ∧ ∀ j, I' 62 j = if j = N0 then Int32.ofNat (s_sz C S k f) else I0 62 j := by
  have h0 : cJ_60 (am_up I0 60 3 0) (am_up I0 60 3 0) C S k f N0 (fun _ => False) 0 :=
    ⟨⟨by rw [up_in, if_pos rfl]; rfl, by rw [up_in, if_neg (by omega), hI], fun b _ _ _ => rfl, fun j _ => rfl⟩, ⟨(s_num_z (fun _ z => z) _).symm, fun x z => z.elim, fun i hi => absurd hi (by omega)⟩, fun x hx => ⟨fun z => z.elim, fun _ => rfl⟩⟩
  have hk' : ∀ x, x < S → am_up I0 60 3 0 58 x = Int32.ofNat (k x) ∧ k x ≤ 5 := fun x hx => by rw [up_row _ _ _ (by omega)]; exact hk x hx
  have hZ' : ∀ x, x < S → s_con C S k f x → (am_up I0 60 3 0 61 x).toInt < 0 := fun x hx hc => by rw [up_row _ _ _ (by omega)]; exact hZ x hx hc
  obtain ⟨M, q, a1, a2, a3, a4, a5⟩ := c_jn_60 (G := G) hS (by omega) hZ' h0 hf (s_con_rf f)
  obtain ⟨I', q', b1, b2⟩ := c_spL_60 (G := G) hC hSR hCS hS hN hk' hf hZ' (Int32.ofNat f) S 0 FU _ M q a1 a3 (by omega) (fun i x hi => absurd hi (by omega)) (by omega) (by unfold FU; omega)
  refine ⟨am_up (am_up I' 62 N0 (Int32.ofNat q')) 60 4 (Int32.ofNat (N0 + 1)), ?_, fun b z1 z2 z3 z4 => ?_, fun j z1 z2 => ?_, ?_, fun x hx => ⟨fun z => ?_, fun z => ?_⟩, fun j => ?_⟩
  · unfold R_X4_spread_60_58
    rw [n_gAt (by omega) (by omega), (hk f hf).1]
    exact b1
  · rw [up_row _ _ _ z1, up_row _ _ _ z4, b2.1.2.2.1 b z1 z2 z3, up_row _ _ _ z1]
  · rw [up_in, if_neg z2, up_row _ _ _ (by omega), b2.1.2.2.2 j z1, up_in, if_neg z1]
  · rw [up_in, if_pos rfl]
  · rw [up_row _ _ _ (by omega), up_row _ _ _ (by omega)]; exact (b2.2.2 x hx).1 z
  · rw [up_row _ _ _ (by omega), up_row _ _ _ (by omega), (b2.2.2 x hx).2 z, up_row _ _ _ (by omega)]
  · rw [up_row _ _ _ (by omega), up_in]
    by_cases hj : j = N0
    · rw [if_pos hj, if_pos hj, b2.2.1.1]; rfl
    · rw [if_neg hj, if_neg hj, b2.1.2.2.1 62 (by omega) (by omega) (by omega), up_row _ _ _ (by omega)]
end MJ60
/-- the patches of the first n spots -/
def cB_60 (I0 I : am_I) (C S : Nat) (k : Nat → Nat) (n : Nat) (c : Nat) : Prop :=
  (I 60 4 = Int32.ofNat (s_pat C S k n) ∧ I 60 5 = Int32.ofNat c ∧ ∀ b, b ≠ 60 → b ≠ 61 → b ≠ 63 → b ≠ 62 → I b = I0 b) ∧
  ∀ x, x < S → ((∃ j, j < n ∧ s_con C S k j x) → ∃ m, m < s_pat C S k n ∧ I 61 x = Int32.ofNat m ∧ I 62 m = Int32.ofNat (s_sz C S k x)) ∧ ((¬ ∃ j, j < n ∧ s_con C S k j x) → (I 61 x).toInt < 0)
section MF60
variable {C S : Nat} {k : Nat → Nat} {I0 : am_I} {G : am_G}
theorem c_fst_60 {α : Type} (F : am_I → am_G → Option α) {R : Nat} (hC : 2 ≤ C) (hR : 2 ≤ R) (hSR : S = C * R) (hS : S ≤ 576) (hk : ∀ x, x < S → I0 58 x = Int32.ofNat (k x) ∧ k x ≤ 5) {I : am_I} {n c : Nat} (hn : n < S) (h : cB_60 I0 I C S k n c) :
    ∃ I' : am_I, (if 0 ≤ (gAt (I 61) 576 (Int32.ofNat n)) then F I G else rb (R_X4_spread_60_58 I G (Int32.ofNat n) (Int32.ofNat C) (Int32.ofNat S)) (fun r J K => F J K)) = F I' G ∧ cB_60 I0 I' C S k (n + 1) c := by
  have hCS : C ≤ S := by rw [hSR]; exact Nat.le_mul_of_pos_right C (by omega)
  have hp := s_num_le (s_new C S k) n
  rw [n_gAt (by omega) (by omega)]
  by_cases hs : ∃ j, j < n ∧ s_con C S k j n
  · obtain ⟨m, h1, h2, h3⟩ := (h.2 n hn).1 hs
    have hnew : ¬ s_new C S k n := fun z => by obtain ⟨j, j1, j2⟩ := hs; exact z j j1 j2
    have hpe : s_pat C S k (n + 1) = s_pat C S k n := s_num_n hnew
    have hb : s_pat C S k n ≤ n := hp
    rw [if_pos (by rw [h2, i_le, n_ti (by omega), i_0]; omega)]
    refine ⟨I, rfl, ⟨by rw [hpe]; exact h.1, fun x hx => ?_⟩⟩
    have hiff : (∃ j, j < n + 1 ∧ s_con C S k j x) ↔ ∃ j, j < n ∧ s_con C S k j x := by
      constructor
      · rintro ⟨j, j1, j2⟩
        by_cases hj : j = n
        · subst hj
          obtain ⟨i, i1, i2⟩ := hs
          exact ⟨i, i1, s_con_tr i2 j2⟩
        · exact ⟨j, by omega, j2⟩
      · rintro ⟨j, j1, j2⟩
        exact ⟨j, by omega, j2⟩
    rw [hiff, hpe]
    exact h.2 x hx
  · have hnew : s_new C S k n := fun j hj hc => hs ⟨j, hj, hc⟩
    have hpe : s_pat C S k (n + 1) = s_pat C S k n + 1 := s_num_y hnew
    have hb : s_pat C S k n ≤ n := hp
    have hneg := (h.2 n hn).2 hs
    rw [if_neg (by rw [i_le, i_0]; omega)]
    have hsy : ∀ x, x < S → s_con C S k n x → ¬ ∃ j, j < n ∧ s_con C S k j x := by
      rintro x hx hc ⟨j, j1, j2⟩
      exact hs ⟨j, j1, s_con_tr j2 (s_con_sy hC hR hSR hn hc)⟩
    obtain ⟨I', a1, a2, a3, a4, a5, a6⟩ := c_sp_60 (G := G) (N0 := s_pat C S k n) (R := R) (by omega) hSR hCS hS (by omega) h.1.1 (fun x hx => by rw [h.1.2.2 58 (by omega) (by omega) (by omega) (by omega)]; exact hk x hx) hn (fun x hx hc => (h.2 x hx).2 (hsy x hx hc))
    rw [a1, rb_go]
    refine ⟨I', rfl, ⟨⟨by rw [hpe, a4], by rw [a3 5 (by omega) (by omega)]; exact h.1.2.1, fun b z1 z2 z3 z4 => by rw [a2 b z1 z2 z3 z4, h.1.2.2 b z1 z2 z3 z4]⟩, fun x hx => ⟨?_, ?_⟩⟩⟩
    · rintro ⟨j, j1, j2⟩
      by_cases hc : s_con C S k n x
      · refine ⟨s_pat C S k n, by omega, (a5 x hx).1 hc, ?_⟩
        rw [a6, if_pos rfl, s_sz_eq hC hR hSR hn hc]
      · have hj : j < n := by
          rcases Nat.lt_or_ge j n with z | z
          · exact z
          · have : j = n := by omega
            subst this; exact absurd j2 hc
        obtain ⟨m, m1, m2, m3⟩ := (h.2 x hx).1 ⟨j, hj, j2⟩
        exact ⟨m, by omega, by rw [(a5 x hx).2 hc, m2], by rw [a6, if_neg (by omega), m3]⟩
    · intro hno
      have hc : ¬ s_con C S k n x := fun z => hno ⟨n, by omega, z⟩
      rw [(a5 x hx).2 hc]
      exact (h.2 x hx).2 (fun ⟨j, j1, j2⟩ => hno ⟨j, by omega, j2⟩)
theorem cB_60.ct {I : am_I} {n c c' : Nat} (h : cB_60 I0 I C S k n c) : cB_60 I0 (am_up I 60 5 (Int32.ofNat c')) C S k n c' :=
  ⟨⟨by rw [up_in, if_neg (by omega)]; exact h.1.1, by rw [up_in, if_pos rfl], fun b z1 z2 z3 z4 => by rw [up_row _ _ _ z1, h.1.2.2 b z1 z2 z3 z4]⟩, fun x hx => by rw [up_row _ _ _ (by omega), up_row _ _ _ (by omega)]; exact h.2 x hx⟩
theorem c_fd1_60 {R : Nat} (hC : 2 ≤ C) (hR : 2 ≤ R) (hSR : S = C * R) (hS : S ≤ 576) (hk : ∀ x, x < S → I0 58 x = Int32.ofNat (k x) ∧ k x ≤ 5) (v3 : Int32) : ∀ (m n u : Nat) (I : am_I), cB_60 I0 I C S k n (s_cts C S k n) → n + m = S → m < u →
    ∃ I' : am_I, L_X4_find_60_58 u 1 I G (Int32.ofNat C) v3 (Int32.ofNat S) (Int32.ofNat n) = some ((), I', G) ∧ cB_60 I0 I' C S k S (s_cts C S k S) := by
  intro m
  induction m with
  | zero =>
    intro n u I h hn hu
    obtain ⟨u, rfl⟩ : ∃ u', u = u' + 1 := ⟨u - 1, by omega⟩
    rw [L_X4_find_60_58_1, if_pos ((n_le (by omega) (by omega)).mpr (by omega))]
    exact ⟨I, rfl, by rw [show S = n by omega] at h ⊢; exact h⟩
  | succ m ih =>
    intro n u I h hn hu
    obtain ⟨u, rfl⟩ : ∃ u', u = u' + 1 := ⟨u - 1, by omega⟩
    have hnS : n < S := by omega
    have hc2 := s_cts_le C S k n
    have hCS : C ≤ S := by rw [hSR]; exact Nat.le_mul_of_pos_right C (by omega)
    have hr : s_nb C S 0 n < S := by have h9 := hnS; rw [hSR] at h9 ⊢; exact s_nb_lt (by omega) h9
    have hbl : s_nb C S 1 n < S := by have h9 := hnS; rw [hSR] at h9 ⊢; exact s_nb_lt (by omega) h9
    have hIN : I 58 = I0 58 := h.1.2.2 58 (by omega) (by omega) (by omega) (by omega)
    have b1 := hk n hnS
    have b2 := hk _ hr
    have b3 := hk _ hbl
    rw [L_X4_find_60_58_1, if_neg (fun z => absurd ((n_le (by omega) (by omega)).mp z) (by omega)), c_nb0 (S := S) (by omega) (by omega) (by omega), c_nb1 (S := S) (by omega) (by omega) (by omega), c_nb1 (S := S) (by omega) (by omega) (by omega), up_row (b := 58) (a := 60) I 5 _ (by omega), hIN, n_gAt (f := I0 58) (k := n) (by omega) (by omega), n_gAt (k := s_nb C S 0 n) (by omega) (by omega), n_gAt (k := s_nb C S 1 n) (by omega) (by omega), b1.1, b2.1, b3.1, h.1.2.1, n_inc, n_inc, n_inc]
    have hct : s_cts C S k (n + 1) = s_cts C S k n + ((if k n = k (s_nb C S 0 n) then 0 else 1) + (if k n = k (s_nb C S 1 n) then 0 else 1)) := rfl
    by_cases e0 : k (s_nb C S 0 n) = k n
    · rw [if_pos (show Int32.ofNat (k (s_nb C S 0 n)) = Int32.ofNat (k n) by rw [e0])]
      rw [if_pos e0.symm] at hct
      by_cases e1 : k (s_nb C S 1 n) = k n
      · rw [if_pos (show Int32.ofNat (k (s_nb C S 1 n)) = Int32.ofNat (k n) by rw [e1])]
        rw [if_pos e1.symm] at hct
        obtain ⟨I1, a1, a2⟩ := c_fst_60 (G := G) (fun J K => L_X4_find_60_58 u 1 J K (Int32.ofNat C) v3 (Int32.ofNat S) (Int32.ofNat (n + 1))) hC hR hSR hS hk hnS h
        rw [a1]
        exact ih (n + 1) u I1 (by rw [hct]; exact a2) (by omega) (by omega)
      · rw [if_neg (fun z => e1 ((n_eq (by omega) (by omega)).mp z))]
        rw [if_neg (fun z => e1 z.symm)] at hct
        obtain ⟨I1, a1, a2⟩ := c_fst_60 (G := G) (fun J K => L_X4_find_60_58 u 1 J K (Int32.ofNat C) v3 (Int32.ofNat S) (Int32.ofNat (n + 1))) hC hR hSR hS hk hnS (h.ct (c' := s_cts C S k n + 1))
        rw [a1]
        exact ih (n + 1) u I1 (by rw [hct, Nat.zero_add]; exact a2) (by omega) (by omega)
    · rw [if_neg (fun z => e0 ((n_eq (by omega) (by omega)).mp z))]
      rw [if_neg (fun z => e0 z.symm)] at hct
      by_cases e1 : k (s_nb C S 1 n) = k n
      · rw [if_pos (show Int32.ofNat (k (s_nb C S 1 n)) = Int32.ofNat (k n) by rw [e1])]
        rw [if_pos e1.symm] at hct
        obtain ⟨I1, a1, a2⟩ := c_fst_60 (G := G) (fun J K => L_X4_find_60_58 u 1 J K (Int32.ofNat C) v3 (Int32.ofNat S) (Int32.ofNat (n + 1))) hC hR hSR hS hk hnS (h.ct (c' := s_cts C S k n + 1))
        rw [a1]
        exact ih (n + 1) u I1 (by rw [hct]; exact a2) (by omega) (by omega)
      · rw [if_neg (fun z => e1 ((n_eq (by omega) (by omega)).mp z))]
        rw [if_neg (fun z => e1 z.symm)] at hct
        obtain ⟨I1, a1, a2⟩ := c_fst_60 (G := G) (fun J K => L_X4_find_60_58 u 1 J K (Int32.ofNat C) v3 (Int32.ofNat S) (Int32.ofNat (n + 1))) hC hR hSR hS hk hnS ((h.ct (c' := s_cts C S k n + 1)).ct (c' := s_cts C S k n + 1 + 1))
        rw [a1]
        exact ih (n + 1) u I1 (by rw [hct]; exact a2) (by omega) (by omega)
theorem c_fd0_60 (hS : S ≤ 576) (v2 v3 : Int32) : ∀ (m n u : Nat) (I : am_I), n + m = S → m < u →
    ∃ I' : am_I, L_X4_find_60_58 u 0 I G v2 v3 (Int32.ofNat S) (Int32.ofNat n) = L_X4_find_60_58 (u - m - 1) 1 I' G v2 v3 (Int32.ofNat S) 0 ∧ (∀ b, b ≠ 61 → I' b = I b) ∧ ∀ x, I' 61 x = if n ≤ x ∧ x < S then -1 else I 61 x := by
  intro m
  induction m with
  | zero =>
    intro n u I hn hu
    obtain ⟨u, rfl⟩ : ∃ u', u = u' + 1 := ⟨u - 1, by omega⟩
    rw [L_X4_find_60_58_0, if_pos ((n_le (by omega) (by omega)).mpr (by omega)), show u + 1 - 0 - 1 = u by omega]
    exact ⟨I, rfl, fun b _ => rfl, fun x => by rw [if_neg (by omega)]⟩
  | succ m ih =>
    intro n u I hn hu
    obtain ⟨u, rfl⟩ : ∃ u', u = u' + 1 := ⟨u - 1, by omega⟩
    rw [L_X4_find_60_58_0, if_neg (fun z => absurd ((n_le (by omega) (by omega)).mp z) (by omega)), n_gPut (by omega) (by omega), n_inc]
    obtain ⟨I', b1, b2, b3⟩ := ih (n + 1) u (am_up I 61 n (-1)) (by omega) (by omega)
    refine ⟨I', by rw [b1, show u + 1 - (m + 1) - 1 = u - m - 1 by omega], fun b hb => (b2 b hb).trans (up_row _ _ _ hb), fun x => ?_⟩
    rw [b3, up_in]
    by_cases hx : x = n
    · rw [if_neg (by omega), if_pos hx, if_pos (by omega)]
    · rw [if_neg hx]
      by_cases h2 : n + 1 ≤ x ∧ x < S
      · rw [if_pos h2, if_pos (by omega)]
      · rw [if_neg h2, if_neg (by omega)]
/-- find -/
theorem c_fd_60 {R : Nat} (hC : 2 ≤ C) (hR : 2 ≤ R) (hSR : S = C * R) (hS : S ≤ 576) (hk : ∀ x, x < S → I0 58 x = Int32.ofNat (k x) ∧ k x ≤ 5) :
    ∃ I' : am_I, R_X4_find_60_58 I0 G (Int32.ofNat C) (Int32.ofNat R) = some ((), I', G) ∧ cB_60 I0 I' C S k S (s_cts C S k S) := by
  obtain ⟨I1, a1, a2, a3⟩ := c_fd0_60 (G := G) hS (Int32.ofNat C) (Int32.ofNat R) S 0 FU (am_up (am_up I0 60 4 0) 60 5 0) (by omega) (by unfold FU; omega)
  have h0 : cB_60 I0 I1 C S k 0 (s_cts C S k 0) :=
    ⟨⟨by rw [a2 60 (by omega), up_in, if_neg (by omega), up_in, if_pos rfl]; rfl, by rw [a2 60 (by omega), up_in, if_pos rfl]; rfl, fun b z1 z2 z3 z4 => by rw [a2 b z2, up_row _ _ _ z1, up_row _ _ _ z1]⟩, fun x hx => ⟨fun ⟨j, hj, _⟩ => absurd hj (by omega), fun _ => by rw [a3, if_pos (by omega)]; decide⟩⟩
  obtain ⟨I', b1, b2⟩ := c_fd1_60 (G := G) hC hR hSR hS hk (Int32.ofNat R) S 0 (FU - S - 1) I1 h0 (by omega) (by unfold FU; omega)
  refine ⟨I', ?_, b2⟩
  unfold R_X4_find_60_58
  rw [n_mul, ← hSR]
  exact a1.trans b1
end MF60
/-- patches and contours, if they are grouped -/
def cQ_53 (I : am_I) (p t : sP) : Prop := ¬ I 53 15 = 0 → ¬ I 53 14 = 0 ∧ I 60 4 = Int32.ofNat (s_pat (p 0 0) (s_S p) (s_ik p t) (s_S p)) ∧ I 60 5 = Int32.ofNat (s_cts (p 0 0) (s_S p) (s_ik p t) (s_S p)) ∧ ∀ x, x < s_S p → ∃ m, m < 576 ∧ I 61 x = Int32.ofNat m ∧ I 62 m = Int32.ofNat (s_sz (p 0 0) (s_S p) (s_ik p t) x)
/-- group -/
theorem c_gr_53 {I : am_I} {G : am_G} {p t : sP} (h : cP I p) (hp : p_ok p) (hT : cT_53 I p t) (ht : t_ok p t) (hW : cW I p) (hF : cF_53 I p t) (hQ : cQ_53 I p t) :
    ∃ I' : am_I, R_X7_group_53 I G = some ((), I', G) ∧ (∀ b, b ≠ 26 → b ≠ 27 → b ≠ 57 → b ≠ 58 → b ≠ 59 → b ≠ 53 → b ≠ 60 → b ≠ 61 → b ≠ 62 → b ≠ 63 → I' b = I b) ∧ (∀ k, k ≠ 14 → k ≠ 15 → I' 53 k = I 53 k) ∧ cW I' p ∧ cF_53 I' p t ∧ cQ_53 I' p t ∧ ¬ I' 53 14 = 0 ∧ ¬ I' 53 15 = 0 := by
  have h0 := hp.1
  have hS := s_S_le hp
  obtain ⟨I1, a1, a2, a3, a4, a5, a6, a7⟩ := c_rf_53 (G := G) h hp hT ht hW hF
  unfold R_X7_group_53
  rw [a1, rb_go]
  by_cases hg : I1 53 15 = 0
  · have h1 : cP I1 p := h.kept (fun b z1 z2 => a2 b (by omega) (by omega) (by omega) (by omega) (by omega) (by omega))
    obtain ⟨I2, b1, b2⟩ := c_fd_60 (G := G) (C := p 0 0) (S := s_S p) (R := p 0 1) (k := s_ik p t) (I0 := I1) (by omega) (by omega) rfl hS (fun x hx => ⟨((a5 a6).1 x hx).2, by have := s_ik_b p t x; omega⟩)
    rw [if_pos hg, h1.1.1, h1.1.2.1, b1, rb_go, rg_pos (Or.inr rfl)]
    have hpat := s_num_le (s_new (p 0 0) (s_S p) (s_ik p t)) (s_S p)
    refine ⟨_, rfl, fun b z1 z2 z3 z4 z5 z6 z7 z8 z9 z10 => by rw [up_row _ _ _ z6, b2.1.2.2 b z7 z8 z10 z9, a2 b z1 z2 z3 z4 z5 z6], fun k z1 z2 => by rw [up_in, if_neg z2, b2.1.2.2 53 (by omega) (by omega) (by omega) (by omega), a3 k z1], ?_, ?_, ?_, ?_, ?_⟩
    · exact a4.kept (by rw [up_row _ _ _ (by omega), b2.1.2.2 _ (by omega) (by omega) (by omega) (by omega)]) (by rw [up_row _ _ _ (by omega), b2.1.2.2 _ (by omega) (by omega) (by omega) (by omega)])
    · intro _
      rw [up_row _ _ _ (by omega), up_row _ _ _ (by omega), up_row _ _ _ (by omega), b2.1.2.2 57 (by omega) (by omega) (by omega) (by omega), b2.1.2.2 58 (by omega) (by omega) (by omega) (by omega), b2.1.2.2 59 (by omega) (by omega) (by omega) (by omega)]
      exact a5 a6
    · intro _
      refine ⟨by rw [up_in, if_neg (by omega), b2.1.2.2 53 (by omega) (by omega) (by omega) (by omega)]; exact a6, by rw [up_row _ _ _ (by omega)]; exact b2.1.1, by rw [up_row _ _ _ (by omega)]; exact b2.1.2.1, fun x hx => ?_⟩
      obtain ⟨m, m1, m2, m3⟩ := (b2.2 x hx).1 ⟨x, hx, s_con_rf x⟩
      have hm : m < 576 := Nat.lt_of_lt_of_le m1 (Nat.le_trans hpat hS)
      exact ⟨m, hm, by rw [up_row _ _ _ (by omega)]; exact m2, by rw [up_row _ _ _ (by omega)]; exact m3⟩
    · rw [up_in, if_neg (by omega), b2.1.2.2 53 (by omega) (by omega) (by omega) (by omega)]; exact a6
    · rw [up_in, if_pos rfl]; decide
  · rw [if_neg hg]
    have hg0 : ¬ I 53 15 = 0 := by rw [← a3 15 (by omega)]; exact hg
    have hf0 := (hQ hg0).1
    have he := a7 hf0
    subst he
    exact ⟨I1, rfl, fun b _ _ _ _ _ _ _ _ _ _ => rfl, fun k _ _ => rfl, hW, hF, hQ, hf0, hg⟩
/-- a patch that is being spread over: M those that have joined, q how many -/
def cJ_73 (I0 I : am_I) (C S : Nat) (k : Nat → Nat) (f N0 : Nat) (M : Nat → Prop) (q : Nat) : Prop :=
  (I 73 3 = Int32.ofNat q ∧ I 73 4 = Int32.ofNat N0 ∧ (∀ b, b ≠ 73 → b ≠ 74 → b ≠ 76 → I b = I0 b) ∧ ∀ j, j ≠ 3 → I 73 j = I0 73 j) ∧
  (q = s_num M S ∧ (∀ x, M x → x < S ∧ s_con C S k f x ∧ ∃ i, i < q ∧ I 76 i = Int32.ofNat x) ∧ ∀ i, i < q → ∃ x, M x ∧ I 76 i = Int32.ofNat x) ∧
  ∀ x, x < S → (M x → I 74 x = Int32.ofNat N0) ∧ (¬ M x → I 74 x = I0 74 x)
section MJ73
variable {C S : Nat} {k : Nat → Nat} {f N0 : Nat} {I0 : am_I} {G : am_G}
theorem c_jn_73 {I : am_I} {M : Nat → Prop} {q : Nat} (hS : S ≤ 576) (hN : N0 ≤ 576) (hZ : ∀ x, x < S → s_con C S k f x → (I0 74 x).toInt < 0) (h : cJ_73 I0 I C S k f N0 M q) {x : Nat} (hx : x < S) (hc : s_con C S k f x) :
    ∃ (M' : Nat → Prop) (q' : Nat), cJ_73 I0 (g_X4_join_73 I G (Int32.ofNat x) 1) C S k f N0 M' q' ∧ (∀ y, M y → M' y) ∧ M' x ∧ q ≤ q' ∧ ∀ i, i < q → g_X4_join_73 I G (Int32.ofNat x) 1 76 i = I 76 i := by
  obtain ⟨⟨h1, h2, h3, h4⟩, ⟨h5, h6, h7⟩, h8⟩ := h
  by_cases hM : M x
  · have e : g_X4_join_73 I G (Int32.ofNat x) 1 = I := by
      unfold g_X4_join_73
      rw [if_neg (by decide), if_pos]
      rw [n_gAt (by omega) (by omega), (h8 x hx).1 hM, i_le, n_ti (by omega), i_0]; omega
    rw [e]
    exact ⟨M, q, ⟨⟨h1, h2, h3, h4⟩, ⟨h5, h6, h7⟩, h8⟩, fun y hy => hy, hM, Nat.le_refl _, fun i _ => rfl⟩
  · have ha : s_num (fun y => M y ∨ y = x) S = s_num M S + 1 := s_num_add hM (fun y => Iff.rfl) hx
    have hb := s_num_le (fun y => M y ∨ y = x) S
    have hq : q < 576 := by omega
    have e : g_X4_join_73 I G (Int32.ofNat x) 1 = am_up (am_up (am_up I 74 x (Int32.ofNat N0)) 76 q (Int32.ofNat x)) 73 3 (Int32.ofNat (q + 1)) := by
      unfold g_X4_join_73
      rw [if_neg (by decide), if_neg, if_neg]
      · rw [n_gPut (by omega) (by omega), h2, up_row _ _ _ (by omega), h1, n_gPut (by omega) (by omega), up_row _ _ _ (by omega), up_row _ _ _ (by omega), h1, n_inc]
      · rw [h1, n_le (by omega) (by omega)]; omega
      · rw [n_gAt (by omega) (by omega), (h8 x hx).2 hM, i_le, i_0]
        have := hZ x hx hc
        omega
    rw [e]
    refine ⟨fun y => M y ∨ y = x, q + 1, ⟨⟨by rw [up_in, if_pos rfl], by rw [up_in, if_neg (by omega), up_row _ _ _ (by omega), up_row _ _ _ (by omega), h2], fun b z1 z2 z3 => by rw [up_row _ _ _ z1, up_row _ _ _ z3, up_row _ _ _ z2, h3 b z1 z2 z3], fun j hj => by rw [up_in, if_neg hj, up_row _ _ _ (by omega), up_row _ _ _ (by omega), h4 j hj]⟩, ⟨by omega, fun y hy => ?_, fun i hi => ?_⟩, fun y hy => ⟨fun hM' => ?_, fun hM' => ?_⟩⟩, fun y hy => Or.inl hy, Or.inr rfl, by omega, fun i hi => by rw [up_row _ _ _ (by omega), up_in, if_neg (by omega), up_row _ _ _ (by omega)]⟩
    · by_cases hyx : y = x
      · subst hyx
        exact ⟨hx, hc, q, by omega, by rw [up_row _ _ _ (by omega), up_in, if_pos rfl]⟩
      · obtain ⟨a1, a2, i, a3, a4⟩ := h6 y (hy.resolve_right hyx)
        exact ⟨a1, a2, i, by omega, by rw [up_row _ _ _ (by omega), up_in, if_neg (by omega), up_row _ _ _ (by omega), a4]⟩
    · by_cases hiq : i = q
      · subst hiq
        exact ⟨x, Or.inr rfl, by rw [up_row _ _ _ (by omega), up_in, if_pos rfl]⟩
      · obtain ⟨y, a1, a2⟩ := h7 i (by omega)
        exact ⟨y, Or.inl a1, by rw [up_row _ _ _ (by omega), up_in, if_neg hiq, up_row _ _ _ (by omega), a2]⟩
    · rw [up_row _ _ _ (by omega), up_row _ _ _ (by omega), up_in]
      by_cases hyx : y = x
      · rw [if_pos hyx]
      · rw [if_neg hyx]; exact (h8 y hy).1 (hM'.resolve_right hyx)
    · rw [up_row _ _ _ (by omega), up_row _ _ _ (by omega), up_in, if_neg (fun z => hM' (Or.inr z))]
      exact (h8 y hy).2 (fun z => hM' (Or.inl z))
/-- one neighbour -/
theorem c_jd_73 {α : Type} (F : am_I → α) {R : Nat} (hC : 0 < C) (hSR : S = C * R) (hS : S ≤ 576) (hN : N0 ≤ 576) (hk : ∀ x, x < S → I0 71 x = Int32.ofNat (k x) ∧ k x ≤ 5) (hf : f < S) (hZ : ∀ x, x < S → s_con C S k f x → (I0 74 x).toInt < 0) {I : am_I} {M : Nat → Prop} {q : Nat} (h : cJ_73 I0 I C S k f N0 M q) {x d : Nat} (hM : M x) (hd : d < 4) :
    ∃ (I' : am_I) (M' : Nat → Prop) (q' : Nat), (if gAt (I 71) 576 (Int32.ofNat (s_nb C S d x)) = Int32.ofNat (k f) then F (g_X4_join_73 I G (Int32.ofNat (s_nb C S d x)) 1) else F (g_X4_join_73 I G (Int32.ofNat (s_nb C S d x)) 0)) = F I' ∧ cJ_73 I0 I' C S k f N0 M' q' ∧ (∀ y, M y → M' y) ∧ (k (s_nb C S d x) = k f → M' (s_nb C S d x)) ∧ q ≤ q' ∧ ∀ i, i < q → I' 76 i = I 76 i := by
  have hx := h.2.1.2.1 x hM
  have hy : s_nb C S d x < S := by
    have := hx.1
    subst hSR; exact s_nb_lt hC this
  rw [n_gAt (by omega) (by omega), h.1.2.2.1 71 (by omega) (by omega) (by omega), (hk _ hy).1]
  have hb1 := (hk _ hy).2
  have hb2 := (hk _ hf).2
  by_cases he : k (s_nb C S d x) = k f
  · rw [if_pos (by rw [he])]
    have hc : s_con C S k f (s_nb C S d x) := s_con_tr hx.2.1 (s_con_st hd (by rw [he, s_con_ink hx.2.1]))
    obtain ⟨M', q', a1, a2, a3, a4, a5⟩ := c_jn_73 (G := G) hS hN hZ h hy hc
    exact ⟨_, M', q', rfl, a1, a2, fun _ => a3, a4, a5⟩
  · rw [if_neg (fun z => he ((n_eq (by omega) (by omega)).mp z))]
    exact ⟨I, M, q, rfl, h, fun y hy => hy, fun z => absurd z he, Nat.le_refl _, fun i _ => rfl⟩
theorem c_spL_73 {R : Nat} (hC : 0 < C) (hSR : S = C * R) (hCS : C ≤ S) (hS : S ≤ 576) (hN : N0 < 576) (hk : ∀ x, x < S → I0 71 x = Int32.ofNat (k x) ∧ k x ≤ 5) (hf : f < S) (hZ : ∀ x, x < S → s_con C S k f x → (I0 74 x).toInt < 0) (v2 : Int32) : ∀ (m nx n : Nat) (I : am_I) (M : Nat → Prop) (q : Nat), cJ_73 I0 I C S k f N0 M q → M f → nx ≤ q →
    (∀ i x, i < nx → M x → I 76 i = Int32.ofNat x → ∀ d, d < 4 → k (s_nb C S d x) = k f → M (s_nb C S d x)) → nx + m = S → m * 5 + 3 < n →
    ∃ (I' : am_I) (q' : Nat), L_X4_spread_73_71 n 0 I G v2 (Int32.ofNat C) (Int32.ofNat S) (Int32.ofNat (k f)) (Int32.ofNat nx) 0 0 0 0 0 = some ((), am_up (am_up I' 75 N0 (Int32.ofNat q')) 73 4 (Int32.ofNat (N0 + 1)), G) ∧ cJ_73 I0 I' C S k f N0 (fun x => s_con C S k f x) q' := by
  intro m
  induction m with
  | zero =>
    intro nx n I M q h hMf hnq hpr hk2 hn
    obtain ⟨n, rfl⟩ : ∃ n', n = n' + 3 := ⟨n - 3, by omega⟩
    have hqS : q ≤ S := by rw [h.2.1.1]; exact s_num_le M S
    have hnx : nx = q := by omega
    have hM : ∀ x, M x ↔ s_con C S k f x := fun x => ⟨fun z => (h.2.1.2.1 x z).2.1, fun z => s_con_cl hMf (fun y d hy hd hke => by
      obtain ⟨b1, b2, i, b3, b4⟩ := h.2.1.2.1 y hy
      exact hpr i y (by omega) hy b4 d hd hke) z⟩
    refine ⟨I, q, ?_, ⟨h.1, ⟨by rw [h.2.1.1]; exact s_num_eq (fun x _ => hM x), fun x hx => h.2.1.2.1 x ((hM x).mpr hx), fun i hi => by obtain ⟨x, c1, c2⟩ := h.2.1.2.2 i hi; exact ⟨x, (hM x).mp c1, c2⟩⟩, fun x hx => ⟨fun z => (h.2.2 x hx).1 ((hM x).mpr z), fun z => (h.2.2 x hx).2 (fun y => z ((hM x).mp y))⟩⟩⟩
    rw [L_X4_spread_73_71_0, h.1.1, if_pos ((n_le (by omega) (by omega)).mpr (by omega)), L_X4_spread_73_71_5, h.1.1, h.1.2.1, n_gPut (by omega) (by omega), L_X4_spread_73_71_6, up_row _ _ _ (by omega), h.1.2.1, n_inc]
  | succ m ih =>
    intro nx n I M q h hMf hnq hpr hk2 hn
    have hqS : q ≤ S := by rw [h.2.1.1]; exact s_num_le M S
    by_cases hnx : nx = q
    · obtain ⟨n, rfl⟩ : ∃ n', n = n' + 3 := ⟨n - 3, by omega⟩
      have hM : ∀ x, M x ↔ s_con C S k f x := fun x => ⟨fun z => (h.2.1.2.1 x z).2.1, fun z => s_con_cl hMf (fun y d hy hd hke => by
        obtain ⟨b1, b2, i, b3, b4⟩ := h.2.1.2.1 y hy
        exact hpr i y (by omega) hy b4 d hd hke) z⟩
      refine ⟨I, q, ?_, ⟨h.1, ⟨by rw [h.2.1.1]; exact s_num_eq (fun x _ => hM x), fun x hx => h.2.1.2.1 x ((hM x).mpr hx), fun i hi => by obtain ⟨x, c1, c2⟩ := h.2.1.2.2 i hi; exact ⟨x, (hM x).mp c1, c2⟩⟩, fun x hx => ⟨fun z => (h.2.2 x hx).1 ((hM x).mpr z), fun z => (h.2.2 x hx).2 (fun y => z ((hM x).mp y))⟩⟩⟩
      rw [L_X4_spread_73_71_0, h.1.1, if_pos ((n_le (by omega) (by omega)).mpr (by omega)), L_X4_spread_73_71_5, h.1.1, h.1.2.1, n_gPut (by omega) (by omega), L_X4_spread_73_71_6, up_row _ _ _ (by omega), h.1.2.1, n_inc]
    · obtain ⟨n, rfl⟩ : ∃ n', n = n' + 5 := ⟨n - 5, by omega⟩
      obtain ⟨x, hMx, hQx⟩ := h.2.1.2.2 nx (by omega)
      have hxS := (h.2.1.2.1 x hMx).1
      rw [show n + 5 = (n + 4) + 1 by omega, L_X4_spread_73_71_0, h.1.1, if_neg (fun z => absurd ((n_le (by omega) (by omega)).mp z) (by omega)), if_neg (fun z => absurd ((n_le (by omega) (by omega)).mp z) (by omega)), n_gAt (by omega) (by omega), hQx,
        c_nb2 (S := S) hC (by omega) (by omega), c_nb0 (S := S) hC (by omega) (by omega), c_nb3 (S := S) (by omega) (by omega) (by omega) hCS, c_nb1 (S := S) (by omega) (by omega) (by omega)]
      obtain ⟨I1, M1, q1, a1, a2, a3, a4, a5, a6⟩ := c_jd_73 (G := G) (fun J => L_X4_spread_73_71 (n + 4) 1 J G v2 (Int32.ofNat C) (Int32.ofNat S) (Int32.ofNat (k f)) (Int32.ofNat nx) (Int32.ofNat x) (Int32.ofNat (s_nb C S 2 x)) (Int32.ofNat (s_nb C S 0 x)) (Int32.ofNat (s_nb C S 3 x)) (Int32.ofNat (s_nb C S 1 x))) hC hSR hS (by omega) hk hf hZ h hMx (d := 2) (by omega)
      rw [a1]
      rw [show n + 4 = (n + 3) + 1 by omega, L_X4_spread_73_71_1]
      obtain ⟨I2, M2, q2, b1, b2, b3, b4, b5, b6⟩ := c_jd_73 (G := G) (fun J => L_X4_spread_73_71 (n + 3) 2 J G v2 (Int32.ofNat C) (Int32.ofNat S) (Int32.ofNat (k f)) (Int32.ofNat nx) (Int32.ofNat x) (Int32.ofNat (s_nb C S 2 x)) (Int32.ofNat (s_nb C S 0 x)) (Int32.ofNat (s_nb C S 3 x)) (Int32.ofNat (s_nb C S 1 x))) hC hSR hS (by omega) hk hf hZ a2 (a3 x hMx) (d := 0) (by omega)
      rw [b1]
      rw [show n + 3 = (n + 2) + 1 by omega, L_X4_spread_73_71_2]
      obtain ⟨I3, M3, q3, e1, e2, e3, e4, e5, e6⟩ := c_jd_73 (G := G) (fun J => L_X4_spread_73_71 (n + 2) 3 J G v2 (Int32.ofNat C) (Int32.ofNat S) (Int32.ofNat (k f)) (Int32.ofNat nx) (Int32.ofNat x) (Int32.ofNat (s_nb C S 2 x)) (Int32.ofNat (s_nb C S 0 x)) (Int32.ofNat (s_nb C S 3 x)) (Int32.ofNat (s_nb C S 1 x))) hC hSR hS (by omega) hk hf hZ b2 (b3 x (a3 x hMx)) (d := 3) (by omega)
      rw [e1]
      rw [show n + 2 = (n + 1) + 1 by omega, L_X4_spread_73_71_3]
      obtain ⟨I4, M4, q4, g1, g2, g3, g4, g5, g6⟩ := c_jd_73 (G := G) (fun J => L_X4_spread_73_71 (n + 1) 4 J G v2 (Int32.ofNat C) (Int32.ofNat S) (Int32.ofNat (k f)) (Int32.ofNat nx) (Int32.ofNat x) (Int32.ofNat (s_nb C S 2 x)) (Int32.ofNat (s_nb C S 0 x)) (Int32.ofNat (s_nb C S 3 x)) (Int32.ofNat (s_nb C S 1 x))) hC hSR hS (by omega) hk hf hZ e2 (e3 x (b3 x (a3 x hMx))) (d := 1) (by omega)
      rw [g1]
      rw [L_X4_spread_73_71_4, n_inc]
      have mono : ∀ y, M y → M4 y := fun y hy => g3 y (e3 y (b3 y (a3 y hy)))
      have same : ∀ i, i < q → I4 76 i = I 76 i := fun i hi => by rw [g6 i (by omega), e6 i (by omega), b6 i (by omega), a6 i hi]
      refine ih (nx + 1) n I4 M4 q4 g2 (mono f hMf) (by omega) (fun i y hi hy hQ d hd hke => ?_) (by omega) (by omega)
      have hyS := (g2.2.1.2.1 y hy).1
      rw [same i (by omega)] at hQ
      obtain ⟨z, hMz, hQz⟩ := h.2.1.2.2 i (by omega)
      have hzS := (h.2.1.2.1 z hMz).1
      rw [hQz] at hQ
      have hzy : z = y := (n_eq (by omega) (by omega)).mp hQ
      subst hzy
      by_cases hin : i = nx
      · subst hin
        rw [hQx] at hQz
        have hxz : x = z := (n_eq (by omega) (by omega)).mp hQz
        subst hxz
        have hd4 : d = 0 ∨ d = 1 ∨ d = 2 ∨ d = 3 := by omega
        rcases hd4 with rfl | rfl | rfl | rfl
        · exact g3 _ (e3 _ (b4 hke))
        · exact g4 hke
        · exact g3 _ (e3 _ (b3 _ (a4 hke)))
        · exact g3 _ (e4 hke)
      · exact mono _ (hpr i z (by omega) hMz hQz d hd hke)
/-- spread -/
theorem c_sp_73 {R : Nat} (hC : 0 < C) (hSR : S = C * R) (hCS : C ≤ S) (hS : S ≤ 576) (hN : N0 < 576) (hI : I0 73 4 = Int32.ofNat N0) (hk : ∀ x, x < S → I0 71 x = Int32.ofNat (k x) ∧ k x ≤ 5) (hf : f < S) (hZ : ∀ x, x < S → s_con C S k f x → (I0 74 x).toInt < 0) :
    ∃ I' : am_I, R_X4_spread_73_71 I0 G (Int32.ofNat f) (Int32.ofNat C) (Int32.ofNat S) = some ((), I', G) ∧ (∀ b, b ≠ 73 → b ≠ 74 → b ≠ 76 → b ≠ 75 → I' b = I0 b) ∧ (∀ j, j ≠ 3 → j ≠ 4 → I' 73 j = I0 73 j) ∧ I' 73 4 = Int32.ofNat (N0 + 1) ∧ (∀ x, x < S → (s_con C S k f x → I' 74 x = Int32.ofNat N0) ∧ (¬ s_con C S k f x → I' 74 x = I0 74 x)) ∧ ∀ j, I' 75 j = if j = N0 then Int32.ofNat (s_sz C S k f) else I0 75 j := by
  have h0 : cJ_73 (am_up I0 73 3 0) (am_up I0 73 3 0) C S k f N0 (fun _ => False) 0 :=
    ⟨⟨by rw [up_in, if_pos rfl]; rfl, by rw [up_in, if_neg (by omega), hI], fun b _ _ _ => rfl, fun j _ => rfl⟩, ⟨(s_num_z (fun _ z => z) _).symm, fun x z => z.elim, fun i hi => absurd hi (by omega)⟩, fun x hx => ⟨fun z => z.elim, fun _ => rfl⟩⟩
  have hk' : ∀ x, x < S → am_up I0 73 3 0 71 x = Int32.ofNat (k x) ∧ k x ≤ 5 := fun x hx => by rw [up_row _ _ _ (by omega)]; exact hk x hx
  have hZ' : ∀ x, x < S → s_con C S k f x → (am_up I0 73 3 0 74 x).toInt < 0 := fun x hx hc => by rw [up_row _ _ _ (by omega)]; exact hZ x hx hc
  obtain ⟨M, q, a1, a2, a3, a4, a5⟩ := c_jn_73 (G := G) hS (by omega) hZ' h0 hf (s_con_rf f)
  obtain ⟨I', q', b1, b2⟩ := c_spL_73 (G := G) hC hSR hCS hS hN hk' hf hZ' (Int32.ofNat f) S 0 FU _ M q a1 a3 (by omega) (fun i x hi => absurd hi (by omega)) (by omega) (by unfold FU; omega)
  refine ⟨am_up (am_up I' 75 N0 (Int32.ofNat q')) 73 4 (Int32.ofNat (N0 + 1)), ?_, fun b z1 z2 z3 z4 => ?_, fun j z1 z2 => ?_, ?_, fun x hx => ⟨fun z => ?_, fun z => ?_⟩, fun j => ?_⟩
  · unfold R_X4_spread_73_71
    rw [n_gAt (by omega) (by omega), (hk f hf).1]
    exact b1
  · rw [up_row _ _ _ z1, up_row _ _ _ z4, b2.1.2.2.1 b z1 z2 z3, up_row _ _ _ z1]
  · rw [up_in, if_neg z2, up_row _ _ _ (by omega), b2.1.2.2.2 j z1, up_in, if_neg z1]
  · rw [up_in, if_pos rfl]
  · rw [up_row _ _ _ (by omega), up_row _ _ _ (by omega)]; exact (b2.2.2 x hx).1 z
  · rw [up_row _ _ _ (by omega), up_row _ _ _ (by omega), (b2.2.2 x hx).2 z, up_row _ _ _ (by omega)]
  · rw [up_row _ _ _ (by omega), up_in]
    by_cases hj : j = N0
    · rw [if_pos hj, if_pos hj, b2.2.1.1]; rfl
    · rw [if_neg hj, if_neg hj, b2.1.2.2.1 75 (by omega) (by omega) (by omega), up_row _ _ _ (by omega)]
end MJ73
/-- the patches of the first n spots -/
def cB_73 (I0 I : am_I) (C S : Nat) (k : Nat → Nat) (n : Nat) (c : Nat) : Prop :=
  (I 73 4 = Int32.ofNat (s_pat C S k n) ∧ I 73 5 = Int32.ofNat c ∧ ∀ b, b ≠ 73 → b ≠ 74 → b ≠ 76 → b ≠ 75 → I b = I0 b) ∧
  ∀ x, x < S → ((∃ j, j < n ∧ s_con C S k j x) → ∃ m, m < s_pat C S k n ∧ I 74 x = Int32.ofNat m ∧ I 75 m = Int32.ofNat (s_sz C S k x)) ∧ ((¬ ∃ j, j < n ∧ s_con C S k j x) → (I 74 x).toInt < 0)
section MF73
variable {C S : Nat} {k : Nat → Nat} {I0 : am_I} {G : am_G}
theorem c_fst_73 {α : Type} (F : am_I → am_G → Option α) {R : Nat} (hC : 2 ≤ C) (hR : 2 ≤ R) (hSR : S = C * R) (hS : S ≤ 576) (hk : ∀ x, x < S → I0 71 x = Int32.ofNat (k x) ∧ k x ≤ 5) {I : am_I} {n c : Nat} (hn : n < S) (h : cB_73 I0 I C S k n c) :
    ∃ I' : am_I, (if 0 ≤ (gAt (I 74) 576 (Int32.ofNat n)) then F I G else rb (R_X4_spread_73_71 I G (Int32.ofNat n) (Int32.ofNat C) (Int32.ofNat S)) (fun r J K => F J K)) = F I' G ∧ cB_73 I0 I' C S k (n + 1) c := by
  have hCS : C ≤ S := by rw [hSR]; exact Nat.le_mul_of_pos_right C (by omega)
  have hp := s_num_le (s_new C S k) n
  rw [n_gAt (by omega) (by omega)]
  by_cases hs : ∃ j, j < n ∧ s_con C S k j n
  · obtain ⟨m, h1, h2, h3⟩ := (h.2 n hn).1 hs
    have hnew : ¬ s_new C S k n := fun z => by obtain ⟨j, j1, j2⟩ := hs; exact z j j1 j2
    have hpe : s_pat C S k (n + 1) = s_pat C S k n := s_num_n hnew
    have hb : s_pat C S k n ≤ n := hp
    rw [if_pos (by rw [h2, i_le, n_ti (by omega), i_0]; omega)]
    refine ⟨I, rfl, ⟨by rw [hpe]; exact h.1, fun x hx => ?_⟩⟩
    have hiff : (∃ j, j < n + 1 ∧ s_con C S k j x) ↔ ∃ j, j < n ∧ s_con C S k j x := by
      constructor
      · rintro ⟨j, j1, j2⟩
        by_cases hj : j = n
        · subst hj
          obtain ⟨i, i1, i2⟩ := hs
          exact ⟨i, i1, s_con_tr i2 j2⟩
        · exact ⟨j, by omega, j2⟩
      · rintro ⟨j, j1, j2⟩
        exact ⟨j, by omega, j2⟩
    rw [hiff, hpe]
    exact h.2 x hx
  · have hnew : s_new C S k n := fun j hj hc => hs ⟨j, hj, hc⟩
    have hpe : s_pat C S k (n + 1) = s_pat C S k n + 1 := s_num_y hnew
    have hb : s_pat C S k n ≤ n := hp
    have hneg := (h.2 n hn).2 hs
    rw [if_neg (by rw [i_le, i_0]; omega)]
    have hsy : ∀ x, x < S → s_con C S k n x → ¬ ∃ j, j < n ∧ s_con C S k j x := by
      rintro x hx hc ⟨j, j1, j2⟩
      exact hs ⟨j, j1, s_con_tr j2 (s_con_sy hC hR hSR hn hc)⟩
    obtain ⟨I', a1, a2, a3, a4, a5, a6⟩ := c_sp_73 (G := G) (N0 := s_pat C S k n) (R := R) (by omega) hSR hCS hS (by omega) h.1.1 (fun x hx => by rw [h.1.2.2 71 (by omega) (by omega) (by omega) (by omega)]; exact hk x hx) hn (fun x hx hc => (h.2 x hx).2 (hsy x hx hc))
    rw [a1, rb_go]
    refine ⟨I', rfl, ⟨⟨by rw [hpe, a4], by rw [a3 5 (by omega) (by omega)]; exact h.1.2.1, fun b z1 z2 z3 z4 => by rw [a2 b z1 z2 z3 z4, h.1.2.2 b z1 z2 z3 z4]⟩, fun x hx => ⟨?_, ?_⟩⟩⟩
    · rintro ⟨j, j1, j2⟩
      by_cases hc : s_con C S k n x
      · refine ⟨s_pat C S k n, by omega, (a5 x hx).1 hc, ?_⟩
        rw [a6, if_pos rfl, s_sz_eq hC hR hSR hn hc]
      · have hj : j < n := by
          rcases Nat.lt_or_ge j n with z | z
          · exact z
          · have : j = n := by omega
            subst this; exact absurd j2 hc
        obtain ⟨m, m1, m2, m3⟩ := (h.2 x hx).1 ⟨j, hj, j2⟩
        exact ⟨m, by omega, by rw [(a5 x hx).2 hc, m2], by rw [a6, if_neg (by omega), m3]⟩
    · intro hno
      have hc : ¬ s_con C S k n x := fun z => hno ⟨n, by omega, z⟩
      rw [(a5 x hx).2 hc]
      exact (h.2 x hx).2 (fun ⟨j, j1, j2⟩ => hno ⟨j, by omega, j2⟩)
theorem cB_73.ct {I : am_I} {n c c' : Nat} (h : cB_73 I0 I C S k n c) : cB_73 I0 (am_up I 73 5 (Int32.ofNat c')) C S k n c' :=
  ⟨⟨by rw [up_in, if_neg (by omega)]; exact h.1.1, by rw [up_in, if_pos rfl], fun b z1 z2 z3 z4 => by rw [up_row _ _ _ z1, h.1.2.2 b z1 z2 z3 z4]⟩, fun x hx => by rw [up_row _ _ _ (by omega), up_row _ _ _ (by omega)]; exact h.2 x hx⟩
theorem c_fd1_73 {R : Nat} (hC : 2 ≤ C) (hR : 2 ≤ R) (hSR : S = C * R) (hS : S ≤ 576) (hk : ∀ x, x < S → I0 71 x = Int32.ofNat (k x) ∧ k x ≤ 5) (v3 : Int32) : ∀ (m n u : Nat) (I : am_I), cB_73 I0 I C S k n (s_cts C S k n) → n + m = S → m < u →
    ∃ I' : am_I, L_X4_find_73_71 u 1 I G (Int32.ofNat C) v3 (Int32.ofNat S) (Int32.ofNat n) = some ((), I', G) ∧ cB_73 I0 I' C S k S (s_cts C S k S) := by
  intro m
  induction m with
  | zero =>
    intro n u I h hn hu
    obtain ⟨u, rfl⟩ : ∃ u', u = u' + 1 := ⟨u - 1, by omega⟩
    rw [L_X4_find_73_71_1, if_pos ((n_le (by omega) (by omega)).mpr (by omega))]
    exact ⟨I, rfl, by rw [show S = n by omega] at h ⊢; exact h⟩
  | succ m ih =>
    intro n u I h hn hu
    obtain ⟨u, rfl⟩ : ∃ u', u = u' + 1 := ⟨u - 1, by omega⟩
    have hnS : n < S := by omega
    have hc2 := s_cts_le C S k n
    have hCS : C ≤ S := by rw [hSR]; exact Nat.le_mul_of_pos_right C (by omega)
    have hr : s_nb C S 0 n < S := by have h9 := hnS; rw [hSR] at h9 ⊢; exact s_nb_lt (by omega) h9
    have hbl : s_nb C S 1 n < S := by have h9 := hnS; rw [hSR] at h9 ⊢; exact s_nb_lt (by omega) h9
    have hIN : I 71 = I0 71 := h.1.2.2 71 (by omega) (by omega) (by omega) (by omega)
    have b1 := hk n hnS
    have b2 := hk _ hr
    have b3 := hk _ hbl
    rw [L_X4_find_73_71_1, if_neg (fun z => absurd ((n_le (by omega) (by omega)).mp z) (by omega)), c_nb0 (S := S) (by omega) (by omega) (by omega), c_nb1 (S := S) (by omega) (by omega) (by omega), c_nb1 (S := S) (by omega) (by omega) (by omega), up_row (b := 71) (a := 73) I 5 _ (by omega), hIN, n_gAt (f := I0 71) (k := n) (by omega) (by omega), n_gAt (k := s_nb C S 0 n) (by omega) (by omega), n_gAt (k := s_nb C S 1 n) (by omega) (by omega), b1.1, b2.1, b3.1, h.1.2.1, n_inc, n_inc, n_inc]
    have hct : s_cts C S k (n + 1) = s_cts C S k n + ((if k n = k (s_nb C S 0 n) then 0 else 1) + (if k n = k (s_nb C S 1 n) then 0 else 1)) := rfl
    by_cases e0 : k (s_nb C S 0 n) = k n
    · rw [if_pos (show Int32.ofNat (k (s_nb C S 0 n)) = Int32.ofNat (k n) by rw [e0])]
      rw [if_pos e0.symm] at hct
      by_cases e1 : k (s_nb C S 1 n) = k n
      · rw [if_pos (show Int32.ofNat (k (s_nb C S 1 n)) = Int32.ofNat (k n) by rw [e1])]
        rw [if_pos e1.symm] at hct
        obtain ⟨I1, a1, a2⟩ := c_fst_73 (G := G) (fun J K => L_X4_find_73_71 u 1 J K (Int32.ofNat C) v3 (Int32.ofNat S) (Int32.ofNat (n + 1))) hC hR hSR hS hk hnS h
        rw [a1]
        exact ih (n + 1) u I1 (by rw [hct]; exact a2) (by omega) (by omega)
      · rw [if_neg (fun z => e1 ((n_eq (by omega) (by omega)).mp z))]
        rw [if_neg (fun z => e1 z.symm)] at hct
        obtain ⟨I1, a1, a2⟩ := c_fst_73 (G := G) (fun J K => L_X4_find_73_71 u 1 J K (Int32.ofNat C) v3 (Int32.ofNat S) (Int32.ofNat (n + 1))) hC hR hSR hS hk hnS (h.ct (c' := s_cts C S k n + 1))
        rw [a1]
        exact ih (n + 1) u I1 (by rw [hct, Nat.zero_add]; exact a2) (by omega) (by omega)
    · rw [if_neg (fun z => e0 ((n_eq (by omega) (by omega)).mp z))]
      rw [if_neg (fun z => e0 z.symm)] at hct
      by_cases e1 : k (s_nb C S 1 n) = k n
      · rw [if_pos (show Int32.ofNat (k (s_nb C S 1 n)) = Int32.ofNat (k n) by rw [e1])]
        rw [if_pos e1.symm] at hct
        obtain ⟨I1, a1, a2⟩ := c_fst_73 (G := G) (fun J K => L_X4_find_73_71 u 1 J K (Int32.ofNat C) v3 (Int32.ofNat S) (Int32.ofNat (n + 1))) hC hR hSR hS hk hnS (h.ct (c' := s_cts C S k n + 1))
        rw [a1]
        exact ih (n + 1) u I1 (by rw [hct]; exact a2) (by omega) (by omega)
      · rw [if_neg (fun z => e1 ((n_eq (by omega) (by omega)).mp z))]
        rw [if_neg (fun z => e1 z.symm)] at hct
        obtain ⟨I1, a1, a2⟩ := c_fst_73 (G := G) (fun J K => L_X4_find_73_71 u 1 J K (Int32.ofNat C) v3 (Int32.ofNat S) (Int32.ofNat (n + 1))) hC hR hSR hS hk hnS ((h.ct (c' := s_cts C S k n + 1)).ct (c' := s_cts C S k n + 1 + 1))
        rw [a1]
        exact ih (n + 1) u I1 (by rw [hct]; exact a2) (by omega) (by omega)
theorem c_fd0_73 (hS : S ≤ 576) (v2 v3 : Int32) : ∀ (m n u : Nat) (I : am_I), n + m = S → m < u →
    ∃ I' : am_I, L_X4_find_73_71 u 0 I G v2 v3 (Int32.ofNat S) (Int32.ofNat n) = L_X4_find_73_71 (u - m - 1) 1 I' G v2 v3 (Int32.ofNat S) 0 ∧ (∀ b, b ≠ 74 → I' b = I b) ∧ ∀ x, I' 74 x = if n ≤ x ∧ x < S then -1 else I 74 x := by
  intro m
  induction m with
  | zero =>
    intro n u I hn hu
    obtain ⟨u, rfl⟩ : ∃ u', u = u' + 1 := ⟨u - 1, by omega⟩
    rw [L_X4_find_73_71_0, if_pos ((n_le (by omega) (by omega)).mpr (by omega)), show u + 1 - 0 - 1 = u by omega]
    exact ⟨I, rfl, fun b _ => rfl, fun x => by rw [if_neg (by omega)]⟩
  | succ m ih =>
    intro n u I hn hu
    obtain ⟨u, rfl⟩ : ∃ u', u = u' + 1 := ⟨u - 1, by omega⟩
    rw [L_X4_find_73_71_0, if_neg (fun z => absurd ((n_le (by omega) (by omega)).mp z) (by omega)), n_gPut (by omega) (by omega), n_inc]
    obtain ⟨I', b1, b2, b3⟩ := ih (n + 1) u (am_up I 74 n (-1)) (by omega) (by omega)
    refine ⟨I', by rw [b1, show u + 1 - (m + 1) - 1 = u - m - 1 by omega], fun b hb => (b2 b hb).trans (up_row _ _ _ hb), fun x => ?_⟩
    rw [b3, up_in]
    by_cases hx : x = n
    · rw [if_neg (by omega), if_pos hx, if_pos (by omega)]
    · rw [if_neg hx]
      by_cases h2 : n + 1 ≤ x ∧ x < S
      · rw [if_pos h2, if_pos (by omega)]
      · rw [if_neg h2, if_neg (by omega)]
/-- find -/
theorem c_fd_73 {R : Nat} (hC : 2 ≤ C) (hR : 2 ≤ R) (hSR : S = C * R) (hS : S ≤ 576) (hk : ∀ x, x < S → I0 71 x = Int32.ofNat (k x) ∧ k x ≤ 5) :
    ∃ I' : am_I, R_X4_find_73_71 I0 G (Int32.ofNat C) (Int32.ofNat R) = some ((), I', G) ∧ cB_73 I0 I' C S k S (s_cts C S k S) := by
  obtain ⟨I1, a1, a2, a3⟩ := c_fd0_73 (G := G) hS (Int32.ofNat C) (Int32.ofNat R) S 0 FU (am_up (am_up I0 73 4 0) 73 5 0) (by omega) (by unfold FU; omega)
  have h0 : cB_73 I0 I1 C S k 0 (s_cts C S k 0) :=
    ⟨⟨by rw [a2 73 (by omega), up_in, if_neg (by omega), up_in, if_pos rfl]; rfl, by rw [a2 73 (by omega), up_in, if_pos rfl]; rfl, fun b z1 z2 z3 z4 => by rw [a2 b z2, up_row _ _ _ z1, up_row _ _ _ z1]⟩, fun x hx => ⟨fun ⟨j, hj, _⟩ => absurd hj (by omega), fun _ => by rw [a3, if_pos (by omega)]; decide⟩⟩
  obtain ⟨I', b1, b2⟩ := c_fd1_73 (G := G) hC hR hSR hS hk (Int32.ofNat R) S 0 (FU - S - 1) I1 h0 (by omega) (by unfold FU; omega)
  refine ⟨I', ?_, b2⟩
  unfold R_X4_find_73_71
  rw [n_mul, ← hSR]
  exact a1.trans b1
end MF73
/-- patches and contours, if they are grouped -/
def cQ_66 (I : am_I) (p t : sP) : Prop := ¬ I 66 15 = 0 → ¬ I 66 14 = 0 ∧ I 73 4 = Int32.ofNat (s_pat (p 0 0) (s_S p) (s_ik p t) (s_S p)) ∧ I 73 5 = Int32.ofNat (s_cts (p 0 0) (s_S p) (s_ik p t) (s_S p)) ∧ ∀ x, x < s_S p → ∃ m, m < 576 ∧ I 74 x = Int32.ofNat m ∧ I 75 m = Int32.ofNat (s_sz (p 0 0) (s_S p) (s_ik p t) x)
/-- group -/
theorem c_gr_66 {I : am_I} {G : am_G} {p t : sP} (h : cP I p) (hp : p_ok p) (hT : cT_66 I p t) (ht : t_ok p t) (hW : cW I p) (hF : cF_66 I p t) (hQ : cQ_66 I p t) :
    ∃ I' : am_I, R_X7_group_66 I G = some ((), I', G) ∧ (∀ b, b ≠ 26 → b ≠ 27 → b ≠ 70 → b ≠ 71 → b ≠ 72 → b ≠ 66 → b ≠ 73 → b ≠ 74 → b ≠ 75 → b ≠ 76 → I' b = I b) ∧ (∀ k, k ≠ 14 → k ≠ 15 → I' 66 k = I 66 k) ∧ cW I' p ∧ cF_66 I' p t ∧ cQ_66 I' p t ∧ ¬ I' 66 14 = 0 ∧ ¬ I' 66 15 = 0 := by
  have h0 := hp.1
  have hS := s_S_le hp
  obtain ⟨I1, a1, a2, a3, a4, a5, a6, a7⟩ := c_rf_66 (G := G) h hp hT ht hW hF
  unfold R_X7_group_66
  rw [a1, rb_go]
  by_cases hg : I1 66 15 = 0
  · have h1 : cP I1 p := h.kept (fun b z1 z2 => a2 b (by omega) (by omega) (by omega) (by omega) (by omega) (by omega))
    obtain ⟨I2, b1, b2⟩ := c_fd_73 (G := G) (C := p 0 0) (S := s_S p) (R := p 0 1) (k := s_ik p t) (I0 := I1) (by omega) (by omega) rfl hS (fun x hx => ⟨((a5 a6).1 x hx).2, by have := s_ik_b p t x; omega⟩)
    rw [if_pos hg, h1.1.1, h1.1.2.1, b1, rb_go, rg_pos (Or.inr rfl)]
    have hpat := s_num_le (s_new (p 0 0) (s_S p) (s_ik p t)) (s_S p)
    refine ⟨_, rfl, fun b z1 z2 z3 z4 z5 z6 z7 z8 z9 z10 => by rw [up_row _ _ _ z6, b2.1.2.2 b z7 z8 z10 z9, a2 b z1 z2 z3 z4 z5 z6], fun k z1 z2 => by rw [up_in, if_neg z2, b2.1.2.2 66 (by omega) (by omega) (by omega) (by omega), a3 k z1], ?_, ?_, ?_, ?_, ?_⟩
    · exact a4.kept (by rw [up_row _ _ _ (by omega), b2.1.2.2 _ (by omega) (by omega) (by omega) (by omega)]) (by rw [up_row _ _ _ (by omega), b2.1.2.2 _ (by omega) (by omega) (by omega) (by omega)])
    · intro _
      rw [up_row _ _ _ (by omega), up_row _ _ _ (by omega), up_row _ _ _ (by omega), b2.1.2.2 70 (by omega) (by omega) (by omega) (by omega), b2.1.2.2 71 (by omega) (by omega) (by omega) (by omega), b2.1.2.2 72 (by omega) (by omega) (by omega) (by omega)]
      exact a5 a6
    · intro _
      refine ⟨by rw [up_in, if_neg (by omega), b2.1.2.2 66 (by omega) (by omega) (by omega) (by omega)]; exact a6, by rw [up_row _ _ _ (by omega)]; exact b2.1.1, by rw [up_row _ _ _ (by omega)]; exact b2.1.2.1, fun x hx => ?_⟩
      obtain ⟨m, m1, m2, m3⟩ := (b2.2 x hx).1 ⟨x, hx, s_con_rf x⟩
      have hm : m < 576 := Nat.lt_of_lt_of_le m1 (Nat.le_trans hpat hS)
      exact ⟨m, hm, by rw [up_row _ _ _ (by omega)]; exact m2, by rw [up_row _ _ _ (by omega)]; exact m3⟩
    · rw [up_in, if_neg (by omega), b2.1.2.2 66 (by omega) (by omega) (by omega) (by omega)]; exact a6
    · rw [up_in, if_pos rfl]; decide
  · rw [if_neg hg]
    have hg0 : ¬ I 66 15 = 0 := by rw [← a3 15 (by omega)]; exact hg
    have hf0 := (hQ hg0).1
    have he := a7 hf0
    subst he
    exact ⟨I1, rfl, fun b _ _ _ _ _ _ _ _ _ _ => rfl, fun k _ _ => rfl, hW, hF, hQ, hf0, hg⟩
