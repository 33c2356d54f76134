/-! the text is taught; what the law's start asks of mathematics -/
def kl (l : List (Nat × Nat)) : Bool := l.all (fun q => Nat.ble q.1 40)
theorem kl_app {a b : List (Nat × Nat)} (h1 : kl a = true) (h2 : kl b = true) : kl (a ++ b) = true := by
  unfold kl at *
  rw [List.all_append, h1, h2]; rfl
theorem sg_kl {K V C : Nat → Nat} : ∀ {l : List (Nat × Nat)} {p : Nat}, sg K V C p l → kl l = true → ∀ j, j < l.length → K (p + j) ≤ 40
  | [], _, _, _, j, hj => absurd hj (Nat.not_lt_zero j)
  | (k, v) :: r, p, h, hk, j, hj => by
    unfold kl at hk
    rw [List.all_cons, Bool.and_eq_true] at hk
    cases j with
    | zero =>
      have h1 : K p = k := h.1.1
      have h2 : k ≤ 40 := Nat.le_of_ble_eq_true hk.1
      show K p ≤ 40
      omega
    | succ j =>
      have := sg_kl h.2 hk.2 j (by simp only [List.length_cons] at hj; omega)
      rw [show p + (j + 1) = p + 1 + j by omega]
      exact this
section F9
variable (c : Nat → Int32)
theorem kl_hd (k x : Nat) : kl (lHd k x) = true := by
  unfold lHd
  split
  · rfl
  · split
    · rfl
    · split <;> rfl
theorem kl_sum (k a n : Nat) : kl (lSum k a n) = true := by
  unfold lSum
  split
  · rfl
  · split
    · rfl
    · split
      · rfl
      · split <;> rfl
theorem kl_tst (k a n : Nat) : kl (lTst k a n) = true := by
  unfold lTst
  split
  · rfl
  · split
    · rfl
    · split
      · rfl
      · split <;> rfl
theorem kl_cmb (i w t u : Nat) : kl (lCmb i w t u) = true := by
  unfold lCmb
  split <;> rfl
theorem kl_oct : ∀ o, kl (kOct c o) = true ∧ (kOct c o).length ≤ 5 + 11 * o
  | 0 => by
    unfold kOct kPap
    split
    · exact ⟨rfl, Nat.le_refl _⟩
    · exact ⟨rfl, Nat.zero_le _⟩
  | o + 1 => by
    obtain ⟨h1, h2⟩ := kl_oct o
    unfold kOct
    refine ⟨kl_app h1 rfl, ?_⟩
    rw [List.length_append]
    show _ + 11 ≤ _
    omega
theorem kl_kcm : ∀ i, kl (kCmb c i) = true ∧ (kCmb c i).length ≤ 38 + 8 * i
  | 0 => by
    obtain ⟨h1, h2⟩ := kl_oct c (pNo c)
    have := pNo_b c
    exact ⟨h1, by show (kOct c (pNo c)).length ≤ _; omega⟩
  | i + 1 => by
    obtain ⟨h1, h2⟩ := kl_kcm i
    unfold kCmb
    refine ⟨kl_app h1 (kl_cmb _ _ _ _), ?_⟩
    rw [List.length_append]
    show _ + 8 ≤ _
    omega
theorem kl_kle : ∀ i, kl (kLev c i) = true ∧ (kLev c i).length ≤ 62 + 5 * i
  | 0 => by
    obtain ⟨h1, h2⟩ := kl_kcm c (pNc c)
    have := pNc_b c
    exact ⟨h1, by show (kCmb c (pNc c)).length ≤ _; omega⟩
  | i + 1 => by
    obtain ⟨h1, h2⟩ := kl_kle i
    unfold kLev
    refine ⟨kl_app h1 rfl, ?_⟩
    rw [List.length_append]
    show _ + 5 ≤ _
    omega
theorem len_hd (k x : Nat) : (lHd k x).length ≤ 3 := by
  unfold lHd
  split
  · exact Nat.le_refl 3
  · split
    · exact Nat.le_refl 3
    · split <;> exact Nat.le_refl 3
theorem len_sum (k a n : Nat) : (lSum k a n).length ≤ 8 := by
  unfold lSum
  repeat' split
  all_goals simp only [List.length_cons, List.length_nil]; omega
theorem len_tst (k a n : Nat) : (lTst k a n).length ≤ 10 := by
  unfold lTst
  repeat' split
  all_goals simp only [List.length_cons, List.length_nil]; omega
theorem kl_kor : ∀ i, kl (kOrd c i) = true ∧ (kOrd c i).length ≤ 82 + 22 * i
  | 0 => by
    obtain ⟨h1, h2⟩ := kl_kle c (pNi c)
    have := pNi_b c
    exact ⟨h1, by show (kLev c (pNi c)).length ≤ _; omega⟩
  | i + 1 => by
    obtain ⟨h1, h2⟩ := kl_kor i
    have a1 := len_hd (pKd c i) (pOrd c i 1)
    have a2 := len_sum (pOrd c i 2) (pOrd c i 3) (pNi c)
    have a3 := len_tst (pOrd c i 4) (pOrd c i 5) (pNi c)
    unfold kOrd lOrd
    refine ⟨kl_app h1 (kl_app (kl_hd _ _) (kl_app (kl_sum _ _ _) (kl_app (kl_tst _ _ _) rfl))), ?_⟩
    simp only [List.length_append, List.length_cons, List.length_nil]
    omega
/-! bytes -/
def by2 (T : List Nat) : Bool := T.all (fun b => Nat.ble b 255)
theorem by2_app {a b : List Nat} (h1 : by2 a = true) (h2 : by2 b = true) : by2 (a ++ b) = true := by
  unfold by2 at *
  rw [List.all_append, h1, h2]; rfl
theorem by2_d {x : Nat} (hx : x < 1000) : by2 (dT x) = true := by
  unfold dT by2
  have ok : ∀ d, d < 10 → Nat.ble (48 + d) 255 = true := fun d hd => Nat.ble_eq_true_of_le (by omega)
  split
  · next h => rw [List.all_cons, ok x h]; rfl
  · split
    · rw [List.all_cons, List.all_cons, ok _ (by omega), ok _ (by omega)]; rfl
    · rw [List.all_cons, List.all_cons, List.all_cons, ok _ (by omega), ok _ (by omega), ok _ (by omega)]; rfl
theorem by2_oct : ∀ o, o ≤ 3 → by2 (tOct c o) = true
  | 0, _ => by
    unfold tOct tPap
    obtain ⟨a, b, -⟩ := pCR_b c
    split
    · exact by2_app (by2_app (by2_app (by2_app (by2_app rfl rfl) (by2_d (by omega))) rfl) (by2_d (by omega))) rfl
    · rfl
  | o + 1, ho => by
    obtain ⟨b0, b1, b2, b3⟩ := pOct_b c o
    have h := by2_oct o (by omega)
    unfold tOct
    exact by2_app (by2_app (by2_app (by2_app (by2_app (by2_app (by2_app (by2_app (by2_app (by2_app (by2_app h rfl) (by2_d (by omega))) rfl) (by2_d (by omega))) rfl) (by2_d (by omega))) rfl) (by2_d (by omega))) rfl) (by2_d (by omega))) rfl
theorem by2_cmb : ∀ i, i ≤ 3 → by2 (tCmb c i) = true
  | 0, _ => by2_oct c (pNo c) (pNo_b c).2
  | i + 1, hi => by
    obtain ⟨b0, b1, b2⟩ := pCmb_b c i
    have h := by2_cmb i (by omega)
    unfold tCmb
    refine by2_app (by2_app (by2_app (by2_app (by2_app (by2_app (by2_app (by2_app h rfl) (by2_d (by omega))) ?_) rfl) (by2_d (by omega))) rfl) (by2_d (by omega))) rfl
    split <;> rfl
theorem by2_lev : ∀ k, k ≤ 4 → by2 (tLev c k) = true
  | 0, _ => by2_cmb c (pNc c) (pNc_b c)
  | k + 1, hk => by
    have b := pLev_b c k
    have h := by2_lev k (by omega)
    unfold tLev
    exact by2_app (by2_app (by2_app (by2_app (by2_app h rfl) (by2_d (by omega))) rfl) (by2_d (by omega))) rfl
theorem by2_sum {k a n : Nat} (ha : a < 17) (hn : n ≤ 4) : by2 (sumT k a n) = true := by
  unfold sumT
  split
  · exact by2_app (by2_app rfl rfl) (by2_d (by omega))
  · exact by2_app (by2_app (by2_app rfl rfl) (by2_d (by omega))) rfl
  · exact by2_app (by2_app (by2_app (by2_app rfl rfl) (by2_d (by omega))) rfl) (by2_d (by omega))
  · exact by2_app (by2_app (by2_app rfl rfl) (by2_d (by omega))) rfl
  · exact by2_app (by2_app (by2_app rfl rfl) (by2_d (by omega))) rfl
theorem by2_tst {k a n : Nat} (ha : a < 3) (hn : n ≤ 4) : by2 (testT k a n) = true := by
  unfold testT
  split
  · rfl
  · exact by2_app (by2_app rfl rfl) (by2_d (by omega))
  · exact by2_app (by2_app rfl rfl) (by2_d (by omega))
  · exact by2_app (by2_app (by2_app (by2_app (by2_app rfl rfl) (by2_app (by2_app rfl rfl) (by2_d (by omega)))) rfl) (by2_d (by omega))) rfl
  · exact by2_app (by2_app (by2_app rfl rfl) (by2_app (by2_app rfl rfl) (by2_d (by omega)))) rfl
theorem by2_ord : ∀ i, i ≤ pNd c → by2 (tOrd c i) = true
  | 0, _ => by2_lev c (pNi c) (pNi_b c).2
  | i + 1, hi => by
    obtain ⟨⟨w0, w1, w3⟩, w4, w5, w6, w7, -⟩ := pW_ok c i (by omega)
    have hno := pNo_b c
    have hnc := pNc_b c
    have hni := pNi_b c
    have h := by2_ord i (by omega)
    unfold tOrd
    refine by2_app (by2_app (by2_app (by2_app h ?_) (by2_sum w5 hni.2)) (by2_tst w7 hni.2)) rfl
    unfold tHead
    split
    · next z => exact by2_app (by2_app (by2_app rfl rfl) (by2_d (by have := w1 z; omega))) rfl
    · split
      · next z => exact by2_app (by2_app (by2_app rfl rfl) (by2_d (by have := w3 z; omega))) rfl
      · split <;> rfl
theorem tAll_by : ∀ b ∈ tAll c, b ≤ 255 := fun b hb => Nat.le_of_ble_eq_true (List.all_eq_true.mp (by2_ord c (pNd c) (Nat.le_refl _)) b hb)
end F9
/-- the class as taught -/
def kT (c : Nat → Int32) (I : am_I) (G : am_G) : Prop := ∃ p : sP, w_ok p (pOrd c) ∧ (p 0 0 = pCols c ∧ p 0 1 = pRows c ∧ p 0 2 = pNo c ∧ p 0 3 = pNc c ∧ p 0 4 = pNi c ∧ p 0 5 = pNd c) ∧
  (∀ k, k < pNo c → p 1 k = pOct c k 0 ∧ p 2 k = pOct c k 1 ∧ p 3 k = pOct c k 2 ∧ p 7 k = pOct c k 3) ∧ (∀ k, k < pNc c → p 4 k = pCmb c k 0 ∧ p 5 k = pCmb c k 1 ∧ p 8 k = pCmb c k 2) ∧ (∀ k, k < pNi c → p 6 k = pLev c k) ∧ kJ p (tST p) (oq p (pOrd c)) 0 0 0 I G
theorem kJ.cgG {p t : sP} {od : sO} {dp ca : Int32} {ln : Nat} {I : am_I} {G H : am_G} (h : kJ p t od dp ca ln I G) (hG : H 3 = G 3) : kJ p t od dp ca ln I H := by
  obtain ⟨a1, a2, a3, a4, a6, a7⟩ := h
  exact ⟨a1, a2, a3, a4, a6, fun k hk => by rw [hG]; exact a7 k hk⟩
theorem cO.od {I : am_I} {p : sP} {od od' : sO} (h : cO I p od) (he : ∀ k, k < p 0 5 → od' k = od k) : cO I p od' := ⟨h.1, fun k hk => by rw [he k hk]; exact h.2 k hk⟩
/-- teach, out of the tape that holds the text -/
theorem k_teachT (c : Nat → Int32) {I : am_I} {G : am_G} (h5 : I 1 5 = Int32.ofNat (tAll c).length) (h2 : ∀ j, j < (tAll c).length → I 2 j = Int32.ofNat (bt (tAll c) j)) (h3 : ∀ k, k < 24 → G 3 k = kwL.getD k 0) : ∃ I' G', R_X11_teach_0 I G = some (0, I', G') ∧ kT c I' G' := by
  have hlen := tAll_len c
  have hby := tAll_by c
  obtain ⟨B, hB⟩ : ∃ B : Nat → Nat, B = fun i => if i < (tAll c).length then (tAll c).getD i 0 else 256 := ⟨_, rfl⟩
  have hT : tpT B (tAll c).length (tAll c) := ⟨rfl, fun i => by rw [hB]⟩
  have b255 : ∀ i, i < (tAll c).length → B i ≤ 255 := fun i hi => by
    have := bt_b hby i
    unfold bt at this
    rw [if_pos hi] at this
    rw [hB]
    dsimp only
    rw [if_pos hi]
    omega
  have b256 : ∀ i, (tAll c).length ≤ i → B i = 256 := fun i hi => by rw [hB]; exact if_neg (by omega)
  have hC : tpC B (tAll c).length I := ⟨h5, by omega, fun i hi => ⟨by
    rw [h2 i hi, hB]
    unfold bt
    dsimp only
    rw [if_pos hi, if_pos hi], b255 i hi⟩, b256⟩
  have hR0 : tpR B (tAll c).length (fun _ _ => 0) := ⟨by omega, b255, b256⟩
  have hR : tpR B (tAll c).length I := ⟨by omega, b255, b256⟩
  obtain ⟨T, out, I1, G1, r1, ⟨t1, t2, t3⟩, ⟨fr, fr1, frG⟩, pl, o1, q1⟩ := cl_read hC hR h3
  have hok := b_ok hR t1 t2 t3
  -- the tokens
  obtain ⟨s, x1, x2⟩ := y_ord c (pNd c) (Nat.le_refl _) []
  rw [List.append_nil] at x1
  obtain ⟨kk1, kk2⟩ := kl_kor c (pNd c)
  have hnd := pNd_b c
  obtain ⟨g1, a', g2, g3, g4⟩ := tks_sg hT hby hR0 (kOrd c (pNd c)) 0 0 (tAll c) s (by omega) (Nat.zero_le _) rfl rfl x1
  rw [Nat.zero_add] at g4
  have hend : tKK B (tAll c).length (kOrd c (pNd c)).length = 41 := by
    obtain ⟨b1, b2⟩ := hT.spx g2
    obtain ⟨e1, -, -, -⟩ := hT.tkx hby b1
    unfold tKK
    rw [g4, (tK_i (by omega)).1, e1, b2, g3, x2]
    rfl
  have hT0 : (kOrd c (pNd c)).length = T := by
    rcases Nat.lt_trichotomy (kOrd c (pNd c)).length T with z | z | z
    · have := t2 _ z; omega
    · exact z
    · have := sg_kl g1 kk1 T z
      rw [Nat.zero_add] at this
      omega
  obtain ⟨acc, s1, yy⟩ := g_all (c := c) g1 hT0 (by rw [← hT0]; exact hend)
  rw [s1] at q1
  obtain ⟨hqT, hS⟩ := q1
  have hoo := o_acc (C := bC B (tAll c).length) hok (Y0 := (X0D, od0)) (T + 1) 0 [] T acc (by omega) (fun _ => ⟨⟨⟨rfl, Nat.zero_le _⟩, ⟨rfl, Nat.zero_le _⟩, ⟨rfl, Nat.zero_le _⟩, Nat.zero_le _⟩, fun k hk => absurd hk (Nat.not_lt_zero k)⟩) s1
  generalize sXs (tKK B (tAll c).length) (bV B (tAll c).length) (bC B (tAll c).length) acc (X0D, od0) = Y at yy hS hoo
  obtain ⟨y1, ⟨y20, y21, y22, y23, y24, y25⟩, y3, y4, y5, -, y7⟩ := yy
  obtain ⟨-, n2⟩ := hoo y1
  have hE := hS.1.2
  rw [y1] at hE
  obtain ⟨d1, d2⟩ := hE
  obtain ⟨xk, xP, xO⟩ := hS.2.2.2 y1
  have ho : out = 0 := o1.trans d1
  rw [ho] at r1
  obtain ⟨I4, e4, o4, a4, f4, h06, h15⟩ := c_tch1 r1 xP xO xk.1
  have hP := pad_ok xk.1
  have hno := pNo_b c
  have hnc := pNc_b c
  have hni := pNi_b c
  obtain ⟨q0, q1', qS⟩ := pCR_b c
  have hod : ∀ k, k < pNd c → oq (pad Y.1.1.1) (pOrd c) k = Y.2 k := fun k hk => by
    rw [y7 k hk]
    unfold oq
    rw [pad_0, y24]
  refine ⟨I4, G1, e4, pad Y.1.1.1, ⟨hP, by show pad Y.1.1.1 0 0 * pad Y.1.1.1 0 1 ≤ 200; rw [pad_0, pad_0, y20, y21]; exact qS, by rw [pad_0, y22]; exact hno, by rw [pad_0, y23]; exact hnc, by rw [pad_0, y24]; exact hni, by rw [pad_0, y25]; exact hnd, fun k hk => ?_⟩, ⟨by rw [pad_0, y20], by rw [pad_0, y21], by rw [pad_0, y22], by rw [pad_0, y23], by rw [pad_0, y24], by rw [pad_0, y25]⟩, fun k hk => ?_, fun k hk => ?_, fun k hk => ?_, ⟨⟨hP, tST_ok hP, by rw [pad_0, y25]; omega, fun k hk => ?_⟩, o4.od (fun k hk => hod k (by rw [pad_0, y25] at hk; exact hk)), a4, ⟨h15, by omega⟩, fun k hk => absurd hk (Nat.not_lt_zero k), fun k hk => by rw [frG]; exact h3 k hk⟩⟩
  · rw [pad_0, y25] at hk
    obtain ⟨⟨w0, w1, w3⟩, w4, w5, w6, w7, -⟩ := pW_ok c k hk
    rw [pad_0, pad_0, y22, y23]
    exact ⟨w0, w1, w3, w4, w5, w6, w7⟩
  · rw [pad_1, pad_2, pad_3, pad_7, y22, if_pos hk, if_pos hk, if_pos hk, if_pos hk]
    exact y3 k hk
  · rw [pad_4, pad_5, pad_8, y23, if_pos hk, if_pos hk, if_pos hk]
    exact y4 k hk
  · rw [pad_6, y24, if_pos hk]
    exact y5 k hk
  · rw [pad_0, y25] at hk
    rw [hod k hk]
    exact n2 k (by rw [y25]; exact hk) _ ⟨Nat.le_refl _, Nat.le_refl _, Nat.le_refl _⟩
theorem zI5 : zI_X11_init_0 iI0 1 5 = 0 := rfl
theorem zG3 (G : am_G) (k : Nat) : zG_X11_init_0 G 3 k = G 3 k := rfl
theorem lw_math_ok (N : Nat) (xs : Nat → Int32) : lw_math N xs (kT (lC N xs)) := by
  refine ⟨?_, ?_, ?_⟩
  · rintro I I' G G' hI hG ⟨p, a1, a2, a3, a4, a5, a6⟩
    exact ⟨p, a1, a2, a3, a4, a5, (a6.cg hI).cgG (hG 3 (by omega))⟩
  · obtain ⟨G9, e9, g9⟩ := kw_loop (bs := kwB) rfl kwB_l kwB.length 0 FU 0 iI0 iG0 0 (by omega) (by have := kwB_l; have : FU = 1000000 := rfl; omega) (by omega)
    refine ⟨iI0, G9, by rw [z_a0, zG_a0]; exact e9, fun I G hI hG => ?_⟩
    generalize lC N xs = c
    have hlen := tAll_len c
    have hby := tAll_by c
    have h5 : I 1 5 = Int32.ofNat 0 := by rw [hI 1 (by omega)]; exact zI5
    have h3 : ∀ k, k < 24 → G 3 k = kwL.getD k 0 := fun k hk => by
      rw [hG 3 (by omega), zG3, g9 k]
      exact kwB_L k hk
    have e1 := c_trim (G := G) (n := 0) h5 (by omega) (Nat.le_refl _)
    have g1 : gl 79 (am_up I 1 5 (Int32.ofNat 0)) I 1 5 = Int32.ofNat (20 * 0) := by
      rw [gl_lt _ _ (by omega), am_up_self]
    obtain ⟨I2, e2, b2, b3⟩ := lt_go_ok hby (G := G) (((tAll c).length + 19) / 20) 0 (gl 79 (am_up I 1 5 (Int32.ofNat 0)) I) (fun _ => 0) (by omega) g1 (fun j hj => absurd hj (by omega))
    have e3 := c_trim (G := G) (n := (tAll c).length) b2 (by omega) (by omega)
    have f5 : gl 79 (am_up I2 1 5 (Int32.ofNat (tAll c).length)) I2 1 5 = Int32.ofNat (tAll c).length := by
      rw [gl_lt _ _ (by omega), am_up_self]
    have f2 : ∀ j, j < (tAll c).length → gl 79 (am_up I2 1 5 (Int32.ofNat (tAll c).length)) I2 2 j = Int32.ofNat (bt (tAll c) j) := fun j hj => by
      rw [gl_lt _ _ (by omega), up_row _ _ _ (by omega)]
      exact b3 j (by omega)
    obtain ⟨I4, G4, e4, p, a1, a2, a3, a4, a5, a6⟩ := k_teachT c (G := G) f5 f2 h3
    refine ⟨gl 79 I4 (gl 79 (am_up I2 1 5 (Int32.ofNat (tAll c).length)) I2), gl 79 G4 G, ?_, p, a1, a2, a3, a4, a5, (a6.cg (fun b hb => gl_lt _ _ hb)).cgG (gl_lt _ _ (by omega))⟩
    unfold R_L_taught
    rw [show R_X11_trim_0 I G 0 = _ from e1, clX_go, Option.bind_some, glS]
    dsimp only
    rw [e2, Option.bind_some]
    dsimp only
    rw [e3, clX_go, Option.bind_some, glS]
    dsimp only
    rw [e4, clR_go]
  · rintro I G ⟨p, a1, ⟨a20, a21, a22, a23, a24, a25⟩, a3, a4, a5, a6⟩ hL
    obtain ⟨⟨l0, l1, l6, l7, l8, l9⟩, lv, lo, lc, ld⟩ := hL
    have hS : iS p (tST p) 0 0 I := by
      refine ⟨⟨by rw [a20]; exact l0, by rw [a21]; exact l1, l6, l7, l8, l9⟩, fun j hj => ?_, fun j hj => ?_, fun j hj => ?_⟩
      · rw [a22] at hj
        obtain ⟨z1, z2, z3, z4⟩ := a3 j hj
        have z5 : tST p 1 j = pOct (lC N xs) j 3 := z4
        rw [z1, z2, z3, z5]
        exact ⟨lo j hj 0 (by omega), lo j hj 1 (by omega), lo j hj 2 (by omega), lo j hj 3 (by omega)⟩
      · rw [a23] at hj
        obtain ⟨z1, z2, z3⟩ := a4 j hj
        have z5 : tST p 2 j = pCmb (lC N xs) j 2 := z3
        rw [a22, z1, z2, z5]
        exact ⟨lc j hj 0 (by omega), lc j hj 1 (by omega), lc j hj 2 (by omega)⟩
      · rw [a24] at hj
        rw [a5 j hj]
        exact lv j hj
    have hO : iO p (pOrd (lC N xs)) I := fun k hk j hj => by
      rw [a25] at hk
      rw [a22, a23]
      exact ld k hk j hj
    have := i_law (N := 84 + pNo (lC N xs) + pNc (lC N xs) + pNd (lC N xs)) (xN := N) (xs := xs) a1 (by rw [a22, a23]; omega) (t := tST p) ⟨a6, hS, hO⟩
    rw [a22, a23, a24, a25] at this
    exact this
