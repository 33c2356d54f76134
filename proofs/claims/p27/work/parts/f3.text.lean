/-! the tokens of sums, tests, orders, of the whole text -/
theorem t_i {j c : Nat} (hj : j < 4) (hc : qW c = false) (Z : List Nat) : tks [(39, nmc 105 j)] (105 :: (dT j ++ c :: Z)) (c :: Z) := by
  rcases (by omega : j = 0 ∨ j = 1 ∨ j = 2 ∨ j = 3) with rfl | rfl | rfl | rfl
  · exact tks_word (w := [105, 48]) (by decide +kernel) hc
  · exact tks_word (w := [105, 49]) (by decide +kernel) hc
  · exact tks_word (w := [105, 50]) (by decide +kernel) hc
  · exact tks_word (w := [105, 51]) (by decide +kernel) hc
theorem t_sum {k a n c : Nat} (hk : k < 5) (ha : a < 17) (hn : 1 ≤ n ∧ n ≤ 4) (hc : qW c = false) (hd : qD c = false) (Z : List Nat) : tks (lSum k a n) (32 :: (sumT k a n ++ c :: Z)) (c :: Z) := by
  rcases (by omega : k = 0 ∨ k = 1 ∨ k = 2 ∨ k = 3 ∨ k = 4) with rfl | rfl | rfl | rfl | rfl
  · refine tks_32 (by intro z; cases z) ?_
    simp only [sumT, List.append_assoc, List.nil_append]
    have h := (tks_num (n := a) (Y := Z) (by omega) hd)
    exact h
  · refine tks_32 (by intro z; cases z) ?_
    simp only [sumT, List.append_assoc, List.nil_append]
    have h := tks_app (l1 := [(15, 0)]) (tks_word (w := [100, 105, 112]) (c := 42) (by decide +kernel) (by decide)) (tks_app (l1 := [(32, 0)]) (tks_sym (b := 42) (by decide +kernel)) (tks_app (l1 := [(40, a)]) (tks_num (n := a) (c := 45) (by omega) (by decide)) (tks_app (l1 := [(31, 0)]) (tks_sym (b := 45) (by decide +kernel)) ((tks_num (n := 3) (Y := Z) (by decide) hd)))))
    exact h
  · refine tks_32 (by intro z; cases z) ?_
    simp only [sumT, List.append_assoc, List.nil_append]
    have h := tks_app (l1 := [(16, 0), (39, nmc 105 (n - 1))]) (t_w52 (o := n - 1) (c := 47) (by omega) (by decide) _) (tks_app (l1 := [(33, 0)]) (tks_sym (b := 47) (by decide +kernel)) ((tks_num (n := a + 1) (Y := Z) (by omega) hd)))
    exact h
  · refine tks_32 (by intro z; cases z) ?_
    simp only [sumT, List.append_assoc, List.nil_append]
    have h := tks_app (l1 := [(6, 0)]) (tks_word (w := [115, 101, 101, 100]) (c := 32) (by decide +kernel) (by decide)) (tks_app (l1 := [(39, nmc 111 0)]) (tks_sw (w := [111, 48]) (c := 43) (by decide +kernel) (by decide)) (tks_app (l1 := [(30, 0)]) (tks_sym (b := 43) (by decide +kernel)) (tks_app (l1 := [(40, a)]) (tks_num (n := a) (c := 45) (by omega) (by decide)) (tks_app (l1 := [(31, 0)]) (tks_sym (b := 45) (by decide +kernel)) ((tks_num (n := 8) (Y := Z) (by decide) hd))))))
    exact h
  · refine tks_32 (by intro z; cases z) ?_
    simp only [sumT, List.append_assoc, List.nil_append]
    have h := tks_app (l1 := [(17, 0)]) (tks_word (w := [104, 101, 105, 103, 104, 116]) (c := 40) (by decide +kernel) (by decide)) (tks_app (l1 := [(24, 0)]) (tks_sym (b := 40) (by decide +kernel)) (tks_app (l1 := [(40, a)]) (tks_num (n := a) (c := 44) (by omega) (by decide)) (tks_app (l1 := [(29, 0)]) (tks_sym (b := 44) (by decide +kernel)) (tks_app (l1 := [(15, 0)]) (tks_word (w := [100, 105, 112]) (c := 41) (by decide +kernel) (by decide)) (tks_app (l1 := [(25, 0)]) (tks_sym (b := 41) (by decide +kernel)) (tks_app (l1 := [(33, 0)]) (tks_sym (b := 47) (by decide +kernel)) ((tks_num (n := 50) (Y := Z) (by decide) hd))))))))
    exact h
theorem t_test {k a n : Nat} (hk : k < 5) (ha : a < 3) (hn : 1 ≤ n ∧ n ≤ 4) (Z : List Nat) : tks (lTst k a n) (testT k a n ++ 59 :: Z) (59 :: Z) := by
  rcases (by omega : k = 0 ∨ k = 1 ∨ k = 2 ∨ k = 3 ∨ k = 4) with rfl | rfl | rfl | rfl | rfl
  · exact rfl
  · simp only [testT, List.append_assoc, List.nil_append]
    have h := tks_app (l1 := [(14, 0)]) (tks_sw (w := [119, 104, 101, 110]) (c := 32) (by decide +kernel) (by decide)) (tks_app (l1 := [(15, 0)]) (tks_sw (w := [100, 105, 112]) (c := 45) (by decide +kernel) (by decide)) (tks_app (l1 := [(31, 0)]) (tks_sym (b := 45) (by decide +kernel)) (tks_app (l1 := [(15, 0)]) (tks_word (w := [100, 105, 112]) (c := 47) (by decide +kernel) (by decide)) (tks_app (l1 := [(33, 0)]) (tks_sym (b := 47) (by decide +kernel)) (tks_app (l1 := [(40, 3)]) (tks_num (n := 3) (c := 42) (by decide) (by decide)) (tks_app (l1 := [(32, 0)]) (tks_sym (b := 42) (by decide +kernel)) (tks_app (l1 := [(40, 3)]) (tks_num (n := 3) (c := 61) (by decide) (by decide)) (tks_app (l1 := [(36, 0)]) (tks_sym (b := 61) (by decide +kernel)) ((tks_num (n := a) (c := 59) (Y := Z) (by omega) (by decide)))))))))))
    exact h
  · simp only [testT, List.append_assoc, List.nil_append]
    have h := tks_app (l1 := [(14, 0)]) (tks_sw (w := [119, 104, 101, 110]) (c := 32) (by decide +kernel) (by decide)) (tks_app (l1 := [(17, 0)]) (tks_sw (w := [104, 101, 105, 103, 104, 116]) (c := 40) (by decide +kernel) (by decide)) (tks_app (l1 := [(24, 0)]) (tks_sym (b := 40) (by decide +kernel)) (tks_app (l1 := [(40, 0)]) (tks_num (n := 0) (c := 44) (by decide) (by decide)) (tks_app (l1 := [(29, 0)]) (tks_sym (b := 44) (by decide +kernel)) (tks_app (l1 := [(40, 0)]) (tks_num (n := 0) (c := 41) (by decide) (by decide)) (tks_app (l1 := [(25, 0)]) (tks_sym (b := 41) (by decide +kernel)) (tks_app (l1 := [(38, 0)]) (tks_ge _) ((tks_num (n := 440 + 40 * a) (c := 59) (Y := Z) (by omega) (by decide))))))))))
    exact h
  · simp only [testT, List.append_assoc, List.nil_append]
    have h := tks_app (l1 := [(14, 0)]) (tks_sw (w := [119, 104, 101, 110]) (c := 32) (by decide +kernel) (by decide)) (tks_app (l1 := [(16, 0)]) (tks_sw (w := [115, 104, 97, 114, 101]) (c := 32) (by decide +kernel) (by decide)) (tks_app (l1 := [(39, nmc 105 (n - 1))]) (tks_32 (by intro z; cases z) (t_i (j := n - 1) (c := 60) (by omega) (by decide) _)) (tks_app (l1 := [(37, 0)]) (tks_le _) (tks_app (l1 := [(40, 30 * (a + 1))]) (tks_num (n := 30 * (a + 1)) (c := 32) (by omega) (by decide)) (tks_app (l1 := [(21, 0)]) (tks_sw (w := [111, 114]) (c := 32) (by decide +kernel) (by decide)) (tks_app (l1 := [(15, 0)]) (tks_sw (w := [100, 105, 112]) (c := 61) (by decide +kernel) (by decide)) (tks_app (l1 := [(36, 0)]) (tks_sym (b := 61) (by decide +kernel)) ((tks_num (n := 2) (c := 59) (Y := Z) (by decide) (by decide))))))))))
    exact h
  · simp only [testT, List.append_assoc, List.nil_append]
    have h := tks_app (l1 := [(14, 0)]) (tks_sw (w := [119, 104, 101, 110]) (c := 32) (by decide +kernel) (by decide)) (tks_app (l1 := [(19, 0)]) (tks_sw (w := [110, 111, 116]) (c := 32) (by decide +kernel) (by decide)) (tks_app (l1 := [(18, 0)]) (tks_sw (w := [101, 100, 103, 101]) (c := 32) (by decide +kernel) (by decide)) (tks_app (l1 := [(39, nmc 105 (n - 1))]) (tks_32 (by intro z; cases z) (t_i (j := n - 1) (c := 32) (by omega) (by decide) _)) (tks_app (l1 := [(20, 0)]) (tks_sw (w := [97, 110, 100]) (c := 32) (by decide +kernel) (by decide)) (tks_app (l1 := [(6, 0)]) (tks_sw (w := [115, 101, 101, 100]) (c := 32) (by decide +kernel) (by decide)) (tks_app (l1 := [(39, nmc 111 0)]) (tks_sw (w := [111, 48]) (c := 60) (by decide +kernel) (by decide)) (tks_app (l1 := [(34, 0)]) (tks_lt9 _) ((tks_num (n := 900) (c := 59) (Y := Z) (by decide) (by decide))))))))))
    exact h
theorem y_head {c : Nat → Int32} {i : Nat} (h0 : pKd c i = 0 → pOrd c i 1 < 3) (h3 : pKd c i = 3 → pOrd c i 1 < 3) (Z : List Nat) : tks (lHd (pKd c i) (pOrd c i 1)) (tHead c i ++ Z) (32 :: Z) := by
  unfold lHd tHead
  by_cases c0 : pKd c i = 0
  · rw [if_pos c0, if_pos c0]
    simp only [List.append_assoc, List.nil_append]
    have h := tks_app (l1 := [(9, 0), (39, nmc 99 (pOrd c i 1))]) (t_w147 (c := 32) (h0 c0) (by decide) _) (t_w149 Z)
    exact h
  · rw [if_neg c0, if_neg c0]
    by_cases c3 : pKd c i = 3
    · rw [if_pos c3, if_pos c3]
      simp only [List.append_assoc, List.nil_append]
      have h := tks_app (l1 := [(6, 0), (39, nmc 111 (pOrd c i 1))]) (t_w151 (c := 32) (h3 c3) (by decide) _) (t_w149 Z)
      exact h
    · rw [if_neg c3, if_neg c3]
      by_cases c1 : pKd c i = 1
      · rw [if_pos c1, if_pos c1]; exact t_w153 Z
      · rw [if_neg c1, if_neg c1]; exact t_w155 Z
theorem tst_sep {k a n : Nat} (hk : k < 5) (Z : List Nat) : ∃ c Z2, (c = 32 ∨ c = 59) ∧ testT k a n ++ 59 :: Z = c :: Z2 := by
  rcases (by omega : k = 0 ∨ k = 1 ∨ k = 2 ∨ k = 3 ∨ k = 4) with rfl | rfl | rfl | rfl | rfl
  · exact ⟨59, Z, Or.inr rfl, rfl⟩
  · exact ⟨32, _, Or.inl rfl, rfl⟩
  · exact ⟨32, _, Or.inl rfl, rfl⟩
  · exact ⟨32, _, Or.inl rfl, rfl⟩
  · exact ⟨32, _, Or.inl rfl, rfl⟩
/-- what is known of the numbers told -/
def pW (c : Nat → Int32) : Prop := ∀ i, i < pNd c → (pKd c i < 4 ∧ (pKd c i = 0 → pOrd c i 1 < pNc c) ∧ (pKd c i = 3 → pOrd c i 1 < pNo c)) ∧ pOrd c i 2 < 5 ∧ pOrd c i 3 < 17 ∧ pOrd c i 4 < 5 ∧ pOrd c i 5 < 3 ∧ ((pKd c i = 0 ∨ pKd c i = 3) → ¬ pOrd c i 4 = 0)
theorem pW_ok (c : Nat → Int32) : pW c := by
  intro i hi
  have hk4 : lbel (pDx c i) 4 < 4 := lbel_lt _ (by omega)
  have h2 : pOrd c i 2 < 5 := lbel_lt _ (by omega)
  have h3 : pOrd c i 3 < 17 := lbel_lt _ (by omega)
  have h5 : pOrd c i 5 < 3 := lbel_lt _ (by omega)
  have hl4 : lbel (pDx c i >>> ((7 : Int32) &&& 31)) 5 < 5 := lbel_lt _ (by omega)
  have h4 : pOrd c i 4 = if lbel (pDx c i >>> ((7 : Int32) &&& 31)) 5 = 0 ∧ (pKd c i = 0 ∨ pKd c i = 3) then 1 else lbel (pDx c i >>> ((7 : Int32) &&& 31)) 5 := rfl
  have h1 : pOrd c i 1 = if pKd c i = 0 then lbel (pDx c i >>> ((3 : Int32) &&& 31)) (pNc c) else if pKd c i = 3 then lbel (pDx c i >>> ((3 : Int32) &&& 31)) (pNo c) else 0 := rfl
  have hkd : pKd c i = if lbel (pDx c i) 4 = 0 ∧ pNc c = 0 then 1 else lbel (pDx c i) 4 := rfl
  refine ⟨⟨?_, fun z => ?_, fun z => ?_⟩, h2, h3, ?_, h5, fun z => ?_⟩
  · rw [hkd]; split <;> omega
  · rw [h1, if_pos z]
    refine lbel_lt _ ?_
    rw [hkd] at z
    by_cases w : lbel (pDx c i) 4 = 0 ∧ pNc c = 0
    · rw [if_pos w] at z; omega
    · rw [if_neg w] at z
      exact Nat.pos_of_ne_zero (fun y => w ⟨z, y⟩)
  · rw [h1, if_neg (by omega), if_pos z]
    exact lbel_lt _ (by unfold pNo; omega)
  · rw [h4]; split <;> omega
  · rw [h4]
    by_cases w : lbel (pDx c i >>> ((7 : Int32) &&& 31)) 5 = 0 ∧ (pKd c i = 0 ∨ pKd c i = 3)
    · rw [if_pos w]; omega
    · rw [if_neg w]; exact fun y => w ⟨y, z⟩
/-- the tokens of an order -/
def lOrd (c : Nat → Int32) (i : Nat) : List (Nat × Nat) := lHd (pKd c i) (pOrd c i 1) ++ (lSum (pOrd c i 2) (pOrd c i 3) (pNi c) ++ (lTst (pOrd c i 4) (pOrd c i 5) (pNi c) ++ [(28, 0)]))
def kPap (c : Nat → Int32) : List (Nat × Nat) := if 0 < lbel (c 0) 4 then lPap (pCols c) (pRows c) else []
def kOct (c : Nat → Int32) : Nat → List (Nat × Nat)
  | 0 => kPap c
  | o + 1 => kOct c o ++ lOct o (pOct c o 0) (pOct c o 1) (pOct c o 2) (pOct c o 3)
def kCmb (c : Nat → Int32) : Nat → List (Nat × Nat)
  | 0 => kOct c (pNo c)
  | i + 1 => kCmb c i ++ lCmb i (pCmb c i 0) (pCmb c i 1) (pCmb c i 2)
def kLev (c : Nat → Int32) : Nat → List (Nat × Nat)
  | 0 => kCmb c (pNc c)
  | k + 1 => kLev c k ++ lLev k (pLev c k)
def kOrd (c : Nat → Int32) : Nat → List (Nat × Nat)
  | 0 => kLev c (pNi c)
  | i + 1 => kOrd c i ++ lOrd c i
section F3
variable (c : Nat → Int32)
theorem pNo_b : 1 ≤ pNo c ∧ pNo c ≤ 3 := by
  have := lbel_lt (c 1) (show 0 < 3 by omega)
  unfold pNo; omega
theorem pNc_b : pNc c ≤ 3 := by
  have := lbel_lt (c 2) (show 0 < 4 by omega)
  unfold pNc; omega
theorem pNi_b : 1 ≤ pNi c ∧ pNi c ≤ 4 := by
  have := lbel_lt (c 3) (show 0 < 4 by omega)
  unfold pNi; omega
theorem pNd_b : pNd c ≤ 5 := by
  have := lbel_lt (c 4) (show 0 < 6 by omega)
  unfold pNd; omega
theorem pCR_b : (4 ≤ pCols c ∧ pCols c ≤ 16) ∧ (4 ≤ pRows c ∧ pRows c ≤ 12) ∧ pCols c * pRows c ≤ 200 := by
  have h1 := lbel_lt (c 0 >>> ((2 : Int32) &&& 31)) (show 0 < 11 by omega)
  have h2 := lbel_lt (c 0 >>> ((6 : Int32) &&& 31)) (show 0 < 9 by omega)
  unfold pCols pRows
  by_cases h : 0 < lbel (c 0) 4
  · rw [if_pos h, if_pos h]
    refine ⟨by omega, by omega, ?_⟩
    have := Nat.mul_le_mul (show 4 + lbel (c 0 >>> ((2 : Int32) &&& 31)) 11 ≤ 14 by omega) (show 4 + lbel (c 0 >>> ((6 : Int32) &&& 31)) 9 ≤ 12 by omega)
    omega
  · rw [if_neg h, if_neg h]
    omega
theorem pOct_b (o : Nat) : (1 ≤ pOct c o 0 ∧ pOct c o 0 ≤ 8) ∧ (1 ≤ pOct c o 1 ∧ pOct c o 1 ≤ 8) ∧ (1 ≤ pOct c o 2 ∧ pOct c o 2 ≤ 9) ∧ pOct c o 3 ≤ 999 := by
  have h0 := lbel_lt (pOx c o >>> ((2 : Int32) &&& 31)) (show 0 < 8 by omega)
  have h1 := lbel_lt (pOx c o >>> ((5 : Int32) &&& 31)) (show 0 < 8 by omega)
  have h2 := lbel_lt (pOx c o >>> ((3 : Int32) &&& 31)) (show 0 < 9 by omega)
  have h3 := lbel_lt (pOx c o >>> ((4 : Int32) &&& 31)) (show 0 < 1000 by omega)
  show (1 ≤ 1 + lbel (pOx c o >>> ((2 : Int32) &&& 31)) 8 ∧ 1 + lbel (pOx c o >>> ((2 : Int32) &&& 31)) 8 ≤ 8) ∧ (1 ≤ 1 + lbel (pOx c o >>> ((5 : Int32) &&& 31)) 8 ∧ 1 + lbel (pOx c o >>> ((5 : Int32) &&& 31)) 8 ≤ 8) ∧ (1 ≤ 1 + lbel (pOx c o >>> ((3 : Int32) &&& 31)) 9 ∧ 1 + lbel (pOx c o >>> ((3 : Int32) &&& 31)) 9 ≤ 9) ∧ lbel (pOx c o >>> ((4 : Int32) &&& 31)) 1000 ≤ 999
  omega
theorem pCmb_b (i : Nat) : pCmb c i 0 ≤ 1 ∧ (1 ≤ pCmb c i 1 ∧ pCmb c i 1 ≤ 8) ∧ pCmb c i 2 ≤ 16 := by
  have h0 := lbel_lt (pCx c i) (show 0 < 2 by omega)
  have h1 := lbel_lt (pCx c i >>> ((2 : Int32) &&& 31)) (show 0 < 8 by omega)
  have h2 := lbel_lt (pCx c i >>> ((5 : Int32) &&& 31)) (show 0 < 17 by omega)
  show lbel (pCx c i) 2 ≤ 1 ∧ (1 ≤ 1 + lbel (pCx c i >>> ((2 : Int32) &&& 31)) 8 ∧ 1 + lbel (pCx c i >>> ((2 : Int32) &&& 31)) 8 ≤ 8) ∧ lbel (pCx c i >>> ((5 : Int32) &&& 31)) 17 ≤ 16
  omega
theorem pLev_b : ∀ k, 350 + k ≤ pLev c k ∧ pLev c k ≤ 469 + 70 * k
  | 0 => by
    have := lbel_lt (c 3 >>> ((3 : Int32) &&& 31)) (show 0 < 120 by omega)
    show 350 + 0 ≤ 350 + lbel (c 3 >>> ((3 : Int32) &&& 31)) 120 ∧ 350 + lbel (c 3 >>> ((3 : Int32) &&& 31)) 120 ≤ 469 + 70 * 0
    omega
  | k + 1 => by
    have h := pLev_b k
    have := lbel_lt (c 3 >>> (((4 : Int32) + Int32.ofNat k) &&& 31)) (show 0 < 70 by omega)
    show 350 + (k + 1) ≤ pLev c k + (1 + lbel (c 3 >>> (((4 : Int32) + Int32.ofNat k) &&& 31)) 70) ∧ pLev c k + (1 + lbel (c 3 >>> (((4 : Int32) + Int32.ofNat k) &&& 31)) 70) ≤ 469 + 70 * (k + 1)
    omega
theorem y_oct : ∀ o, o ≤ 3 → ∀ X, ∃ s, tks (kOct c o) (tOct c o ++ X) s ∧ tk_s s = tk_s X
  | 0, _, X => by
    unfold kOct tOct kPap tPap
    by_cases h : 0 < lbel (c 0) 4
    · rw [if_pos h, if_pos h]
      obtain ⟨a, b, -⟩ := pCR_b c
      refine ⟨X, ?_, rfl⟩
      simp only [List.append_assoc, List.nil_append]
      exact t_pap (by omega) (by omega) X
    · rw [if_neg h, if_neg h]
      exact ⟨X, rfl, rfl⟩
  | o + 1, ho, X => by
    obtain ⟨b0, b1, b2, b3⟩ := pOct_b c o
    unfold kOct tOct
    simp only [List.append_assoc]
    obtain ⟨s, h1, h2⟩ := y_oct o (by omega) (w_118 ++ (dT o ++ (w_120 ++ (dT (pOct c o 0) ++ (w_122 ++ (dT (pOct c o 1) ++ (w_124 ++ (dT (pOct c o 2) ++ (w_126 ++ (dT (pOct c o 3) ++ (w_128 ++ X)))))))))))
    exact ⟨10 :: X, tks_app h1 (tks_cg (by intro z; cases z) h2.symm (t_oct (by omega) (by omega) (by omega) (by omega) (by omega) X)), rfl⟩
theorem y_cmb : ∀ i, i ≤ 3 → ∀ X, ∃ s, tks (kCmb c i) (tCmb c i ++ X) s ∧ tk_s s = tk_s X
  | 0, _, X => y_oct c (pNo c) (pNo_b c).2 X
  | i + 1, hi, X => by
    obtain ⟨b0, b1, b2⟩ := pCmb_b c i
    unfold kCmb tCmb
    simp only [List.append_assoc]
    obtain ⟨s, h1, h2⟩ := y_cmb i (by omega) (w_130 ++ (dT i ++ ((if pCmb c i 0 = 1 then w_135 else w_137) ++ (w_139 ++ (dT (pCmb c i 1) ++ (w_141 ++ (dT (pCmb c i 2) ++ (w_108 ++ X))))))))
    exact ⟨X, tks_app h1 (tks_cg (by intro z; cases z) h2.symm (t_cmb (by omega) (by omega) (by omega) X)), rfl⟩
theorem y_lev : ∀ k, k ≤ 4 → ∀ X, ∃ s, tks (kLev c k) (tLev c k ++ X) s ∧ tk_s s = tk_s X
  | 0, _, X => y_cmb c (pNc c) (pNc_b c) X
  | k + 1, hk, X => by
    have b := pLev_b c k
    unfold kLev tLev
    simp only [List.append_assoc]
    obtain ⟨s, h1, h2⟩ := y_lev k (by omega) (w_143 ++ (dT k ++ (w_145 ++ (dT (pLev c k) ++ (w_108 ++ X)))))
    exact ⟨X, tks_app h1 (tks_cg (by intro z; cases z) h2.symm (t_lev (by omega) (by omega) X)), rfl⟩
theorem y_ord : ∀ i, i ≤ pNd c → ∀ X, ∃ s, tks (kOrd c i) (tOrd c i ++ X) s ∧ tk_s s = tk_s X
  | 0, _, X => y_lev c (pNi c) (pNi_b c).2 X
  | i + 1, hi, X => by
    obtain ⟨⟨w0, w1, w3⟩, w4, w5, w6, w7, -⟩ := pW_ok c i (by omega)
    have hno := pNo_b c
    have hnc := pNc_b c
    have hni := pNi_b c
    unfold kOrd tOrd
    simp only [List.append_assoc]
    obtain ⟨s, h1, h2⟩ := y_ord i (by omega) (tHead c i ++ (sumT (pOrd c i 2) (pOrd c i 3) (pNi c) ++ (testT (pOrd c i 4) (pOrd c i 5) (pNi c) ++ (w_128 ++ X))))
    obtain ⟨q, Z2, hq, eZ⟩ := tst_sep (a := pOrd c i 5) (n := pNi c) w6 (10 :: X)
    have hS := t_sum (Z := Z2) w4 w5 hni (c := q) (by rcases hq with rfl | rfl <;> decide) (by rcases hq with rfl | rfl <;> decide)
    rw [← eZ] at hS
    have hL := tks_app (y_head (c := c) (i := i) (fun z => by have := w1 z; omega) (fun z => by have := w3 z; omega) (sumT (pOrd c i 2) (pOrd c i 3) (pNi c) ++ (testT (pOrd c i 4) (pOrd c i 5) (pNi c) ++ 59 :: 10 :: X))) (tks_app hS (tks_app (t_test w6 w7 hni (10 :: X)) (t_w128 X)))
    refine ⟨10 :: X, tks_app h1 (tks_cg ?_ h2.symm hL), rfl⟩
    intro z
    unfold lOrd at z
    simp at z
end F3
