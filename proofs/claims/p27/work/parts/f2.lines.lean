/-! the tokens of what list tells -/
theorem tks_cg {l : List (Nat × Nat)} {s t u : List Nat} (hl : ¬ l = []) (h : tk_s s = tk_s t) (hk : tks l s u) : tks l t u := by
  cases l with
  | nil => exact absurd rfl hl
  | cons kv r =>
    obtain ⟨k, v⟩ := kv
    unfold tks at hk ⊢
    rw [← h]
    exact hk
theorem q_dig {d : Nat} (h : d < 10) : qS (48 + d) = false ∧ qL (48 + d) = false ∧ qD (48 + d) = true := by
  rcases (by omega : d = 0 ∨ d = 1 ∨ d = 2 ∨ d = 3 ∨ d = 4 ∨ d = 5 ∨ d = 6 ∨ d = 7 ∨ d = 8 ∨ d = 9) with rfl | rfl | rfl | rfl | rfl | rfl | rfl | rfl | rfl | rfl <;> decide
theorem tks_num {n c : Nat} {Y : List Nat} (hn : n < 1000) (hc : qD c = false) : tks [(40, n)] (dT n ++ c :: Y) (c :: Y) := by
  unfold dT
  by_cases h1 : n < 10
  · obtain ⟨a1, a2, a3⟩ := q_dig h1
    rw [if_pos h1]
    show (tk_k (tk_s ((48 + n) :: c :: Y)) = 40 ∧ (_ → tk_v (tk_s ((48 + n) :: c :: Y)) = n)) ∧ (tk_s ((48 + n) :: c :: Y)).drop (tk_e (tk_s ((48 + n) :: c :: Y))) = c :: Y
    have e0 : tk_s ((48 + n) :: c :: Y) = (48 + n) :: c :: Y := by
      unfold tk_s lw
      rw [if_neg (by rw [a1]; decide)]
      rfl
    have e1 : lw qD ((48 + n) :: c :: Y) = 1 := by
      unfold lw
      rw [if_pos a3]
      unfold lw
      rw [if_neg (by rw [hc]; decide)]
    rw [e0]
    unfold tk_k tk_v tk_e
    simp only [e1, a2, a3, if_true, Bool.false_eq_true, if_false]
    refine ⟨⟨rfl, fun _ => ?_⟩, rfl⟩
    show 0 * 10 + (48 + n - 48) = n
    omega
  · by_cases h2 : n < 100
    · obtain ⟨a1, a2, a3⟩ := q_dig (show n / 10 < 10 by omega)
      obtain ⟨b1, b2, b3⟩ := q_dig (show n % 10 < 10 by omega)
      rw [if_neg h1, if_pos h2]
      show (tk_k (tk_s ((48 + n / 10) :: (48 + n % 10) :: c :: Y)) = 40 ∧ (_ → tk_v (tk_s ((48 + n / 10) :: (48 + n % 10) :: c :: Y)) = n)) ∧ (tk_s ((48 + n / 10) :: (48 + n % 10) :: c :: Y)).drop (tk_e (tk_s ((48 + n / 10) :: (48 + n % 10) :: c :: Y))) = c :: Y
      have e0 : tk_s ((48 + n / 10) :: (48 + n % 10) :: c :: Y) = (48 + n / 10) :: (48 + n % 10) :: c :: Y := by
        unfold tk_s lw
        rw [if_neg (by rw [a1]; decide)]
        rfl
      have e1 : lw qD ((48 + n / 10) :: (48 + n % 10) :: c :: Y) = 2 := by
        unfold lw
        rw [if_pos a3]
        unfold lw
        rw [if_pos b3]
        unfold lw
        rw [if_neg (by rw [hc]; decide)]
      rw [e0]
      unfold tk_k tk_v tk_e
      simp only [e1, a2, a3, if_true, Bool.false_eq_true, if_false]
      refine ⟨⟨rfl, fun _ => ?_⟩, rfl⟩
      show (0 * 10 + (48 + n / 10 - 48)) * 10 + (48 + n % 10 - 48) = n
      omega
    · obtain ⟨a1, a2, a3⟩ := q_dig (show n / 100 < 10 by omega)
      obtain ⟨b1, b2, b3⟩ := q_dig (show n / 10 % 10 < 10 by omega)
      obtain ⟨d1, d2, d3⟩ := q_dig (show n % 10 < 10 by omega)
      rw [if_neg h1, if_neg h2]
      show (tk_k (tk_s ((48 + n / 100) :: (48 + n / 10 % 10) :: (48 + n % 10) :: c :: Y)) = 40 ∧ (_ → tk_v (tk_s ((48 + n / 100) :: (48 + n / 10 % 10) :: (48 + n % 10) :: c :: Y)) = n)) ∧ (tk_s ((48 + n / 100) :: (48 + n / 10 % 10) :: (48 + n % 10) :: c :: Y)).drop (tk_e (tk_s ((48 + n / 100) :: (48 + n / 10 % 10) :: (48 + n % 10) :: c :: Y))) = c :: Y
      have e0 : tk_s ((48 + n / 100) :: (48 + n / 10 % 10) :: (48 + n % 10) :: c :: Y) = (48 + n / 100) :: (48 + n / 10 % 10) :: (48 + n % 10) :: c :: Y := by
        unfold tk_s lw
        rw [if_neg (by rw [a1]; decide)]
        rfl
      have e1 : lw qD ((48 + n / 100) :: (48 + n / 10 % 10) :: (48 + n % 10) :: c :: Y) = 3 := by
        unfold lw
        rw [if_pos a3]
        unfold lw
        rw [if_pos b3]
        unfold lw
        rw [if_pos d3]
        unfold lw
        rw [if_neg (by rw [hc]; decide)]
      rw [e0]
      unfold tk_k tk_v tk_e
      simp only [e1, a2, a3, if_true, Bool.false_eq_true, if_false]
      refine ⟨⟨rfl, fun _ => ?_⟩, rfl⟩
      show ((0 * 10 + (48 + n / 100 - 48)) * 10 + (48 + n / 10 % 10 - 48)) * 10 + (48 + n % 10 - 48) = n
      omega
theorem tks_snum {n c : Nat} {Y : List Nat} (hn : n < 1000) (hc : qD c = false) : tks [(40, n)] (32 :: (dT n ++ c :: Y)) (c :: Y) := tks_cg (by intro z; cases z) rfl (tks_num hn hc)
def nmc (x j : Nat) : Nat := (x - 96) * 37 + (27 + j)
def lPap (C R : Nat) : List (Nat × Nat) := [(0, 0), (40, C), (1, 0), (40, R), (28, 0)]
def lOct (o A D S X : Nat) : List (Nat × Nat) := [(2, 0), (39, nmc 111 o), (3, 0), (40, A), (4, 0), (40, D), (5, 0), (40, S), (6, 0), (40, X), (28, 0)]
def lCmb (i w t u : Nat) : List (Nat × Nat) := [(7, 0), (39, nmc 99 i), (if w = 1 then 4 else 3, 0), (8, 0), (40, t), (9, 0), (40, u), (28, 0)]
def lLev (k v : Nat) : List (Nat × Nat) := [(10, 0), (39, nmc 105 k), (11, 0), (40, v), (28, 0)]
def lHd (kd x : Nat) : List (Nat × Nat) := if kd = 0 then [(9, 0), (39, nmc 99 x), (13, 0)] else if kd = 3 then [(6, 0), (39, nmc 111 x), (13, 0)] else if kd = 1 then [(12, 0), (3, 0), (1, 0)] else [(12, 0), (4, 0), (1, 0)]
def lSum (k a n : Nat) : List (Nat × Nat) := if k = 0 then [(40, a)] else if k = 1 then [(15, 0), (32, 0), (40, a), (31, 0), (40, 3)] else if k = 2 then [(16, 0), (39, nmc 105 (n - 1)), (33, 0), (40, a + 1)] else if k = 3 then [(6, 0), (39, nmc 111 0), (30, 0), (40, a), (31, 0), (40, 8)] else [(17, 0), (24, 0), (40, a), (29, 0), (15, 0), (25, 0), (33, 0), (40, 50)]
def lTst (k a n : Nat) : List (Nat × Nat) := if k = 0 then [] else if k = 1 then [(14, 0), (15, 0), (31, 0), (15, 0), (33, 0), (40, 3), (32, 0), (40, 3), (36, 0), (40, a)] else if k = 2 then [(14, 0), (17, 0), (24, 0), (40, 0), (29, 0), (40, 0), (25, 0), (38, 0), (40, 440 + 40 * a)] else if k = 3 then [(14, 0), (16, 0), (39, nmc 105 (n - 1)), (37, 0), (40, 30 * (a + 1)), (21, 0), (15, 0), (36, 0), (40, 2)] else [(14, 0), (19, 0), (18, 0), (39, nmc 105 (n - 1)), (20, 0), (6, 0), (39, nmc 111 0), (34, 0), (40, 900)]
def cdl (w : List Nat) : Nat := cd (fun i => w.getD i 0) 0 w.length
def wchk (w : List Nat) (k v : Nat) : Bool := match w with
  | [] => false
  | b :: r => qL b && (b :: r).all qW && Nat.ble (b :: r).length 10 && Nat.beq (kwi (cdl (b :: r))) k && (!Nat.beq k 39 || Nat.beq (cdl (b :: r)) v) && !Nat.beq k 40
theorem qW_qS {b : Nat} (h : qL b = true) : qS b = false := by
  have h1 : 97 ≤ b ∧ b ≤ 122 := of_decide_eq_true h
  unfold qS
  rw [Bool.or_eq_false_iff]
  exact ⟨beq_eq_false_iff_ne.mpr (by omega), beq_eq_false_iff_ne.mpr (by omega)⟩
theorem lw_all {q : Nat → Bool} {c : Nat} {Z : List Nat} (hc : q c = false) : ∀ {w : List Nat}, w.all q = true → lw q (w ++ c :: Z) = w.length
  | [], _ => by
    show lw q (c :: Z) = 0
    unfold lw
    rw [if_neg (by rw [hc]; decide)]
  | b :: r, h => by
    rw [List.all_cons, Bool.and_eq_true] at h
    show lw q (b :: (r ++ c :: Z)) = _
    unfold lw
    rw [if_pos h.1, lw_all hc h.2]
    rfl
theorem cdl_app {w : List Nat} (Y : List Nat) : cd (fun i => (w ++ Y).getD i 0) 0 w.length = cdl w := cd_cg _ (fun i hi => by
  simp only [Nat.zero_add, List.getD_eq_getElem?_getD]
  rw [List.getElem?_append_left hi])
theorem tks_word {w : List Nat} {c k v : Nat} {Z : List Nat} (h : wchk w k v = true) (hc : qW c = false) : tks [(k, v)] (w ++ c :: Z) (c :: Z) := by
  cases w with
  | nil => cases h
  | cons b r =>
    unfold wchk at h
    simp only [Bool.and_eq_true] at h
    obtain ⟨⟨⟨⟨⟨h1, h2⟩, h3⟩, h4⟩, h5⟩, h6⟩ := h
    have h3 := Nat.le_of_ble_eq_true h3
    have h4 := Nat.eq_of_beq_eq_true h4
    have e1 := lw_all (Z := Z) hc h2
    have e2 := cdl_app (w := b :: r) (c :: Z)
    have e0 : tk_s ((b :: r) ++ c :: Z) = (b :: r) ++ c :: Z := by
      show List.drop (lw qS (b :: (r ++ c :: Z))) (b :: (r ++ c :: Z)) = _
      unfold lw
      rw [if_neg (by rw [qW_qS h1]; decide)]
      rfl
    have hk : tk_k ((b :: r) ++ c :: Z) = k := by
      show (if qL b = true then (if lw qW ((b :: r) ++ c :: Z) ≤ 10 then kwi (cd (fun i => ((b :: r) ++ c :: Z).getD i 0) 0 (lw qW ((b :: r) ++ c :: Z))) else 42) else _) = k
      rw [if_pos h1, e1, if_pos h3, e2, h4]
    have he : tk_e ((b :: r) ++ c :: Z) = (b :: r).length := by
      show (if qL b = true then lw qW ((b :: r) ++ c :: Z) else _) = _
      rw [if_pos h1, e1]
    have hv : tk_v ((b :: r) ++ c :: Z) = cdl (b :: r) := by
      show (if qL b = true then cd (fun i => ((b :: r) ++ c :: Z).getD i 0) 0 (lw qW ((b :: r) ++ c :: Z)) else _) = _
      rw [if_pos h1, e1, e2]
    show (tk_k (tk_s ((b :: r) ++ c :: Z)) = k ∧ (_ → tk_v (tk_s ((b :: r) ++ c :: Z)) = v)) ∧ (tk_s ((b :: r) ++ c :: Z)).drop (tk_e (tk_s ((b :: r) ++ c :: Z))) = c :: Z
    rw [e0, hk, he, hv]
    refine ⟨⟨rfl, fun z => ?_⟩, ?_⟩
    · rcases z with z | z
      · rw [z] at h6; cases h6
      · rw [z] at h5
        exact Nat.eq_of_beq_eq_true h5
    · rw [List.drop_left]
theorem sk32 (s : List Nat) : tk_s s = tk_s (32 :: s) := rfl
theorem sk10 (s : List Nat) : tk_s s = tk_s (10 :: s) := rfl
theorem tks_32 {l : List (Nat × Nat)} {s u : List Nat} (hl : ¬ l = []) (h : tks l s u) : tks l (32 :: s) u := tks_cg hl (sk32 s) h
theorem tks_sw {w : List Nat} {c k v : Nat} {Z : List Nat} (h : wchk w k v = true) (hc : qW c = false) : tks [(k, v)] (32 :: (w ++ c :: Z)) (c :: Z) := tks_32 (by intro z; cases z) (tks_word h hc)
def schk (b k : Nat) : Bool := !qS b && !qL b && !qD b && !Nat.beq b 60 && !Nat.beq b 62 && Nat.beq (sgi b) k && !Nat.beq k 42 && !Nat.beq k 39 && !Nat.beq k 40
theorem tks_sym {b k : Nat} {Z : List Nat} (h : schk b k = true) : tks [(k, 0)] (b :: Z) Z := by
  unfold schk at h
  simp only [Bool.and_eq_true, Bool.not_eq_true'] at h
  obtain ⟨⟨⟨⟨⟨⟨⟨⟨h1, h2⟩, h3⟩, h4⟩, h5⟩, h6⟩, h7⟩, h8⟩, h9⟩ := h
  have h6 := Nat.eq_of_beq_eq_true h6
  have g4 : ¬ b = 60 := fun z => by rw [z] at h4; cases h4
  have g5 : ¬ b = 62 := fun z => by rw [z] at h5; cases h5
  have g7 : ¬ k = 42 := fun z => by rw [z] at h7; cases h7
  have g8 : ¬ k = 39 := fun z => by rw [z] at h8; cases h8
  have g9 : ¬ k = 40 := fun z => by rw [z] at h9; cases h9
  have g : ¬ ((b = 60 ∨ b = 62) ∧ Z.getD 0 0 = 61) := fun z => z.1.elim g4 g5
  have e0 : tk_s (b :: Z) = b :: Z := by
    show List.drop (lw qS (b :: Z)) (b :: Z) = _
    unfold lw
    rw [if_neg (by rw [h1]; decide)]
    rfl
  have hk : tk_k (b :: Z) = k := by
    show (if qL b = true then _ else if qD b = true then _ else if (b = 60 ∨ b = 62) ∧ Z.getD 0 0 = 61 then _ else sgi b) = k
    rw [if_neg (by rw [h2]; decide), if_neg (by rw [h3]; decide), if_neg g, h6]
  have he : tk_e (b :: Z) = 1 := by
    show (if qL b = true then _ else if qD b = true then _ else if (b = 60 ∨ b = 62) ∧ Z.getD 0 0 = 61 then 2 else if sgi b = 42 then 0 else 1) = 1
    rw [if_neg (by rw [h2]; decide), if_neg (by rw [h3]; decide), if_neg g, if_neg (by rw [h6]; exact g7)]
  show (tk_k (tk_s (b :: Z)) = k ∧ (_ → tk_v (tk_s (b :: Z)) = 0)) ∧ (tk_s (b :: Z)).drop (tk_e (tk_s (b :: Z))) = Z
  rw [e0, hk, he]
  exact ⟨⟨rfl, fun z => absurd z (fun y => y.elim g9 g8)⟩, rfl⟩
theorem tks_le (Z : List Nat) : tks [(37, 0)] (60 :: 61 :: Z) Z := ⟨⟨rfl, fun z => absurd z (by decide)⟩, rfl⟩
theorem tks_ge (Z : List Nat) : tks [(38, 0)] (62 :: 61 :: Z) Z := ⟨⟨rfl, fun z => absurd z (by decide)⟩, rfl⟩
theorem tks_lt9 (Z : List Nat) : tks [(34, 0)] (60 :: 57 :: Z) (57 :: Z) := ⟨⟨rfl, fun z => absurd z (by decide)⟩, rfl⟩
theorem t_w104 (Z : List Nat) : tks [(0, 0)] (w_104 ++ Z) (32 :: Z) := tks_word (w := [112, 97, 112, 101, 114]) (by decide +kernel) (by decide)
theorem t_w106 (Z : List Nat) : tks [(1, 0)] (w_106 ++ Z) (32 :: Z) := tks_sw (w := [98, 121]) (by decide +kernel) (by decide)
theorem t_w108 (Z : List Nat) : tks [(28, 0)] (w_108 ++ Z) Z := tks_sym (by decide +kernel)
theorem t_w128 (Z : List Nat) : tks [(28, 0)] (w_128 ++ Z) (10 :: Z) := tks_sym (b := 59) (by decide +kernel)
theorem t_w120 (Z : List Nat) : tks [(3, 0)] (w_120 ++ Z) (32 :: Z) := tks_sw (w := [97, 99, 114, 111, 115, 115]) (by decide +kernel) (by decide)
theorem t_w122 (Z : List Nat) : tks [(4, 0)] (w_122 ++ Z) (32 :: Z) := tks_sw (w := [100, 111, 119, 110]) (by decide +kernel) (by decide)
theorem t_w124 (Z : List Nat) : tks [(5, 0)] (w_124 ++ Z) (32 :: Z) := tks_sw (w := [115, 116, 114, 101, 110, 103, 116, 104]) (by decide +kernel) (by decide)
theorem t_w126 (Z : List Nat) : tks [(6, 0)] (w_126 ++ Z) (32 :: Z) := tks_sw (w := [115, 101, 101, 100]) (by decide +kernel) (by decide)
theorem t_w135 (Z : List Nat) : tks [(4, 0)] (w_135 ++ 32 :: Z) (32 :: Z) := tks_sw (w := [100, 111, 119, 110]) (by decide +kernel) (by decide)
theorem t_w137 (Z : List Nat) : tks [(3, 0)] (w_137 ++ 32 :: Z) (32 :: Z) := tks_sw (w := [97, 99, 114, 111, 115, 115]) (by decide +kernel) (by decide)
theorem t_w139 (Z : List Nat) : tks [(8, 0)] (w_139 ++ Z) (32 :: Z) := tks_sw (w := [116, 101, 101, 116, 104]) (by decide +kernel) (by decide)
theorem t_w141 (Z : List Nat) : tks [(9, 0)] (w_141 ++ Z) (32 :: Z) := tks_sw (w := [112, 117, 108, 108]) (by decide +kernel) (by decide)
theorem t_w145 (Z : List Nat) : tks [(11, 0)] (w_145 ++ Z) (32 :: Z) := tks_sw (w := [102, 114, 111, 109]) (by decide +kernel) (by decide)
theorem t_w149 (Z : List Nat) : tks [(13, 0)] (w_149 ++ Z) (32 :: Z) := tks_sw (w := [116, 111]) (by decide +kernel) (by decide)
theorem t_w118 {o c : Nat} (ho : o < 3) (hc : qW c = false) (Z : List Nat) : tks [(2, 0), (39, nmc 111 o)] (w_118 ++ (dT o ++ c :: Z)) (c :: Z) := by
  rcases (by omega : o = 0 ∨ o = 1 ∨ o = 2) with rfl | rfl | rfl
  · exact tks_app (l1 := [(2, 0)]) (tks_word (w := [111, 99, 116, 97, 118, 101]) (c := 32) (by decide +kernel) (by decide)) (tks_sw (w := [111, 48]) (by decide +kernel) hc)
  · exact tks_app (l1 := [(2, 0)]) (tks_word (w := [111, 99, 116, 97, 118, 101]) (c := 32) (by decide +kernel) (by decide)) (tks_sw (w := [111, 49]) (by decide +kernel) hc)
  · exact tks_app (l1 := [(2, 0)]) (tks_word (w := [111, 99, 116, 97, 118, 101]) (c := 32) (by decide +kernel) (by decide)) (tks_sw (w := [111, 50]) (by decide +kernel) hc)
theorem t_w130 {o c : Nat} (ho : o < 3) (hc : qW c = false) (Z : List Nat) : tks [(7, 0), (39, nmc 99 o)] (w_130 ++ (dT o ++ c :: Z)) (c :: Z) := by
  rcases (by omega : o = 0 ∨ o = 1 ∨ o = 2) with rfl | rfl | rfl
  · exact tks_app (l1 := [(7, 0)]) (tks_word (w := [99, 111, 109, 98]) (c := 32) (by decide +kernel) (by decide)) (tks_sw (w := [99, 48]) (by decide +kernel) hc)
  · exact tks_app (l1 := [(7, 0)]) (tks_word (w := [99, 111, 109, 98]) (c := 32) (by decide +kernel) (by decide)) (tks_sw (w := [99, 49]) (by decide +kernel) hc)
  · exact tks_app (l1 := [(7, 0)]) (tks_word (w := [99, 111, 109, 98]) (c := 32) (by decide +kernel) (by decide)) (tks_sw (w := [99, 50]) (by decide +kernel) hc)
theorem t_w143 {o c : Nat} (ho : o < 4) (hc : qW c = false) (Z : List Nat) : tks [(10, 0), (39, nmc 105 o)] (w_143 ++ (dT o ++ c :: Z)) (c :: Z) := by
  rcases (by omega : o = 0 ∨ o = 1 ∨ o = 2 ∨ o = 3) with rfl | rfl | rfl | rfl
  · exact tks_app (l1 := [(10, 0)]) (tks_word (w := [105, 110, 107]) (c := 32) (by decide +kernel) (by decide)) (tks_sw (w := [105, 48]) (by decide +kernel) hc)
  · exact tks_app (l1 := [(10, 0)]) (tks_word (w := [105, 110, 107]) (c := 32) (by decide +kernel) (by decide)) (tks_sw (w := [105, 49]) (by decide +kernel) hc)
  · exact tks_app (l1 := [(10, 0)]) (tks_word (w := [105, 110, 107]) (c := 32) (by decide +kernel) (by decide)) (tks_sw (w := [105, 50]) (by decide +kernel) hc)
  · exact tks_app (l1 := [(10, 0)]) (tks_word (w := [105, 110, 107]) (c := 32) (by decide +kernel) (by decide)) (tks_sw (w := [105, 51]) (by decide +kernel) hc)
theorem t_w147 {o c : Nat} (ho : o < 3) (hc : qW c = false) (Z : List Nat) : tks [(9, 0), (39, nmc 99 o)] (w_147 ++ (dT o ++ c :: Z)) (c :: Z) := by
  rcases (by omega : o = 0 ∨ o = 1 ∨ o = 2) with rfl | rfl | rfl
  · exact tks_app (l1 := [(9, 0)]) (tks_word (w := [112, 117, 108, 108]) (c := 32) (by decide +kernel) (by decide)) (tks_sw (w := [99, 48]) (by decide +kernel) hc)
  · exact tks_app (l1 := [(9, 0)]) (tks_word (w := [112, 117, 108, 108]) (c := 32) (by decide +kernel) (by decide)) (tks_sw (w := [99, 49]) (by decide +kernel) hc)
  · exact tks_app (l1 := [(9, 0)]) (tks_word (w := [112, 117, 108, 108]) (c := 32) (by decide +kernel) (by decide)) (tks_sw (w := [99, 50]) (by decide +kernel) hc)
theorem t_w151 {o c : Nat} (ho : o < 3) (hc : qW c = false) (Z : List Nat) : tks [(6, 0), (39, nmc 111 o)] (w_151 ++ (dT o ++ c :: Z)) (c :: Z) := by
  rcases (by omega : o = 0 ∨ o = 1 ∨ o = 2) with rfl | rfl | rfl
  · exact tks_app (l1 := [(6, 0)]) (tks_word (w := [115, 101, 101, 100]) (c := 32) (by decide +kernel) (by decide)) (tks_sw (w := [111, 48]) (by decide +kernel) hc)
  · exact tks_app (l1 := [(6, 0)]) (tks_word (w := [115, 101, 101, 100]) (c := 32) (by decide +kernel) (by decide)) (tks_sw (w := [111, 49]) (by decide +kernel) hc)
  · exact tks_app (l1 := [(6, 0)]) (tks_word (w := [115, 101, 101, 100]) (c := 32) (by decide +kernel) (by decide)) (tks_sw (w := [111, 50]) (by decide +kernel) hc)
theorem t_w52 {o c : Nat} (ho : o < 4) (hc : qW c = false) (Z : List Nat) : tks [(16, 0), (39, nmc 105 o)] (w_52 ++ (dT o ++ c :: Z)) (c :: Z) := by
  rcases (by omega : o = 0 ∨ o = 1 ∨ o = 2 ∨ o = 3) with rfl | rfl | rfl | rfl
  · exact tks_app (l1 := [(16, 0)]) (tks_word (w := [115, 104, 97, 114, 101]) (c := 32) (by decide +kernel) (by decide)) (tks_sw (w := [105, 48]) (by decide +kernel) hc)
  · exact tks_app (l1 := [(16, 0)]) (tks_word (w := [115, 104, 97, 114, 101]) (c := 32) (by decide +kernel) (by decide)) (tks_sw (w := [105, 49]) (by decide +kernel) hc)
  · exact tks_app (l1 := [(16, 0)]) (tks_word (w := [115, 104, 97, 114, 101]) (c := 32) (by decide +kernel) (by decide)) (tks_sw (w := [105, 50]) (by decide +kernel) hc)
  · exact tks_app (l1 := [(16, 0)]) (tks_word (w := [115, 104, 97, 114, 101]) (c := 32) (by decide +kernel) (by decide)) (tks_sw (w := [105, 51]) (by decide +kernel) hc)
theorem t_w153 (Z : List Nat) : tks [(12, 0), (3, 0), (1, 0)] (w_153 ++ Z) (32 :: Z) := tks_app (l1 := [(12, 0)]) (tks_word (w := [100, 114, 105, 102, 116]) (c := 32) (by decide +kernel) (by decide)) (tks_app (l1 := [(3, 0)]) (tks_sw (w := [97, 99, 114, 111, 115, 115]) (c := 32) (by decide +kernel) (by decide)) (tks_sw (w := [98, 121]) (c := 32) (by decide +kernel) (by decide)))
theorem t_w155 (Z : List Nat) : tks [(12, 0), (4, 0), (1, 0)] (w_155 ++ Z) (32 :: Z) := tks_app (l1 := [(12, 0)]) (tks_word (w := [100, 114, 105, 102, 116]) (c := 32) (by decide +kernel) (by decide)) (tks_app (l1 := [(4, 0)]) (tks_sw (w := [100, 111, 119, 110]) (c := 32) (by decide +kernel) (by decide)) (tks_sw (w := [98, 121]) (c := 32) (by decide +kernel) (by decide)))
/-- the lines -/
theorem t_pap {C R : Nat} (hC : C < 1000) (hR : R < 1000) (Z : List Nat) : tks (lPap C R) (w_104 ++ (dT C ++ (w_106 ++ (dT R ++ (w_108 ++ Z))))) Z := by
  have h := tks_app (t_w104 _) (tks_app (tks_snum (c := 32) hC (by decide)) (tks_app (t_w106 _) (tks_app (tks_snum (c := 59) hR (by decide)) (t_w108 Z))))
  exact h
theorem t_oct {o A D S X : Nat} (ho : o < 3) (hA : A < 1000) (hD : D < 1000) (hS : S < 1000) (hX : X < 1000) (Z : List Nat) : tks (lOct o A D S X) (w_118 ++ (dT o ++ (w_120 ++ (dT A ++ (w_122 ++ (dT D ++ (w_124 ++ (dT S ++ (w_126 ++ (dT X ++ (w_128 ++ Z))))))))))) (10 :: Z) := by
  have h := tks_app (t_w118 (c := 32) ho (by decide) _) (tks_app (t_w120 _) (tks_app (tks_snum (c := 32) hA (by decide)) (tks_app (t_w122 _) (tks_app (tks_snum (c := 32) hD (by decide)) (tks_app (t_w124 _) (tks_app (tks_snum (c := 32) hS (by decide)) (tks_app (t_w126 _) (tks_app (tks_snum (c := 59) hX (by decide)) (t_w128 Z)))))))))
  exact h
theorem t_cmb {i w t u : Nat} (hi : i < 3) (ht : t < 1000) (hu : u < 1000) (Z : List Nat) : tks (lCmb i w t u) (w_130 ++ (dT i ++ ((if w = 1 then w_135 else w_137) ++ (w_139 ++ (dT t ++ (w_141 ++ (dT u ++ (w_108 ++ Z)))))))) Z := by
  unfold lCmb
  by_cases h : w = 1
  · rw [if_pos h, if_pos h]
    have h := tks_app (t_w130 (c := 32) hi (by decide) _) (tks_app (t_w135 _) (tks_app (t_w139 _) (tks_app (tks_snum (c := 32) ht (by decide)) (tks_app (t_w141 _) (tks_app (tks_snum (c := 59) hu (by decide)) (t_w108 Z))))))
    exact h
  · rw [if_neg h, if_neg h]
    have h := tks_app (t_w130 (c := 32) hi (by decide) _) (tks_app (t_w137 _) (tks_app (t_w139 _) (tks_app (tks_snum (c := 32) ht (by decide)) (tks_app (t_w141 _) (tks_app (tks_snum (c := 59) hu (by decide)) (t_w108 Z))))))
    exact h
theorem t_lev {k v : Nat} (hk : k < 4) (hv : v < 1000) (Z : List Nat) : tks (lLev k v) (w_143 ++ (dT k ++ (w_145 ++ (dT v ++ (w_108 ++ Z))))) Z := by
  have h := tks_app (t_w143 (c := 32) hk (by decide) _) (tks_app (t_w145 _) (tks_app (tks_snum (c := 59) hv (by decide)) (t_w108 Z)))
  exact h
