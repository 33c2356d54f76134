/-! the start -/
section KIN
def kwW : List Int32 → Nat → Int64 → (Nat → Int64) → Nat → Int64
  | [], _, _, f => f
  | b :: r, n, v, f => if b = (32 : Int32) then (if 24 ≤ n then kwW r n v f else kwW r (n + 1) 0 (fun j => if j = n then v else f j)) else kwW r n (v * (37) + ((b - (97 : Int32)) + (1 : Int32)).toInt64) f
theorem dr_cons : ∀ (l : List Int32) (j : Nat), j < l.length → l.drop j = l.getD j 0 :: l.drop (j + 1)
  | [], j, h => absurd h (Nat.not_lt_zero j)
  | _ :: _, 0, _ => rfl
  | _ :: l, j + 1, h => dr_cons l j (Nat.lt_of_succ_lt_succ h)
theorem kw_loop {bs : List Int32} (hbs : (am_tB.getD 0 (0, [])).2 = bs) (h9 : bs.length ≤ 100000) : ∀ (m j n c : Nat) (I : am_I) (G : am_G) (v : Int64), j + m = bs.length → m < n → c ≤ 24 → ∃ G' : am_G, L_X9_init_1 n 0 I G (Int32.ofNat c) v (Int32.ofNat j) = some ((), I, G') ∧ ∀ k, G' 3 k = kwW (bs.drop j) c v (G 3) k := by
  intro m
  induction m with
  | zero =>
    intro j n c I G v hj hn hc
    obtain ⟨n, rfl⟩ : ∃ n', n = n' + 1 := ⟨n - 1, by omega⟩
    refine ⟨G, ?_, fun k => ?_⟩
    · rw [L_X9_init_1_0, hbs, if_pos ((n_le (by omega) (by omega)).mpr (by omega))]
    · rw [List.drop_eq_nil_of_le (by omega)]
      rfl
  | succ m ih =>
    intro j n c I G v hj hn hc
    obtain ⟨n, rfl⟩ : ∃ n', n = n' + 1 := ⟨n - 1, by omega⟩
    have hjl : j < bs.length := by omega
    have et : (Int32.ofNat j).toInt.toNat = j := by rw [n_ti (by omega)]; rfl
    have hd := dr_cons bs j hjl
    rw [L_X9_init_1_0, hbs, if_neg (fun z => absurd ((n_le (by omega) (by omega)).mp z) (by omega)), rg_pos ⟨by rw [n_ti (by omega)]; omega, by rw [n_ti (by omega)]; omega⟩, et, n_inc j]
    rw [hd]
    by_cases hb : bs.getD j 0 = (32 : Int32)
    · rw [if_pos hb]
      by_cases hc4 : 24 ≤ c
      · rw [if_pos ((n_le (by omega) (by omega)).mpr hc4)]
        obtain ⟨G', e1, e2⟩ := ih (j + 1) n c I G v (by omega) (by omega) hc
        refine ⟨G', e1, fun k => ?_⟩
        rw [e2 k]
        show _ = kwW (bs.getD j 0 :: bs.drop (j + 1)) c v (G 3) k
        rw [kwW.eq_2, if_pos hb, if_pos hc4]
      · rw [if_neg (fun z => hc4 ((n_le (by omega) (by omega)).mp z)), rg_pos ((n_in (by omega)).mpr (by omega)), n_cl (by omega), n_inc c]
        obtain ⟨G', e1, e2⟩ := ih (j + 1) n (c + 1) I (am_up G 3 c v) 0 (by omega) (by omega) (by omega)
        refine ⟨G', e1, fun k => ?_⟩
        have eu : am_up G 3 c v 3 = fun j => if j = c then v else G 3 j := by
          funext j
          rw [up_in]
        rw [e2 k, eu]
        show _ = kwW (bs.getD j 0 :: bs.drop (j + 1)) c v (G 3) k
        rw [kwW.eq_2, if_pos hb, if_neg hc4]
    · rw [if_neg hb]
      obtain ⟨G', e1, e2⟩ := ih (j + 1) n c I G (v * (37) + ((bs.getD j 0 - (97 : Int32)) + (1 : Int32)).toInt64) (by omega) (by omega) hc
      refine ⟨G', e1, fun k => ?_⟩
      rw [e2 k]
      show _ = kwW (bs.getD j 0 :: bs.drop (j + 1)) c v (G 3) k
      rw [kwW.eq_2, if_neg hb]
def kwB : List Int32 := (am_tB.getD 0 (0, [])).2
set_option maxRecDepth 20000 in
theorem kwB_l : kwB.length ≤ 100000 := by decide +kernel
set_option maxRecDepth 20000 in
theorem kwB_L : ∀ k, k < 24 → kwW kwB 0 0 (fun _ => 0) k = kwL.getD k 0 := fun k hk => of_decide_eq_true (List.all_eq_true.mp (show (List.range 24).all (fun k => decide (kwW kwB 0 0 (fun _ => 0) k = kwL.getD k 0)) = true by decide +kernel) k (List.mem_range.mpr hk))
theorem z_a0 : zI_X9a (am_z iI0 1 0) = iI0 := by
  unfold zI_X9a iI0
  simp only [am_z0]
theorem zG_a0 : zG_X9a (am_z iG0 1 0) = iG0 := by
  unfold zG_X9a iG0
  simp only [am_z0]
/-- the cells ahead of the reference's first begin -/
def zI0 : am_I := zI_X14a (am_z (zI_X11_init_0 iI0) 79 0)
set_option maxRecDepth 20000 in
theorem zI0_7 : zI0 7 9 = 16 ∧ zI0 7 10 = 12 ∧ zI0 7 11 = 0 ∧ zI0 7 12 = 0 ∧ zI0 7 13 = 0 := ⟨by decide +kernel, by decide +kernel, by decide +kernel, by decide +kernel, by decide +kernel⟩
set_option maxRecDepth 20000 in
theorem zI0_c : (zI0 16 8 = 0 ∧ zI0 0 6 = -1 ∧ zI0 1 5 = 0 ∧ zI0 79 2 = 0 ∧ zI0 79 3 = -1) ∧ (zI0 53 10 = 0 ∧ zI0 53 11 = 0 ∧ zI0 53 12 = 0 ∧ zI0 53 13 = 0 ∧ zI0 53 14 = 0 ∧ zI0 53 15 = 0) := ⟨⟨by decide +kernel, by decide +kernel, by decide +kernel, by decide +kernel, by decide +kernel⟩, ⟨by decide +kernel, by decide +kernel, by decide +kernel, by decide +kernel, by decide +kernel, by decide +kernel⟩⟩
set_option maxRecDepth 20000 in
theorem zI0_86 : zI0 86 0 = 16 ∧ zI0 86 1 = 12 ∧ zI0 86 2 = 0 ∧ zI0 86 3 = 0 ∧ zI0 86 4 = 0 ∧ zI0 86 13 = 0 := ⟨by decide +kernel, by decide +kernel, by decide +kernel, by decide +kernel, by decide +kernel, by decide +kernel⟩
set_option maxRecDepth 20000 in
theorem zI0_k (k : Nat) : zI0 106 k = 0 ∧ zI0 116 k = 0 := ⟨rfl, rfl⟩
set_option maxRecDepth 20000 in
theorem zG0_3 (G : am_G) (k : Nat) : zG_X14a (am_z (zG_X11_init_0 G) 79 0) 3 k = G 3 k := rfl
theorem gq_row {α : Type} (f : Nat → Nat → α) (z : α) {b : Nat} (h : b < 122) : (fun a => am_z f 122 z (gq a)) b = f b := by
  show am_z f 122 z (gq b) = f b
  rw [gq_ne (by omega), z_row _ _ (by omega)]
theorem k_init_ok : k_init kV := by
  obtain ⟨G9, e9, g9⟩ := kw_loop (bs := kwB) rfl kwB_l kwB.length 0 FU 0 iI0 iG0 0 (by omega) (by have := kwB_l; have : FU = 1000000 := rfl; omega) (by omega)
  obtain ⟨K, k1, k2, k3, k4, k5, k6⟩ := r_bg (G := zG_X14a (am_z (zG_X11_init_0 G9) 79 0)) zI0
  have hpk : pk p0D := xok0.1
  have hP := pad_ok hpk
  obtain ⟨x7, x10, x11, x12, x13⟩ := zI0_7
  obtain ⟨⟨y16, y0, y1, y2, y3⟩, y10, y11, y12, y13, y14, y15⟩ := zI0_c
  obtain ⟨u0, u1, u2, u3, u4, u13⟩ := zI0_86
  obtain ⟨M, hM⟩ : ∃ M : am_I, M = fun a => am_z (zI_X14_init_79 K) 122 0 (gq a) := ⟨_, rfl⟩
  have mb : ∀ b, b < 122 → M b = K b := fun b hb => by rw [hM]; exact gq_row K 0 hb
  have mz : ∀ b, b < 122 → b ≠ 102 → b ≠ 103 → b ≠ 104 → b ≠ 106 → M b = zI0 b := fun b hb h1 h2 h3 h4 => (mb b hb).trans (k2 b h1 h2 h3 h4)
  have m7 := mz 7 (by omega) (by omega) (by omega) (by omega) (by omega)
  have m53 := mz 53 (by omega) (by omega) (by omega) (by omega) (by omega)
  have m86 := mz 86 (by omega) (by omega) (by omega) (by omega) (by omega)
  have m79 := mz 79 (by omega) (by omega) (by omega) (by omega) (by omega)
  have m102 := mb 102 (by omega)
  have m106 : ∀ k, M 106 k = 0 := fun k => by
    rw [mb 106 (by omega), k6]
    split
    · rfl
    · exact (zI0_k k).1
  obtain ⟨q0, q1, q2, q3, q10⟩ := k3
  refine ⟨iI0, G9, K, _, by rw [z_a0, zG_a0]; exact e9, by rw [R_begin_k]; exact k1, pad p0D, tST (pad p0D), od0, 0, 0, 0, ?_⟩
  rw [← hM]
  refine ⟨⟨hP, tST_ok hP, Nat.zero_le _, fun k hk => absurd hk (Nat.not_lt_zero k)⟩, ⟨⟨?_, fun k hk => absurd hk (Nat.not_lt_zero k)⟩, ?_, fun k hk => absurd hk (Nat.not_lt_zero k)⟩, ⟨⟨⟨⟨⟨?_, ?_, ?_, ?_, ?_⟩, fun k hk => absurd hk (Nat.not_lt_zero k), fun k hk => absurd hk (Nat.not_lt_zero k), fun k hk => absurd hk (Nat.not_lt_zero k)⟩, fun k hk => absurd hk (Nat.not_lt_zero k)⟩, ⟨⟨⟨?_, ?_⟩, fun k hk => absurd hk (Nat.not_lt_zero k), fun k hk => absurd hk (Nat.not_lt_zero k)⟩, fun hne => absurd ?_ hne, fun hne => absurd ?_ hne⟩, ?_, ?_⟩, ⟨⟨⟨?_, ?_, ?_, ?_, ?_⟩, fun k hk => absurd hk (Nat.not_lt_zero k), fun k hk => absurd hk (Nat.not_lt_zero k), fun k hk => absurd hk (Nat.not_lt_zero k)⟩, ⟨⟨?_, ?_⟩, fun k hk => absurd hk (Nat.not_lt_zero k), fun k hk => absurd hk (Nat.not_lt_zero k)⟩, fun k hk => absurd hk (Nat.not_lt_zero k), fun k => Or.inl (m106 k), fun hne => absurd ?_ hne⟩, ?_, ?_⟩, fun k => Or.inl ?_, ⟨?_, ?_, by omega⟩, fun k hk => absurd hk (Nat.not_lt_zero k), ?_, fun k hk => ?_⟩
  · rw [mz 16 (by omega) (by omega) (by omega) (by omega) (by omega)]; exact y16
  · rw [m86]; exact u13
  · rw [m7]; exact x7
  · rw [m7]; exact x10
  · rw [m7]; exact x11
  · rw [m7]; exact x12
  · rw [m7]; exact x13
  · rw [m53]; exact y10
  · rw [m53]; exact y11
  · rw [m53]; exact y14
  · rw [m53]; exact y15
  · rw [m53]; exact y12
  · rw [m53]; exact y13
  · rw [m86]; exact u0
  · rw [m86]; exact u1
  · rw [m86]; exact u2
  · rw [m86]; exact u3
  · rw [m86]; exact u4
  · rw [m102]; exact q2
  · rw [m102]; exact q3
  · rw [m102]; exact q10
  · rw [m102]; exact q0
  · rw [m102]; exact q1
  · rw [mz 116 (by omega) (by omega) (by omega) (by omega) (by omega)]; exact (zI0_k k).2
  · rw [mz 1 (by omega) (by omega) (by omega) (by omega) (by omega)]; exact y1
  · rw [m79]; exact y2
  · rw [mz 0 (by omega) (by omega) (by omega) (by omega) (by omega), m79, y0, y3]
  · show am_z (zG_X14a (am_z (zG_X11_init_0 G9) 79 0)) 122 0 (gq 3) k = kwL.getD k 0
    rw [gq_ne (show (3 : Nat) ≠ 999 by omega), z_row _ _ (show (3 : Nat) ≠ 122 by omega), zG0_3, g9 k]
    exact kwB_L k hk
end KIN
