/-! the class taught: start, feed, trim, teach (the class's rows of the claim whole's 78, 98s, 98t) -/
def by_s (x : Int32) (r : Nat) : Int32 := (x >>> (((24 : Int32) - (8 : Int32) * Int32.ofNat r) &&& 31)) &&& (255 : Int32)
theorem and255 (y : Int32) : 0 ≤ (y &&& (255 : Int32)).toInt ∧ (y &&& (255 : Int32)).toInt ≤ 255 := by
  have h1 : (y &&& (255 : Int32)).toBitVec = y.toBitVec &&& 255#32 := rfl
  have h2 : (y.toBitVec &&& 255#32).toNat ≤ 255 := by
    rw [BitVec.toNat_and]
    exact Nat.and_le_right
  have h3 : (y &&& (255 : Int32)).toInt = (y &&& (255 : Int32)).toBitVec.toInt := rfl
  rw [h3, h1, BitVec.toInt_eq_toNat_of_lt (by omega)]
  omega
theorem by_b (x : Int32) (r : Nat) : 0 ≤ (by_s x r).toInt ∧ (by_s x r).toInt ≤ 255 := and255 _
theorem c_ap1 {ln : Nat} {I : am_I} {G : am_G} (x s : Int32) (n : Nat) (h : I 1 5 = Int32.ofNat ln) (hl : ln < 2000) (hs : ¬ s < 0) : L_X9_append_1 (n + 1) 0 I G x s = L_X9_append_1 n 0 (am_up (am_up I 2 ln ((x >>> (s &&& 31)) &&& (255 : Int32))) 1 5 (Int32.ofNat (ln + 1))) G x (s + (-8 : Int32)) := by
  rw [L_X9_append_1_0, if_neg hs, h, if_neg (n_nlt0 ln (by omega)), if_neg (fun q => absurd ((n_le (by omega) (by omega)).mp q) (by omega)), rg_pos ((n_in (by omega)).mpr hl), n_cl (by omega), n_inc]
theorem c_ap {ln : Nat} {I : am_I} {G : am_G} (x : Int32) (h : I 1 5 = Int32.ofNat ln) (hl : ln + 4 ≤ 2000) : ∃ I' : am_I, R_X9_append_1 I G x = some ((), I', G) ∧ I' 1 5 = Int32.ofNat (ln + 4) ∧ (∀ b, b ≠ 1 → b ≠ 2 → I' b = I b) ∧ (∀ r, r < 4 → I' 2 (ln + r) = by_s x r) ∧ ∀ j, j < ln → I' 2 j = I 2 j := by
  obtain ⟨n0, hn0⟩ : ∃ n0, FU = n0 + 1 + 1 + 1 + 1 + 1 := ⟨FU - 5, by unfold FU; omega⟩
  unfold R_X9_append_1
  rw [hn0, c_ap1 x 24 _ h (by omega) (by decide), c_ap1 x _ _ (am_up_self _ _ _ _) (by omega) (by decide), c_ap1 x _ _ (am_up_self _ _ _ _) (by omega) (by decide), c_ap1 x _ _ (am_up_self _ _ _ _) (by omega) (by decide), L_X9_append_1_0, if_pos (by decide)]
  refine ⟨_, rfl, am_up_self _ _ _ _, fun b z1 z2 => ?_, fun r hr => ?_, fun j hj => ?_⟩
  · rw [up_row _ _ _ z1, up_row _ _ _ z2, up_row _ _ _ z1, up_row _ _ _ z2, up_row _ _ _ z1, up_row _ _ _ z2, up_row _ _ _ z1, up_row _ _ _ z2]
  · rw [up_row _ _ _ (by omega), up_in, up_row _ _ _ (by omega), up_in, up_row _ _ _ (by omega), up_in, up_row _ _ _ (by omega), up_in]
    rcases (show r = 0 ∨ r = 1 ∨ r = 2 ∨ r = 3 by omega) with rfl | rfl | rfl | rfl
    · rw [if_neg (by omega), if_neg (by omega), if_neg (by omega), if_pos (by omega)]; rfl
    · rw [if_neg (by omega), if_neg (by omega), if_pos (by omega)]; rfl
    · rw [if_neg (by omega), if_pos (by omega)]; rfl
    · rw [if_pos (by omega)]; rfl
  · rw [up_row _ _ _ (by omega), up_in, up_row _ _ _ (by omega), up_in, up_row _ _ _ (by omega), up_in, up_row _ _ _ (by omega), up_in, if_neg (by omega), if_neg (by omega), if_neg (by omega), if_neg (by omega)]
def x5 (a b c d e : Int32) (k : Nat) : Int32 := if k = 0 then a else if k = 1 then b else if k = 2 then c else if k = 3 then d else e
def kwW : List Int32 → Nat → Int64 → (Nat → Int64) → Nat → Int64
  | [], _, _, f => f
  | b :: r, n, v, f => if b = (32 : Int32) then (if 24 ≤ n then kwW r n v f else kwW r (n + 1) 0 (fun j => if j = n then v else f j)) else kwW r n (v * (37) + ((b - (97 : Int32)) + (1 : Int32)).toInt64) f
theorem dr_cons : ∀ (l : List Int32) (j : Nat), j < l.length → l.drop j = l.getD j 0 :: l.drop (j + 1)
  | [], j, h => absurd h (Nat.not_lt_zero j)
  | _ :: _, 0, _ => rfl
  | _ :: l, j + 1, h => dr_cons l j (Nat.lt_of_succ_lt_succ h)
theorem kw_loop {bs : List Int32} (hbs : (am_tB.getD 0 (0, [])).2 = bs) (h9 : bs.length ≤ 100000) : ∀ (m j n c : Nat) (I : am_I) (G : am_G) (v : Int64), j + m = bs.length → m < n → c ≤ 24 → ∃ G' : am_G, L_X9_init_1 n 0 I G (Int32.ofNat c) v (Int32.ofNat j) = some ((), I, G') ∧ ∀ k, G' 3 k = kwW (bs.drop j) c v (G 3) k := by
  intro m
  induction m with
  | zero =>
    intro j n c I G v hj hn hc
    obtain ⟨n, rfl⟩ : ∃ n', n = n' + 1 := ⟨n - 1, by omega⟩
    refine ⟨G, ?_, fun k => ?_⟩
    · rw [L_X9_init_1_0, hbs, if_pos ((n_le (by omega) (by omega)).mpr (by omega))]
    · rw [List.drop_eq_nil_of_le (by omega)]
      rfl
  | succ m ih =>
    intro j n c I G v hj hn hc
    obtain ⟨n, rfl⟩ : ∃ n', n = n' + 1 := ⟨n - 1, by omega⟩
    have hjl : j < bs.length := by omega
    have et : (Int32.ofNat j).toInt.toNat = j := by rw [n_ti (by omega)]; rfl
    have hd := dr_cons bs j hjl
    rw [L_X9_init_1_0, hbs, if_neg (fun z => absurd ((n_le (by omega) (by omega)).mp z) (by omega)), rg_pos ⟨by rw [n_ti (by omega)]; omega, by rw [n_ti (by omega)]; omega⟩, et, n_inc j]
    rw [hd]
    by_cases hb : bs.getD j 0 = (32 : Int32)
    · rw [if_pos hb]
      by_cases hc4 : 24 ≤ c
      · rw [if_pos ((n_le (by omega) (by omega)).mpr hc4)]
        obtain ⟨G', e1, e2⟩ := ih (j + 1) n c I G v (by omega) (by omega) hc
        refine ⟨G', e1, fun k => ?_⟩
        rw [e2 k]
        show _ = kwW (bs.getD j 0 :: bs.drop (j + 1)) c v (G 3) k
        rw [kwW.eq_2, if_pos hb, if_pos hc4]
      · rw [if_neg (fun z => hc4 ((n_le (by omega) (by omega)).mp z)), rg_pos ((n_in (by omega)).mpr (by omega)), n_cl (by omega), n_inc c]
        obtain ⟨G', e1, e2⟩ := ih (j + 1) n (c + 1) I (am_up G 3 c v) 0 (by omega) (by omega) (by omega)
        refine ⟨G', e1, fun k => ?_⟩
        have eu : am_up G 3 c v 3 = fun j => if j = c then v else G 3 j := by
          funext j
          rw [up_in]
        rw [e2 k, eu]
        show _ = kwW (bs.getD j 0 :: bs.drop (j + 1)) c v (G 3) k
        rw [kwW.eq_2, if_pos hb, if_neg hc4]
    · rw [if_neg hb]
      obtain ⟨G', e1, e2⟩ := ih (j + 1) n c I G (v * (37) + ((bs.getD j 0 - (97 : Int32)) + (1 : Int32)).toInt64) (by omega) (by omega) hc
      refine ⟨G', e1, fun k => ?_⟩
      rw [e2 k]
      show _ = kwW (bs.getD j 0 :: bs.drop (j + 1)) c v (G 3) k
      rw [kwW.eq_2, if_neg hb]
def kwB : List Int32 := (am_tB.getD 0 (0, [])).2
set_option maxRecDepth 20000 in
theorem kwB_l : kwB.length ≤ 100000 := by decide +kernel
set_option maxRecDepth 20000 in
theorem kwB_L : ∀ k, k < 24 → kwW kwB 0 0 (fun _ => 0) k = kwL.getD k 0 := fun k hk => of_decide_eq_true (List.all_eq_true.mp (show (List.range 24).all (fun k => decide (kwW kwB 0 0 (fun _ => 0) k = kwL.getD k 0)) = true by decide +kernel) k (List.mem_range.mpr hk))
theorem z_a0 : zI_X9a (am_z iI0 1 0) = iI0 := by
  unfold zI_X9a iI0
  simp only [am_z0]
theorem zG_a0 : zG_X9a (am_z iG0 1 0) = iG0 := by
  unfold zG_X9a iG0
  simp only [am_z0]
/-- the class, where it is taken -/
theorem c_tch1 {I I1 : am_I} {G G1 : am_G} {p : sP} {od : sO} (e : R_X6_read_28 I G = some ((0 : Int32), I1, G1)) (hP : dP I1 p) (hO : dO I1 (p 0 5) od) (hp : pk p) : ∃ I' : am_I, R_X11_teach_0 I G = some ((0 : Int32), I', G1) ∧ cO I' (pad p) od ∧ cA_53 I' (pad p) (tST (pad p)) 0 0 ∧ (∀ b, b ≠ 0 → b ≠ 1 → (b < 7 ∨ 56 < b) → I' b = I1 b) ∧ (I' 0 6 = I1 28 8 ∧ I' 1 5 = 0) := by
  obtain ⟨J, hJ⟩ : ∃ J : am_I, J = am_up (am_up I1 0 6 (I1 28 8)) 1 5 (0 : Int32) := ⟨_, rfl⟩
  have jo : ∀ b, b ≠ 0 → b ≠ 1 → J b = I1 b := fun b h0 h1 => by rw [hJ, up_row _ _ _ h1, up_row _ _ _ h0]
  obtain ⟨I2, e2, p2, o2, f2⟩ := c_take (G := G1) (hP.kept (I' := J) (fun b b1 b2 => jo b (by omega) (by omega))) (hO.kept (I' := J) (fun b b1 b2 => jo b (by omega) (by omega))) hp
  obtain ⟨I3, e3, f3, z3⟩ := c_fg (G := G1) I2
  obtain ⟨I4, e4, f4, a4⟩ := c_bg (G := G1) (pad_ok hp) (p2.kept (I' := I3) (fun b b1 b2 => f3 b (by omega))) z3
  refine ⟨I4, ?_, o2.kept (fun b b1 b2 => by rw [f4 b (by omega) (by omega) (by omega) (by omega), f3 b (by omega)]), a4, fun b h0 h1 hb => by rw [f4 b (by omega) (by omega) (by omega) (by omega), f3 b (by omega), f2 b (by omega), jo b h0 h1], ?_, ?_⟩
  · unfold R_X11_teach_0
    rw [e, rb_go, if_pos rfl, ← hJ, e2, rb_go, e3, rb_go, e4, rb_go]
  · rw [f4 0 (by omega) (by omega) (by omega) (by omega), f3 0 (by omega), f2 0 (by omega), hJ, up_row _ _ _ (by omega), am_up_self]
  · rw [f4 1 (by omega) (by omega) (by omega) (by omega), f3 1 (by omega), f2 1 (by omega), hJ, am_up_self]

theorem c_feed {ln : Nat} {I : am_I} {G : am_G} (x1 x2 x3 x4 x5' : Int32) (e5 : I 1 5 = Int32.ofNat ln) (hx : ln + 20 ≤ 2000) : ∃ I' : am_I, R_X11_feed_0 I G x1 x2 x3 x4 x5' = some (.inl (Int32.ofNat (ln + 20)), I', G) ∧ I' 1 5 = Int32.ofNat (ln + 20) ∧ (∀ b, b ≠ 1 → b ≠ 2 → I' b = I b) ∧ (∀ j, j < ln → I' 2 j = I 2 j) ∧ ∀ k, k < 20 → I' 2 (ln + k) = by_s (x5 x1 x2 x3 x4 x5' (k / 4)) (k % 4) := by
  have e20 : Int32.ofNat ln + (20 : Int32) = Int32.ofNat (ln + 20) := n_add ln 20
  obtain ⟨I1, a1, a2, a3, a4, a5⟩ := c_ap (I := I) (G := G) x1 e5 (by omega)
  obtain ⟨I2, b1, b2, b3, b4, b5⟩ := c_ap (I := I1) (G := G) x2 a2 (by omega)
  obtain ⟨I3, c1, c2, c3, c4, c5⟩ := c_ap (I := I2) (G := G) x3 b2 (by omega)
  obtain ⟨I4, d1, d2, d3, d4, d5⟩ := c_ap (I := I3) (G := G) x4 c2 (by omega)
  obtain ⟨I5, f1, f2, f3, f4, f5⟩ := c_ap (I := I4) (G := G) x5' d2 (by omega)
  have eb : ∀ b, b ≠ 1 → b ≠ 2 → I5 b = I b := fun b z1 z2 => by rw [f3 b z1 z2, d3 b z1 z2, c3 b z1 z2, b3 b z1 z2, a3 b z1 z2]
  have eo : ∀ j, j < ln → I5 2 j = I 2 j := fun j hj => by rw [f5 j (by omega), d5 j (by omega), c5 j (by omega), b5 j (by omega), a5 j (by omega)]
  have en : ∀ k, k < 20 → I5 2 (ln + k) = by_s (x5 x1 x2 x3 x4 x5' (k / 4)) (k % 4) := by
    intro k hk
    unfold x5
    rcases (show k / 4 = 0 ∨ k / 4 = 1 ∨ k / 4 = 2 ∨ k / 4 = 3 ∨ k / 4 = 4 by omega) with q | q | q | q | q
    · rw [q, if_pos rfl, f5 _ (by omega), d5 _ (by omega), c5 _ (by omega), b5 _ (by omega), show ln + k = ln + k % 4 by omega]
      exact a4 _ (by omega)
    · rw [q, if_neg (by omega), if_pos rfl, f5 _ (by omega), d5 _ (by omega), c5 _ (by omega), show ln + k = ln + 4 + k % 4 by omega]
      exact b4 _ (by omega)
    · rw [q, if_neg (by omega), if_neg (by omega), if_pos rfl, f5 _ (by omega), d5 _ (by omega), show ln + k = ln + 4 + 4 + k % 4 by omega]
      exact c4 _ (by omega)
    · rw [q, if_neg (by omega), if_neg (by omega), if_neg (by omega), if_pos rfl, f5 _ (by omega), show ln + k = ln + 4 + 4 + 4 + k % 4 by omega]
      exact d4 _ (by omega)
    · rw [q, if_neg (by omega), if_neg (by omega), if_neg (by omega), if_neg (by omega), show ln + k = ln + 4 + 4 + 4 + 4 + k % 4 by omega]
      exact f4 _ (by omega)
  have f2' : I5 1 5 = Int32.ofNat (ln + 20) := f2
  refine ⟨I5, ?_, f2', eb, eo, en⟩
  unfold R_X11_feed_0
  rw [e5, e20, if_pos (show Int32.ofNat (ln + 20) ≤ (2000 : Int32) from (n_le (b := 2000) (by omega) (by omega)).mpr hx), a1, rb_go, b1, rb_go, c1, rb_go, d1, rb_go, f1, rb_go, f2']
theorem c_trim {ln n : Nat} {I : am_I} {G : am_G} (e5 : I 1 5 = Int32.ofNat ln) (hl : ln ≤ 2000) (hn : n ≤ ln) : R_X11_trim_0 I G (Int32.ofNat n) = some (.inl (Int32.ofNat n), am_up I 1 5 (Int32.ofNat n), G) := by
  unfold R_X11_trim_0
  rw [if_neg (n_nlt0 n (by omega)), e5, if_pos ((n_le (by omega) (by omega)).mpr hn)]
/-! four bytes in a word -/
theorem or_b (y : Int32) {b : Nat} (hb : b < 256) : ((y <<< ((8 : Int32) &&& 31)) ||| Int32.ofNat b).toBitVec.toNat = 256 * (y.toBitVec.toNat % 16777216) + b := by
  have h1 := pk_shl y ((8 : Int32) &&& 31) 8 (by decide)
  have h2 : (Int32.ofNat b).toBitVec.toNat = b := pk_tn (by omega)
  show ((y <<< ((8 : Int32) &&& 31)).toBitVec ||| (Int32.ofNat b).toBitVec).toNat = _
  rw [BitVec.toNat_or, h1, h2]
  have h3 : y.toBitVec.toNat * 2 ^ 8 % 2 ^ 32 = 2 ^ 8 * (y.toBitVec.toNat % 16777216) := by omega
  rw [h3, ← Nat.two_pow_add_eq_or_of_lt (show b < 2 ^ 8 by omega)]
theorem by_nat (w s : Int32) {k : Nat} (hs : (s.toBitVec.smod 32).toNat = k) (hk : k = 24 ∨ k = 16 ∨ k = 8 ∨ k = 0) : (w >>> s) &&& (255 : Int32) = Int32.ofNat (w.toBitVec.toNat / 2 ^ k % 256) := by
  have h := pk_shr w s k hs
  rw [pk_and (w >>> s) 8 (by decide)]
  generalize w >>> s = z at h ⊢
  have e : z.toBitVec.toNat % 2 ^ 8 = w.toBitVec.toNat / 2 ^ k % 256 := by
    have hz : z.toInt = z.toBitVec.toInt := rfl
    have hw : w.toInt = w.toBitVec.toInt := rfl
    rw [hz, hw, BitVec.toInt_eq_toNat_cond, BitVec.toInt_eq_toNat_cond, Int.shiftRight_eq_div_pow] at h
    have bz := z.toBitVec.isLt
    have bw := w.toBitVec.isLt
    generalize z.toBitVec.toNat = a at *
    generalize w.toBitVec.toNat = b at *
    rcases hk with rfl | rfl | rfl | rfl
    · split at h <;> split at h <;> omega
    · split at h <;> split at h <;> omega
    · split at h <;> split at h <;> omega
    · split at h <;> split at h <;> omega
  show Int32.ofNat (z.toBitVec.toNat % 2 ^ 8) = _
  rw [e]
theorem by_4 {y w : Int32} {b0 b1 b2 b3 r : Nat} (h0 : b0 < 256) (h1 : b1 < 256) (h2 : b2 < 256) (h3 : b3 < 256) (hw : w = (((((((y <<< ((8 : Int32) &&& 31)) ||| Int32.ofNat b0) <<< ((8 : Int32) &&& 31)) ||| Int32.ofNat b1) <<< ((8 : Int32) &&& 31)) ||| Int32.ofNat b2) <<< ((8 : Int32) &&& 31)) ||| Int32.ofNat b3) (hr : r < 4) : by_s w r = Int32.ofNat (if r = 0 then b0 else if r = 1 then b1 else if r = 2 then b2 else b3) := by
  have e : w.toBitVec.toNat = 16777216 * b0 + 65536 * b1 + 256 * b2 + b3 := by
    rw [hw, or_b _ h3, or_b _ h2, or_b _ h1, or_b _ h0]
    omega
  unfold by_s
  rcases (by omega : r = 0 ∨ r = 1 ∨ r = 2 ∨ r = 3) with rfl | rfl | rfl | rfl
  · rw [by_nat w _ (k := 24) (by decide) (by omega), e]
    congr 1
    show (16777216 * b0 + 65536 * b1 + 256 * b2 + b3) / 16777216 % 256 = b0
    omega
  · rw [by_nat w _ (k := 16) (by decide) (by omega), e]
    congr 1
    show (16777216 * b0 + 65536 * b1 + 256 * b2 + b3) / 65536 % 256 = b1
    omega
  · rw [by_nat w _ (k := 8) (by decide) (by omega), e]
    congr 1
    show (16777216 * b0 + 65536 * b1 + 256 * b2 + b3) / 256 % 256 = b2
    omega
  · rw [by_nat w _ (k := 0) (by decide) (by omega), e]
    congr 1
    show (16777216 * b0 + 65536 * b1 + 256 * b2 + b3) / 1 % 256 = b3
    omega
theorem x5_g (g : Nat → Int32) {i : Nat} (h : i < 5) : x5 (g 0) (g 1) (g 2) (g 3) (g 4) i = g i := by
  unfold x5
  rcases (by omega : i = 0 ∨ i = 1 ∨ i = 2 ∨ i = 3 ∨ i = 4) with rfl | rfl | rfl | rfl | rfl
  · rfl
  · rfl
  · rfl
  · rfl
  · rfl
/-! the text in words -/
def bt (T : List Nat) (x : Nat) : Nat := if x < T.length then T.getD x 0 else 32
section LT
variable {T : List Nat} {at0 : Nat} {f : Nat → Int32} {w : Nat}
theorem bt_b (hT : ∀ b ∈ T, b ≤ 255) (x : Nat) : bt T x < 256 := by
  unfold bt
  split
  · next h =>
    have e : T.getD x 0 = T[x] := by rw [List.getD_eq_getElem?_getD, List.getElem?_eq_getElem h]; rfl
    have := hT T[x] (List.getElem_mem h)
    omega
  · omega
theorem by_T_bt (x : Nat) : by_T T x = Int32.ofNat (bt T x) := by
  unfold by_T bt
  split <;> rfl
theorem lt_at (j : Nat) : lt_in T at0 (j + 1) f w = if w = j / 4 then ((lt_in T at0 j f (j / 4)) <<< ((8 : Int32) &&& 31)) ||| by_T T (at0 + j) else lt_in T at0 j f w := rfl
theorem lt_lo : ∀ j, j ≤ 4 * w → lt_in T at0 j f w = f w
  | 0, _ => rfl
  | j + 1, h => by rw [lt_at, if_neg (by omega), lt_lo j (by omega)]
theorem lt_hi : ∀ m, lt_in T at0 (4 * w + 4 + m) f w = lt_in T at0 (4 * w + 4) f w
  | 0 => rfl
  | m + 1 => by
    rw [show 4 * w + 4 + (m + 1) = (4 * w + 4 + m) + 1 by omega, lt_at, if_neg (by omega), lt_hi m]
theorem lt_by (hT : ∀ b ∈ T, b ≤ 255) (hw : w < 5) {r : Nat} (hr : r < 4) : by_s (lt_in T at0 20 f w) r = Int32.ofNat (bt T (at0 + (4 * w + r))) := by
  have e : lt_in T at0 20 f w = lt_in T at0 (4 * w + 4) f w := by
    rw [show 20 = 4 * w + 4 + (16 - 4 * w) by omega]
    exact lt_hi _
  have e2 : lt_in T at0 (4 * w + 4) f w = (((((((f w <<< ((8 : Int32) &&& 31)) ||| Int32.ofNat (bt T (at0 + (4 * w)))) <<< ((8 : Int32) &&& 31)) ||| Int32.ofNat (bt T (at0 + (4 * w + 1)))) <<< ((8 : Int32) &&& 31)) ||| Int32.ofNat (bt T (at0 + (4 * w + 2)))) <<< ((8 : Int32) &&& 31)) ||| Int32.ofNat (bt T (at0 + (4 * w + 3))) := by
    have d0 : 4 * w / 4 = w := by omega
    have d1 : (4 * w + 1) / 4 = w := by omega
    have d2 : (4 * w + 2) / 4 = w := by omega
    have d3 : (4 * w + 3) / 4 = w := by omega
    rw [show 4 * w + 4 = (4 * w + 3) + 1 by omega, lt_at, d3, if_pos rfl, show 4 * w + 3 = (4 * w + 2) + 1 by omega, lt_at, d2, if_pos rfl, show 4 * w + 2 = (4 * w + 1) + 1 by omega, lt_at, d1, if_pos rfl, lt_at, d0, if_pos rfl, lt_lo _ (Nat.le_refl _), by_T_bt, by_T_bt, by_T_bt, by_T_bt]
  rw [by_4 (bt_b hT _) (bt_b hT _) (bt_b hT _) (bt_b hT _) (e.trans e2) hr]
  rcases (by omega : r = 0 ∨ r = 1 ∨ r = 2 ∨ r = 3) with rfl | rfl | rfl | rfl <;> rfl
theorem lt_go_ok (hT : ∀ b ∈ T, b ≤ 255) {G : am_G} : ∀ (m k : Nat) (I : am_I) (f : Nat → Int32), 20 * (k + m) ≤ 2000 → I 1 5 = Int32.ofNat (20 * k) → (∀ j, j < 20 * k → I 2 j = Int32.ofNat (bt T j)) → ∃ I', lt_go T m k I G f = some (I', G) ∧ I' 1 5 = Int32.ofNat (20 * (k + m)) ∧ ∀ j, j < 20 * (k + m) → I' 2 j = Int32.ofNat (bt T j)
  | 0, k, I, f, h, h5, h2 => ⟨I, rfl, h5, h2⟩
  | m + 1, k, I, f, h, h5, h2 => by
    obtain ⟨I1, e1, a1, a2, a3, a4⟩ := c_feed (G := G) (lt_in T (20 * k) 20 f 0) (lt_in T (20 * k) 20 f 1) (lt_in T (20 * k) 20 f 2) (lt_in T (20 * k) 20 f 3) (lt_in T (20 * k) 20 f 4) h5 (by omega)
    have g1 : gl 79 I1 I 1 = I1 1 := gl_lt _ _ (by omega)
    have g2 : gl 79 I1 I 2 = I1 2 := gl_lt _ _ (by omega)
    obtain ⟨I', b1, b2, b3⟩ := lt_go_ok hT (G := G) m (k + 1) (gl 79 I1 I) (lt_in T (20 * k) 20 f) (by omega) (by rw [g1, a1]; rfl) (fun j hj => by
      rw [g2]
      by_cases c : j < 20 * k
      · rw [a3 j c]; exact h2 j c
      · obtain ⟨i, rfl⟩ : ∃ i, j = 20 * k + i := ⟨j - 20 * k, by omega⟩
        rw [a4 i (by omega)]
        have hx := x5_g (lt_in T (20 * k) 20 f) (show i / 4 < 5 by omega)
        rw [hx, lt_by hT (by omega) (by omega), show 4 * (i / 4) + i % 4 = i by omega])
    rw [show k + 1 + m = k + (m + 1) by omega] at b2 b3
    refine ⟨I', ?_, b2, b3⟩
    show ((clX _ I G).bind fun c => lt_go T m (k + 1) c.2.1 c.2.2 (lt_in T (20 * k) 20 f)) = _
    rw [e1, clX_go, Option.bind_some, glS]
    exact b1
end LT
