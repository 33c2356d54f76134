/-! the law's own walk: a call a theorem, the loop -/
def lw_L (i : Int32) : am_L := [(0, .ref 5000), (1, .ref 0), (2, .ref 79), (3, .ref 122), (4, .int i)]
def lw_rd (N : Nat) (xs : Nat → Int32) (i : Int32) (x : Nat → Int32) : Prop := ∀ k : Nat, 1 ≤ k → k ≤ 5 → vp_in (i + Int32.ofNat k) N ∧ xs (i + Int32.ofNat k).toNatClampNeg = x k
/-- any table of handlers -/
theorem am_xh_of {X : am_X} (h : match X with | (_, l, _, _, s, _, _, _, _, _, _, _, _, _, _, _, _) => l.stackTraces = false ∧ am_cast s) : ∃ hh, am_xh X hh := by
  obtain ⟨p, l, e, R, s, m, args, below, meth, c, A, D, cys, o', cc', nL', ini'⟩ := X
  refine ⟨c.exceptionTable.toList.map (fun q => (q.startPc, q.endPc, q.handlerPc, q.catchType)), h.1, h.2, ?_⟩
  unfold tableOf
  rw [List.map_map]
  exact (List.map_id' _).symm
section LW
variable {X : am_X} {d cells slots MC MS : Nat} {Q : State → Prop} {ad : Nat → Nat} {pc : Nat} {L : am_L} {st : List Value} {I : am_I} {G : am_G} {P : am_P} {N : Nat} {xs : Nat → Int32}
theorem am_scrx (hX : am_okz X ad) (hi : am_info X 15 code 9 false ret d) (hs : am_scr X ad N xs) {i : Int32} {x : Nat → Int32} (hx : lw_rd N xs i x) (kc : Int) (k : Nat) (hk : 1 ≤ k ∧ k ≤ 5 ∧ Int32.ofInt kc = Int32.ofNat k) (hat : am_at 15 code 9 false pc [(.aload_n 0, 1, 0, 0, .null), (.iload 4, 2, 4, 0, .null), (.iconst kc, 1, 0, 0, .int (Int32.ofInt kc)), (.iadd, 1, 0, 0, .null)] = true) (hd : decode code (pc + 1 + 2 + 1 + 1) = .ok (.iaload, 1)) (hL0 : am_lk 0 L = some (.ref 5000)) (hL4 : am_lk 4 L = some (.int i))
    (kk : am_V X cells slots Q gS ad (pc + 6, L, .int (x k) :: st, I, G, P)) : am_V X cells slots Q gS ad (pc, L, st, I, G, P) := by
  refine am_blk pc [(.aload_n 0, 1, 0, 0, .null), (.iload 4, 2, 4, 0, .null), (.iconst kc, 1, 0, 0, .int (Int32.ofInt kc)), (.iadd, 1, 0, 0, .null)] (pc + 1 + 2 + 1 + 1, L, .int (i + Int32.ofInt kc) :: .ref 5000 :: st, I, G, P) True hX hi hat (by simp only [am_run, am_st, hL0, hL4]) trivial ?_
  obtain ⟨h1, h2⟩ := hx k hk.1 hk.2.1
  rw [hk.2.2]
  refine am_sld hX hi hs h1 hd ?_
  rw [h2]
  exact kk
theorem lw_lk0 (i : Int32) (r : am_L) : am_lk 0 (lw_L i ++ r) = some (.ref 5000) := rfl
theorem lw_lk4 (i : Int32) (r : am_L) : am_lk 4 (lw_L i ++ r) = some (.int i) := rfl
end LW
theorem lg_cmp_self (x : Int64) : lg_cmp x x = 0 := by
  have h : ¬ x < x := by rw [l_lt]; omega
  first | (simp [lg_cmp, h]; done) | (unfold lg_cmp; simp [h]; done) | (unfold lg_cmp; simp)
def k_feed (Inv : am_I → am_G → Prop) : Prop := ∀ (I : am_I) (G : am_G) (x1 : Int32) (x2 : Int32) (x3 : Int32) (x4 : Int32) (x5 : Int32), Inv I G → ∃ (out : (Int32 ⊕ Nat) × am_I × am_G) (I2 : am_I) (G2 : am_G) (bb : Int32), R_X11_feed_0 I G x1 x2 x3 x4 x5 = some out ∧ (∀ k, out.1 = .inr k → k = 60) ∧ (R_X14_feed_79 (hO hn_feed I G out).2.1 (hO hn_feed I G out).2.2 x1 x2 x3 x4 x5 = some (bb, I2, G2)) ∧ I2 79 0 = (hO hn_feed I G out).1 ∧ ((hO hn_feed I G out).1 = 0 → G2 122 0 = bb.toInt64) ∧ Inv I2 G2
set_option maxRecDepth 20000 in
set_option maxHeartbeats 1000000 in
theorem w_feed {X : am_X} {hh : am_HH} {cells slots MC MS : Nat} {Q : State → Prop} {ad : Nat → Nat} {I : am_I} {G : am_G} {N : Nat} {xs : Nat → Int32} {i : Int32} {x : Nat → Int32} {Inv : am_I → am_G → Prop} (hX : am_okz X ad) (hi : am_info X 15 code 9 false ret 60) (hm : am_mem X MC MS) (hh9 : am_xh X hh) (hs : am_scr X ad N xs) (hroom : cells + 750 ≤ MC ∧ slots + 5000 ≤ MS) (hx : lw_rd N xs i x) (hF : k_feed Inv) (hI : Inv I G) (kk : ∀ (ad' : Nat → Nat) (I2 : am_I) (G2 : am_G), am_okz X ad' → am_scr X ad' N xs → Inv I2 G2 → am_V X (cells + 750) (slots + 5000) Q gS ad' (1481, lw_L i, [], I2, G2, gP 999)) : am_V X cells slots Q gS ad (152, lw_L i ++ [], [], I, G, gP 999) := by
  obtain ⟨out, I2, G2, bb, h1, hk, h2, ht, ho, hI2⟩ := hF I G (x 1) (x 2) (x 3) (x 4) (x 5) hI
  refine am_blk 152 [(.aload_n 1, 1, 1, 0, .null)] (153, lw_L i ++ [], [.ref 0], I, G, gP 999) (True) hX hi (by decide +kernel) rfl trivial ?_
  refine am_scrx hX hi hs hx 1 1 (by decide) (by decide +kernel) (by decide +kernel) (lw_lk0 _ _) (lw_lk4 _ _) ?_
  show am_V X cells slots _ gS ad (159, lw_L i ++ [], [.int (x 1), .ref 0], I, G, gP 999)
  refine am_scrx hX hi hs hx 2 2 (by decide) (by decide +kernel) (by decide +kernel) (lw_lk0 _ _) (lw_lk4 _ _) ?_
  show am_V X cells slots _ gS ad (165, lw_L i ++ [], [.int (x 2), .int (x 1), .ref 0], I, G, gP 999)
  refine am_scrx hX hi hs hx 3 3 (by decide) (by decide +kernel) (by decide +kernel) (lw_lk0 _ _) (lw_lk4 _ _) ?_
  show am_V X cells slots _ gS ad (171, lw_L i ++ [], [.int (x 3), .int (x 2), .int (x 1), .ref 0], I, G, gP 999)
  refine am_scrx hX hi hs hx 4 4 (by decide) (by decide +kernel) (by decide +kernel) (lw_lk0 _ _) (lw_lk4 _ _) ?_
  show am_V X cells slots _ gS ad (177, lw_L i ++ [], [.int (x 4), .int (x 3), .int (x 2), .int (x 1), .ref 0], I, G, gP 999)
  refine am_scrx hX hi hs hx 5 5 (by decide) (by decide +kernel) (by decide +kernel) (lw_lk0 _ _) (lw_lk4 _ _) ?_
  show am_V X cells slots _ gS ad (183, lw_L i ++ [], [.int (x 5), .int (x 4), .int (x 3), .int (x 2), .int (x 1), .ref 0], I, G, gP 999)
  refine am_blk 183 [(.aload_n 3, 1, 3, 0, .null)] (184, lw_L i ++ [], [.ref 122, .int (x 5), .int (x 4), .int (x 3), .int (x 2), .int (x 1), .ref 0], I, G, gP 999) (True) hX hi (by decide +kernel) rfl trivial ?_
  refine am_callHS hX hi hm hh9 (M := mL_feed) (hh' := hh_feed) (d' := 7) (idx := 71) (As := [.ref 0, .int (x 1), .int (x 2), .int (x 3), .int (x 4), .int (x 5), .ref 122]) (rest := []) (List.mem_of_getElem? (i := 1028) (by decide +kernel)) (List.mem_of_getElem? (i := 109) (by decide +kernel)) (List.mem_of_getElem? (i := 1027) (by decide +kernel)) (List.mem_of_getElem? (i := 1026) (by decide +kernel)) ⟨by decide, by decide⟩ (by decide +kernel) (by decide +kernel) rfl ⟨by decide, by decide, Nat.le_of_ble_eq_true rfl⟩ rfl ⟨by omega, by omega⟩ (c_L_feed I G (x 1) (x 2) (x 3) (x 4) (x 5) h1 hk) ?_
  rintro r9 I9 G9 P9 ⟨e0, e1, e2, e3⟩
  rw [e0, e1, e2, e3]
  show am_V X (cells + 1) (slots + 6) _ gS ad (187, lw_L i ++ [], [.int (hO hn_feed I G out).1], (hO hn_feed I G out).2.1, (hO hn_feed I G out).2.2, gP 999)
  refine am_blk 187 [(.istore 5, 2, 5, 0, .null), (.aload_n 2, 1, 2, 0, .null)] (190, lw_L i ++ [(5, .int (hO hn_feed I G out).1)], [.ref 79], (hO hn_feed I G out).2.1, (hO hn_feed I G out).2.2, gP 999) (True) hX hi (by decide +kernel) rfl trivial ?_
  refine am_scrx hX hi hs hx 1 1 (by decide) (by decide +kernel) (by decide +kernel) (lw_lk0 _ _) (lw_lk4 _ _) ?_
  show am_V X (cells + 1) (slots + 6) _ gS ad (196, lw_L i ++ [(5, .int (hO hn_feed I G out).1)], [.int (x 1), .ref 79], (hO hn_feed I G out).2.1, (hO hn_feed I G out).2.2, gP 999)
  refine am_scrx hX hi hs hx 2 2 (by decide) (by decide +kernel) (by decide +kernel) (lw_lk0 _ _) (lw_lk4 _ _) ?_
  show am_V X (cells + 1) (slots + 6) _ gS ad (202, lw_L i ++ [(5, .int (hO hn_feed I G out).1)], [.int (x 2), .int (x 1), .ref 79], (hO hn_feed I G out).2.1, (hO hn_feed I G out).2.2, gP 999)
  refine am_scrx hX hi hs hx 3 3 (by decide) (by decide +kernel) (by decide +kernel) (lw_lk0 _ _) (lw_lk4 _ _) ?_
  show am_V X (cells + 1) (slots + 6) _ gS ad (208, lw_L i ++ [(5, .int (hO hn_feed I G out).1)], [.int (x 3), .int (x 2), .int (x 1), .ref 79], (hO hn_feed I G out).2.1, (hO hn_feed I G out).2.2, gP 999)
  refine am_scrx hX hi hs hx 4 4 (by decide) (by decide +kernel) (by decide +kernel) (lw_lk0 _ _) (lw_lk4 _ _) ?_
  show am_V X (cells + 1) (slots + 6) _ gS ad (214, lw_L i ++ [(5, .int (hO hn_feed I G out).1)], [.int (x 4), .int (x 3), .int (x 2), .int (x 1), .ref 79], (hO hn_feed I G out).2.1, (hO hn_feed I G out).2.2, gP 999)
  refine am_scrx hX hi hs hx 5 5 (by decide) (by decide +kernel) (by decide +kernel) (lw_lk0 _ _) (lw_lk4 _ _) ?_
  show am_V X (cells + 1) (slots + 6) _ gS ad (220, lw_L i ++ [(5, .int (hO hn_feed I G out).1)], [.int (x 5), .int (x 4), .int (x 3), .int (x 2), .int (x 1), .ref 79], (hO hn_feed I G out).2.1, (hO hn_feed I G out).2.2, gP 999)
  refine am_callVM hX hi hm (M := mX14_feed) (idx := 76) (d' := 2) (mc := 1) (ms := 5) (b := 79) (ci := 12) (As := [.int (x 1), .int (x 2), .int (x 3), .int (x 4), .int (x 5)]) (rest := []) mkX14_feed miX14_feed mvX14_feed (by decide +kernel) (by decide +kernel) rfl (by decide +kernel) rfl ⟨by decide, by decide, Nat.le_of_ble_eq_true rfl⟩ rfl ⟨by omega, by omega⟩ (c_X14_feed_79 999 (by decide) (hO hn_feed I G out).2.1 (hO hn_feed I G out).2.2 (x 1) (x 2) (x 3) (x 4) (x 5) h2) ?_
  rintro r9 I9 G9 P9 ⟨e0, e1, e2, e3⟩
  rw [e0, e1, e2, e3]
  show am_V X (cells + 1 + 1) (slots + 6 + 5) _ gS ad (223, lw_L i ++ [(5, .int (hO hn_feed I G out).1)], [.int bb], I2, G2, gP 999)
  refine am_blk 223 [(.istore 6, 2, 6, 0, .null), (.aload_n 2, 1, 2, 0, .null)] (226, lw_L i ++ [(5, .int (hO hn_feed I G out).1), (6, .int bb)], [.ref 79], I2, G2, gP 999) (True) hX hi (by decide +kernel) rfl trivial ?_
  refine am_callV hX hi (M := mX14_thrown) (idx := 77) (d' := 1) (b := 79) (ci := 12) (As := []) (rest := []) mkX14_thrown miX14_thrown mvX14_thrown (by decide +kernel) (by decide +kernel) rfl (by decide +kernel) rfl ⟨by decide, by decide, Nat.le_of_ble_eq_true rfl⟩ rfl (c_X14_thrown_79 999 I2 G2) ?_
  rintro r9 I9 G9 P9 ⟨e0, e1, e2, e3⟩
  rw [e0, e1, e2, e3, show f_X14_thrown_79 I2 G2 = (hO hn_feed I G out).1 from ht]
  show am_V X (cells + 1 + 1) (slots + 6 + 5) _ gS ad (229, lw_L i ++ [(5, .int (hO hn_feed I G out).1), (6, .int bb)], [.int (hO hn_feed I G out).1], I2, G2, gP 999)
  refine am_blk 229 [(.iload 5, 2, 5, 0, .null)] (231, lw_L i ++ [(5, .int (hO hn_feed I G out).1), (6, .int bb)], [.int (hO hn_feed I G out).1, .int (hO hn_feed I G out).1], I2, G2, gP 999) (True) hX hi (by decide +kernel) rfl trivial ?_
  refine am_icmp_eq (tgt := 236) hX hi (off := (5)) (by decide +kernel) (by decide) (fun _ => ?_) (fun c => absurd rfl c)
  refine am_blk 236 [(.iload 5, 2, 5, 0, .null)] (238, lw_L i ++ [(5, .int (hO hn_feed I G out).1), (6, .int bb)], [.int (hO hn_feed I G out).1], I2, G2, gP 999) (True) hX hi (by decide +kernel) rfl trivial ?_
  have hend : am_V X (cells + 1 + 1) (slots + 6 + 5) Q gS ad (253, lw_L i ++ [(5, .int (hO hn_feed I G out).1), (6, .int bb)], [], I2, G2, gP 999) := by
    refine am_blk 253 [(.goto (1228), 3, 0, 1481, .null)] (1481, lw_L i ++ [(5, .int (hO hn_feed I G out).1), (6, .int bb)], [], I2, G2, gP 999) (True) hX hi (by decide +kernel) rfl trivial ?_
    refine am_sub (L' := lw_L i) (fun q hq => List.mem_append.mpr (Or.inl hq)) ?_
    exact am_wid hm (by omega) (by omega) hroom (kk ad I2 G2 hX hs hI2)
  refine am_if_ne (tgt := 253) hX hi (off := (15)) (by decide +kernel) (by decide) (fun _ => hend) (fun c => ?_)
  refine am_blk 241 [(.aload_n 3, 1, 3, 0, .null), (.iconst (0), 1, 0, 0, .int (0 : Int32)), (.laload, 1, 0, 0, .null), (.iload 6, 2, 6, 0, .null), (.i2l, 1, 0, 0, .null), (.lcmp, 1, 0, 0, .null)] (248, lw_L i ++ [(5, .int (hO hn_feed I G out).1), (6, .int bb)], [.int (lg_cmp (G2 122 0) bb.toInt64)], I2, G2, gP 999) (vp_in (0 : Int32) 1 ∧ True) hX hi (by decide +kernel) rfl ⟨(i_in _ _).mpr (by decide), trivial⟩ ?_
  exact am_if_eq (tgt := 253) hX hi (off := (5)) (by decide +kernel) (by decide) (fun _ => hend) (fun c2 => absurd (by rw [ho c]; exact lg_cmp_self _) c2)
def k_trim (Inv : am_I → am_G → Prop) : Prop := ∀ (I : am_I) (G : am_G) (x1 : Int32), Inv I G → ∃ (out : (Int32 ⊕ Nat) × am_I × am_G) (I2 : am_I) (G2 : am_G) (bb : Int32), R_X11_trim_0 I G x1 = some out ∧ (∀ k, out.1 = .inr k → k = 71) ∧ (f_X14_trim_79 (hO hn_trim I G out).2.1 (hO hn_trim I G out).2.2 x1 = bb ∧ g_X14_trim_79 (hO hn_trim I G out).2.1 (hO hn_trim I G out).2.2 x1 = I2 ∧ (hO hn_trim I G out).2.2 = G2) ∧ I2 79 0 = (hO hn_trim I G out).1 ∧ ((hO hn_trim I G out).1 = 0 → G2 122 0 = bb.toInt64) ∧ Inv I2 G2
set_option maxRecDepth 20000 in
set_option maxHeartbeats 1000000 in
theorem w_trim {X : am_X} {hh : am_HH} {cells slots MC MS : Nat} {Q : State → Prop} {ad : Nat → Nat} {I : am_I} {G : am_G} {N : Nat} {xs : Nat → Int32} {i : Int32} {x : Nat → Int32} {Inv : am_I → am_G → Prop} (hX : am_okz X ad) (hi : am_info X 15 code 9 false ret 60) (hm : am_mem X MC MS) (hh9 : am_xh X hh) (hs : am_scr X ad N xs) (hroom : cells + 750 ≤ MC ∧ slots + 5000 ≤ MS) (hx : lw_rd N xs i x) (hF : k_trim Inv) (hI : Inv I G) (kk : ∀ (ad' : Nat → Nat) (I2 : am_I) (G2 : am_G), am_okz X ad' → am_scr X ad' N xs → Inv I2 G2 → am_V X (cells + 750) (slots + 5000) Q gS ad' (1481, lw_L i, [], I2, G2, gP 999)) : am_V X cells slots Q gS ad (256, lw_L i ++ [], [], I, G, gP 999) := by
  obtain ⟨out, I2, G2, bb, h1, hk, h2, ht, ho, hI2⟩ := hF I G (x 1) hI
  refine am_blk 256 [(.aload_n 1, 1, 1, 0, .null)] (257, lw_L i ++ [], [.ref 0], I, G, gP 999) (True) hX hi (by decide +kernel) rfl trivial ?_
  refine am_scrx hX hi hs hx 1 1 (by decide) (by decide +kernel) (by decide +kernel) (lw_lk0 _ _) (lw_lk4 _ _) ?_
  show am_V X cells slots _ gS ad (263, lw_L i ++ [], [.int (x 1), .ref 0], I, G, gP 999)
  refine am_blk 263 [(.aload_n 3, 1, 3, 0, .null)] (264, lw_L i ++ [], [.ref 122, .int (x 1), .ref 0], I, G, gP 999) (True) hX hi (by decide +kernel) rfl trivial ?_
  refine am_callHS hX hi hm hh9 (M := mL_trim) (hh' := hh_trim) (d' := 7) (idx := 81) (As := [.ref 0, .int (x 1), .ref 122]) (rest := []) (List.mem_of_getElem? (i := 1107) (by decide +kernel)) (List.mem_of_getElem? (i := 109) (by decide +kernel)) (List.mem_of_getElem? (i := 1106) (by decide +kernel)) (List.mem_of_getElem? (i := 1105) (by decide +kernel)) ⟨by decide, by decide⟩ (by decide +kernel) (by decide +kernel) rfl ⟨by decide, by decide, Nat.le_of_ble_eq_true rfl⟩ rfl ⟨by omega, by omega⟩ (c_L_trim I G (x 1) h1 hk) ?_
  rintro r9 I9 G9 P9 ⟨e0, e1, e2, e3⟩
  rw [e0, e1, e2, e3]
  show am_V X (cells + 1) (slots + 6) _ gS ad (267, lw_L i ++ [], [.int (hO hn_trim I G out).1], (hO hn_trim I G out).2.1, (hO hn_trim I G out).2.2, gP 999)
  refine am_blk 267 [(.istore 5, 2, 5, 0, .null), (.aload_n 2, 1, 2, 0, .null)] (270, lw_L i ++ [(5, .int (hO hn_trim I G out).1)], [.ref 79], (hO hn_trim I G out).2.1, (hO hn_trim I G out).2.2, gP 999) (True) hX hi (by decide +kernel) rfl trivial ?_
  refine am_scrx hX hi hs hx 1 1 (by decide) (by decide +kernel) (by decide +kernel) (lw_lk0 _ _) (lw_lk4 _ _) ?_
  show am_V X (cells + 1) (slots + 6) _ gS ad (276, lw_L i ++ [(5, .int (hO hn_trim I G out).1)], [.int (x 1), .ref 79], (hO hn_trim I G out).2.1, (hO hn_trim I G out).2.2, gP 999)
  obtain ⟨h2, h3, h4⟩ := h2
  refine am_callV hX hi (M := mX14_trim) (idx := 84) (d' := 2) (b := 79) (ci := 12) (As := [.int (x 1)]) (rest := []) mkX14_trim miX14_trim mvX14_trim (by decide +kernel) (by decide +kernel) rfl (by decide +kernel) rfl ⟨by decide, by decide, Nat.le_of_ble_eq_true rfl⟩ rfl (c_X14_trim_79 999 (hO hn_trim I G out).2.1 (hO hn_trim I G out).2.2 (x 1) ) ?_
  rintro r9 I9 G9 P9 ⟨e0, e1, e2, e3⟩
  rw [e0, e1, e2, e3]
  rw [h2, h3, h4]
  show am_V X (cells + 1) (slots + 6) _ gS ad (279, lw_L i ++ [(5, .int (hO hn_trim I G out).1)], [.int bb], I2, G2, gP 999)
  refine am_blk 279 [(.istore 6, 2, 6, 0, .null), (.aload_n 2, 1, 2, 0, .null)] (282, lw_L i ++ [(5, .int (hO hn_trim I G out).1), (6, .int bb)], [.ref 79], I2, G2, gP 999) (True) hX hi (by decide +kernel) rfl trivial ?_
  refine am_callV hX hi (M := mX14_thrown) (idx := 77) (d' := 1) (b := 79) (ci := 12) (As := []) (rest := []) mkX14_thrown miX14_thrown mvX14_thrown (by decide +kernel) (by decide +kernel) rfl (by decide +kernel) rfl ⟨by decide, by decide, Nat.le_of_ble_eq_true rfl⟩ rfl (c_X14_thrown_79 999 I2 G2) ?_
  rintro r9 I9 G9 P9 ⟨e0, e1, e2, e3⟩
  rw [e0, e1, e2, e3, show f_X14_thrown_79 I2 G2 = (hO hn_trim I G out).1 from ht]
  show am_V X (cells + 1) (slots + 6) _ gS ad (285, lw_L i ++ [(5, .int (hO hn_trim I G out).1), (6, .int bb)], [.int (hO hn_trim I G out).1], I2, G2, gP 999)
  refine am_blk 285 [(.iload 5, 2, 5, 0, .null)] (287, lw_L i ++ [(5, .int (hO hn_trim I G out).1), (6, .int bb)], [.int (hO hn_trim I G out).1, .int (hO hn_trim I G out).1], I2, G2, gP 999) (True) hX hi (by decide +kernel) rfl trivial ?_
  refine am_icmp_eq (tgt := 292) hX hi (off := (5)) (by decide +kernel) (by decide) (fun _ => ?_) (fun c => absurd rfl c)
  refine am_blk 292 [(.iload 5, 2, 5, 0, .null)] (294, lw_L i ++ [(5, .int (hO hn_trim I G out).1), (6, .int bb)], [.int (hO hn_trim I G out).1], I2, G2, gP 999) (True) hX hi (by decide +kernel) rfl trivial ?_
  have hend : am_V X (cells + 1) (slots + 6) Q gS ad (309, lw_L i ++ [(5, .int (hO hn_trim I G out).1), (6, .int bb)], [], I2, G2, gP 999) := by
    refine am_blk 309 [(.goto (1172), 3, 0, 1481, .null)] (1481, lw_L i ++ [(5, .int (hO hn_trim I G out).1), (6, .int bb)], [], I2, G2, gP 999) (True) hX hi (by decide +kernel) rfl trivial ?_
    refine am_sub (L' := lw_L i) (fun q hq => List.mem_append.mpr (Or.inl hq)) ?_
    exact am_wid hm (by omega) (by omega) hroom (kk ad I2 G2 hX hs hI2)
  refine am_if_ne (tgt := 309) hX hi (off := (15)) (by decide +kernel) (by decide) (fun _ => hend) (fun c => ?_)
  refine am_blk 297 [(.aload_n 3, 1, 3, 0, .null), (.iconst (0), 1, 0, 0, .int (0 : Int32)), (.laload, 1, 0, 0, .null), (.iload 6, 2, 6, 0, .null), (.i2l, 1, 0, 0, .null), (.lcmp, 1, 0, 0, .null)] (304, lw_L i ++ [(5, .int (hO hn_trim I G out).1), (6, .int bb)], [.int (lg_cmp (G2 122 0) bb.toInt64)], I2, G2, gP 999) (vp_in (0 : Int32) 1 ∧ True) hX hi (by decide +kernel) rfl ⟨(i_in _ _).mpr (by decide), trivial⟩ ?_
  exact am_if_eq (tgt := 309) hX hi (off := (5)) (by decide +kernel) (by decide) (fun _ => hend) (fun c2 => absurd (by rw [ho c]; exact lg_cmp_self _) c2)
def k_teach (Inv : am_I → am_G → Prop) : Prop := ∀ (I : am_I) (G : am_G) , Inv I G → ∃ (bb : Int32) (I1 : am_I) (G1 : am_G) (I2 : am_I) (G2 : am_G), (R_X11_teach_0 I G  = some (bb, I1, G1)) ∧ (R_X14_teach_79 I1 G1  = some (bb, I2, G2)) ∧ Inv I2 G2
set_option maxRecDepth 20000 in
set_option maxHeartbeats 1000000 in
theorem w_teach {X : am_X} {hh : am_HH} {cells slots MC MS : Nat} {Q : State → Prop} {ad : Nat → Nat} {I : am_I} {G : am_G} {N : Nat} {xs : Nat → Int32} {i : Int32} {x : Nat → Int32} {Inv : am_I → am_G → Prop} (hX : am_okz X ad) (hi : am_info X 15 code 9 false ret 60) (hm : am_mem X MC MS) (hh9 : am_xh X hh) (hs : am_scr X ad N xs) (hroom : cells + 750 ≤ MC ∧ slots + 5000 ≤ MS) (hF : k_teach Inv) (hI : Inv I G) (kk : ∀ (ad' : Nat → Nat) (I2 : am_I) (G2 : am_G), am_okz X ad' → am_scr X ad' N xs → Inv I2 G2 → am_V X (cells + 750) (slots + 5000) Q gS ad' (1481, lw_L i, [], I2, G2, gP 999)) : am_V X cells slots Q gS ad (312, lw_L i ++ [], [], I, G, gP 999) := by
  obtain ⟨bb, I1, G1, I2, G2, h1, h2, hI2⟩ := hF I G  hI
  refine am_blk 312 [(.aload_n 1, 1, 1, 0, .null)] (313, lw_L i ++ [], [.ref 0], I, G, gP 999) (True) hX hi (by decide +kernel) rfl trivial ?_
  refine am_callV hX hi (M := mX11_teach) (idx := 85) (d' := 51) (b := 0) (ci := 9) (As := []) (rest := []) mkX11_teach miX11_teach mvX11_teach (by decide +kernel) (by decide +kernel) rfl (by decide +kernel) rfl ⟨by decide, by decide, Nat.le_of_ble_eq_true rfl⟩ rfl (c_X11_teach_0 999 I G  h1) ?_
  rintro r9 I9 G9 P9 ⟨e0, e1, e2, e3⟩
  rw [e0, e1, e2, e3]
  show am_V X cells slots _ gS ad (316, lw_L i ++ [], [.int bb], I1, G1, gP 999)
  refine am_blk 316 [(.aload_n 2, 1, 2, 0, .null)] (317, lw_L i ++ [], [.ref 79, .int bb], I1, G1, gP 999) (True) hX hi (by decide +kernel) rfl trivial ?_
  refine am_callVT hX hi hm (M := mX14_teach) (idx := 88) (d' := 52) (mc := 16) (ms := 1360) (b := 79) (ci := 12) (As := []) (rest := [.int bb]) mkX14_teach miX14_teach mvX14_teach (by decide +kernel) (by decide +kernel) rfl (by decide +kernel) rfl ⟨by decide, by decide, Nat.le_of_ble_eq_true rfl⟩ rfl ⟨by omega, by omega⟩ (fun ad' had => ?_) (c_X14_teach_79 I1 G1 h2) ?_
  · have a0 := had 5000 (by omega)
    have a1 := had 0 (by omega)
    have a2 := had 79 (by omega)
    have a3 := had 122 (by omega)
    simp only [lw_L, List.map_cons, List.map_nil, List.append_nil, am_tl, am_tv, a0, a1, a2, a3, and_self]
  rintro r9 ad2 I9 G9 ⟨e0, e1, e2⟩ had
  rw [e0, e1, e2]
  have hX := hX.adr (fun j hj => had j (Or.inr hj))
  have hs := hs.adr (had 5000 (by omega))
  show am_V X (cells + 16) (slots + 1360) _ gS ad2 (320, lw_L i ++ [], [.int bb, .int bb], I2, G2, gP 999)
  refine am_icmp_eq (tgt := 1481) hX hi (off := (1161)) (by decide +kernel) (by decide) (fun _ => ?_) (fun c => absurd rfl c)
  refine am_sub (L' := lw_L i) (fun q hq => List.mem_append.mpr (Or.inl hq)) ?_
  exact am_wid hm (by omega) (by omega) hroom (kk ad2 I2 G2 hX hs hI2)
def k_errorAt (Inv : am_I → am_G → Prop) : Prop := ∀ (I : am_I) (G : am_G) , Inv I G → ∃ (bb : Int32) (I1 : am_I) (G1 : am_G) (I2 : am_I) (G2 : am_G), (f_X11_errorAt_0 I G  = bb ∧ I = I1 ∧ G = G1) ∧ (f_X14_errorAt_79 I1 G1  = bb ∧ g_X14_errorAt_79 I1 G1  = I2 ∧ G1 = G2) ∧ Inv I2 G2
set_option maxRecDepth 20000 in
set_option maxHeartbeats 1000000 in
theorem w_errorAt {X : am_X} {hh : am_HH} {cells slots MC MS : Nat} {Q : State → Prop} {ad : Nat → Nat} {I : am_I} {G : am_G} {N : Nat} {xs : Nat → Int32} {i : Int32} {x : Nat → Int32} {Inv : am_I → am_G → Prop} (hX : am_okz X ad) (hi : am_info X 15 code 9 false ret 60) (hm : am_mem X MC MS) (hh9 : am_xh X hh) (hs : am_scr X ad N xs) (hroom : cells + 750 ≤ MC ∧ slots + 5000 ≤ MS) (hF : k_errorAt Inv) (hI : Inv I G) (kk : ∀ (ad' : Nat → Nat) (I2 : am_I) (G2 : am_G), am_okz X ad' → am_scr X ad' N xs → Inv I2 G2 → am_V X (cells + 750) (slots + 5000) Q gS ad' (1481, lw_L i, [], I2, G2, gP 999)) : am_V X cells slots Q gS ad (325, lw_L i ++ [], [], I, G, gP 999) := by
  obtain ⟨bb, I1, G1, I2, G2, h1, h2, hI2⟩ := hF I G  hI
  refine am_blk 325 [(.aload_n 1, 1, 1, 0, .null)] (326, lw_L i ++ [], [.ref 0], I, G, gP 999) (True) hX hi (by decide +kernel) rfl trivial ?_
  obtain ⟨h1, h3, h4⟩ := h1
  refine am_callV hX hi (M := mX11_errorAt) (idx := 89) (d' := 1) (b := 0) (ci := 9) (As := []) (rest := []) mkX11_errorAt miX11_errorAt mvX11_errorAt (by decide +kernel) (by decide +kernel) rfl (by decide +kernel) rfl ⟨by decide, by decide, Nat.le_of_ble_eq_true rfl⟩ rfl (c_X11_errorAt_0 999 I G  ) ?_
  rintro r9 I9 G9 P9 ⟨e0, e1, e2, e3⟩
  rw [e0, e1, e2, e3]
  rw [h1, h3, h4]
  show am_V X cells slots _ gS ad (329, lw_L i ++ [], [.int bb], I1, G1, gP 999)
  refine am_blk 329 [(.aload_n 2, 1, 2, 0, .null)] (330, lw_L i ++ [], [.ref 79, .int bb], I1, G1, gP 999) (True) hX hi (by decide +kernel) rfl trivial ?_
  obtain ⟨h2, h3, h4⟩ := h2
  refine am_callV hX hi (M := mX14_errorAt) (idx := 92) (d' := 1) (b := 79) (ci := 12) (As := []) (rest := [.int bb]) mkX14_errorAt miX14_errorAt mvX14_errorAt (by decide +kernel) (by decide +kernel) rfl (by decide +kernel) rfl ⟨by decide, by decide, Nat.le_of_ble_eq_true rfl⟩ rfl (c_X14_errorAt_79 999 I1 G1  ) ?_
  rintro r9 I9 G9 P9 ⟨e0, e1, e2, e3⟩
  rw [e0, e1, e2, e3]
  rw [h2, h3, h4]
  show am_V X (cells) (slots) _ gS ad (333, lw_L i ++ [], [.int bb, .int bb], I2, G2, gP 999)
  refine am_icmp_eq (tgt := 1481) hX hi (off := (1148)) (by decide +kernel) (by decide) (fun _ => ?_) (fun c => absurd rfl c)
  refine am_sub (L' := lw_L i) (fun q hq => List.mem_append.mpr (Or.inl hq)) ?_
  exact am_wid hm (by omega) (by omega) hroom (kk ad I2 G2 hX hs hI2)
def k_count (Inv : am_I → am_G → Prop) : Prop := ∀ (I : am_I) (G : am_G) (x1 : Int32), Inv I G → ∃ (out : (Int32 ⊕ Nat) × am_I × am_G) (I2 : am_I) (G2 : am_G) (bb : Int32), R_X11_count_0 I G x1 = some out ∧ (∀ k, out.1 = .inr k → k = 93) ∧ (R_X14_count_79 (hO hn_count I G out).2.1 (hO hn_count I G out).2.2 x1 = some (bb, I2, G2)) ∧ I2 79 0 = (hO hn_count I G out).1 ∧ ((hO hn_count I G out).1 = 0 → G2 122 0 = bb.toInt64) ∧ Inv I2 G2
set_option maxRecDepth 20000 in
set_option maxHeartbeats 1000000 in
theorem w_count {X : am_X} {hh : am_HH} {cells slots MC MS : Nat} {Q : State → Prop} {ad : Nat → Nat} {I : am_I} {G : am_G} {N : Nat} {xs : Nat → Int32} {i : Int32} {x : Nat → Int32} {Inv : am_I → am_G → Prop} (hX : am_okz X ad) (hi : am_info X 15 code 9 false ret 60) (hm : am_mem X MC MS) (hh9 : am_xh X hh) (hs : am_scr X ad N xs) (hroom : cells + 750 ≤ MC ∧ slots + 5000 ≤ MS) (hx : lw_rd N xs i x) (hF : k_count Inv) (hI : Inv I G) (kk : ∀ (ad' : Nat → Nat) (I2 : am_I) (G2 : am_G), am_okz X ad' → am_scr X ad' N xs → Inv I2 G2 → am_V X (cells + 750) (slots + 5000) Q gS ad' (1481, lw_L i, [], I2, G2, gP 999)) : am_V X cells slots Q gS ad (338, lw_L i ++ [], [], I, G, gP 999) := by
  obtain ⟨out, I2, G2, bb, h1, hk, h2, ht, ho, hI2⟩ := hF I G (x 1) hI
  refine am_blk 338 [(.aload_n 1, 1, 1, 0, .null)] (339, lw_L i ++ [], [.ref 0], I, G, gP 999) (True) hX hi (by decide +kernel) rfl trivial ?_
  refine am_scrx hX hi hs hx 1 1 (by decide) (by decide +kernel) (by decide +kernel) (lw_lk0 _ _) (lw_lk4 _ _) ?_
  show am_V X cells slots _ gS ad (345, lw_L i ++ [], [.int (x 1), .ref 0], I, G, gP 999)
  refine am_blk 345 [(.aload_n 3, 1, 3, 0, .null)] (346, lw_L i ++ [], [.ref 122, .int (x 1), .ref 0], I, G, gP 999) (True) hX hi (by decide +kernel) rfl trivial ?_
  refine am_callHS hX hi hm hh9 (M := mL_count) (hh' := hh_count) (d' := 10) (idx := 93) (As := [.ref 0, .int (x 1), .ref 122]) (rest := []) (List.mem_of_getElem? (i := 1131) (by decide +kernel)) (List.mem_of_getElem? (i := 109) (by decide +kernel)) (List.mem_of_getElem? (i := 1130) (by decide +kernel)) (List.mem_of_getElem? (i := 1129) (by decide +kernel)) ⟨by decide, by decide⟩ (by decide +kernel) (by decide +kernel) rfl ⟨by decide, by decide, Nat.le_of_ble_eq_true rfl⟩ rfl ⟨by omega, by omega⟩ (c_L_count I G (x 1) h1 hk) ?_
  rintro r9 I9 G9 P9 ⟨e0, e1, e2, e3⟩
  rw [e0, e1, e2, e3]
  show am_V X (cells + 1) (slots + 6) _ gS ad (349, lw_L i ++ [], [.int (hO hn_count I G out).1], (hO hn_count I G out).2.1, (hO hn_count I G out).2.2, gP 999)
  refine am_blk 349 [(.istore 5, 2, 5, 0, .null), (.aload_n 2, 1, 2, 0, .null)] (352, lw_L i ++ [(5, .int (hO hn_count I G out).1)], [.ref 79], (hO hn_count I G out).2.1, (hO hn_count I G out).2.2, gP 999) (True) hX hi (by decide +kernel) rfl trivial ?_
  refine am_scrx hX hi hs hx 1 1 (by decide) (by decide +kernel) (by decide +kernel) (lw_lk0 _ _) (lw_lk4 _ _) ?_
  show am_V X (cells + 1) (slots + 6) _ gS ad (358, lw_L i ++ [(5, .int (hO hn_count I G out).1)], [.int (x 1), .ref 79], (hO hn_count I G out).2.1, (hO hn_count I G out).2.2, gP 999)
  refine am_callVM hX hi hm (M := mX14_count) (idx := 95) (d' := 14) (mc := 1) (ms := 7) (b := 79) (ci := 12) (As := [.int (x 1)]) (rest := []) mkX14_count miX14_count mvX14_count (by decide +kernel) (by decide +kernel) rfl (by decide +kernel) rfl ⟨by decide, by decide, Nat.le_of_ble_eq_true rfl⟩ rfl ⟨by omega, by omega⟩ (c_X14_count_79 999 (by decide) (hO hn_count I G out).2.1 (hO hn_count I G out).2.2 (x 1) h2) ?_
  rintro r9 I9 G9 P9 ⟨e0, e1, e2, e3⟩
  rw [e0, e1, e2, e3]
  show am_V X (cells + 1 + 1) (slots + 6 + 7) _ gS ad (361, lw_L i ++ [(5, .int (hO hn_count I G out).1)], [.int bb], I2, G2, gP 999)
  refine am_blk 361 [(.istore 6, 2, 6, 0, .null), (.aload_n 2, 1, 2, 0, .null)] (364, lw_L i ++ [(5, .int (hO hn_count I G out).1), (6, .int bb)], [.ref 79], I2, G2, gP 999) (True) hX hi (by decide +kernel) rfl trivial ?_
  refine am_callV hX hi (M := mX14_thrown) (idx := 77) (d' := 1) (b := 79) (ci := 12) (As := []) (rest := []) mkX14_thrown miX14_thrown mvX14_thrown (by decide +kernel) (by decide +kernel) rfl (by decide +kernel) rfl ⟨by decide, by decide, Nat.le_of_ble_eq_true rfl⟩ rfl (c_X14_thrown_79 999 I2 G2) ?_
  rintro r9 I9 G9 P9 ⟨e0, e1, e2, e3⟩
  rw [e0, e1, e2, e3, show f_X14_thrown_79 I2 G2 = (hO hn_count I G out).1 from ht]
  show am_V X (cells + 1 + 1) (slots + 6 + 7) _ gS ad (367, lw_L i ++ [(5, .int (hO hn_count I G out).1), (6, .int bb)], [.int (hO hn_count I G out).1], I2, G2, gP 999)
  refine am_blk 367 [(.iload 5, 2, 5, 0, .null)] (369, lw_L i ++ [(5, .int (hO hn_count I G out).1), (6, .int bb)], [.int (hO hn_count I G out).1, .int (hO hn_count I G out).1], I2, G2, gP 999) (True) hX hi (by decide +kernel) rfl trivial ?_
  refine am_icmp_eq (tgt := 374) hX hi (off := (5)) (by decide +kernel) (by decide) (fun _ => ?_) (fun c => absurd rfl c)
  refine am_blk 374 [(.iload 5, 2, 5, 0, .null)] (376, lw_L i ++ [(5, .int (hO hn_count I G out).1), (6, .int bb)], [.int (hO hn_count I G out).1], I2, G2, gP 999) (True) hX hi (by decide +kernel) rfl trivial ?_
  have hend : am_V X (cells + 1 + 1) (slots + 6 + 7) Q gS ad (391, lw_L i ++ [(5, .int (hO hn_count I G out).1), (6, .int bb)], [], I2, G2, gP 999) := by
    refine am_blk 391 [(.goto (1090), 3, 0, 1481, .null)] (1481, lw_L i ++ [(5, .int (hO hn_count I G out).1), (6, .int bb)], [], I2, G2, gP 999) (True) hX hi (by decide +kernel) rfl trivial ?_
    refine am_sub (L' := lw_L i) (fun q hq => List.mem_append.mpr (Or.inl hq)) ?_
    exact am_wid hm (by omega) (by omega) hroom (kk ad I2 G2 hX hs hI2)
  refine am_if_ne (tgt := 391) hX hi (off := (15)) (by decide +kernel) (by decide) (fun _ => hend) (fun c => ?_)
  refine am_blk 379 [(.aload_n 3, 1, 3, 0, .null), (.iconst (0), 1, 0, 0, .int (0 : Int32)), (.laload, 1, 0, 0, .null), (.iload 6, 2, 6, 0, .null), (.i2l, 1, 0, 0, .null), (.lcmp, 1, 0, 0, .null)] (386, lw_L i ++ [(5, .int (hO hn_count I G out).1), (6, .int bb)], [.int (lg_cmp (G2 122 0) bb.toInt64)], I2, G2, gP 999) (vp_in (0 : Int32) 1 ∧ True) hX hi (by decide +kernel) rfl ⟨(i_in _ _).mpr (by decide), trivial⟩ ?_
  exact am_if_eq (tgt := 391) hX hi (off := (5)) (by decide +kernel) (by decide) (fun _ => hend) (fun c2 => absurd (by rw [ho c]; exact lg_cmp_self _) c2)
def k_height (Inv : am_I → am_G → Prop) : Prop := ∀ (I : am_I) (G : am_G) (x1 : Int32) (x2 : Int32), Inv I G → ∃ (bb : Int32) (I1 : am_I) (G1 : am_G) (I2 : am_I) (G2 : am_G), (R_X11_height_0 I G x1 x2 = some (bb, I1, G1)) ∧ (R_X14_height_79 I1 G1 x1 x2 = some (bb, I2, G2)) ∧ Inv I2 G2
set_option maxRecDepth 20000 in
set_option maxHeartbeats 1000000 in
theorem w_height {X : am_X} {hh : am_HH} {cells slots MC MS : Nat} {Q : State → Prop} {ad : Nat → Nat} {I : am_I} {G : am_G} {N : Nat} {xs : Nat → Int32} {i : Int32} {x : Nat → Int32} {Inv : am_I → am_G → Prop} (hX : am_okz X ad) (hi : am_info X 15 code 9 false ret 60) (hm : am_mem X MC MS) (hh9 : am_xh X hh) (hs : am_scr X ad N xs) (hroom : cells + 750 ≤ MC ∧ slots + 5000 ≤ MS) (hx : lw_rd N xs i x) (hF : k_height Inv) (hI : Inv I G) (kk : ∀ (ad' : Nat → Nat) (I2 : am_I) (G2 : am_G), am_okz X ad' → am_scr X ad' N xs → Inv I2 G2 → am_V X (cells + 750) (slots + 5000) Q gS ad' (1481, lw_L i, [], I2, G2, gP 999)) : am_V X cells slots Q gS ad (394, lw_L i ++ [], [], I, G, gP 999) := by
  obtain ⟨bb, I1, G1, I2, G2, h1, h2, hI2⟩ := hF I G (x 1) (x 2) hI
  refine am_blk 394 [(.aload_n 1, 1, 1, 0, .null)] (395, lw_L i ++ [], [.ref 0], I, G, gP 999) (True) hX hi (by decide +kernel) rfl trivial ?_
  refine am_scrx hX hi hs hx 1 1 (by decide) (by decide +kernel) (by decide +kernel) (lw_lk0 _ _) (lw_lk4 _ _) ?_
  show am_V X cells slots _ gS ad (401, lw_L i ++ [], [.int (x 1), .ref 0], I, G, gP 999)
  refine am_scrx hX hi hs hx 2 2 (by decide) (by decide +kernel) (by decide +kernel) (lw_lk0 _ _) (lw_lk4 _ _) ?_
  show am_V X cells slots _ gS ad (407, lw_L i ++ [], [.int (x 2), .int (x 1), .ref 0], I, G, gP 999)
  refine am_callV hX hi (M := mX11_height) (idx := 96) (d' := 8) (b := 0) (ci := 9) (As := [.int (x 1), .int (x 2)]) (rest := []) mkX11_height miX11_height mvX11_height (by decide +kernel) (by decide +kernel) rfl (by decide +kernel) rfl ⟨by decide, by decide, Nat.le_of_ble_eq_true rfl⟩ rfl (c_X11_height_0 999 I G (x 1) (x 2) h1) ?_
  rintro r9 I9 G9 P9 ⟨e0, e1, e2, e3⟩
  rw [e0, e1, e2, e3]
  show am_V X cells slots _ gS ad (410, lw_L i ++ [], [.int bb], I1, G1, gP 999)
  refine am_blk 410 [(.aload_n 2, 1, 2, 0, .null)] (411, lw_L i ++ [], [.ref 79, .int bb], I1, G1, gP 999) (True) hX hi (by decide +kernel) rfl trivial ?_
  refine am_scrx hX hi hs hx 1 1 (by decide) (by decide +kernel) (by decide +kernel) (lw_lk0 _ _) (lw_lk4 _ _) ?_
  show am_V X cells slots _ gS ad (417, lw_L i ++ [], [.int (x 1), .ref 79, .int bb], I1, G1, gP 999)
  refine am_scrx hX hi hs hx 2 2 (by decide) (by decide +kernel) (by decide +kernel) (lw_lk0 _ _) (lw_lk4 _ _) ?_
  show am_V X cells slots _ gS ad (423, lw_L i ++ [], [.int (x 2), .int (x 1), .ref 79, .int bb], I1, G1, gP 999)
  refine am_callV hX hi (M := mX14_height) (idx := 99) (d' := 10) (b := 79) (ci := 12) (As := [.int (x 1), .int (x 2)]) (rest := [.int bb]) mkX14_height miX14_height mvX14_height (by decide +kernel) (by decide +kernel) rfl (by decide +kernel) rfl ⟨by decide, by decide, Nat.le_of_ble_eq_true rfl⟩ rfl (c_X14_height_79 999 I1 G1 (x 1) (x 2) h2) ?_
  rintro r9 I9 G9 P9 ⟨e0, e1, e2, e3⟩
  rw [e0, e1, e2, e3]
  show am_V X (cells) (slots) _ gS ad (426, lw_L i ++ [], [.int bb, .int bb], I2, G2, gP 999)
  refine am_icmp_eq (tgt := 1481) hX hi (off := (1055)) (by decide +kernel) (by decide) (fun _ => ?_) (fun c => absurd rfl c)
  refine am_sub (L' := lw_L i) (fun q hq => List.mem_append.mpr (Or.inl hq)) ?_
  exact am_wid hm (by omega) (by omega) hroom (kk ad I2 G2 hX hs hI2)
def k_ink (Inv : am_I → am_G → Prop) : Prop := ∀ (I : am_I) (G : am_G) (x1 : Int32) (x2 : Int32), Inv I G → ∃ (bb : Int32) (I1 : am_I) (G1 : am_G) (I2 : am_I) (G2 : am_G), (R_X11_ink_0 I G x1 x2 = some (bb, I1, G1)) ∧ (R_X14_ink_79 I1 G1 x1 x2 = some (bb, I2, G2)) ∧ Inv I2 G2
set_option maxRecDepth 20000 in
set_option maxHeartbeats 1000000 in
theorem w_ink {X : am_X} {hh : am_HH} {cells slots MC MS : Nat} {Q : State → Prop} {ad : Nat → Nat} {I : am_I} {G : am_G} {N : Nat} {xs : Nat → Int32} {i : Int32} {x : Nat → Int32} {Inv : am_I → am_G → Prop} (hX : am_okz X ad) (hi : am_info X 15 code 9 false ret 60) (hm : am_mem X MC MS) (hh9 : am_xh X hh) (hs : am_scr X ad N xs) (hroom : cells + 750 ≤ MC ∧ slots + 5000 ≤ MS) (hx : lw_rd N xs i x) (hF : k_ink Inv) (hI : Inv I G) (kk : ∀ (ad' : Nat → Nat) (I2 : am_I) (G2 : am_G), am_okz X ad' → am_scr X ad' N xs → Inv I2 G2 → am_V X (cells + 750) (slots + 5000) Q gS ad' (1481, lw_L i, [], I2, G2, gP 999)) : am_V X cells slots Q gS ad (431, lw_L i ++ [], [], I, G, gP 999) := by
  obtain ⟨bb, I1, G1, I2, G2, h1, h2, hI2⟩ := hF I G (x 1) (x 2) hI
  refine am_blk 431 [(.aload_n 1, 1, 1, 0, .null)] (432, lw_L i ++ [], [.ref 0], I, G, gP 999) (True) hX hi (by decide +kernel) rfl trivial ?_
  refine am_scrx hX hi hs hx 1 1 (by decide) (by decide +kernel) (by decide +kernel) (lw_lk0 _ _) (lw_lk4 _ _) ?_
  show am_V X cells slots _ gS ad (438, lw_L i ++ [], [.int (x 1), .ref 0], I, G, gP 999)
  refine am_scrx hX hi hs hx 2 2 (by decide) (by decide +kernel) (by decide +kernel) (lw_lk0 _ _) (lw_lk4 _ _) ?_
  show am_V X cells slots _ gS ad (444, lw_L i ++ [], [.int (x 2), .int (x 1), .ref 0], I, G, gP 999)
  refine am_callV hX hi (M := mX11_ink) (idx := 100) (d' := 8) (b := 0) (ci := 9) (As := [.int (x 1), .int (x 2)]) (rest := []) mkX11_ink miX11_ink mvX11_ink (by decide +kernel) (by decide +kernel) rfl (by decide +kernel) rfl ⟨by decide, by decide, Nat.le_of_ble_eq_true rfl⟩ rfl (c_X11_ink_0 999 I G (x 1) (x 2) h1) ?_
  rintro r9 I9 G9 P9 ⟨e0, e1, e2, e3⟩
  rw [e0, e1, e2, e3]
  show am_V X cells slots _ gS ad (447, lw_L i ++ [], [.int bb], I1, G1, gP 999)
  refine am_blk 447 [(.aload_n 2, 1, 2, 0, .null)] (448, lw_L i ++ [], [.ref 79, .int bb], I1, G1, gP 999) (True) hX hi (by decide +kernel) rfl trivial ?_
  refine am_scrx hX hi hs hx 1 1 (by decide) (by decide +kernel) (by decide +kernel) (lw_lk0 _ _) (lw_lk4 _ _) ?_
  show am_V X cells slots _ gS ad (454, lw_L i ++ [], [.int (x 1), .ref 79, .int bb], I1, G1, gP 999)
  refine am_scrx hX hi hs hx 2 2 (by decide) (by decide +kernel) (by decide +kernel) (lw_lk0 _ _) (lw_lk4 _ _) ?_
  show am_V X cells slots _ gS ad (460, lw_L i ++ [], [.int (x 2), .int (x 1), .ref 79, .int bb], I1, G1, gP 999)
  refine am_callV hX hi (M := mX14_ink) (idx := 103) (d' := 10) (b := 79) (ci := 12) (As := [.int (x 1), .int (x 2)]) (rest := [.int bb]) mkX14_ink miX14_ink mvX14_ink (by decide +kernel) (by decide +kernel) rfl (by decide +kernel) rfl ⟨by decide, by decide, Nat.le_of_ble_eq_true rfl⟩ rfl (c_X14_ink_79 999 I1 G1 (x 1) (x 2) h2) ?_
  rintro r9 I9 G9 P9 ⟨e0, e1, e2, e3⟩
  rw [e0, e1, e2, e3]
  show am_V X (cells) (slots) _ gS ad (463, lw_L i ++ [], [.int bb, .int bb], I2, G2, gP 999)
  refine am_icmp_eq (tgt := 1481) hX hi (off := (1018)) (by decide +kernel) (by decide) (fun _ => ?_) (fun c => absurd rfl c)
  refine am_sub (L' := lw_L i) (fun q hq => List.mem_append.mpr (Or.inl hq)) ?_
  exact am_wid hm (by omega) (by omega) hroom (kk ad I2 G2 hX hs hI2)
def k_patch (Inv : am_I → am_G → Prop) : Prop := ∀ (I : am_I) (G : am_G) (x1 : Int32) (x2 : Int32), Inv I G → ∃ (bb : Int32) (I1 : am_I) (G1 : am_G) (I2 : am_I) (G2 : am_G), (R_X11_patch_0 I G x1 x2 = some (bb, I1, G1)) ∧ (R_X14_patch_79 I1 G1 x1 x2 = some (bb, I2, G2)) ∧ Inv I2 G2
set_option maxRecDepth 20000 in
set_option maxHeartbeats 1000000 in
theorem w_patch {X : am_X} {hh : am_HH} {cells slots MC MS : Nat} {Q : State → Prop} {ad : Nat → Nat} {I : am_I} {G : am_G} {N : Nat} {xs : Nat → Int32} {i : Int32} {x : Nat → Int32} {Inv : am_I → am_G → Prop} (hX : am_okz X ad) (hi : am_info X 15 code 9 false ret 60) (hm : am_mem X MC MS) (hh9 : am_xh X hh) (hs : am_scr X ad N xs) (hroom : cells + 750 ≤ MC ∧ slots + 5000 ≤ MS) (hx : lw_rd N xs i x) (hF : k_patch Inv) (hI : Inv I G) (kk : ∀ (ad' : Nat → Nat) (I2 : am_I) (G2 : am_G), am_okz X ad' → am_scr X ad' N xs → Inv I2 G2 → am_V X (cells + 750) (slots + 5000) Q gS ad' (1481, lw_L i, [], I2, G2, gP 999)) : am_V X cells slots Q gS ad (468, lw_L i ++ [], [], I, G, gP 999) := by
  obtain ⟨bb, I1, G1, I2, G2, h1, h2, hI2⟩ := hF I G (x 1) (x 2) hI
  refine am_blk 468 [(.aload_n 1, 1, 1, 0, .null)] (469, lw_L i ++ [], [.ref 0], I, G, gP 999) (True) hX hi (by decide +kernel) rfl trivial ?_
  refine am_scrx hX hi hs hx 1 1 (by decide) (by decide +kernel) (by decide +kernel) (lw_lk0 _ _) (lw_lk4 _ _) ?_
  show am_V X cells slots _ gS ad (475, lw_L i ++ [], [.int (x 1), .ref 0], I, G, gP 999)
  refine am_scrx hX hi hs hx 2 2 (by decide) (by decide +kernel) (by decide +kernel) (lw_lk0 _ _) (lw_lk4 _ _) ?_
  show am_V X cells slots _ gS ad (481, lw_L i ++ [], [.int (x 2), .int (x 1), .ref 0], I, G, gP 999)
  refine am_callV hX hi (M := mX11_patch) (idx := 104) (d' := 9) (b := 0) (ci := 9) (As := [.int (x 1), .int (x 2)]) (rest := []) mkX11_patch miX11_patch mvX11_patch (by decide +kernel) (by decide +kernel) rfl (by decide +kernel) rfl ⟨by decide, by decide, Nat.le_of_ble_eq_true rfl⟩ rfl (c_X11_patch_0 999 I G (x 1) (x 2) h1) ?_
  rintro r9 I9 G9 P9 ⟨e0, e1, e2, e3⟩
  rw [e0, e1, e2, e3]
  show am_V X cells slots _ gS ad (484, lw_L i ++ [], [.int bb], I1, G1, gP 999)
  refine am_blk 484 [(.aload_n 2, 1, 2, 0, .null)] (485, lw_L i ++ [], [.ref 79, .int bb], I1, G1, gP 999) (True) hX hi (by decide +kernel) rfl trivial ?_
  refine am_scrx hX hi hs hx 1 1 (by decide) (by decide +kernel) (by decide +kernel) (lw_lk0 _ _) (lw_lk4 _ _) ?_
  show am_V X cells slots _ gS ad (491, lw_L i ++ [], [.int (x 1), .ref 79, .int bb], I1, G1, gP 999)
  refine am_scrx hX hi hs hx 2 2 (by decide) (by decide +kernel) (by decide +kernel) (lw_lk0 _ _) (lw_lk4 _ _) ?_
  show am_V X cells slots _ gS ad (497, lw_L i ++ [], [.int (x 2), .int (x 1), .ref 79, .int bb], I1, G1, gP 999)
  refine am_callV hX hi (M := mX14_patch) (idx := 107) (d' := 12) (b := 79) (ci := 12) (As := [.int (x 1), .int (x 2)]) (rest := [.int bb]) mkX14_patch miX14_patch mvX14_patch (by decide +kernel) (by decide +kernel) rfl (by decide +kernel) rfl ⟨by decide, by decide, Nat.le_of_ble_eq_true rfl⟩ rfl (c_X14_patch_79 999 I1 G1 (x 1) (x 2) h2) ?_
  rintro r9 I9 G9 P9 ⟨e0, e1, e2, e3⟩
  rw [e0, e1, e2, e3]
  show am_V X (cells) (slots) _ gS ad (500, lw_L i ++ [], [.int bb, .int bb], I2, G2, gP 999)
  refine am_icmp_eq (tgt := 1481) hX hi (off := (981)) (by decide +kernel) (by decide) (fun _ => ?_) (fun c => absurd rfl c)
  refine am_sub (L' := lw_L i) (fun q hq => List.mem_append.mpr (Or.inl hq)) ?_
  exact am_wid hm (by omega) (by omega) hroom (kk ad I2 G2 hX hs hI2)
def k_whence (Inv : am_I → am_G → Prop) : Prop := ∀ (I : am_I) (G : am_G) (x1 : Int32) (x2 : Int32), Inv I G → ∃ (bb : Int32) (I1 : am_I) (G1 : am_G) (I2 : am_I) (G2 : am_G), (R_X11_whence_0 I G x1 x2 = some (bb, I1, G1)) ∧ (R_X14_whence_79 I1 G1 x1 x2 = some (bb, I2, G2)) ∧ Inv I2 G2
set_option maxRecDepth 20000 in
set_option maxHeartbeats 1000000 in
theorem w_whence {X : am_X} {hh : am_HH} {cells slots MC MS : Nat} {Q : State → Prop} {ad : Nat → Nat} {I : am_I} {G : am_G} {N : Nat} {xs : Nat → Int32} {i : Int32} {x : Nat → Int32} {Inv : am_I → am_G → Prop} (hX : am_okz X ad) (hi : am_info X 15 code 9 false ret 60) (hm : am_mem X MC MS) (hh9 : am_xh X hh) (hs : am_scr X ad N xs) (hroom : cells + 750 ≤ MC ∧ slots + 5000 ≤ MS) (hx : lw_rd N xs i x) (hF : k_whence Inv) (hI : Inv I G) (kk : ∀ (ad' : Nat → Nat) (I2 : am_I) (G2 : am_G), am_okz X ad' → am_scr X ad' N xs → Inv I2 G2 → am_V X (cells + 750) (slots + 5000) Q gS ad' (1481, lw_L i, [], I2, G2, gP 999)) : am_V X cells slots Q gS ad (505, lw_L i ++ [], [], I, G, gP 999) := by
  obtain ⟨bb, I1, G1, I2, G2, h1, h2, hI2⟩ := hF I G (x 1) (x 2) hI
  refine am_blk 505 [(.aload_n 1, 1, 1, 0, .null)] (506, lw_L i ++ [], [.ref 0], I, G, gP 999) (True) hX hi (by decide +kernel) rfl trivial ?_
  refine am_scrx hX hi hs hx 1 1 (by decide) (by decide +kernel) (by decide +kernel) (lw_lk0 _ _) (lw_lk4 _ _) ?_
  show am_V X cells slots _ gS ad (512, lw_L i ++ [], [.int (x 1), .ref 0], I, G, gP 999)
  refine am_scrx hX hi hs hx 2 2 (by decide) (by decide +kernel) (by decide +kernel) (lw_lk0 _ _) (lw_lk4 _ _) ?_
  show am_V X cells slots _ gS ad (518, lw_L i ++ [], [.int (x 2), .int (x 1), .ref 0], I, G, gP 999)
  refine am_callV hX hi (M := mX11_whence) (idx := 108) (d' := 5) (b := 0) (ci := 9) (As := [.int (x 1), .int (x 2)]) (rest := []) mkX11_whence miX11_whence mvX11_whence (by decide +kernel) (by decide +kernel) rfl (by decide +kernel) rfl ⟨by decide, by decide, Nat.le_of_ble_eq_true rfl⟩ rfl (c_X11_whence_0 999 I G (x 1) (x 2) h1) ?_
  rintro r9 I9 G9 P9 ⟨e0, e1, e2, e3⟩
  rw [e0, e1, e2, e3]
  show am_V X cells slots _ gS ad (521, lw_L i ++ [], [.int bb], I1, G1, gP 999)
  refine am_blk 521 [(.aload_n 2, 1, 2, 0, .null)] (522, lw_L i ++ [], [.ref 79, .int bb], I1, G1, gP 999) (True) hX hi (by decide +kernel) rfl trivial ?_
  refine am_scrx hX hi hs hx 1 1 (by decide) (by decide +kernel) (by decide +kernel) (lw_lk0 _ _) (lw_lk4 _ _) ?_
  show am_V X cells slots _ gS ad (528, lw_L i ++ [], [.int (x 1), .ref 79, .int bb], I1, G1, gP 999)
  refine am_scrx hX hi hs hx 2 2 (by decide) (by decide +kernel) (by decide +kernel) (lw_lk0 _ _) (lw_lk4 _ _) ?_
  show am_V X cells slots _ gS ad (534, lw_L i ++ [], [.int (x 2), .int (x 1), .ref 79, .int bb], I1, G1, gP 999)
  refine am_callV hX hi (M := mX14_whence) (idx := 111) (d' := 4) (b := 79) (ci := 12) (As := [.int (x 1), .int (x 2)]) (rest := [.int bb]) mkX14_whence miX14_whence mvX14_whence (by decide +kernel) (by decide +kernel) rfl (by decide +kernel) rfl ⟨by decide, by decide, Nat.le_of_ble_eq_true rfl⟩ rfl (c_X14_whence_79 999 I1 G1 (x 1) (x 2) h2) ?_
  rintro r9 I9 G9 P9 ⟨e0, e1, e2, e3⟩
  rw [e0, e1, e2, e3]
  show am_V X (cells) (slots) _ gS ad (537, lw_L i ++ [], [.int bb, .int bb], I2, G2, gP 999)
  refine am_icmp_eq (tgt := 1481) hX hi (off := (944)) (by decide +kernel) (by decide) (fun _ => ?_) (fun c => absurd rfl c)
  refine am_sub (L' := lw_L i) (fun q hq => List.mem_append.mpr (Or.inl hq)) ?_
  exact am_wid hm (by omega) (by omega) hroom (kk ad I2 G2 hX hs hI2)
def k_share (Inv : am_I → am_G → Prop) : Prop := ∀ (I : am_I) (G : am_G) (x1 : Int32), Inv I G → ∃ (out : (Int32 ⊕ Nat) × am_I × am_G) (I2 : am_I) (G2 : am_G) (bb : Int32), R_X11_share_0 I G x1 = some out ∧ (∀ k, out.1 = .inr k → k = 93) ∧ (R_X14_share_79 (hO hn_share I G out).2.1 (hO hn_share I G out).2.2 x1 = some (bb, I2, G2)) ∧ I2 79 0 = (hO hn_share I G out).1 ∧ ((hO hn_share I G out).1 = 0 → G2 122 0 = bb.toInt64) ∧ Inv I2 G2
set_option maxRecDepth 20000 in
set_option maxHeartbeats 1000000 in
theorem w_share {X : am_X} {hh : am_HH} {cells slots MC MS : Nat} {Q : State → Prop} {ad : Nat → Nat} {I : am_I} {G : am_G} {N : Nat} {xs : Nat → Int32} {i : Int32} {x : Nat → Int32} {Inv : am_I → am_G → Prop} (hX : am_okz X ad) (hi : am_info X 15 code 9 false ret 60) (hm : am_mem X MC MS) (hh9 : am_xh X hh) (hs : am_scr X ad N xs) (hroom : cells + 750 ≤ MC ∧ slots + 5000 ≤ MS) (hx : lw_rd N xs i x) (hF : k_share Inv) (hI : Inv I G) (kk : ∀ (ad' : Nat → Nat) (I2 : am_I) (G2 : am_G), am_okz X ad' → am_scr X ad' N xs → Inv I2 G2 → am_V X (cells + 750) (slots + 5000) Q gS ad' (1481, lw_L i, [], I2, G2, gP 999)) : am_V X cells slots Q gS ad (542, lw_L i ++ [], [], I, G, gP 999) := by
  obtain ⟨out, I2, G2, bb, h1, hk, h2, ht, ho, hI2⟩ := hF I G (x 1) hI
  refine am_blk 542 [(.aload_n 1, 1, 1, 0, .null)] (543, lw_L i ++ [], [.ref 0], I, G, gP 999) (True) hX hi (by decide +kernel) rfl trivial ?_
  refine am_scrx hX hi hs hx 1 1 (by decide) (by decide +kernel) (by decide +kernel) (lw_lk0 _ _) (lw_lk4 _ _) ?_
  show am_V X cells slots _ gS ad (549, lw_L i ++ [], [.int (x 1), .ref 0], I, G, gP 999)
  refine am_blk 549 [(.aload_n 3, 1, 3, 0, .null)] (550, lw_L i ++ [], [.ref 122, .int (x 1), .ref 0], I, G, gP 999) (True) hX hi (by decide +kernel) rfl trivial ?_
  refine am_callHS hX hi hm hh9 (M := mL_share) (hh' := hh_share) (d' := 9) (idx := 112) (As := [.ref 0, .int (x 1), .ref 122]) (rest := []) (List.mem_of_getElem? (i := 1155) (by decide +kernel)) (List.mem_of_getElem? (i := 109) (by decide +kernel)) (List.mem_of_getElem? (i := 1154) (by decide +kernel)) (List.mem_of_getElem? (i := 1153) (by decide +kernel)) ⟨by decide, by decide⟩ (by decide +kernel) (by decide +kernel) rfl ⟨by decide, by decide, Nat.le_of_ble_eq_true rfl⟩ rfl ⟨by omega, by omega⟩ (c_L_share I G (x 1) h1 hk) ?_
  rintro r9 I9 G9 P9 ⟨e0, e1, e2, e3⟩
  rw [e0, e1, e2, e3]
  show am_V X (cells + 1) (slots + 6) _ gS ad (553, lw_L i ++ [], [.int (hO hn_share I G out).1], (hO hn_share I G out).2.1, (hO hn_share I G out).2.2, gP 999)
  refine am_blk 553 [(.istore 5, 2, 5, 0, .null), (.aload_n 2, 1, 2, 0, .null)] (556, lw_L i ++ [(5, .int (hO hn_share I G out).1)], [.ref 79], (hO hn_share I G out).2.1, (hO hn_share I G out).2.2, gP 999) (True) hX hi (by decide +kernel) rfl trivial ?_
  refine am_scrx hX hi hs hx 1 1 (by decide) (by decide +kernel) (by decide +kernel) (lw_lk0 _ _) (lw_lk4 _ _) ?_
  show am_V X (cells + 1) (slots + 6) _ gS ad (562, lw_L i ++ [(5, .int (hO hn_share I G out).1)], [.int (x 1), .ref 79], (hO hn_share I G out).2.1, (hO hn_share I G out).2.2, gP 999)
  refine am_callV hX hi (M := mX14_share) (idx := 114) (d' := 11) (b := 79) (ci := 12) (As := [.int (x 1)]) (rest := []) mkX14_share miX14_share mvX14_share (by decide +kernel) (by decide +kernel) rfl (by decide +kernel) rfl ⟨by decide, by decide, Nat.le_of_ble_eq_true rfl⟩ rfl (c_X14_share_79 999 (hO hn_share I G out).2.1 (hO hn_share I G out).2.2 (x 1) h2) ?_
  rintro r9 I9 G9 P9 ⟨e0, e1, e2, e3⟩
  rw [e0, e1, e2, e3]
  show am_V X (cells + 1) (slots + 6) _ gS ad (565, lw_L i ++ [(5, .int (hO hn_share I G out).1)], [.int bb], I2, G2, gP 999)
  refine am_blk 565 [(.istore 6, 2, 6, 0, .null), (.aload_n 2, 1, 2, 0, .null)] (568, lw_L i ++ [(5, .int (hO hn_share I G out).1), (6, .int bb)], [.ref 79], I2, G2, gP 999) (True) hX hi (by decide +kernel) rfl trivial ?_
  refine am_callV hX hi (M := mX14_thrown) (idx := 77) (d' := 1) (b := 79) (ci := 12) (As := []) (rest := []) mkX14_thrown miX14_thrown mvX14_thrown (by decide +kernel) (by decide +kernel) rfl (by decide +kernel) rfl ⟨by decide, by decide, Nat.le_of_ble_eq_true rfl⟩ rfl (c_X14_thrown_79 999 I2 G2) ?_
  rintro r9 I9 G9 P9 ⟨e0, e1, e2, e3⟩
  rw [e0, e1, e2, e3, show f_X14_thrown_79 I2 G2 = (hO hn_share I G out).1 from ht]
  show am_V X (cells + 1) (slots + 6) _ gS ad (571, lw_L i ++ [(5, .int (hO hn_share I G out).1), (6, .int bb)], [.int (hO hn_share I G out).1], I2, G2, gP 999)
  refine am_blk 571 [(.iload 5, 2, 5, 0, .null)] (573, lw_L i ++ [(5, .int (hO hn_share I G out).1), (6, .int bb)], [.int (hO hn_share I G out).1, .int (hO hn_share I G out).1], I2, G2, gP 999) (True) hX hi (by decide +kernel) rfl trivial ?_
  refine am_icmp_eq (tgt := 578) hX hi (off := (5)) (by decide +kernel) (by decide) (fun _ => ?_) (fun c => absurd rfl c)
  refine am_blk 578 [(.iload 5, 2, 5, 0, .null)] (580, lw_L i ++ [(5, .int (hO hn_share I G out).1), (6, .int bb)], [.int (hO hn_share I G out).1], I2, G2, gP 999) (True) hX hi (by decide +kernel) rfl trivial ?_
  have hend : am_V X (cells + 1) (slots + 6) Q gS ad (595, lw_L i ++ [(5, .int (hO hn_share I G out).1), (6, .int bb)], [], I2, G2, gP 999) := by
    refine am_blk 595 [(.goto (886), 3, 0, 1481, .null)] (1481, lw_L i ++ [(5, .int (hO hn_share I G out).1), (6, .int bb)], [], I2, G2, gP 999) (True) hX hi (by decide +kernel) rfl trivial ?_
    refine am_sub (L' := lw_L i) (fun q hq => List.mem_append.mpr (Or.inl hq)) ?_
    exact am_wid hm (by omega) (by omega) hroom (kk ad I2 G2 hX hs hI2)
  refine am_if_ne (tgt := 595) hX hi (off := (15)) (by decide +kernel) (by decide) (fun _ => hend) (fun c => ?_)
  refine am_blk 583 [(.aload_n 3, 1, 3, 0, .null), (.iconst (0), 1, 0, 0, .int (0 : Int32)), (.laload, 1, 0, 0, .null), (.iload 6, 2, 6, 0, .null), (.i2l, 1, 0, 0, .null), (.lcmp, 1, 0, 0, .null)] (590, lw_L i ++ [(5, .int (hO hn_share I G out).1), (6, .int bb)], [.int (lg_cmp (G2 122 0) bb.toInt64)], I2, G2, gP 999) (vp_in (0 : Int32) 1 ∧ True) hX hi (by decide +kernel) rfl ⟨(i_in _ _).mpr (by decide), trivial⟩ ?_
  exact am_if_eq (tgt := 595) hX hi (off := (5)) (by decide +kernel) (by decide) (fun _ => hend) (fun c2 => absurd (by rw [ho c]; exact lg_cmp_self _) c2)
def k_octave (Inv : am_I → am_G → Prop) : Prop := ∀ (I : am_I) (G : am_G) (x1 : Int32) (x2 : Int32), Inv I G → ∃ (out : (Int32 ⊕ Nat) × am_I × am_G) (I2 : am_I) (G2 : am_G) (bb : Int32), R_X11_octave_0 I G x1 x2 = some out ∧ (∀ k, out.1 = .inr k → k = 93) ∧ (R_X14_octave_79 (hO hn_octave I G out).2.1 (hO hn_octave I G out).2.2 x1 x2 = some (bb, I2, G2)) ∧ I2 79 0 = (hO hn_octave I G out).1 ∧ ((hO hn_octave I G out).1 = 0 → G2 122 0 = bb.toInt64) ∧ Inv I2 G2
set_option maxRecDepth 20000 in
set_option maxHeartbeats 1000000 in
theorem w_octave {X : am_X} {hh : am_HH} {cells slots MC MS : Nat} {Q : State → Prop} {ad : Nat → Nat} {I : am_I} {G : am_G} {N : Nat} {xs : Nat → Int32} {i : Int32} {x : Nat → Int32} {Inv : am_I → am_G → Prop} (hX : am_okz X ad) (hi : am_info X 15 code 9 false ret 60) (hm : am_mem X MC MS) (hh9 : am_xh X hh) (hs : am_scr X ad N xs) (hroom : cells + 750 ≤ MC ∧ slots + 5000 ≤ MS) (hx : lw_rd N xs i x) (hF : k_octave Inv) (hI : Inv I G) (kk : ∀ (ad' : Nat → Nat) (I2 : am_I) (G2 : am_G), am_okz X ad' → am_scr X ad' N xs → Inv I2 G2 → am_V X (cells + 750) (slots + 5000) Q gS ad' (1481, lw_L i, [], I2, G2, gP 999)) : am_V X cells slots Q gS ad (598, lw_L i ++ [], [], I, G, gP 999) := by
  obtain ⟨out, I2, G2, bb, h1, hk, h2, ht, ho, hI2⟩ := hF I G (x 1) (x 2) hI
  refine am_blk 598 [(.aload_n 1, 1, 1, 0, .null)] (599, lw_L i ++ [], [.ref 0], I, G, gP 999) (True) hX hi (by decide +kernel) rfl trivial ?_
  refine am_scrx hX hi hs hx 1 1 (by decide) (by decide +kernel) (by decide +kernel) (lw_lk0 _ _) (lw_lk4 _ _) ?_
  show am_V X cells slots _ gS ad (605, lw_L i ++ [], [.int (x 1), .ref 0], I, G, gP 999)
  refine am_scrx hX hi hs hx 2 2 (by decide) (by decide +kernel) (by decide +kernel) (lw_lk0 _ _) (lw_lk4 _ _) ?_
  show am_V X cells slots _ gS ad (611, lw_L i ++ [], [.int (x 2), .int (x 1), .ref 0], I, G, gP 999)
  refine am_blk 611 [(.aload_n 3, 1, 3, 0, .null)] (612, lw_L i ++ [], [.ref 122, .int (x 2), .int (x 1), .ref 0], I, G, gP 999) (True) hX hi (by decide +kernel) rfl trivial ?_
  refine am_callHS hX hi hm hh9 (M := mL_octave) (hh' := hh_octave) (d' := 7) (idx := 115) (As := [.ref 0, .int (x 1), .int (x 2), .ref 122]) (rest := []) (List.mem_of_getElem? (i := 1163) (by decide +kernel)) (List.mem_of_getElem? (i := 109) (by decide +kernel)) (List.mem_of_getElem? (i := 1162) (by decide +kernel)) (List.mem_of_getElem? (i := 1161) (by decide +kernel)) ⟨by decide, by decide⟩ (by decide +kernel) (by decide +kernel) rfl ⟨by decide, by decide, Nat.le_of_ble_eq_true rfl⟩ rfl ⟨by omega, by omega⟩ (c_L_octave I G (x 1) (x 2) h1 hk) ?_
  rintro r9 I9 G9 P9 ⟨e0, e1, e2, e3⟩
  rw [e0, e1, e2, e3]
  show am_V X (cells + 1) (slots + 6) _ gS ad (615, lw_L i ++ [], [.int (hO hn_octave I G out).1], (hO hn_octave I G out).2.1, (hO hn_octave I G out).2.2, gP 999)
  refine am_blk 615 [(.istore 5, 2, 5, 0, .null), (.aload_n 2, 1, 2, 0, .null)] (618, lw_L i ++ [(5, .int (hO hn_octave I G out).1)], [.ref 79], (hO hn_octave I G out).2.1, (hO hn_octave I G out).2.2, gP 999) (True) hX hi (by decide +kernel) rfl trivial ?_
  refine am_scrx hX hi hs hx 1 1 (by decide) (by decide +kernel) (by decide +kernel) (lw_lk0 _ _) (lw_lk4 _ _) ?_
  show am_V X (cells + 1) (slots + 6) _ gS ad (624, lw_L i ++ [(5, .int (hO hn_octave I G out).1)], [.int (x 1), .ref 79], (hO hn_octave I G out).2.1, (hO hn_octave I G out).2.2, gP 999)
  refine am_scrx hX hi hs hx 2 2 (by decide) (by decide +kernel) (by decide +kernel) (lw_lk0 _ _) (lw_lk4 _ _) ?_
  show am_V X (cells + 1) (slots + 6) _ gS ad (630, lw_L i ++ [(5, .int (hO hn_octave I G out).1)], [.int (x 2), .int (x 1), .ref 79], (hO hn_octave I G out).2.1, (hO hn_octave I G out).2.2, gP 999)
  refine am_callV hX hi (M := mX14_octave) (idx := 118) (d' := 3) (b := 79) (ci := 12) (As := [.int (x 1), .int (x 2)]) (rest := []) mkX14_octave miX14_octave mvX14_octave (by decide +kernel) (by decide +kernel) rfl (by decide +kernel) rfl ⟨by decide, by decide, Nat.le_of_ble_eq_true rfl⟩ rfl (c_X14_octave_79 999 (hO hn_octave I G out).2.1 (hO hn_octave I G out).2.2 (x 1) (x 2) h2) ?_
  rintro r9 I9 G9 P9 ⟨e0, e1, e2, e3⟩
  rw [e0, e1, e2, e3]
  show am_V X (cells + 1) (slots + 6) _ gS ad (633, lw_L i ++ [(5, .int (hO hn_octave I G out).1)], [.int bb], I2, G2, gP 999)
  refine am_blk 633 [(.istore 6, 2, 6, 0, .null), (.aload_n 2, 1, 2, 0, .null)] (636, lw_L i ++ [(5, .int (hO hn_octave I G out).1), (6, .int bb)], [.ref 79], I2, G2, gP 999) (True) hX hi (by decide +kernel) rfl trivial ?_
  refine am_callV hX hi (M := mX14_thrown) (idx := 77) (d' := 1) (b := 79) (ci := 12) (As := []) (rest := []) mkX14_thrown miX14_thrown mvX14_thrown (by decide +kernel) (by decide +kernel) rfl (by decide +kernel) rfl ⟨by decide, by decide, Nat.le_of_ble_eq_true rfl⟩ rfl (c_X14_thrown_79 999 I2 G2) ?_
  rintro r9 I9 G9 P9 ⟨e0, e1, e2, e3⟩
  rw [e0, e1, e2, e3, show f_X14_thrown_79 I2 G2 = (hO hn_octave I G out).1 from ht]
  show am_V X (cells + 1) (slots + 6) _ gS ad (639, lw_L i ++ [(5, .int (hO hn_octave I G out).1), (6, .int bb)], [.int (hO hn_octave I G out).1], I2, G2, gP 999)
  refine am_blk 639 [(.iload 5, 2, 5, 0, .null)] (641, lw_L i ++ [(5, .int (hO hn_octave I G out).1), (6, .int bb)], [.int (hO hn_octave I G out).1, .int (hO hn_octave I G out).1], I2, G2, gP 999) (True) hX hi (by decide +kernel) rfl trivial ?_
  refine am_icmp_eq (tgt := 646) hX hi (off := (5)) (by decide +kernel) (by decide) (fun _ => ?_) (fun c => absurd rfl c)
  refine am_blk 646 [(.iload 5, 2, 5, 0, .null)] (648, lw_L i ++ [(5, .int (hO hn_octave I G out).1), (6, .int bb)], [.int (hO hn_octave I G out).1], I2, G2, gP 999) (True) hX hi (by decide +kernel) rfl trivial ?_
  have hend : am_V X (cells + 1) (slots + 6) Q gS ad (663, lw_L i ++ [(5, .int (hO hn_octave I G out).1), (6, .int bb)], [], I2, G2, gP 999) := by
    refine am_blk 663 [(.goto (818), 3, 0, 1481, .null)] (1481, lw_L i ++ [(5, .int (hO hn_octave I G out).1), (6, .int bb)], [], I2, G2, gP 999) (True) hX hi (by decide +kernel) rfl trivial ?_
    refine am_sub (L' := lw_L i) (fun q hq => List.mem_append.mpr (Or.inl hq)) ?_
    exact am_wid hm (by omega) (by omega) hroom (kk ad I2 G2 hX hs hI2)
  refine am_if_ne (tgt := 663) hX hi (off := (15)) (by decide +kernel) (by decide) (fun _ => hend) (fun c => ?_)
  refine am_blk 651 [(.aload_n 3, 1, 3, 0, .null), (.iconst (0), 1, 0, 0, .int (0 : Int32)), (.laload, 1, 0, 0, .null), (.iload 6, 2, 6, 0, .null), (.i2l, 1, 0, 0, .null), (.lcmp, 1, 0, 0, .null)] (658, lw_L i ++ [(5, .int (hO hn_octave I G out).1), (6, .int bb)], [.int (lg_cmp (G2 122 0) bb.toInt64)], I2, G2, gP 999) (vp_in (0 : Int32) 1 ∧ True) hX hi (by decide +kernel) rfl ⟨(i_in _ _).mpr (by decide), trivial⟩ ?_
  exact am_if_eq (tgt := 663) hX hi (off := (5)) (by decide +kernel) (by decide) (fun _ => hend) (fun c2 => absurd (by rw [ho c]; exact lg_cmp_self _) c2)
def k_gradient (Inv : am_I → am_G → Prop) : Prop := ∀ (I : am_I) (G : am_G) (x1 : Int32) (x2 : Int32) (x3 : Int32), Inv I G → ∃ (out : (Int32 ⊕ Nat) × am_I × am_G) (I2 : am_I) (G2 : am_G) (bb : Int32), R_X11_gradient_0 I G x1 x2 x3 = some out ∧ (∀ k, out.1 = .inr k → k = 93) ∧ (R_X14_gradient_79 (hO hn_gradient I G out).2.1 (hO hn_gradient I G out).2.2 x1 x2 x3 = some (bb, I2, G2)) ∧ I2 79 0 = (hO hn_gradient I G out).1 ∧ ((hO hn_gradient I G out).1 = 0 → G2 122 0 = bb.toInt64) ∧ Inv I2 G2
set_option maxRecDepth 20000 in
set_option maxHeartbeats 1000000 in
theorem w_gradient {X : am_X} {hh : am_HH} {cells slots MC MS : Nat} {Q : State → Prop} {ad : Nat → Nat} {I : am_I} {G : am_G} {N : Nat} {xs : Nat → Int32} {i : Int32} {x : Nat → Int32} {Inv : am_I → am_G → Prop} (hX : am_okz X ad) (hi : am_info X 15 code 9 false ret 60) (hm : am_mem X MC MS) (hh9 : am_xh X hh) (hs : am_scr X ad N xs) (hroom : cells + 750 ≤ MC ∧ slots + 5000 ≤ MS) (hx : lw_rd N xs i x) (hF : k_gradient Inv) (hI : Inv I G) (kk : ∀ (ad' : Nat → Nat) (I2 : am_I) (G2 : am_G), am_okz X ad' → am_scr X ad' N xs → Inv I2 G2 → am_V X (cells + 750) (slots + 5000) Q gS ad' (1481, lw_L i, [], I2, G2, gP 999)) : am_V X cells slots Q gS ad (666, lw_L i ++ [], [], I, G, gP 999) := by
  obtain ⟨out, I2, G2, bb, h1, hk, h2, ht, ho, hI2⟩ := hF I G (x 1) (x 2) (x 3) hI
  refine am_blk 666 [(.aload_n 1, 1, 1, 0, .null)] (667, lw_L i ++ [], [.ref 0], I, G, gP 999) (True) hX hi (by decide +kernel) rfl trivial ?_
  refine am_scrx hX hi hs hx 1 1 (by decide) (by decide +kernel) (by decide +kernel) (lw_lk0 _ _) (lw_lk4 _ _) ?_
  show am_V X cells slots _ gS ad (673, lw_L i ++ [], [.int (x 1), .ref 0], I, G, gP 999)
  refine am_scrx hX hi hs hx 2 2 (by decide) (by decide +kernel) (by decide +kernel) (lw_lk0 _ _) (lw_lk4 _ _) ?_
  show am_V X cells slots _ gS ad (679, lw_L i ++ [], [.int (x 2), .int (x 1), .ref 0], I, G, gP 999)
  refine am_scrx hX hi hs hx 3 3 (by decide) (by decide +kernel) (by decide +kernel) (lw_lk0 _ _) (lw_lk4 _ _) ?_
  show am_V X cells slots _ gS ad (685, lw_L i ++ [], [.int (x 3), .int (x 2), .int (x 1), .ref 0], I, G, gP 999)
  refine am_blk 685 [(.aload_n 3, 1, 3, 0, .null)] (686, lw_L i ++ [], [.ref 122, .int (x 3), .int (x 2), .int (x 1), .ref 0], I, G, gP 999) (True) hX hi (by decide +kernel) rfl trivial ?_
  refine am_callHS hX hi hm hh9 (M := mL_gradient) (hh' := hh_gradient) (d' := 7) (idx := 119) (As := [.ref 0, .int (x 1), .int (x 2), .int (x 3), .ref 122]) (rest := []) (List.mem_of_getElem? (i := 1171) (by decide +kernel)) (List.mem_of_getElem? (i := 109) (by decide +kernel)) (List.mem_of_getElem? (i := 1170) (by decide +kernel)) (List.mem_of_getElem? (i := 1169) (by decide +kernel)) ⟨by decide, by decide⟩ (by decide +kernel) (by decide +kernel) rfl ⟨by decide, by decide, Nat.le_of_ble_eq_true rfl⟩ rfl ⟨by omega, by omega⟩ (c_L_gradient I G (x 1) (x 2) (x 3) h1 hk) ?_
  rintro r9 I9 G9 P9 ⟨e0, e1, e2, e3⟩
  rw [e0, e1, e2, e3]
  show am_V X (cells + 1) (slots + 6) _ gS ad (689, lw_L i ++ [], [.int (hO hn_gradient I G out).1], (hO hn_gradient I G out).2.1, (hO hn_gradient I G out).2.2, gP 999)
  refine am_blk 689 [(.istore 5, 2, 5, 0, .null), (.aload_n 2, 1, 2, 0, .null)] (692, lw_L i ++ [(5, .int (hO hn_gradient I G out).1)], [.ref 79], (hO hn_gradient I G out).2.1, (hO hn_gradient I G out).2.2, gP 999) (True) hX hi (by decide +kernel) rfl trivial ?_
  refine am_scrx hX hi hs hx 1 1 (by decide) (by decide +kernel) (by decide +kernel) (lw_lk0 _ _) (lw_lk4 _ _) ?_
  show am_V X (cells + 1) (slots + 6) _ gS ad (698, lw_L i ++ [(5, .int (hO hn_gradient I G out).1)], [.int (x 1), .ref 79], (hO hn_gradient I G out).2.1, (hO hn_gradient I G out).2.2, gP 999)
  refine am_scrx hX hi hs hx 2 2 (by decide) (by decide +kernel) (by decide +kernel) (lw_lk0 _ _) (lw_lk4 _ _) ?_
  show am_V X (cells + 1) (slots + 6) _ gS ad (704, lw_L i ++ [(5, .int (hO hn_gradient I G out).1)], [.int (x 2), .int (x 1), .ref 79], (hO hn_gradient I G out).2.1, (hO hn_gradient I G out).2.2, gP 999)
  refine am_scrx hX hi hs hx 3 3 (by decide) (by decide +kernel) (by decide +kernel) (lw_lk0 _ _) (lw_lk4 _ _) ?_
  show am_V X (cells + 1) (slots + 6) _ gS ad (710, lw_L i ++ [(5, .int (hO hn_gradient I G out).1)], [.int (x 3), .int (x 2), .int (x 1), .ref 79], (hO hn_gradient I G out).2.1, (hO hn_gradient I G out).2.2, gP 999)
  refine am_callV hX hi (M := mX14_gradient) (idx := 122) (d' := 3) (b := 79) (ci := 12) (As := [.int (x 1), .int (x 2), .int (x 3)]) (rest := []) mkX14_gradient miX14_gradient mvX14_gradient (by decide +kernel) (by decide +kernel) rfl (by decide +kernel) rfl ⟨by decide, by decide, Nat.le_of_ble_eq_true rfl⟩ rfl (c_X14_gradient_79 999 (hO hn_gradient I G out).2.1 (hO hn_gradient I G out).2.2 (x 1) (x 2) (x 3) h2) ?_
  rintro r9 I9 G9 P9 ⟨e0, e1, e2, e3⟩
  rw [e0, e1, e2, e3]
  show am_V X (cells + 1) (slots + 6) _ gS ad (713, lw_L i ++ [(5, .int (hO hn_gradient I G out).1)], [.int bb], I2, G2, gP 999)
  refine am_blk 713 [(.istore 6, 2, 6, 0, .null), (.aload_n 2, 1, 2, 0, .null)] (716, lw_L i ++ [(5, .int (hO hn_gradient I G out).1), (6, .int bb)], [.ref 79], I2, G2, gP 999) (True) hX hi (by decide +kernel) rfl trivial ?_
  refine am_callV hX hi (M := mX14_thrown) (idx := 77) (d' := 1) (b := 79) (ci := 12) (As := []) (rest := []) mkX14_thrown miX14_thrown mvX14_thrown (by decide +kernel) (by decide +kernel) rfl (by decide +kernel) rfl ⟨by decide, by decide, Nat.le_of_ble_eq_true rfl⟩ rfl (c_X14_thrown_79 999 I2 G2) ?_
  rintro r9 I9 G9 P9 ⟨e0, e1, e2, e3⟩
  rw [e0, e1, e2, e3, show f_X14_thrown_79 I2 G2 = (hO hn_gradient I G out).1 from ht]
  show am_V X (cells + 1) (slots + 6) _ gS ad (719, lw_L i ++ [(5, .int (hO hn_gradient I G out).1), (6, .int bb)], [.int (hO hn_gradient I G out).1], I2, G2, gP 999)
  refine am_blk 719 [(.iload 5, 2, 5, 0, .null)] (721, lw_L i ++ [(5, .int (hO hn_gradient I G out).1), (6, .int bb)], [.int (hO hn_gradient I G out).1, .int (hO hn_gradient I G out).1], I2, G2, gP 999) (True) hX hi (by decide +kernel) rfl trivial ?_
  refine am_icmp_eq (tgt := 726) hX hi (off := (5)) (by decide +kernel) (by decide) (fun _ => ?_) (fun c => absurd rfl c)
  refine am_blk 726 [(.iload 5, 2, 5, 0, .null)] (728, lw_L i ++ [(5, .int (hO hn_gradient I G out).1), (6, .int bb)], [.int (hO hn_gradient I G out).1], I2, G2, gP 999) (True) hX hi (by decide +kernel) rfl trivial ?_
  have hend : am_V X (cells + 1) (slots + 6) Q gS ad (743, lw_L i ++ [(5, .int (hO hn_gradient I G out).1), (6, .int bb)], [], I2, G2, gP 999) := by
    refine am_blk 743 [(.goto (738), 3, 0, 1481, .null)] (1481, lw_L i ++ [(5, .int (hO hn_gradient I G out).1), (6, .int bb)], [], I2, G2, gP 999) (True) hX hi (by decide +kernel) rfl trivial ?_
    refine am_sub (L' := lw_L i) (fun q hq => List.mem_append.mpr (Or.inl hq)) ?_
    exact am_wid hm (by omega) (by omega) hroom (kk ad I2 G2 hX hs hI2)
  refine am_if_ne (tgt := 743) hX hi (off := (15)) (by decide +kernel) (by decide) (fun _ => hend) (fun c => ?_)
  refine am_blk 731 [(.aload_n 3, 1, 3, 0, .null), (.iconst (0), 1, 0, 0, .int (0 : Int32)), (.laload, 1, 0, 0, .null), (.iload 6, 2, 6, 0, .null), (.i2l, 1, 0, 0, .null), (.lcmp, 1, 0, 0, .null)] (738, lw_L i ++ [(5, .int (hO hn_gradient I G out).1), (6, .int bb)], [.int (lg_cmp (G2 122 0) bb.toInt64)], I2, G2, gP 999) (vp_in (0 : Int32) 1 ∧ True) hX hi (by decide +kernel) rfl ⟨(i_in _ _).mpr (by decide), trivial⟩ ?_
  exact am_if_eq (tgt := 743) hX hi (off := (5)) (by decide +kernel) (by decide) (fun _ => hend) (fun c2 => absurd (by rw [ho c]; exact lg_cmp_self _) c2)
def k_value (Inv : am_I → am_G → Prop) : Prop := ∀ (I : am_I) (G : am_G) (x1 : Int32) (x2 : Int32) (x3 : Int32), Inv I G → ∃ (out : (Int32 ⊕ Nat) × am_I × am_G) (I2 : am_I) (G2 : am_G) (bb : Int32), R_X11_value_0 I G x1 x2 x3 = some out ∧ (∀ k, out.1 = .inr k → k = 93) ∧ (R_X14_value_79 (hO hn_value I G out).2.1 (hO hn_value I G out).2.2 x1 x2 x3 = some (bb, I2, G2)) ∧ I2 79 0 = (hO hn_value I G out).1 ∧ ((hO hn_value I G out).1 = 0 → G2 122 0 = bb.toInt64) ∧ Inv I2 G2
set_option maxRecDepth 20000 in
set_option maxHeartbeats 1000000 in
theorem w_value {X : am_X} {hh : am_HH} {cells slots MC MS : Nat} {Q : State → Prop} {ad : Nat → Nat} {I : am_I} {G : am_G} {N : Nat} {xs : Nat → Int32} {i : Int32} {x : Nat → Int32} {Inv : am_I → am_G → Prop} (hX : am_okz X ad) (hi : am_info X 15 code 9 false ret 60) (hm : am_mem X MC MS) (hh9 : am_xh X hh) (hs : am_scr X ad N xs) (hroom : cells + 750 ≤ MC ∧ slots + 5000 ≤ MS) (hx : lw_rd N xs i x) (hF : k_value Inv) (hI : Inv I G) (kk : ∀ (ad' : Nat → Nat) (I2 : am_I) (G2 : am_G), am_okz X ad' → am_scr X ad' N xs → Inv I2 G2 → am_V X (cells + 750) (slots + 5000) Q gS ad' (1481, lw_L i, [], I2, G2, gP 999)) : am_V X cells slots Q gS ad (746, lw_L i ++ [], [], I, G, gP 999) := by
  obtain ⟨out, I2, G2, bb, h1, hk, h2, ht, ho, hI2⟩ := hF I G (x 1) (x 2) (x 3) hI
  refine am_blk 746 [(.aload_n 1, 1, 1, 0, .null)] (747, lw_L i ++ [], [.ref 0], I, G, gP 999) (True) hX hi (by decide +kernel) rfl trivial ?_
  refine am_scrx hX hi hs hx 1 1 (by decide) (by decide +kernel) (by decide +kernel) (lw_lk0 _ _) (lw_lk4 _ _) ?_
  show am_V X cells slots _ gS ad (753, lw_L i ++ [], [.int (x 1), .ref 0], I, G, gP 999)
  refine am_scrx hX hi hs hx 2 2 (by decide) (by decide +kernel) (by decide +kernel) (lw_lk0 _ _) (lw_lk4 _ _) ?_
  show am_V X cells slots _ gS ad (759, lw_L i ++ [], [.int (x 2), .int (x 1), .ref 0], I, G, gP 999)
  refine am_scrx hX hi hs hx 3 3 (by decide) (by decide +kernel) (by decide +kernel) (lw_lk0 _ _) (lw_lk4 _ _) ?_
  show am_V X cells slots _ gS ad (765, lw_L i ++ [], [.int (x 3), .int (x 2), .int (x 1), .ref 0], I, G, gP 999)
  refine am_blk 765 [(.aload_n 3, 1, 3, 0, .null)] (766, lw_L i ++ [], [.ref 122, .int (x 3), .int (x 2), .int (x 1), .ref 0], I, G, gP 999) (True) hX hi (by decide +kernel) rfl trivial ?_
  refine am_callHS hX hi hm hh9 (M := mL_value) (hh' := hh_value) (d' := 7) (idx := 123) (As := [.ref 0, .int (x 1), .int (x 2), .int (x 3), .ref 122]) (rest := []) (List.mem_of_getElem? (i := 1181) (by decide +kernel)) (List.mem_of_getElem? (i := 109) (by decide +kernel)) (List.mem_of_getElem? (i := 1180) (by decide +kernel)) (List.mem_of_getElem? (i := 1179) (by decide +kernel)) ⟨by decide, by decide⟩ (by decide +kernel) (by decide +kernel) rfl ⟨by decide, by decide, Nat.le_of_ble_eq_true rfl⟩ rfl ⟨by omega, by omega⟩ (c_L_value I G (x 1) (x 2) (x 3) h1 hk) ?_
  rintro r9 I9 G9 P9 ⟨e0, e1, e2, e3⟩
  rw [e0, e1, e2, e3]
  show am_V X (cells + 1) (slots + 6) _ gS ad (769, lw_L i ++ [], [.int (hO hn_value I G out).1], (hO hn_value I G out).2.1, (hO hn_value I G out).2.2, gP 999)
  refine am_blk 769 [(.istore 5, 2, 5, 0, .null), (.aload_n 2, 1, 2, 0, .null)] (772, lw_L i ++ [(5, .int (hO hn_value I G out).1)], [.ref 79], (hO hn_value I G out).2.1, (hO hn_value I G out).2.2, gP 999) (True) hX hi (by decide +kernel) rfl trivial ?_
  refine am_scrx hX hi hs hx 1 1 (by decide) (by decide +kernel) (by decide +kernel) (lw_lk0 _ _) (lw_lk4 _ _) ?_
  show am_V X (cells + 1) (slots + 6) _ gS ad (778, lw_L i ++ [(5, .int (hO hn_value I G out).1)], [.int (x 1), .ref 79], (hO hn_value I G out).2.1, (hO hn_value I G out).2.2, gP 999)
  refine am_scrx hX hi hs hx 2 2 (by decide) (by decide +kernel) (by decide +kernel) (lw_lk0 _ _) (lw_lk4 _ _) ?_
  show am_V X (cells + 1) (slots + 6) _ gS ad (784, lw_L i ++ [(5, .int (hO hn_value I G out).1)], [.int (x 2), .int (x 1), .ref 79], (hO hn_value I G out).2.1, (hO hn_value I G out).2.2, gP 999)
  refine am_scrx hX hi hs hx 3 3 (by decide) (by decide +kernel) (by decide +kernel) (lw_lk0 _ _) (lw_lk4 _ _) ?_
  show am_V X (cells + 1) (slots + 6) _ gS ad (790, lw_L i ++ [(5, .int (hO hn_value I G out).1)], [.int (x 3), .int (x 2), .int (x 1), .ref 79], (hO hn_value I G out).2.1, (hO hn_value I G out).2.2, gP 999)
  refine am_callV hX hi (M := mX14_value) (idx := 125) (d' := 7) (b := 79) (ci := 12) (As := [.int (x 1), .int (x 2), .int (x 3)]) (rest := []) mkX14_value miX14_value mvX14_value (by decide +kernel) (by decide +kernel) rfl (by decide +kernel) rfl ⟨by decide, by decide, Nat.le_of_ble_eq_true rfl⟩ rfl (c_X14_value_79 999 (hO hn_value I G out).2.1 (hO hn_value I G out).2.2 (x 1) (x 2) (x 3) h2) ?_
  rintro r9 I9 G9 P9 ⟨e0, e1, e2, e3⟩
  rw [e0, e1, e2, e3]
  show am_V X (cells + 1) (slots + 6) _ gS ad (793, lw_L i ++ [(5, .int (hO hn_value I G out).1)], [.int bb], I2, G2, gP 999)
  refine am_blk 793 [(.istore 6, 2, 6, 0, .null), (.aload_n 2, 1, 2, 0, .null)] (796, lw_L i ++ [(5, .int (hO hn_value I G out).1), (6, .int bb)], [.ref 79], I2, G2, gP 999) (True) hX hi (by decide +kernel) rfl trivial ?_
  refine am_callV hX hi (M := mX14_thrown) (idx := 77) (d' := 1) (b := 79) (ci := 12) (As := []) (rest := []) mkX14_thrown miX14_thrown mvX14_thrown (by decide +kernel) (by decide +kernel) rfl (by decide +kernel) rfl ⟨by decide, by decide, Nat.le_of_ble_eq_true rfl⟩ rfl (c_X14_thrown_79 999 I2 G2) ?_
  rintro r9 I9 G9 P9 ⟨e0, e1, e2, e3⟩
  rw [e0, e1, e2, e3, show f_X14_thrown_79 I2 G2 = (hO hn_value I G out).1 from ht]
  show am_V X (cells + 1) (slots + 6) _ gS ad (799, lw_L i ++ [(5, .int (hO hn_value I G out).1), (6, .int bb)], [.int (hO hn_value I G out).1], I2, G2, gP 999)
  refine am_blk 799 [(.iload 5, 2, 5, 0, .null)] (801, lw_L i ++ [(5, .int (hO hn_value I G out).1), (6, .int bb)], [.int (hO hn_value I G out).1, .int (hO hn_value I G out).1], I2, G2, gP 999) (True) hX hi (by decide +kernel) rfl trivial ?_
  refine am_icmp_eq (tgt := 806) hX hi (off := (5)) (by decide +kernel) (by decide) (fun _ => ?_) (fun c => absurd rfl c)
  refine am_blk 806 [(.iload 5, 2, 5, 0, .null)] (808, lw_L i ++ [(5, .int (hO hn_value I G out).1), (6, .int bb)], [.int (hO hn_value I G out).1], I2, G2, gP 999) (True) hX hi (by decide +kernel) rfl trivial ?_
  have hend : am_V X (cells + 1) (slots + 6) Q gS ad (823, lw_L i ++ [(5, .int (hO hn_value I G out).1), (6, .int bb)], [], I2, G2, gP 999) := by
    refine am_blk 823 [(.goto (658), 3, 0, 1481, .null)] (1481, lw_L i ++ [(5, .int (hO hn_value I G out).1), (6, .int bb)], [], I2, G2, gP 999) (True) hX hi (by decide +kernel) rfl trivial ?_
    refine am_sub (L' := lw_L i) (fun q hq => List.mem_append.mpr (Or.inl hq)) ?_
    exact am_wid hm (by omega) (by omega) hroom (kk ad I2 G2 hX hs hI2)
  refine am_if_ne (tgt := 823) hX hi (off := (15)) (by decide +kernel) (by decide) (fun _ => hend) (fun c => ?_)
  refine am_blk 811 [(.aload_n 3, 1, 3, 0, .null), (.iconst (0), 1, 0, 0, .int (0 : Int32)), (.laload, 1, 0, 0, .null), (.iload 6, 2, 6, 0, .null), (.i2l, 1, 0, 0, .null), (.lcmp, 1, 0, 0, .null)] (818, lw_L i ++ [(5, .int (hO hn_value I G out).1), (6, .int bb)], [.int (lg_cmp (G2 122 0) bb.toInt64)], I2, G2, gP 999) (vp_in (0 : Int32) 1 ∧ True) hX hi (by decide +kernel) rfl ⟨(i_in _ _).mpr (by decide), trivial⟩ ?_
  exact am_if_eq (tgt := 823) hX hi (off := (5)) (by decide +kernel) (by decide) (fun _ => hend) (fun c2 => absurd (by rw [ho c]; exact lg_cmp_self _) c2)
def k_comb (Inv : am_I → am_G → Prop) : Prop := ∀ (I : am_I) (G : am_G) (x1 : Int32) (x2 : Int32), Inv I G → ∃ (out : (Int32 ⊕ Nat) × am_I × am_G) (I2 : am_I) (G2 : am_G) (bb : Int32), R_X11_comb_0 I G x1 x2 = some out ∧ (∀ k, out.1 = .inr k → k = 93) ∧ (R_X14_comb_79 (hO hn_comb I G out).2.1 (hO hn_comb I G out).2.2 x1 x2 = some (bb, I2, G2)) ∧ I2 79 0 = (hO hn_comb I G out).1 ∧ ((hO hn_comb I G out).1 = 0 → G2 122 0 = bb.toInt64) ∧ Inv I2 G2
set_option maxRecDepth 20000 in
set_option maxHeartbeats 1000000 in
theorem w_comb {X : am_X} {hh : am_HH} {cells slots MC MS : Nat} {Q : State → Prop} {ad : Nat → Nat} {I : am_I} {G : am_G} {N : Nat} {xs : Nat → Int32} {i : Int32} {x : Nat → Int32} {Inv : am_I → am_G → Prop} (hX : am_okz X ad) (hi : am_info X 15 code 9 false ret 60) (hm : am_mem X MC MS) (hh9 : am_xh X hh) (hs : am_scr X ad N xs) (hroom : cells + 750 ≤ MC ∧ slots + 5000 ≤ MS) (hx : lw_rd N xs i x) (hF : k_comb Inv) (hI : Inv I G) (kk : ∀ (ad' : Nat → Nat) (I2 : am_I) (G2 : am_G), am_okz X ad' → am_scr X ad' N xs → Inv I2 G2 → am_V X (cells + 750) (slots + 5000) Q gS ad' (1481, lw_L i, [], I2, G2, gP 999)) : am_V X cells slots Q gS ad (826, lw_L i ++ [], [], I, G, gP 999) := by
  obtain ⟨out, I2, G2, bb, h1, hk, h2, ht, ho, hI2⟩ := hF I G (x 1) (x 2) hI
  refine am_blk 826 [(.aload_n 1, 1, 1, 0, .null)] (827, lw_L i ++ [], [.ref 0], I, G, gP 999) (True) hX hi (by decide +kernel) rfl trivial ?_
  refine am_scrx hX hi hs hx 1 1 (by decide) (by decide +kernel) (by decide +kernel) (lw_lk0 _ _) (lw_lk4 _ _) ?_
  show am_V X cells slots _ gS ad (833, lw_L i ++ [], [.int (x 1), .ref 0], I, G, gP 999)
  refine am_scrx hX hi hs hx 2 2 (by decide) (by decide +kernel) (by decide +kernel) (lw_lk0 _ _) (lw_lk4 _ _) ?_
  show am_V X cells slots _ gS ad (839, lw_L i ++ [], [.int (x 2), .int (x 1), .ref 0], I, G, gP 999)
  refine am_blk 839 [(.aload_n 3, 1, 3, 0, .null)] (840, lw_L i ++ [], [.ref 122, .int (x 2), .int (x 1), .ref 0], I, G, gP 999) (True) hX hi (by decide +kernel) rfl trivial ?_
  refine am_callHS hX hi hm hh9 (M := mL_comb) (hh' := hh_comb) (d' := 7) (idx := 126) (As := [.ref 0, .int (x 1), .int (x 2), .ref 122]) (rest := []) (List.mem_of_getElem? (i := 1190) (by decide +kernel)) (List.mem_of_getElem? (i := 109) (by decide +kernel)) (List.mem_of_getElem? (i := 1189) (by decide +kernel)) (List.mem_of_getElem? (i := 1188) (by decide +kernel)) ⟨by decide, by decide⟩ (by decide +kernel) (by decide +kernel) rfl ⟨by decide, by decide, Nat.le_of_ble_eq_true rfl⟩ rfl ⟨by omega, by omega⟩ (c_L_comb I G (x 1) (x 2) h1 hk) ?_
  rintro r9 I9 G9 P9 ⟨e0, e1, e2, e3⟩
  rw [e0, e1, e2, e3]
  show am_V X (cells + 1) (slots + 6) _ gS ad (843, lw_L i ++ [], [.int (hO hn_comb I G out).1], (hO hn_comb I G out).2.1, (hO hn_comb I G out).2.2, gP 999)
  refine am_blk 843 [(.istore 5, 2, 5, 0, .null), (.aload_n 2, 1, 2, 0, .null)] (846, lw_L i ++ [(5, .int (hO hn_comb I G out).1)], [.ref 79], (hO hn_comb I G out).2.1, (hO hn_comb I G out).2.2, gP 999) (True) hX hi (by decide +kernel) rfl trivial ?_
  refine am_scrx hX hi hs hx 1 1 (by decide) (by decide +kernel) (by decide +kernel) (lw_lk0 _ _) (lw_lk4 _ _) ?_
  show am_V X (cells + 1) (slots + 6) _ gS ad (852, lw_L i ++ [(5, .int (hO hn_comb I G out).1)], [.int (x 1), .ref 79], (hO hn_comb I G out).2.1, (hO hn_comb I G out).2.2, gP 999)
  refine am_scrx hX hi hs hx 2 2 (by decide) (by decide +kernel) (by decide +kernel) (lw_lk0 _ _) (lw_lk4 _ _) ?_
  show am_V X (cells + 1) (slots + 6) _ gS ad (858, lw_L i ++ [(5, .int (hO hn_comb I G out).1)], [.int (x 2), .int (x 1), .ref 79], (hO hn_comb I G out).2.1, (hO hn_comb I G out).2.2, gP 999)
  refine am_callV hX hi (M := mX14_comb) (idx := 128) (d' := 3) (b := 79) (ci := 12) (As := [.int (x 1), .int (x 2)]) (rest := []) mkX14_comb miX14_comb mvX14_comb (by decide +kernel) (by decide +kernel) rfl (by decide +kernel) rfl ⟨by decide, by decide, Nat.le_of_ble_eq_true rfl⟩ rfl (c_X14_comb_79 999 (hO hn_comb I G out).2.1 (hO hn_comb I G out).2.2 (x 1) (x 2) h2) ?_
  rintro r9 I9 G9 P9 ⟨e0, e1, e2, e3⟩
  rw [e0, e1, e2, e3]
  show am_V X (cells + 1) (slots + 6) _ gS ad (861, lw_L i ++ [(5, .int (hO hn_comb I G out).1)], [.int bb], I2, G2, gP 999)
  refine am_blk 861 [(.istore 6, 2, 6, 0, .null), (.aload_n 2, 1, 2, 0, .null)] (864, lw_L i ++ [(5, .int (hO hn_comb I G out).1), (6, .int bb)], [.ref 79], I2, G2, gP 999) (True) hX hi (by decide +kernel) rfl trivial ?_
  refine am_callV hX hi (M := mX14_thrown) (idx := 77) (d' := 1) (b := 79) (ci := 12) (As := []) (rest := []) mkX14_thrown miX14_thrown mvX14_thrown (by decide +kernel) (by decide +kernel) rfl (by decide +kernel) rfl ⟨by decide, by decide, Nat.le_of_ble_eq_true rfl⟩ rfl (c_X14_thrown_79 999 I2 G2) ?_
  rintro r9 I9 G9 P9 ⟨e0, e1, e2, e3⟩
  rw [e0, e1, e2, e3, show f_X14_thrown_79 I2 G2 = (hO hn_comb I G out).1 from ht]
  show am_V X (cells + 1) (slots + 6) _ gS ad (867, lw_L i ++ [(5, .int (hO hn_comb I G out).1), (6, .int bb)], [.int (hO hn_comb I G out).1], I2, G2, gP 999)
  refine am_blk 867 [(.iload 5, 2, 5, 0, .null)] (869, lw_L i ++ [(5, .int (hO hn_comb I G out).1), (6, .int bb)], [.int (hO hn_comb I G out).1, .int (hO hn_comb I G out).1], I2, G2, gP 999) (True) hX hi (by decide +kernel) rfl trivial ?_
  refine am_icmp_eq (tgt := 874) hX hi (off := (5)) (by decide +kernel) (by decide) (fun _ => ?_) (fun c => absurd rfl c)
  refine am_blk 874 [(.iload 5, 2, 5, 0, .null)] (876, lw_L i ++ [(5, .int (hO hn_comb I G out).1), (6, .int bb)], [.int (hO hn_comb I G out).1], I2, G2, gP 999) (True) hX hi (by decide +kernel) rfl trivial ?_
  have hend : am_V X (cells + 1) (slots + 6) Q gS ad (891, lw_L i ++ [(5, .int (hO hn_comb I G out).1), (6, .int bb)], [], I2, G2, gP 999) := by
    refine am_blk 891 [(.goto (590), 3, 0, 1481, .null)] (1481, lw_L i ++ [(5, .int (hO hn_comb I G out).1), (6, .int bb)], [], I2, G2, gP 999) (True) hX hi (by decide +kernel) rfl trivial ?_
    refine am_sub (L' := lw_L i) (fun q hq => List.mem_append.mpr (Or.inl hq)) ?_
    exact am_wid hm (by omega) (by omega) hroom (kk ad I2 G2 hX hs hI2)
  refine am_if_ne (tgt := 891) hX hi (off := (15)) (by decide +kernel) (by decide) (fun _ => hend) (fun c => ?_)
  refine am_blk 879 [(.aload_n 3, 1, 3, 0, .null), (.iconst (0), 1, 0, 0, .int (0 : Int32)), (.laload, 1, 0, 0, .null), (.iload 6, 2, 6, 0, .null), (.i2l, 1, 0, 0, .null), (.lcmp, 1, 0, 0, .null)] (886, lw_L i ++ [(5, .int (hO hn_comb I G out).1), (6, .int bb)], [.int (lg_cmp (G2 122 0) bb.toInt64)], I2, G2, gP 999) (vp_in (0 : Int32) 1 ∧ True) hX hi (by decide +kernel) rfl ⟨(i_in _ _).mpr (by decide), trivial⟩ ?_
  exact am_if_eq (tgt := 891) hX hi (off := (5)) (by decide +kernel) (by decide) (fun _ => hend) (fun c2 => absurd (by rw [ho c]; exact lg_cmp_self _) c2)
def k_moves (Inv : am_I → am_G → Prop) : Prop := ∀ (I : am_I) (G : am_G) (x1 : Int32) (x2 : Int32), Inv I G → ∃ (out : (Int32 ⊕ Nat) × am_I × am_G) (I2 : am_I) (G2 : am_G) (bb : Int32), R_X11_moves_0 I G x1 x2 = some out ∧ (∀ k, out.1 = .inr k → k = 93) ∧ (R_X14_moves_79 (hO hn_moves I G out).2.1 (hO hn_moves I G out).2.2 x1 x2 = some (bb, I2, G2)) ∧ I2 79 0 = (hO hn_moves I G out).1 ∧ ((hO hn_moves I G out).1 = 0 → G2 122 0 = bb.toInt64) ∧ Inv I2 G2
set_option maxRecDepth 20000 in
set_option maxHeartbeats 1000000 in
theorem w_moves {X : am_X} {hh : am_HH} {cells slots MC MS : Nat} {Q : State → Prop} {ad : Nat → Nat} {I : am_I} {G : am_G} {N : Nat} {xs : Nat → Int32} {i : Int32} {x : Nat → Int32} {Inv : am_I → am_G → Prop} (hX : am_okz X ad) (hi : am_info X 15 code 9 false ret 60) (hm : am_mem X MC MS) (hh9 : am_xh X hh) (hs : am_scr X ad N xs) (hroom : cells + 750 ≤ MC ∧ slots + 5000 ≤ MS) (hx : lw_rd N xs i x) (hF : k_moves Inv) (hI : Inv I G) (kk : ∀ (ad' : Nat → Nat) (I2 : am_I) (G2 : am_G), am_okz X ad' → am_scr X ad' N xs → Inv I2 G2 → am_V X (cells + 750) (slots + 5000) Q gS ad' (1481, lw_L i, [], I2, G2, gP 999)) : am_V X cells slots Q gS ad (894, lw_L i ++ [], [], I, G, gP 999) := by
  obtain ⟨out, I2, G2, bb, h1, hk, h2, ht, ho, hI2⟩ := hF I G (x 1) (x 2) hI
  refine am_blk 894 [(.aload_n 1, 1, 1, 0, .null)] (895, lw_L i ++ [], [.ref 0], I, G, gP 999) (True) hX hi (by decide +kernel) rfl trivial ?_
  refine am_scrx hX hi hs hx 1 1 (by decide) (by decide +kernel) (by decide +kernel) (lw_lk0 _ _) (lw_lk4 _ _) ?_
  show am_V X cells slots _ gS ad (901, lw_L i ++ [], [.int (x 1), .ref 0], I, G, gP 999)
  refine am_scrx hX hi hs hx 2 2 (by decide) (by decide +kernel) (by decide +kernel) (lw_lk0 _ _) (lw_lk4 _ _) ?_
  show am_V X cells slots _ gS ad (907, lw_L i ++ [], [.int (x 2), .int (x 1), .ref 0], I, G, gP 999)
  refine am_blk 907 [(.aload_n 3, 1, 3, 0, .null)] (908, lw_L i ++ [], [.ref 122, .int (x 2), .int (x 1), .ref 0], I, G, gP 999) (True) hX hi (by decide +kernel) rfl trivial ?_
  refine am_callHS hX hi hm hh9 (M := mL_moves) (hh' := hh_moves) (d' := 7) (idx := 129) (As := [.ref 0, .int (x 1), .int (x 2), .ref 122]) (rest := []) (List.mem_of_getElem? (i := 1198) (by decide +kernel)) (List.mem_of_getElem? (i := 109) (by decide +kernel)) (List.mem_of_getElem? (i := 1197) (by decide +kernel)) (List.mem_of_getElem? (i := 1196) (by decide +kernel)) ⟨by decide, by decide⟩ (by decide +kernel) (by decide +kernel) rfl ⟨by decide, by decide, Nat.le_of_ble_eq_true rfl⟩ rfl ⟨by omega, by omega⟩ (c_L_moves I G (x 1) (x 2) h1 hk) ?_
  rintro r9 I9 G9 P9 ⟨e0, e1, e2, e3⟩
  rw [e0, e1, e2, e3]
  show am_V X (cells + 1) (slots + 6) _ gS ad (911, lw_L i ++ [], [.int (hO hn_moves I G out).1], (hO hn_moves I G out).2.1, (hO hn_moves I G out).2.2, gP 999)
  refine am_blk 911 [(.istore 5, 2, 5, 0, .null), (.aload_n 2, 1, 2, 0, .null)] (914, lw_L i ++ [(5, .int (hO hn_moves I G out).1)], [.ref 79], (hO hn_moves I G out).2.1, (hO hn_moves I G out).2.2, gP 999) (True) hX hi (by decide +kernel) rfl trivial ?_
  refine am_scrx hX hi hs hx 1 1 (by decide) (by decide +kernel) (by decide +kernel) (lw_lk0 _ _) (lw_lk4 _ _) ?_
  show am_V X (cells + 1) (slots + 6) _ gS ad (920, lw_L i ++ [(5, .int (hO hn_moves I G out).1)], [.int (x 1), .ref 79], (hO hn_moves I G out).2.1, (hO hn_moves I G out).2.2, gP 999)
  refine am_scrx hX hi hs hx 2 2 (by decide) (by decide +kernel) (by decide +kernel) (lw_lk0 _ _) (lw_lk4 _ _) ?_
  show am_V X (cells + 1) (slots + 6) _ gS ad (926, lw_L i ++ [(5, .int (hO hn_moves I G out).1)], [.int (x 2), .int (x 1), .ref 79], (hO hn_moves I G out).2.1, (hO hn_moves I G out).2.2, gP 999)
  refine am_callV hX hi (M := mX14_moves) (idx := 131) (d' := 3) (b := 79) (ci := 12) (As := [.int (x 1), .int (x 2)]) (rest := []) mkX14_moves miX14_moves mvX14_moves (by decide +kernel) (by decide +kernel) rfl (by decide +kernel) rfl ⟨by decide, by decide, Nat.le_of_ble_eq_true rfl⟩ rfl (c_X14_moves_79 999 (hO hn_moves I G out).2.1 (hO hn_moves I G out).2.2 (x 1) (x 2) h2) ?_
  rintro r9 I9 G9 P9 ⟨e0, e1, e2, e3⟩
  rw [e0, e1, e2, e3]
  show am_V X (cells + 1) (slots + 6) _ gS ad (929, lw_L i ++ [(5, .int (hO hn_moves I G out).1)], [.int bb], I2, G2, gP 999)
  refine am_blk 929 [(.istore 6, 2, 6, 0, .null), (.aload_n 2, 1, 2, 0, .null)] (932, lw_L i ++ [(5, .int (hO hn_moves I G out).1), (6, .int bb)], [.ref 79], I2, G2, gP 999) (True) hX hi (by decide +kernel) rfl trivial ?_
  refine am_callV hX hi (M := mX14_thrown) (idx := 77) (d' := 1) (b := 79) (ci := 12) (As := []) (rest := []) mkX14_thrown miX14_thrown mvX14_thrown (by decide +kernel) (by decide +kernel) rfl (by decide +kernel) rfl ⟨by decide, by decide, Nat.le_of_ble_eq_true rfl⟩ rfl (c_X14_thrown_79 999 I2 G2) ?_
  rintro r9 I9 G9 P9 ⟨e0, e1, e2, e3⟩
  rw [e0, e1, e2, e3, show f_X14_thrown_79 I2 G2 = (hO hn_moves I G out).1 from ht]
  show am_V X (cells + 1) (slots + 6) _ gS ad (935, lw_L i ++ [(5, .int (hO hn_moves I G out).1), (6, .int bb)], [.int (hO hn_moves I G out).1], I2, G2, gP 999)
  refine am_blk 935 [(.iload 5, 2, 5, 0, .null)] (937, lw_L i ++ [(5, .int (hO hn_moves I G out).1), (6, .int bb)], [.int (hO hn_moves I G out).1, .int (hO hn_moves I G out).1], I2, G2, gP 999) (True) hX hi (by decide +kernel) rfl trivial ?_
  refine am_icmp_eq (tgt := 942) hX hi (off := (5)) (by decide +kernel) (by decide) (fun _ => ?_) (fun c => absurd rfl c)
  refine am_blk 942 [(.iload 5, 2, 5, 0, .null)] (944, lw_L i ++ [(5, .int (hO hn_moves I G out).1), (6, .int bb)], [.int (hO hn_moves I G out).1], I2, G2, gP 999) (True) hX hi (by decide +kernel) rfl trivial ?_
  have hend : am_V X (cells + 1) (slots + 6) Q gS ad (959, lw_L i ++ [(5, .int (hO hn_moves I G out).1), (6, .int bb)], [], I2, G2, gP 999) := by
    refine am_blk 959 [(.goto (522), 3, 0, 1481, .null)] (1481, lw_L i ++ [(5, .int (hO hn_moves I G out).1), (6, .int bb)], [], I2, G2, gP 999) (True) hX hi (by decide +kernel) rfl trivial ?_
    refine am_sub (L' := lw_L i) (fun q hq => List.mem_append.mpr (Or.inl hq)) ?_
    exact am_wid hm (by omega) (by omega) hroom (kk ad I2 G2 hX hs hI2)
  refine am_if_ne (tgt := 959) hX hi (off := (15)) (by decide +kernel) (by decide) (fun _ => hend) (fun c => ?_)
  refine am_blk 947 [(.aload_n 3, 1, 3, 0, .null), (.iconst (0), 1, 0, 0, .int (0 : Int32)), (.laload, 1, 0, 0, .null), (.iload 6, 2, 6, 0, .null), (.i2l, 1, 0, 0, .null), (.lcmp, 1, 0, 0, .null)] (954, lw_L i ++ [(5, .int (hO hn_moves I G out).1), (6, .int bb)], [.int (lg_cmp (G2 122 0) bb.toInt64)], I2, G2, gP 999) (vp_in (0 : Int32) 1 ∧ True) hX hi (by decide +kernel) rfl ⟨(i_in _ _).mpr (by decide), trivial⟩ ?_
  exact am_if_eq (tgt := 959) hX hi (off := (5)) (by decide +kernel) (by decide) (fun _ => hend) (fun c2 => absurd (by rw [ho c]; exact lg_cmp_self _) c2)
def k_setPull (Inv : am_I → am_G → Prop) : Prop := ∀ (I : am_I) (G : am_G) (x1 : Int32) (x2 : Int32), Inv I G → ∃ (out : (Int32 ⊕ Nat) × am_I × am_G) (I2 : am_I) (G2 : am_G) (bb : Int32), R_X11_setPull_0 I G x1 x2 = some out ∧ (∀ k, out.1 = .inr k → k = 93 ∨ k = 71) ∧ (R_X14_setPull_79 (hO hn_setPull I G out).2.1 (hO hn_setPull I G out).2.2 x1 x2 = some (bb, I2, G2)) ∧ I2 79 0 = (hO hn_setPull I G out).1 ∧ ((hO hn_setPull I G out).1 = 0 → G2 122 0 = bb.toInt64) ∧ Inv I2 G2
set_option maxRecDepth 20000 in
set_option maxHeartbeats 1000000 in
theorem w_setPull {X : am_X} {hh : am_HH} {cells slots MC MS : Nat} {Q : State → Prop} {ad : Nat → Nat} {I : am_I} {G : am_G} {N : Nat} {xs : Nat → Int32} {i : Int32} {x : Nat → Int32} {Inv : am_I → am_G → Prop} (hX : am_okz X ad) (hi : am_info X 15 code 9 false ret 60) (hm : am_mem X MC MS) (hh9 : am_xh X hh) (hs : am_scr X ad N xs) (hroom : cells + 750 ≤ MC ∧ slots + 5000 ≤ MS) (hx : lw_rd N xs i x) (hF : k_setPull Inv) (hI : Inv I G) (kk : ∀ (ad' : Nat → Nat) (I2 : am_I) (G2 : am_G), am_okz X ad' → am_scr X ad' N xs → Inv I2 G2 → am_V X (cells + 750) (slots + 5000) Q gS ad' (1481, lw_L i, [], I2, G2, gP 999)) : am_V X cells slots Q gS ad (962, lw_L i ++ [], [], I, G, gP 999) := by
  obtain ⟨out, I2, G2, bb, h1, hk, h2, ht, ho, hI2⟩ := hF I G (x 1) (x 2) hI
  refine am_blk 962 [(.aload_n 1, 1, 1, 0, .null)] (963, lw_L i ++ [], [.ref 0], I, G, gP 999) (True) hX hi (by decide +kernel) rfl trivial ?_
  refine am_scrx hX hi hs hx 1 1 (by decide) (by decide +kernel) (by decide +kernel) (lw_lk0 _ _) (lw_lk4 _ _) ?_
  show am_V X cells slots _ gS ad (969, lw_L i ++ [], [.int (x 1), .ref 0], I, G, gP 999)
  refine am_scrx hX hi hs hx 2 2 (by decide) (by decide +kernel) (by decide +kernel) (lw_lk0 _ _) (lw_lk4 _ _) ?_
  show am_V X cells slots _ gS ad (975, lw_L i ++ [], [.int (x 2), .int (x 1), .ref 0], I, G, gP 999)
  refine am_blk 975 [(.aload_n 3, 1, 3, 0, .null)] (976, lw_L i ++ [], [.ref 122, .int (x 2), .int (x 1), .ref 0], I, G, gP 999) (True) hX hi (by decide +kernel) rfl trivial ?_
  refine am_callHS hX hi hm hh9 (M := mL_setPull) (hh' := hh_setPull) (d' := 7) (idx := 132) (As := [.ref 0, .int (x 1), .int (x 2), .ref 122]) (rest := []) (List.mem_of_getElem? (i := 1208) (by decide +kernel)) (List.mem_of_getElem? (i := 109) (by decide +kernel)) (List.mem_of_getElem? (i := 1207) (by decide +kernel)) (List.mem_of_getElem? (i := 1206) (by decide +kernel)) ⟨by decide, by decide⟩ (by decide +kernel) (by decide +kernel) rfl ⟨by decide, by decide, Nat.le_of_ble_eq_true rfl⟩ rfl ⟨by omega, by omega⟩ (c_L_setPull I G (x 1) (x 2) h1 hk) ?_
  rintro r9 I9 G9 P9 ⟨e0, e1, e2, e3⟩
  rw [e0, e1, e2, e3]
  show am_V X (cells + 1) (slots + 6) _ gS ad (979, lw_L i ++ [], [.int (hO hn_setPull I G out).1], (hO hn_setPull I G out).2.1, (hO hn_setPull I G out).2.2, gP 999)
  refine am_blk 979 [(.istore 5, 2, 5, 0, .null), (.aload_n 2, 1, 2, 0, .null)] (982, lw_L i ++ [(5, .int (hO hn_setPull I G out).1)], [.ref 79], (hO hn_setPull I G out).2.1, (hO hn_setPull I G out).2.2, gP 999) (True) hX hi (by decide +kernel) rfl trivial ?_
  refine am_scrx hX hi hs hx 1 1 (by decide) (by decide +kernel) (by decide +kernel) (lw_lk0 _ _) (lw_lk4 _ _) ?_
  show am_V X (cells + 1) (slots + 6) _ gS ad (988, lw_L i ++ [(5, .int (hO hn_setPull I G out).1)], [.int (x 1), .ref 79], (hO hn_setPull I G out).2.1, (hO hn_setPull I G out).2.2, gP 999)
  refine am_scrx hX hi hs hx 2 2 (by decide) (by decide +kernel) (by decide +kernel) (lw_lk0 _ _) (lw_lk4 _ _) ?_
  show am_V X (cells + 1) (slots + 6) _ gS ad (994, lw_L i ++ [(5, .int (hO hn_setPull I G out).1)], [.int (x 2), .int (x 1), .ref 79], (hO hn_setPull I G out).2.1, (hO hn_setPull I G out).2.2, gP 999)
  refine am_callV hX hi (M := mX14_setPull) (idx := 134) (d' := 3) (b := 79) (ci := 12) (As := [.int (x 1), .int (x 2)]) (rest := []) mkX14_setPull miX14_setPull mvX14_setPull (by decide +kernel) (by decide +kernel) rfl (by decide +kernel) rfl ⟨by decide, by decide, Nat.le_of_ble_eq_true rfl⟩ rfl (c_X14_setPull_79 999 (hO hn_setPull I G out).2.1 (hO hn_setPull I G out).2.2 (x 1) (x 2) h2) ?_
  rintro r9 I9 G9 P9 ⟨e0, e1, e2, e3⟩
  rw [e0, e1, e2, e3]
  show am_V X (cells + 1) (slots + 6) _ gS ad (997, lw_L i ++ [(5, .int (hO hn_setPull I G out).1)], [.int bb], I2, G2, gP 999)
  refine am_blk 997 [(.istore 6, 2, 6, 0, .null), (.aload_n 2, 1, 2, 0, .null)] (1000, lw_L i ++ [(5, .int (hO hn_setPull I G out).1), (6, .int bb)], [.ref 79], I2, G2, gP 999) (True) hX hi (by decide +kernel) rfl trivial ?_
  refine am_callV hX hi (M := mX14_thrown) (idx := 77) (d' := 1) (b := 79) (ci := 12) (As := []) (rest := []) mkX14_thrown miX14_thrown mvX14_thrown (by decide +kernel) (by decide +kernel) rfl (by decide +kernel) rfl ⟨by decide, by decide, Nat.le_of_ble_eq_true rfl⟩ rfl (c_X14_thrown_79 999 I2 G2) ?_
  rintro r9 I9 G9 P9 ⟨e0, e1, e2, e3⟩
  rw [e0, e1, e2, e3, show f_X14_thrown_79 I2 G2 = (hO hn_setPull I G out).1 from ht]
  show am_V X (cells + 1) (slots + 6) _ gS ad (1003, lw_L i ++ [(5, .int (hO hn_setPull I G out).1), (6, .int bb)], [.int (hO hn_setPull I G out).1], I2, G2, gP 999)
  refine am_blk 1003 [(.iload 5, 2, 5, 0, .null)] (1005, lw_L i ++ [(5, .int (hO hn_setPull I G out).1), (6, .int bb)], [.int (hO hn_setPull I G out).1, .int (hO hn_setPull I G out).1], I2, G2, gP 999) (True) hX hi (by decide +kernel) rfl trivial ?_
  refine am_icmp_eq (tgt := 1010) hX hi (off := (5)) (by decide +kernel) (by decide) (fun _ => ?_) (fun c => absurd rfl c)
  refine am_blk 1010 [(.iload 5, 2, 5, 0, .null)] (1012, lw_L i ++ [(5, .int (hO hn_setPull I G out).1), (6, .int bb)], [.int (hO hn_setPull I G out).1], I2, G2, gP 999) (True) hX hi (by decide +kernel) rfl trivial ?_
  have hend : am_V X (cells + 1) (slots + 6) Q gS ad (1027, lw_L i ++ [(5, .int (hO hn_setPull I G out).1), (6, .int bb)], [], I2, G2, gP 999) := by
    refine am_blk 1027 [(.goto (454), 3, 0, 1481, .null)] (1481, lw_L i ++ [(5, .int (hO hn_setPull I G out).1), (6, .int bb)], [], I2, G2, gP 999) (True) hX hi (by decide +kernel) rfl trivial ?_
    refine am_sub (L' := lw_L i) (fun q hq => List.mem_append.mpr (Or.inl hq)) ?_
    exact am_wid hm (by omega) (by omega) hroom (kk ad I2 G2 hX hs hI2)
  refine am_if_ne (tgt := 1027) hX hi (off := (15)) (by decide +kernel) (by decide) (fun _ => hend) (fun c => ?_)
  refine am_blk 1015 [(.aload_n 3, 1, 3, 0, .null), (.iconst (0), 1, 0, 0, .int (0 : Int32)), (.laload, 1, 0, 0, .null), (.iload 6, 2, 6, 0, .null), (.i2l, 1, 0, 0, .null), (.lcmp, 1, 0, 0, .null)] (1022, lw_L i ++ [(5, .int (hO hn_setPull I G out).1), (6, .int bb)], [.int (lg_cmp (G2 122 0) bb.toInt64)], I2, G2, gP 999) (vp_in (0 : Int32) 1 ∧ True) hX hi (by decide +kernel) rfl ⟨(i_in _ _).mpr (by decide), trivial⟩ ?_
  exact am_if_eq (tgt := 1027) hX hi (off := (5)) (by decide +kernel) (by decide) (fun _ => hend) (fun c2 => absurd (by rw [ho c]; exact lg_cmp_self _) c2)
def k_setSeed (Inv : am_I → am_G → Prop) : Prop := ∀ (I : am_I) (G : am_G) (x1 : Int32) (x2 : Int32), Inv I G → ∃ (out : (Int32 ⊕ Nat) × am_I × am_G) (I2 : am_I) (G2 : am_G) (bb : Int32), R_X11_setSeed_0 I G x1 x2 = some out ∧ (∀ k, out.1 = .inr k → k = 93 ∨ k = 71) ∧ (R_X14_setSeed_79 (hO hn_setSeed I G out).2.1 (hO hn_setSeed I G out).2.2 x1 x2 = some (bb, I2, G2)) ∧ I2 79 0 = (hO hn_setSeed I G out).1 ∧ ((hO hn_setSeed I G out).1 = 0 → G2 122 0 = bb.toInt64) ∧ Inv I2 G2
set_option maxRecDepth 20000 in
set_option maxHeartbeats 1000000 in
theorem w_setSeed {X : am_X} {hh : am_HH} {cells slots MC MS : Nat} {Q : State → Prop} {ad : Nat → Nat} {I : am_I} {G : am_G} {N : Nat} {xs : Nat → Int32} {i : Int32} {x : Nat → Int32} {Inv : am_I → am_G → Prop} (hX : am_okz X ad) (hi : am_info X 15 code 9 false ret 60) (hm : am_mem X MC MS) (hh9 : am_xh X hh) (hs : am_scr X ad N xs) (hroom : cells + 750 ≤ MC ∧ slots + 5000 ≤ MS) (hx : lw_rd N xs i x) (hF : k_setSeed Inv) (hI : Inv I G) (kk : ∀ (ad' : Nat → Nat) (I2 : am_I) (G2 : am_G), am_okz X ad' → am_scr X ad' N xs → Inv I2 G2 → am_V X (cells + 750) (slots + 5000) Q gS ad' (1481, lw_L i, [], I2, G2, gP 999)) : am_V X cells slots Q gS ad (1030, lw_L i ++ [], [], I, G, gP 999) := by
  obtain ⟨out, I2, G2, bb, h1, hk, h2, ht, ho, hI2⟩ := hF I G (x 1) (x 2) hI
  refine am_blk 1030 [(.aload_n 1, 1, 1, 0, .null)] (1031, lw_L i ++ [], [.ref 0], I, G, gP 999) (True) hX hi (by decide +kernel) rfl trivial ?_
  refine am_scrx hX hi hs hx 1 1 (by decide) (by decide +kernel) (by decide +kernel) (lw_lk0 _ _) (lw_lk4 _ _) ?_
  show am_V X cells slots _ gS ad (1037, lw_L i ++ [], [.int (x 1), .ref 0], I, G, gP 999)
  refine am_scrx hX hi hs hx 2 2 (by decide) (by decide +kernel) (by decide +kernel) (lw_lk0 _ _) (lw_lk4 _ _) ?_
  show am_V X cells slots _ gS ad (1043, lw_L i ++ [], [.int (x 2), .int (x 1), .ref 0], I, G, gP 999)
  refine am_blk 1043 [(.aload_n 3, 1, 3, 0, .null)] (1044, lw_L i ++ [], [.ref 122, .int (x 2), .int (x 1), .ref 0], I, G, gP 999) (True) hX hi (by decide +kernel) rfl trivial ?_
  refine am_callHS hX hi hm hh9 (M := mL_setSeed) (hh' := hh_setSeed) (d' := 7) (idx := 135) (As := [.ref 0, .int (x 1), .int (x 2), .ref 122]) (rest := []) (List.mem_of_getElem? (i := 1220) (by decide +kernel)) (List.mem_of_getElem? (i := 109) (by decide +kernel)) (List.mem_of_getElem? (i := 1219) (by decide +kernel)) (List.mem_of_getElem? (i := 1218) (by decide +kernel)) ⟨by decide, by decide⟩ (by decide +kernel) (by decide +kernel) rfl ⟨by decide, by decide, Nat.le_of_ble_eq_true rfl⟩ rfl ⟨by omega, by omega⟩ (c_L_setSeed I G (x 1) (x 2) h1 hk) ?_
  rintro r9 I9 G9 P9 ⟨e0, e1, e2, e3⟩
  rw [e0, e1, e2, e3]
  show am_V X (cells + 1) (slots + 6) _ gS ad (1047, lw_L i ++ [], [.int (hO hn_setSeed I G out).1], (hO hn_setSeed I G out).2.1, (hO hn_setSeed I G out).2.2, gP 999)
  refine am_blk 1047 [(.istore 5, 2, 5, 0, .null), (.aload_n 2, 1, 2, 0, .null)] (1050, lw_L i ++ [(5, .int (hO hn_setSeed I G out).1)], [.ref 79], (hO hn_setSeed I G out).2.1, (hO hn_setSeed I G out).2.2, gP 999) (True) hX hi (by decide +kernel) rfl trivial ?_
  refine am_scrx hX hi hs hx 1 1 (by decide) (by decide +kernel) (by decide +kernel) (lw_lk0 _ _) (lw_lk4 _ _) ?_
  show am_V X (cells + 1) (slots + 6) _ gS ad (1056, lw_L i ++ [(5, .int (hO hn_setSeed I G out).1)], [.int (x 1), .ref 79], (hO hn_setSeed I G out).2.1, (hO hn_setSeed I G out).2.2, gP 999)
  refine am_scrx hX hi hs hx 2 2 (by decide) (by decide +kernel) (by decide +kernel) (lw_lk0 _ _) (lw_lk4 _ _) ?_
  show am_V X (cells + 1) (slots + 6) _ gS ad (1062, lw_L i ++ [(5, .int (hO hn_setSeed I G out).1)], [.int (x 2), .int (x 1), .ref 79], (hO hn_setSeed I G out).2.1, (hO hn_setSeed I G out).2.2, gP 999)
  refine am_callV hX hi (M := mX14_setSeed) (idx := 137) (d' := 3) (b := 79) (ci := 12) (As := [.int (x 1), .int (x 2)]) (rest := []) mkX14_setSeed miX14_setSeed mvX14_setSeed (by decide +kernel) (by decide +kernel) rfl (by decide +kernel) rfl ⟨by decide, by decide, Nat.le_of_ble_eq_true rfl⟩ rfl (c_X14_setSeed_79 999 (hO hn_setSeed I G out).2.1 (hO hn_setSeed I G out).2.2 (x 1) (x 2) h2) ?_
  rintro r9 I9 G9 P9 ⟨e0, e1, e2, e3⟩
  rw [e0, e1, e2, e3]
  show am_V X (cells + 1) (slots + 6) _ gS ad (1065, lw_L i ++ [(5, .int (hO hn_setSeed I G out).1)], [.int bb], I2, G2, gP 999)
  refine am_blk 1065 [(.istore 6, 2, 6, 0, .null), (.aload_n 2, 1, 2, 0, .null)] (1068, lw_L i ++ [(5, .int (hO hn_setSeed I G out).1), (6, .int bb)], [.ref 79], I2, G2, gP 999) (True) hX hi (by decide +kernel) rfl trivial ?_
  refine am_callV hX hi (M := mX14_thrown) (idx := 77) (d' := 1) (b := 79) (ci := 12) (As := []) (rest := []) mkX14_thrown miX14_thrown mvX14_thrown (by decide +kernel) (by decide +kernel) rfl (by decide +kernel) rfl ⟨by decide, by decide, Nat.le_of_ble_eq_true rfl⟩ rfl (c_X14_thrown_79 999 I2 G2) ?_
  rintro r9 I9 G9 P9 ⟨e0, e1, e2, e3⟩
  rw [e0, e1, e2, e3, show f_X14_thrown_79 I2 G2 = (hO hn_setSeed I G out).1 from ht]
  show am_V X (cells + 1) (slots + 6) _ gS ad (1071, lw_L i ++ [(5, .int (hO hn_setSeed I G out).1), (6, .int bb)], [.int (hO hn_setSeed I G out).1], I2, G2, gP 999)
  refine am_blk 1071 [(.iload 5, 2, 5, 0, .null)] (1073, lw_L i ++ [(5, .int (hO hn_setSeed I G out).1), (6, .int bb)], [.int (hO hn_setSeed I G out).1, .int (hO hn_setSeed I G out).1], I2, G2, gP 999) (True) hX hi (by decide +kernel) rfl trivial ?_
  refine am_icmp_eq (tgt := 1078) hX hi (off := (5)) (by decide +kernel) (by decide) (fun _ => ?_) (fun c => absurd rfl c)
  refine am_blk 1078 [(.iload 5, 2, 5, 0, .null)] (1080, lw_L i ++ [(5, .int (hO hn_setSeed I G out).1), (6, .int bb)], [.int (hO hn_setSeed I G out).1], I2, G2, gP 999) (True) hX hi (by decide +kernel) rfl trivial ?_
  have hend : am_V X (cells + 1) (slots + 6) Q gS ad (1095, lw_L i ++ [(5, .int (hO hn_setSeed I G out).1), (6, .int bb)], [], I2, G2, gP 999) := by
    refine am_blk 1095 [(.goto (386), 3, 0, 1481, .null)] (1481, lw_L i ++ [(5, .int (hO hn_setSeed I G out).1), (6, .int bb)], [], I2, G2, gP 999) (True) hX hi (by decide +kernel) rfl trivial ?_
    refine am_sub (L' := lw_L i) (fun q hq => List.mem_append.mpr (Or.inl hq)) ?_
    exact am_wid hm (by omega) (by omega) hroom (kk ad I2 G2 hX hs hI2)
  refine am_if_ne (tgt := 1095) hX hi (off := (15)) (by decide +kernel) (by decide) (fun _ => hend) (fun c => ?_)
  refine am_blk 1083 [(.aload_n 3, 1, 3, 0, .null), (.iconst (0), 1, 0, 0, .int (0 : Int32)), (.laload, 1, 0, 0, .null), (.iload 6, 2, 6, 0, .null), (.i2l, 1, 0, 0, .null), (.lcmp, 1, 0, 0, .null)] (1090, lw_L i ++ [(5, .int (hO hn_setSeed I G out).1), (6, .int bb)], [.int (lg_cmp (G2 122 0) bb.toInt64)], I2, G2, gP 999) (vp_in (0 : Int32) 1 ∧ True) hX hi (by decide +kernel) rfl ⟨(i_in _ _).mpr (by decide), trivial⟩ ?_
  exact am_if_eq (tgt := 1095) hX hi (off := (5)) (by decide +kernel) (by decide) (fun _ => hend) (fun c2 => absurd (by rw [ho c]; exact lg_cmp_self _) c2)
def k_drift (Inv : am_I → am_G → Prop) : Prop := ∀ (I : am_I) (G : am_G) (x1 : Int32) (x2 : Int32), Inv I G → ∃ (out : (Int32 ⊕ Nat) × am_I × am_G) (I2 : am_I) (G2 : am_G) (bb : Int32), R_X11_drift_0 I G x1 x2 = some out ∧ (∀ k, out.1 = .inr k → k = 71) ∧ (q_X14_drift_79 (hO hn_drift I G out).2.1 (hO hn_drift I G out).2.2 x1 x2 ∧ f_X14_drift_79 (hO hn_drift I G out).2.1 (hO hn_drift I G out).2.2 x1 x2 = bb ∧ g_X14_drift_79 (hO hn_drift I G out).2.1 (hO hn_drift I G out).2.2 x1 x2 = I2 ∧ (hO hn_drift I G out).2.2 = G2) ∧ I2 79 0 = (hO hn_drift I G out).1 ∧ ((hO hn_drift I G out).1 = 0 → G2 122 0 = bb.toInt64) ∧ Inv I2 G2
set_option maxRecDepth 20000 in
set_option maxHeartbeats 1000000 in
theorem w_drift {X : am_X} {hh : am_HH} {cells slots MC MS : Nat} {Q : State → Prop} {ad : Nat → Nat} {I : am_I} {G : am_G} {N : Nat} {xs : Nat → Int32} {i : Int32} {x : Nat → Int32} {Inv : am_I → am_G → Prop} (hX : am_okz X ad) (hi : am_info X 15 code 9 false ret 60) (hm : am_mem X MC MS) (hh9 : am_xh X hh) (hs : am_scr X ad N xs) (hroom : cells + 750 ≤ MC ∧ slots + 5000 ≤ MS) (hx : lw_rd N xs i x) (hF : k_drift Inv) (hI : Inv I G) (kk : ∀ (ad' : Nat → Nat) (I2 : am_I) (G2 : am_G), am_okz X ad' → am_scr X ad' N xs → Inv I2 G2 → am_V X (cells + 750) (slots + 5000) Q gS ad' (1481, lw_L i, [], I2, G2, gP 999)) : am_V X cells slots Q gS ad (1098, lw_L i ++ [], [], I, G, gP 999) := by
  obtain ⟨out, I2, G2, bb, h1, hk, h2, ht, ho, hI2⟩ := hF I G (x 1) (x 2) hI
  refine am_blk 1098 [(.aload_n 1, 1, 1, 0, .null)] (1099, lw_L i ++ [], [.ref 0], I, G, gP 999) (True) hX hi (by decide +kernel) rfl trivial ?_
  refine am_scrx hX hi hs hx 1 1 (by decide) (by decide +kernel) (by decide +kernel) (lw_lk0 _ _) (lw_lk4 _ _) ?_
  show am_V X cells slots _ gS ad (1105, lw_L i ++ [], [.int (x 1), .ref 0], I, G, gP 999)
  refine am_scrx hX hi hs hx 2 2 (by decide) (by decide +kernel) (by decide +kernel) (lw_lk0 _ _) (lw_lk4 _ _) ?_
  show am_V X cells slots _ gS ad (1111, lw_L i ++ [], [.int (x 2), .int (x 1), .ref 0], I, G, gP 999)
  refine am_blk 1111 [(.aload_n 3, 1, 3, 0, .null)] (1112, lw_L i ++ [], [.ref 122, .int (x 2), .int (x 1), .ref 0], I, G, gP 999) (True) hX hi (by decide +kernel) rfl trivial ?_
  refine am_callHS hX hi hm hh9 (M := mL_drift) (hh' := hh_drift) (d' := 7) (idx := 138) (As := [.ref 0, .int (x 1), .int (x 2), .ref 122]) (rest := []) (List.mem_of_getElem? (i := 1232) (by decide +kernel)) (List.mem_of_getElem? (i := 109) (by decide +kernel)) (List.mem_of_getElem? (i := 1231) (by decide +kernel)) (List.mem_of_getElem? (i := 1230) (by decide +kernel)) ⟨by decide, by decide⟩ (by decide +kernel) (by decide +kernel) rfl ⟨by decide, by decide, Nat.le_of_ble_eq_true rfl⟩ rfl ⟨by omega, by omega⟩ (c_L_drift I G (x 1) (x 2) h1 hk) ?_
  rintro r9 I9 G9 P9 ⟨e0, e1, e2, e3⟩
  rw [e0, e1, e2, e3]
  show am_V X (cells + 1) (slots + 6) _ gS ad (1115, lw_L i ++ [], [.int (hO hn_drift I G out).1], (hO hn_drift I G out).2.1, (hO hn_drift I G out).2.2, gP 999)
  refine am_blk 1115 [(.istore 5, 2, 5, 0, .null), (.aload_n 2, 1, 2, 0, .null)] (1118, lw_L i ++ [(5, .int (hO hn_drift I G out).1)], [.ref 79], (hO hn_drift I G out).2.1, (hO hn_drift I G out).2.2, gP 999) (True) hX hi (by decide +kernel) rfl trivial ?_
  refine am_scrx hX hi hs hx 1 1 (by decide) (by decide +kernel) (by decide +kernel) (lw_lk0 _ _) (lw_lk4 _ _) ?_
  show am_V X (cells + 1) (slots + 6) _ gS ad (1124, lw_L i ++ [(5, .int (hO hn_drift I G out).1)], [.int (x 1), .ref 79], (hO hn_drift I G out).2.1, (hO hn_drift I G out).2.2, gP 999)
  refine am_scrx hX hi hs hx 2 2 (by decide) (by decide +kernel) (by decide +kernel) (lw_lk0 _ _) (lw_lk4 _ _) ?_
  show am_V X (cells + 1) (slots + 6) _ gS ad (1130, lw_L i ++ [(5, .int (hO hn_drift I G out).1)], [.int (x 2), .int (x 1), .ref 79], (hO hn_drift I G out).2.1, (hO hn_drift I G out).2.2, gP 999)
  obtain ⟨hq, h2, h3, h4⟩ := h2
  refine am_callV hX hi (M := mX14_drift) (idx := 140) (d' := 3) (b := 79) (ci := 12) (As := [.int (x 1), .int (x 2)]) (rest := []) mkX14_drift miX14_drift mvX14_drift (by decide +kernel) (by decide +kernel) rfl (by decide +kernel) rfl ⟨by decide, by decide, Nat.le_of_ble_eq_true rfl⟩ rfl (c_X14_drift_79 999 (hO hn_drift I G out).2.1 (hO hn_drift I G out).2.2 (x 1) (x 2) hq) ?_
  rintro r9 I9 G9 P9 ⟨e0, e1, e2, e3⟩
  rw [e0, e1, e2, e3]
  rw [h2, h3, h4]
  show am_V X (cells + 1) (slots + 6) _ gS ad (1133, lw_L i ++ [(5, .int (hO hn_drift I G out).1)], [.int bb], I2, G2, gP 999)
  refine am_blk 1133 [(.istore 6, 2, 6, 0, .null), (.aload_n 2, 1, 2, 0, .null)] (1136, lw_L i ++ [(5, .int (hO hn_drift I G out).1), (6, .int bb)], [.ref 79], I2, G2, gP 999) (True) hX hi (by decide +kernel) rfl trivial ?_
  refine am_callV hX hi (M := mX14_thrown) (idx := 77) (d' := 1) (b := 79) (ci := 12) (As := []) (rest := []) mkX14_thrown miX14_thrown mvX14_thrown (by decide +kernel) (by decide +kernel) rfl (by decide +kernel) rfl ⟨by decide, by decide, Nat.le_of_ble_eq_true rfl⟩ rfl (c_X14_thrown_79 999 I2 G2) ?_
  rintro r9 I9 G9 P9 ⟨e0, e1, e2, e3⟩
  rw [e0, e1, e2, e3, show f_X14_thrown_79 I2 G2 = (hO hn_drift I G out).1 from ht]
  show am_V X (cells + 1) (slots + 6) _ gS ad (1139, lw_L i ++ [(5, .int (hO hn_drift I G out).1), (6, .int bb)], [.int (hO hn_drift I G out).1], I2, G2, gP 999)
  refine am_blk 1139 [(.iload 5, 2, 5, 0, .null)] (1141, lw_L i ++ [(5, .int (hO hn_drift I G out).1), (6, .int bb)], [.int (hO hn_drift I G out).1, .int (hO hn_drift I G out).1], I2, G2, gP 999) (True) hX hi (by decide +kernel) rfl trivial ?_
  refine am_icmp_eq (tgt := 1146) hX hi (off := (5)) (by decide +kernel) (by decide) (fun _ => ?_) (fun c => absurd rfl c)
  refine am_blk 1146 [(.iload 5, 2, 5, 0, .null)] (1148, lw_L i ++ [(5, .int (hO hn_drift I G out).1), (6, .int bb)], [.int (hO hn_drift I G out).1], I2, G2, gP 999) (True) hX hi (by decide +kernel) rfl trivial ?_
  have hend : am_V X (cells + 1) (slots + 6) Q gS ad (1163, lw_L i ++ [(5, .int (hO hn_drift I G out).1), (6, .int bb)], [], I2, G2, gP 999) := by
    refine am_blk 1163 [(.goto (318), 3, 0, 1481, .null)] (1481, lw_L i ++ [(5, .int (hO hn_drift I G out).1), (6, .int bb)], [], I2, G2, gP 999) (True) hX hi (by decide +kernel) rfl trivial ?_
    refine am_sub (L' := lw_L i) (fun q hq => List.mem_append.mpr (Or.inl hq)) ?_
    exact am_wid hm (by omega) (by omega) hroom (kk ad I2 G2 hX hs hI2)
  refine am_if_ne (tgt := 1163) hX hi (off := (15)) (by decide +kernel) (by decide) (fun _ => hend) (fun c => ?_)
  refine am_blk 1151 [(.aload_n 3, 1, 3, 0, .null), (.iconst (0), 1, 0, 0, .int (0 : Int32)), (.laload, 1, 0, 0, .null), (.iload 6, 2, 6, 0, .null), (.i2l, 1, 0, 0, .null), (.lcmp, 1, 0, 0, .null)] (1158, lw_L i ++ [(5, .int (hO hn_drift I G out).1), (6, .int bb)], [.int (lg_cmp (G2 122 0) bb.toInt64)], I2, G2, gP 999) (vp_in (0 : Int32) 1 ∧ True) hX hi (by decide +kernel) rfl ⟨(i_in _ _).mpr (by decide), trivial⟩ ?_
  exact am_if_eq (tgt := 1163) hX hi (off := (5)) (by decide +kernel) (by decide) (fun _ => hend) (fun c2 => absurd (by rw [ho c]; exact lg_cmp_self _) c2)
def k_dip (Inv : am_I → am_G → Prop) : Prop := ∀ (I : am_I) (G : am_G) (x1 : Int32), Inv I G → ∃ (out : (Int32 ⊕ Nat) × am_I × am_G) (I2 : am_I) (G2 : am_G) (bb : Int32), R_X11_dip_0 I G x1 = some out ∧ (∀ k, out.1 = .inr k → k = 71) ∧ (R_X14_dip_79 (hO hn_dip I G out).2.1 (hO hn_dip I G out).2.2 x1 = some (bb, I2, G2)) ∧ I2 79 0 = (hO hn_dip I G out).1 ∧ ((hO hn_dip I G out).1 = 0 → G2 122 0 = bb.toInt64) ∧ Inv I2 G2
set_option maxRecDepth 20000 in
set_option maxHeartbeats 1000000 in
theorem w_dip {X : am_X} {hh : am_HH} {cells slots MC MS : Nat} {Q : State → Prop} {ad : Nat → Nat} {I : am_I} {G : am_G} {N : Nat} {xs : Nat → Int32} {i : Int32} {x : Nat → Int32} {Inv : am_I → am_G → Prop} (hX : am_okz X ad) (hi : am_info X 15 code 9 false ret 60) (hm : am_mem X MC MS) (hh9 : am_xh X hh) (hs : am_scr X ad N xs) (hroom : cells + 750 ≤ MC ∧ slots + 5000 ≤ MS) (hx : lw_rd N xs i x) (hF : k_dip Inv) (hI : Inv I G) (kk : ∀ (ad' : Nat → Nat) (I2 : am_I) (G2 : am_G), am_okz X ad' → am_scr X ad' N xs → Inv I2 G2 → am_V X (cells + 750) (slots + 5000) Q gS ad' (1481, lw_L i, [], I2, G2, gP 999)) : am_V X cells slots Q gS ad (1166, lw_L i ++ [], [], I, G, gP 999) := by
  obtain ⟨out, I2, G2, bb, h1, hk, h2, ht, ho, hI2⟩ := hF I G (x 1) hI
  refine am_blk 1166 [(.aload_n 1, 1, 1, 0, .null)] (1167, lw_L i ++ [], [.ref 0], I, G, gP 999) (True) hX hi (by decide +kernel) rfl trivial ?_
  refine am_scrx hX hi hs hx 1 1 (by decide) (by decide +kernel) (by decide +kernel) (lw_lk0 _ _) (lw_lk4 _ _) ?_
  show am_V X cells slots _ gS ad (1173, lw_L i ++ [], [.int (x 1), .ref 0], I, G, gP 999)
  refine am_blk 1173 [(.aload_n 3, 1, 3, 0, .null)] (1174, lw_L i ++ [], [.ref 122, .int (x 1), .ref 0], I, G, gP 999) (True) hX hi (by decide +kernel) rfl trivial ?_
  refine am_callHS hX hi hm hh9 (M := mL_dip) (hh' := hh_dip) (d' := 10) (idx := 141) (As := [.ref 0, .int (x 1), .ref 122]) (rest := []) (List.mem_of_getElem? (i := 1244) (by decide +kernel)) (List.mem_of_getElem? (i := 109) (by decide +kernel)) (List.mem_of_getElem? (i := 1243) (by decide +kernel)) (List.mem_of_getElem? (i := 1242) (by decide +kernel)) ⟨by decide, by decide⟩ (by decide +kernel) (by decide +kernel) rfl ⟨by decide, by decide, Nat.le_of_ble_eq_true rfl⟩ rfl ⟨by omega, by omega⟩ (c_L_dip I G (x 1) h1 hk) ?_
  rintro r9 I9 G9 P9 ⟨e0, e1, e2, e3⟩
  rw [e0, e1, e2, e3]
  show am_V X (cells + 1) (slots + 6) _ gS ad (1177, lw_L i ++ [], [.int (hO hn_dip I G out).1], (hO hn_dip I G out).2.1, (hO hn_dip I G out).2.2, gP 999)
  refine am_blk 1177 [(.istore 5, 2, 5, 0, .null), (.aload_n 2, 1, 2, 0, .null)] (1180, lw_L i ++ [(5, .int (hO hn_dip I G out).1)], [.ref 79], (hO hn_dip I G out).2.1, (hO hn_dip I G out).2.2, gP 999) (True) hX hi (by decide +kernel) rfl trivial ?_
  refine am_scrx hX hi hs hx 1 1 (by decide) (by decide +kernel) (by decide +kernel) (lw_lk0 _ _) (lw_lk4 _ _) ?_
  show am_V X (cells + 1) (slots + 6) _ gS ad (1186, lw_L i ++ [(5, .int (hO hn_dip I G out).1)], [.int (x 1), .ref 79], (hO hn_dip I G out).2.1, (hO hn_dip I G out).2.2, gP 999)
  refine am_callV hX hi (M := mX14_dip) (idx := 143) (d' := 16) (b := 79) (ci := 12) (As := [.int (x 1)]) (rest := []) mkX14_dip miX14_dip mvX14_dip (by decide +kernel) (by decide +kernel) rfl (by decide +kernel) rfl ⟨by decide, by decide, Nat.le_of_ble_eq_true rfl⟩ rfl (c_X14_dip_79 999 (hO hn_dip I G out).2.1 (hO hn_dip I G out).2.2 (x 1) h2) ?_
  rintro r9 I9 G9 P9 ⟨e0, e1, e2, e3⟩
  rw [e0, e1, e2, e3]
  show am_V X (cells + 1) (slots + 6) _ gS ad (1189, lw_L i ++ [(5, .int (hO hn_dip I G out).1)], [.int bb], I2, G2, gP 999)
  refine am_blk 1189 [(.istore 6, 2, 6, 0, .null), (.aload_n 2, 1, 2, 0, .null)] (1192, lw_L i ++ [(5, .int (hO hn_dip I G out).1), (6, .int bb)], [.ref 79], I2, G2, gP 999) (True) hX hi (by decide +kernel) rfl trivial ?_
  refine am_callV hX hi (M := mX14_thrown) (idx := 77) (d' := 1) (b := 79) (ci := 12) (As := []) (rest := []) mkX14_thrown miX14_thrown mvX14_thrown (by decide +kernel) (by decide +kernel) rfl (by decide +kernel) rfl ⟨by decide, by decide, Nat.le_of_ble_eq_true rfl⟩ rfl (c_X14_thrown_79 999 I2 G2) ?_
  rintro r9 I9 G9 P9 ⟨e0, e1, e2, e3⟩
  rw [e0, e1, e2, e3, show f_X14_thrown_79 I2 G2 = (hO hn_dip I G out).1 from ht]
  show am_V X (cells + 1) (slots + 6) _ gS ad (1195, lw_L i ++ [(5, .int (hO hn_dip I G out).1), (6, .int bb)], [.int (hO hn_dip I G out).1], I2, G2, gP 999)
  refine am_blk 1195 [(.iload 5, 2, 5, 0, .null)] (1197, lw_L i ++ [(5, .int (hO hn_dip I G out).1), (6, .int bb)], [.int (hO hn_dip I G out).1, .int (hO hn_dip I G out).1], I2, G2, gP 999) (True) hX hi (by decide +kernel) rfl trivial ?_
  refine am_icmp_eq (tgt := 1202) hX hi (off := (5)) (by decide +kernel) (by decide) (fun _ => ?_) (fun c => absurd rfl c)
  refine am_blk 1202 [(.iload 5, 2, 5, 0, .null)] (1204, lw_L i ++ [(5, .int (hO hn_dip I G out).1), (6, .int bb)], [.int (hO hn_dip I G out).1], I2, G2, gP 999) (True) hX hi (by decide +kernel) rfl trivial ?_
  have hend : am_V X (cells + 1) (slots + 6) Q gS ad (1219, lw_L i ++ [(5, .int (hO hn_dip I G out).1), (6, .int bb)], [], I2, G2, gP 999) := by
    refine am_blk 1219 [(.goto (262), 3, 0, 1481, .null)] (1481, lw_L i ++ [(5, .int (hO hn_dip I G out).1), (6, .int bb)], [], I2, G2, gP 999) (True) hX hi (by decide +kernel) rfl trivial ?_
    refine am_sub (L' := lw_L i) (fun q hq => List.mem_append.mpr (Or.inl hq)) ?_
    exact am_wid hm (by omega) (by omega) hroom (kk ad I2 G2 hX hs hI2)
  refine am_if_ne (tgt := 1219) hX hi (off := (15)) (by decide +kernel) (by decide) (fun _ => hend) (fun c => ?_)
  refine am_blk 1207 [(.aload_n 3, 1, 3, 0, .null), (.iconst (0), 1, 0, 0, .int (0 : Int32)), (.laload, 1, 0, 0, .null), (.iload 6, 2, 6, 0, .null), (.i2l, 1, 0, 0, .null), (.lcmp, 1, 0, 0, .null)] (1214, lw_L i ++ [(5, .int (hO hn_dip I G out).1), (6, .int bb)], [.int (lg_cmp (G2 122 0) bb.toInt64)], I2, G2, gP 999) (vp_in (0 : Int32) 1 ∧ True) hX hi (by decide +kernel) rfl ⟨(i_in _ _).mpr (by decide), trivial⟩ ?_
  exact am_if_eq (tgt := 1219) hX hi (off := (5)) (by decide +kernel) (by decide) (fun _ => hend) (fun c2 => absurd (by rw [ho c]; exact lg_cmp_self _) c2)
def k_foresee (Inv : am_I → am_G → Prop) : Prop := ∀ (I : am_I) (G : am_G) (x1 : Int32) (x2 : Int32), Inv I G → ∃ (out : (Int32 ⊕ Nat) × am_I × am_G) (I2 : am_I) (G2 : am_G) (bb : Int32), R_X11_foresee_0 I G x1 x2 = some out ∧ (∀ k, out.1 = .inr k → k = 71 ∨ k = 93) ∧ (R_X14_foresee_79 (hO hn_foresee I G out).2.1 (hO hn_foresee I G out).2.2 x1 x2 = some (bb, I2, G2)) ∧ I2 79 0 = (hO hn_foresee I G out).1 ∧ ((hO hn_foresee I G out).1 = 0 → G2 122 0 = bb.toInt64) ∧ Inv I2 G2
set_option maxRecDepth 20000 in
set_option maxHeartbeats 1000000 in
theorem w_foresee {X : am_X} {hh : am_HH} {cells slots MC MS : Nat} {Q : State → Prop} {ad : Nat → Nat} {I : am_I} {G : am_G} {N : Nat} {xs : Nat → Int32} {i : Int32} {x : Nat → Int32} {Inv : am_I → am_G → Prop} (hX : am_okz X ad) (hi : am_info X 15 code 9 false ret 60) (hm : am_mem X MC MS) (hh9 : am_xh X hh) (hs : am_scr X ad N xs) (hroom : cells + 750 ≤ MC ∧ slots + 5000 ≤ MS) (hx : lw_rd N xs i x) (hF : k_foresee Inv) (hI : Inv I G) (kk : ∀ (ad' : Nat → Nat) (I2 : am_I) (G2 : am_G), am_okz X ad' → am_scr X ad' N xs → Inv I2 G2 → am_V X (cells + 750) (slots + 5000) Q gS ad' (1481, lw_L i, [], I2, G2, gP 999)) : am_V X cells slots Q gS ad (1222, lw_L i ++ [], [], I, G, gP 999) := by
  obtain ⟨out, I2, G2, bb, h1, hk, h2, ht, ho, hI2⟩ := hF I G (x 1) (x 2) hI
  refine am_blk 1222 [(.aload_n 1, 1, 1, 0, .null)] (1223, lw_L i ++ [], [.ref 0], I, G, gP 999) (True) hX hi (by decide +kernel) rfl trivial ?_
  refine am_scrx hX hi hs hx 1 1 (by decide) (by decide +kernel) (by decide +kernel) (lw_lk0 _ _) (lw_lk4 _ _) ?_
  show am_V X cells slots _ gS ad (1229, lw_L i ++ [], [.int (x 1), .ref 0], I, G, gP 999)
  refine am_scrx hX hi hs hx 2 2 (by decide) (by decide +kernel) (by decide +kernel) (lw_lk0 _ _) (lw_lk4 _ _) ?_
  show am_V X cells slots _ gS ad (1235, lw_L i ++ [], [.int (x 2), .int (x 1), .ref 0], I, G, gP 999)
  refine am_blk 1235 [(.aload_n 3, 1, 3, 0, .null)] (1236, lw_L i ++ [], [.ref 122, .int (x 2), .int (x 1), .ref 0], I, G, gP 999) (True) hX hi (by decide +kernel) rfl trivial ?_
  refine am_callHS hX hi hm hh9 (M := mL_foresee) (hh' := hh_foresee) (d' := 10) (idx := 144) (As := [.ref 0, .int (x 1), .int (x 2), .ref 122]) (rest := []) (List.mem_of_getElem? (i := 1303) (by decide +kernel)) (List.mem_of_getElem? (i := 109) (by decide +kernel)) (List.mem_of_getElem? (i := 1302) (by decide +kernel)) (List.mem_of_getElem? (i := 1301) (by decide +kernel)) ⟨by decide, by decide⟩ (by decide +kernel) (by decide +kernel) rfl ⟨by decide, by decide, Nat.le_of_ble_eq_true rfl⟩ rfl ⟨by omega, by omega⟩ (c_L_foresee I G (x 1) (x 2) h1 hk) ?_
  rintro r9 I9 G9 P9 ⟨e0, e1, e2, e3⟩
  rw [e0, e1, e2, e3]
  show am_V X (cells + 1) (slots + 6) _ gS ad (1239, lw_L i ++ [], [.int (hO hn_foresee I G out).1], (hO hn_foresee I G out).2.1, (hO hn_foresee I G out).2.2, gP 999)
  refine am_blk 1239 [(.istore 5, 2, 5, 0, .null), (.aload_n 2, 1, 2, 0, .null)] (1242, lw_L i ++ [(5, .int (hO hn_foresee I G out).1)], [.ref 79], (hO hn_foresee I G out).2.1, (hO hn_foresee I G out).2.2, gP 999) (True) hX hi (by decide +kernel) rfl trivial ?_
  refine am_scrx hX hi hs hx 1 1 (by decide) (by decide +kernel) (by decide +kernel) (lw_lk0 _ _) (lw_lk4 _ _) ?_
  show am_V X (cells + 1) (slots + 6) _ gS ad (1248, lw_L i ++ [(5, .int (hO hn_foresee I G out).1)], [.int (x 1), .ref 79], (hO hn_foresee I G out).2.1, (hO hn_foresee I G out).2.2, gP 999)
  refine am_scrx hX hi hs hx 2 2 (by decide) (by decide +kernel) (by decide +kernel) (lw_lk0 _ _) (lw_lk4 _ _) ?_
  show am_V X (cells + 1) (slots + 6) _ gS ad (1254, lw_L i ++ [(5, .int (hO hn_foresee I G out).1)], [.int (x 2), .int (x 1), .ref 79], (hO hn_foresee I G out).2.1, (hO hn_foresee I G out).2.2, gP 999)
  refine am_callV hX hi (M := mX14_foresee) (idx := 146) (d' := 16) (b := 79) (ci := 12) (As := [.int (x 1), .int (x 2)]) (rest := []) mkX14_foresee miX14_foresee mvX14_foresee (by decide +kernel) (by decide +kernel) rfl (by decide +kernel) rfl ⟨by decide, by decide, Nat.le_of_ble_eq_true rfl⟩ rfl (c_X14_foresee_79 999 (hO hn_foresee I G out).2.1 (hO hn_foresee I G out).2.2 (x 1) (x 2) h2) ?_
  rintro r9 I9 G9 P9 ⟨e0, e1, e2, e3⟩
  rw [e0, e1, e2, e3]
  show am_V X (cells + 1) (slots + 6) _ gS ad (1257, lw_L i ++ [(5, .int (hO hn_foresee I G out).1)], [.int bb], I2, G2, gP 999)
  refine am_blk 1257 [(.istore 6, 2, 6, 0, .null), (.aload_n 2, 1, 2, 0, .null)] (1260, lw_L i ++ [(5, .int (hO hn_foresee I G out).1), (6, .int bb)], [.ref 79], I2, G2, gP 999) (True) hX hi (by decide +kernel) rfl trivial ?_
  refine am_callV hX hi (M := mX14_thrown) (idx := 77) (d' := 1) (b := 79) (ci := 12) (As := []) (rest := []) mkX14_thrown miX14_thrown mvX14_thrown (by decide +kernel) (by decide +kernel) rfl (by decide +kernel) rfl ⟨by decide, by decide, Nat.le_of_ble_eq_true rfl⟩ rfl (c_X14_thrown_79 999 I2 G2) ?_
  rintro r9 I9 G9 P9 ⟨e0, e1, e2, e3⟩
  rw [e0, e1, e2, e3, show f_X14_thrown_79 I2 G2 = (hO hn_foresee I G out).1 from ht]
  show am_V X (cells + 1) (slots + 6) _ gS ad (1263, lw_L i ++ [(5, .int (hO hn_foresee I G out).1), (6, .int bb)], [.int (hO hn_foresee I G out).1], I2, G2, gP 999)
  refine am_blk 1263 [(.iload 5, 2, 5, 0, .null)] (1265, lw_L i ++ [(5, .int (hO hn_foresee I G out).1), (6, .int bb)], [.int (hO hn_foresee I G out).1, .int (hO hn_foresee I G out).1], I2, G2, gP 999) (True) hX hi (by decide +kernel) rfl trivial ?_
  refine am_icmp_eq (tgt := 1270) hX hi (off := (5)) (by decide +kernel) (by decide) (fun _ => ?_) (fun c => absurd rfl c)
  refine am_blk 1270 [(.iload 5, 2, 5, 0, .null)] (1272, lw_L i ++ [(5, .int (hO hn_foresee I G out).1), (6, .int bb)], [.int (hO hn_foresee I G out).1], I2, G2, gP 999) (True) hX hi (by decide +kernel) rfl trivial ?_
  have hend : am_V X (cells + 1) (slots + 6) Q gS ad (1287, lw_L i ++ [(5, .int (hO hn_foresee I G out).1), (6, .int bb)], [], I2, G2, gP 999) := by
    refine am_blk 1287 [(.goto (194), 3, 0, 1481, .null)] (1481, lw_L i ++ [(5, .int (hO hn_foresee I G out).1), (6, .int bb)], [], I2, G2, gP 999) (True) hX hi (by decide +kernel) rfl trivial ?_
    refine am_sub (L' := lw_L i) (fun q hq => List.mem_append.mpr (Or.inl hq)) ?_
    exact am_wid hm (by omega) (by omega) hroom (kk ad I2 G2 hX hs hI2)
  refine am_if_ne (tgt := 1287) hX hi (off := (15)) (by decide +kernel) (by decide) (fun _ => hend) (fun c => ?_)
  refine am_blk 1275 [(.aload_n 3, 1, 3, 0, .null), (.iconst (0), 1, 0, 0, .int (0 : Int32)), (.laload, 1, 0, 0, .null), (.iload 6, 2, 6, 0, .null), (.i2l, 1, 0, 0, .null), (.lcmp, 1, 0, 0, .null)] (1282, lw_L i ++ [(5, .int (hO hn_foresee I G out).1), (6, .int bb)], [.int (lg_cmp (G2 122 0) bb.toInt64)], I2, G2, gP 999) (vp_in (0 : Int32) 1 ∧ True) hX hi (by decide +kernel) rfl ⟨(i_in _ _).mpr (by decide), trivial⟩ ?_
  exact am_if_eq (tgt := 1287) hX hi (off := (5)) (by decide +kernel) (by decide) (fun _ => hend) (fun c2 => absurd (by rw [ho c]; exact lg_cmp_self _) c2)
def k_until (Inv : am_I → am_G → Prop) : Prop := ∀ (I : am_I) (G : am_G) (x1 : Int32) (x2 : Int32) (x3 : Int32), Inv I G → ∃ (out : (Int32 ⊕ Nat) × am_I × am_G) (I2 : am_I) (G2 : am_G) (bb : Int32), R_X11_until_0 I G x1 x2 x3 = some out ∧ (∀ k, out.1 = .inr k → k = 93) ∧ (R_X14_until_79 (hO hn_until I G out).2.1 (hO hn_until I G out).2.2 x1 x2 x3 = some (bb, I2, G2)) ∧ I2 79 0 = (hO hn_until I G out).1 ∧ ((hO hn_until I G out).1 = 0 → G2 122 0 = bb.toInt64) ∧ Inv I2 G2
set_option maxRecDepth 20000 in
set_option maxHeartbeats 1000000 in
theorem w_until {X : am_X} {hh : am_HH} {cells slots MC MS : Nat} {Q : State → Prop} {ad : Nat → Nat} {I : am_I} {G : am_G} {N : Nat} {xs : Nat → Int32} {i : Int32} {x : Nat → Int32} {Inv : am_I → am_G → Prop} (hX : am_okz X ad) (hi : am_info X 15 code 9 false ret 60) (hm : am_mem X MC MS) (hh9 : am_xh X hh) (hs : am_scr X ad N xs) (hroom : cells + 750 ≤ MC ∧ slots + 5000 ≤ MS) (hx : lw_rd N xs i x) (hF : k_until Inv) (hI : Inv I G) (kk : ∀ (ad' : Nat → Nat) (I2 : am_I) (G2 : am_G), am_okz X ad' → am_scr X ad' N xs → Inv I2 G2 → am_V X (cells + 750) (slots + 5000) Q gS ad' (1481, lw_L i, [], I2, G2, gP 999)) : am_V X cells slots Q gS ad (1290, lw_L i ++ [], [], I, G, gP 999) := by
  obtain ⟨out, I2, G2, bb, h1, hk, h2, ht, ho, hI2⟩ := hF I G (x 1) (x 2) (x 3) hI
  refine am_blk 1290 [(.aload_n 1, 1, 1, 0, .null)] (1291, lw_L i ++ [], [.ref 0], I, G, gP 999) (True) hX hi (by decide +kernel) rfl trivial ?_
  refine am_scrx hX hi hs hx 1 1 (by decide) (by decide +kernel) (by decide +kernel) (lw_lk0 _ _) (lw_lk4 _ _) ?_
  show am_V X cells slots _ gS ad (1297, lw_L i ++ [], [.int (x 1), .ref 0], I, G, gP 999)
  refine am_scrx hX hi hs hx 2 2 (by decide) (by decide +kernel) (by decide +kernel) (lw_lk0 _ _) (lw_lk4 _ _) ?_
  show am_V X cells slots _ gS ad (1303, lw_L i ++ [], [.int (x 2), .int (x 1), .ref 0], I, G, gP 999)
  refine am_scrx hX hi hs hx 3 3 (by decide) (by decide +kernel) (by decide +kernel) (lw_lk0 _ _) (lw_lk4 _ _) ?_
  show am_V X cells slots _ gS ad (1309, lw_L i ++ [], [.int (x 3), .int (x 2), .int (x 1), .ref 0], I, G, gP 999)
  refine am_blk 1309 [(.aload_n 3, 1, 3, 0, .null)] (1310, lw_L i ++ [], [.ref 122, .int (x 3), .int (x 2), .int (x 1), .ref 0], I, G, gP 999) (True) hX hi (by decide +kernel) rfl trivial ?_
  refine am_callHS hX hi hm hh9 (M := mL_until) (hh' := hh_until) (d' := 10) (idx := 147) (As := [.ref 0, .int (x 1), .int (x 2), .int (x 3), .ref 122]) (rest := []) (List.mem_of_getElem? (i := 1315) (by decide +kernel)) (List.mem_of_getElem? (i := 109) (by decide +kernel)) (List.mem_of_getElem? (i := 1314) (by decide +kernel)) (List.mem_of_getElem? (i := 1313) (by decide +kernel)) ⟨by decide, by decide⟩ (by decide +kernel) (by decide +kernel) rfl ⟨by decide, by decide, Nat.le_of_ble_eq_true rfl⟩ rfl ⟨by omega, by omega⟩ (c_L_until I G (x 1) (x 2) (x 3) h1 hk) ?_
  rintro r9 I9 G9 P9 ⟨e0, e1, e2, e3⟩
  rw [e0, e1, e2, e3]
  show am_V X (cells + 1) (slots + 6) _ gS ad (1313, lw_L i ++ [], [.int (hO hn_until I G out).1], (hO hn_until I G out).2.1, (hO hn_until I G out).2.2, gP 999)
  refine am_blk 1313 [(.istore 5, 2, 5, 0, .null), (.aload_n 2, 1, 2, 0, .null)] (1316, lw_L i ++ [(5, .int (hO hn_until I G out).1)], [.ref 79], (hO hn_until I G out).2.1, (hO hn_until I G out).2.2, gP 999) (True) hX hi (by decide +kernel) rfl trivial ?_
  refine am_scrx hX hi hs hx 1 1 (by decide) (by decide +kernel) (by decide +kernel) (lw_lk0 _ _) (lw_lk4 _ _) ?_
  show am_V X (cells + 1) (slots + 6) _ gS ad (1322, lw_L i ++ [(5, .int (hO hn_until I G out).1)], [.int (x 1), .ref 79], (hO hn_until I G out).2.1, (hO hn_until I G out).2.2, gP 999)
  refine am_scrx hX hi hs hx 2 2 (by decide) (by decide +kernel) (by decide +kernel) (lw_lk0 _ _) (lw_lk4 _ _) ?_
  show am_V X (cells + 1) (slots + 6) _ gS ad (1328, lw_L i ++ [(5, .int (hO hn_until I G out).1)], [.int (x 2), .int (x 1), .ref 79], (hO hn_until I G out).2.1, (hO hn_until I G out).2.2, gP 999)
  refine am_scrx hX hi hs hx 3 3 (by decide) (by decide +kernel) (by decide +kernel) (lw_lk0 _ _) (lw_lk4 _ _) ?_
  show am_V X (cells + 1) (slots + 6) _ gS ad (1334, lw_L i ++ [(5, .int (hO hn_until I G out).1)], [.int (x 3), .int (x 2), .int (x 1), .ref 79], (hO hn_until I G out).2.1, (hO hn_until I G out).2.2, gP 999)
  refine am_callV hX hi (M := mX14_until) (idx := 149) (d' := 15) (b := 79) (ci := 12) (As := [.int (x 1), .int (x 2), .int (x 3)]) (rest := []) mkX14_until miX14_until mvX14_until (by decide +kernel) (by decide +kernel) rfl (by decide +kernel) rfl ⟨by decide, by decide, Nat.le_of_ble_eq_true rfl⟩ rfl (c_X14_until_79 999 (hO hn_until I G out).2.1 (hO hn_until I G out).2.2 (x 1) (x 2) (x 3) h2) ?_
  rintro r9 I9 G9 P9 ⟨e0, e1, e2, e3⟩
  rw [e0, e1, e2, e3]
  show am_V X (cells + 1) (slots + 6) _ gS ad (1337, lw_L i ++ [(5, .int (hO hn_until I G out).1)], [.int bb], I2, G2, gP 999)
  refine am_blk 1337 [(.istore 6, 2, 6, 0, .null), (.aload_n 2, 1, 2, 0, .null)] (1340, lw_L i ++ [(5, .int (hO hn_until I G out).1), (6, .int bb)], [.ref 79], I2, G2, gP 999) (True) hX hi (by decide +kernel) rfl trivial ?_
  refine am_callV hX hi (M := mX14_thrown) (idx := 77) (d' := 1) (b := 79) (ci := 12) (As := []) (rest := []) mkX14_thrown miX14_thrown mvX14_thrown (by decide +kernel) (by decide +kernel) rfl (by decide +kernel) rfl ⟨by decide, by decide, Nat.le_of_ble_eq_true rfl⟩ rfl (c_X14_thrown_79 999 I2 G2) ?_
  rintro r9 I9 G9 P9 ⟨e0, e1, e2, e3⟩
  rw [e0, e1, e2, e3, show f_X14_thrown_79 I2 G2 = (hO hn_until I G out).1 from ht]
  show am_V X (cells + 1) (slots + 6) _ gS ad (1343, lw_L i ++ [(5, .int (hO hn_until I G out).1), (6, .int bb)], [.int (hO hn_until I G out).1], I2, G2, gP 999)
  refine am_blk 1343 [(.iload 5, 2, 5, 0, .null)] (1345, lw_L i ++ [(5, .int (hO hn_until I G out).1), (6, .int bb)], [.int (hO hn_until I G out).1, .int (hO hn_until I G out).1], I2, G2, gP 999) (True) hX hi (by decide +kernel) rfl trivial ?_
  refine am_icmp_eq (tgt := 1350) hX hi (off := (5)) (by decide +kernel) (by decide) (fun _ => ?_) (fun c => absurd rfl c)
  refine am_blk 1350 [(.iload 5, 2, 5, 0, .null)] (1352, lw_L i ++ [(5, .int (hO hn_until I G out).1), (6, .int bb)], [.int (hO hn_until I G out).1], I2, G2, gP 999) (True) hX hi (by decide +kernel) rfl trivial ?_
  have hend : am_V X (cells + 1) (slots + 6) Q gS ad (1367, lw_L i ++ [(5, .int (hO hn_until I G out).1), (6, .int bb)], [], I2, G2, gP 999) := by
    refine am_blk 1367 [(.goto (114), 3, 0, 1481, .null)] (1481, lw_L i ++ [(5, .int (hO hn_until I G out).1), (6, .int bb)], [], I2, G2, gP 999) (True) hX hi (by decide +kernel) rfl trivial ?_
    refine am_sub (L' := lw_L i) (fun q hq => List.mem_append.mpr (Or.inl hq)) ?_
    exact am_wid hm (by omega) (by omega) hroom (kk ad I2 G2 hX hs hI2)
  refine am_if_ne (tgt := 1367) hX hi (off := (15)) (by decide +kernel) (by decide) (fun _ => hend) (fun c => ?_)
  refine am_blk 1355 [(.aload_n 3, 1, 3, 0, .null), (.iconst (0), 1, 0, 0, .int (0 : Int32)), (.laload, 1, 0, 0, .null), (.iload 6, 2, 6, 0, .null), (.i2l, 1, 0, 0, .null), (.lcmp, 1, 0, 0, .null)] (1362, lw_L i ++ [(5, .int (hO hn_until I G out).1), (6, .int bb)], [.int (lg_cmp (G2 122 0) bb.toInt64)], I2, G2, gP 999) (vp_in (0 : Int32) 1 ∧ True) hX hi (by decide +kernel) rfl ⟨(i_in _ _).mpr (by decide), trivial⟩ ?_
  exact am_if_eq (tgt := 1367) hX hi (off := (5)) (by decide +kernel) (by decide) (fun _ => hend) (fun c2 => absurd (by rw [ho c]; exact lg_cmp_self _) c2)
def k_advise (Inv : am_I → am_G → Prop) : Prop := ∀ (I : am_I) (G : am_G) (x1 : Int32), Inv I G → ∃ (out : (Int32 ⊕ Nat) × am_I × am_G) (I2 : am_I) (G2 : am_G) (bb : Int32), R_X11_advise_0 I G x1 = some out ∧ (∀ k, out.1 = .inr k → k = 93) ∧ (R_X14_advise_79 (hO hn_advise I G out).2.1 (hO hn_advise I G out).2.2 x1 = some (bb, I2, G2)) ∧ I2 79 0 = (hO hn_advise I G out).1 ∧ ((hO hn_advise I G out).1 = 0 → G2 122 0 = bb.toInt64) ∧ Inv I2 G2
set_option maxRecDepth 20000 in
set_option maxHeartbeats 1000000 in
theorem w_advise {X : am_X} {hh : am_HH} {cells slots MC MS : Nat} {Q : State → Prop} {ad : Nat → Nat} {I : am_I} {G : am_G} {N : Nat} {xs : Nat → Int32} {i : Int32} {x : Nat → Int32} {Inv : am_I → am_G → Prop} (hX : am_okz X ad) (hi : am_info X 15 code 9 false ret 60) (hm : am_mem X MC MS) (hh9 : am_xh X hh) (hs : am_scr X ad N xs) (hroom : cells + 750 ≤ MC ∧ slots + 5000 ≤ MS) (hx : lw_rd N xs i x) (hF : k_advise Inv) (hI : Inv I G) (kk : ∀ (ad' : Nat → Nat) (I2 : am_I) (G2 : am_G), am_okz X ad' → am_scr X ad' N xs → Inv I2 G2 → am_V X (cells + 750) (slots + 5000) Q gS ad' (1481, lw_L i, [], I2, G2, gP 999)) : am_V X cells slots Q gS ad (1370, lw_L i ++ [], [], I, G, gP 999) := by
  obtain ⟨out, I2, G2, bb, h1, hk, h2, ht, ho, hI2⟩ := hF I G (x 1) hI
  refine am_blk 1370 [(.aload_n 1, 1, 1, 0, .null)] (1371, lw_L i ++ [], [.ref 0], I, G, gP 999) (True) hX hi (by decide +kernel) rfl trivial ?_
  refine am_scrx hX hi hs hx 1 1 (by decide) (by decide +kernel) (by decide +kernel) (lw_lk0 _ _) (lw_lk4 _ _) ?_
  show am_V X cells slots _ gS ad (1377, lw_L i ++ [], [.int (x 1), .ref 0], I, G, gP 999)
  refine am_blk 1377 [(.aload_n 3, 1, 3, 0, .null)] (1378, lw_L i ++ [], [.ref 122, .int (x 1), .ref 0], I, G, gP 999) (True) hX hi (by decide +kernel) rfl trivial ?_
  refine am_callHS hX hi hm hh9 (M := mL_advise) (hh' := hh_advise) (d' := 10) (idx := 150) (As := [.ref 0, .int (x 1), .ref 122]) (rest := []) (List.mem_of_getElem? (i := 1322) (by decide +kernel)) (List.mem_of_getElem? (i := 109) (by decide +kernel)) (List.mem_of_getElem? (i := 1321) (by decide +kernel)) (List.mem_of_getElem? (i := 1320) (by decide +kernel)) ⟨by decide, by decide⟩ (by decide +kernel) (by decide +kernel) rfl ⟨by decide, by decide, Nat.le_of_ble_eq_true rfl⟩ rfl ⟨by omega, by omega⟩ (c_L_advise I G (x 1) h1 hk) ?_
  rintro r9 I9 G9 P9 ⟨e0, e1, e2, e3⟩
  rw [e0, e1, e2, e3]
  show am_V X (cells + 1) (slots + 6) _ gS ad (1381, lw_L i ++ [], [.int (hO hn_advise I G out).1], (hO hn_advise I G out).2.1, (hO hn_advise I G out).2.2, gP 999)
  refine am_blk 1381 [(.istore 5, 2, 5, 0, .null), (.aload_n 2, 1, 2, 0, .null)] (1384, lw_L i ++ [(5, .int (hO hn_advise I G out).1)], [.ref 79], (hO hn_advise I G out).2.1, (hO hn_advise I G out).2.2, gP 999) (True) hX hi (by decide +kernel) rfl trivial ?_
  refine am_scrx hX hi hs hx 1 1 (by decide) (by decide +kernel) (by decide +kernel) (lw_lk0 _ _) (lw_lk4 _ _) ?_
  show am_V X (cells + 1) (slots + 6) _ gS ad (1390, lw_L i ++ [(5, .int (hO hn_advise I G out).1)], [.int (x 1), .ref 79], (hO hn_advise I G out).2.1, (hO hn_advise I G out).2.2, gP 999)
  refine am_callV hX hi (M := mX14_advise) (idx := 152) (d' := 12) (b := 79) (ci := 12) (As := [.int (x 1)]) (rest := []) mkX14_advise miX14_advise mvX14_advise (by decide +kernel) (by decide +kernel) rfl (by decide +kernel) rfl ⟨by decide, by decide, Nat.le_of_ble_eq_true rfl⟩ rfl (c_X14_advise_79 999 (hO hn_advise I G out).2.1 (hO hn_advise I G out).2.2 (x 1) h2) ?_
  rintro r9 I9 G9 P9 ⟨e0, e1, e2, e3⟩
  rw [e0, e1, e2, e3]
  show am_V X (cells + 1) (slots + 6) _ gS ad (1393, lw_L i ++ [(5, .int (hO hn_advise I G out).1)], [.int bb], I2, G2, gP 999)
  refine am_blk 1393 [(.istore 6, 2, 6, 0, .null), (.aload_n 2, 1, 2, 0, .null)] (1396, lw_L i ++ [(5, .int (hO hn_advise I G out).1), (6, .int bb)], [.ref 79], I2, G2, gP 999) (True) hX hi (by decide +kernel) rfl trivial ?_
  refine am_callV hX hi (M := mX14_thrown) (idx := 77) (d' := 1) (b := 79) (ci := 12) (As := []) (rest := []) mkX14_thrown miX14_thrown mvX14_thrown (by decide +kernel) (by decide +kernel) rfl (by decide +kernel) rfl ⟨by decide, by decide, Nat.le_of_ble_eq_true rfl⟩ rfl (c_X14_thrown_79 999 I2 G2) ?_
  rintro r9 I9 G9 P9 ⟨e0, e1, e2, e3⟩
  rw [e0, e1, e2, e3, show f_X14_thrown_79 I2 G2 = (hO hn_advise I G out).1 from ht]
  show am_V X (cells + 1) (slots + 6) _ gS ad (1399, lw_L i ++ [(5, .int (hO hn_advise I G out).1), (6, .int bb)], [.int (hO hn_advise I G out).1], I2, G2, gP 999)
  refine am_blk 1399 [(.iload 5, 2, 5, 0, .null)] (1401, lw_L i ++ [(5, .int (hO hn_advise I G out).1), (6, .int bb)], [.int (hO hn_advise I G out).1, .int (hO hn_advise I G out).1], I2, G2, gP 999) (True) hX hi (by decide +kernel) rfl trivial ?_
  refine am_icmp_eq (tgt := 1406) hX hi (off := (5)) (by decide +kernel) (by decide) (fun _ => ?_) (fun c => absurd rfl c)
  refine am_blk 1406 [(.iload 5, 2, 5, 0, .null)] (1408, lw_L i ++ [(5, .int (hO hn_advise I G out).1), (6, .int bb)], [.int (hO hn_advise I G out).1], I2, G2, gP 999) (True) hX hi (by decide +kernel) rfl trivial ?_
  have hend : am_V X (cells + 1) (slots + 6) Q gS ad (1423, lw_L i ++ [(5, .int (hO hn_advise I G out).1), (6, .int bb)], [], I2, G2, gP 999) := by
    refine am_blk 1423 [(.goto (58), 3, 0, 1481, .null)] (1481, lw_L i ++ [(5, .int (hO hn_advise I G out).1), (6, .int bb)], [], I2, G2, gP 999) (True) hX hi (by decide +kernel) rfl trivial ?_
    refine am_sub (L' := lw_L i) (fun q hq => List.mem_append.mpr (Or.inl hq)) ?_
    exact am_wid hm (by omega) (by omega) hroom (kk ad I2 G2 hX hs hI2)
  refine am_if_ne (tgt := 1423) hX hi (off := (15)) (by decide +kernel) (by decide) (fun _ => hend) (fun c => ?_)
  refine am_blk 1411 [(.aload_n 3, 1, 3, 0, .null), (.iconst (0), 1, 0, 0, .int (0 : Int32)), (.laload, 1, 0, 0, .null), (.iload 6, 2, 6, 0, .null), (.i2l, 1, 0, 0, .null), (.lcmp, 1, 0, 0, .null)] (1418, lw_L i ++ [(5, .int (hO hn_advise I G out).1), (6, .int bb)], [.int (lg_cmp (G2 122 0) bb.toInt64)], I2, G2, gP 999) (vp_in (0 : Int32) 1 ∧ True) hX hi (by decide +kernel) rfl ⟨(i_in _ _).mpr (by decide), trivial⟩ ?_
  exact am_if_eq (tgt := 1423) hX hi (off := (5)) (by decide +kernel) (by decide) (fun _ => hend) (fun c2 => absurd (by rw [ho c]; exact lg_cmp_self _) c2)
def k_mean (Inv : am_I → am_G → Prop) : Prop := ∀ (I : am_I) (G : am_G) , Inv I G → ∃ (bb : UInt64) (I1 : am_I) (G1 : am_G) (I2 : am_I) (G2 : am_G), (R_X11_mean_0 I G  = some (bb, I1, G1)) ∧ (R_X14_mean_79 I1 G1  = some (bb, I2, G2)) ∧ Inv I2 G2
set_option maxRecDepth 20000 in
set_option maxHeartbeats 1000000 in
theorem w_mean {X : am_X} {hh : am_HH} {cells slots MC MS : Nat} {Q : State → Prop} {ad : Nat → Nat} {I : am_I} {G : am_G} {N : Nat} {xs : Nat → Int32} {i : Int32} {x : Nat → Int32} {Inv : am_I → am_G → Prop} (hX : am_okz X ad) (hi : am_info X 15 code 9 false ret 60) (hm : am_mem X MC MS) (hh9 : am_xh X hh) (hs : am_scr X ad N xs) (hroom : cells + 750 ≤ MC ∧ slots + 5000 ≤ MS) (hF : k_mean Inv) (hI : Inv I G) (kk : ∀ (ad' : Nat → Nat) (I2 : am_I) (G2 : am_G), am_okz X ad' → am_scr X ad' N xs → Inv I2 G2 → am_V X (cells + 750) (slots + 5000) Q gS ad' (1481, lw_L i, [], I2, G2, gP 999)) : am_V X cells slots Q gS ad (1426, lw_L i ++ [], [], I, G, gP 999) := by
  obtain ⟨bb, I1, G1, I2, G2, h1, h2, hI2⟩ := hF I G  hI
  refine am_blk 1426 [(.aload_n 1, 1, 1, 0, .null)] (1427, lw_L i ++ [], [.ref 0], I, G, gP 999) (True) hX hi (by decide +kernel) rfl trivial ?_
  refine am_callV hX hi (M := mX11_mean) (idx := 153) (d' := 8) (b := 0) (ci := 9) (As := []) (rest := []) mkX11_mean miX11_mean mvX11_mean (by decide +kernel) (by decide +kernel) rfl (by decide +kernel) rfl ⟨by decide, by decide, Nat.le_of_ble_eq_true rfl⟩ rfl (c_X11_mean_0 999 I G  h1) ?_
  rintro r9 I9 G9 P9 ⟨e0, e1, e2, e3⟩
  rw [e0, e1, e2, e3]
  show am_V X cells slots _ gS ad (1430, lw_L i ++ [], [.double bb], I1, G1, gP 999)
  refine am_dst hX hi (i := 5) (L' := (5, .double bb) :: lw_L i) (by decide +kernel) (by decide) (fun _ => rfl) ?_
  refine am_blk 1432 [(.aload_n 2, 1, 2, 0, .null)] (1433, (5, .double bb) :: lw_L i, [.ref 79], I1, G1, gP 999) (True) hX hi (by decide +kernel) rfl trivial ?_
  refine am_callV hX hi (M := mX14_mean) (idx := 157) (d' := 10) (b := 79) (ci := 12) (As := []) (rest := []) mkX14_mean miX14_mean mvX14_mean (by decide +kernel) (by decide +kernel) rfl (by decide +kernel) rfl ⟨by decide, by decide, Nat.le_of_ble_eq_true rfl⟩ rfl (c_X14_mean_79 999 I1 G1  h2) ?_
  rintro r9 I9 G9 P9 ⟨e0, e1, e2, e3⟩
  rw [e0, e1, e2, e3]
  show am_V X (cells) (slots) _ gS ad (1436, (5, .double bb) :: lw_L i, [.double bb], I2, G2, gP 999)
  refine am_dst hX hi (i := 7) (L' := (7, .double bb) :: (5, .double bb) :: lw_L i) (by decide +kernel) (by decide) (fun _ => rfl) ?_
  have hend : am_V X cells slots Q gS ad (1464, (7, .double bb) :: (5, .double bb) :: lw_L i, [], I2, G2, gP 999) := by
    refine am_blk 1464 [(.goto (17), 3, 0, 1481, .null)] (1481, (7, .double bb) :: (5, .double bb) :: lw_L i, [], I2, G2, gP 999) (True) hX hi (by decide +kernel) rfl trivial ?_
    refine am_sub (L' := lw_L i) (fun q hq => List.mem_cons_of_mem _ (List.mem_cons_of_mem _ hq)) ?_
    exact am_wid hm (by omega) (by omega) hroom (kk ad I2 G2 hX hs hI2)
  refine am_dld hX hi (i := 5) (x := bb) (by decide +kernel) (List.mem_cons_of_mem _ List.mem_cons_self) ?_
  refine am_dld hX hi (i := 7) (x := bb) (by decide +kernel) List.mem_cons_self ?_
  refine am_dcmp hX hi (op := .l) (by decide +kernel) ?_
  refine am_if_eq (tgt := 1464) hX hi (off := (21)) (by decide +kernel) (by decide) (fun _ => hend) (fun c1 => ?_)
  refine am_dld hX hi (i := 5) (x := bb) (by decide +kernel) (List.mem_cons_of_mem _ List.mem_cons_self) ?_
  refine am_dld hX hi (i := 5) (x := bb) (by decide +kernel) (List.mem_cons_of_mem _ List.mem_cons_self) ?_
  refine am_dcmp hX hi (op := .l) (by decide +kernel) ?_
  refine am_if_eq (tgt := 1462) hX hi (off := (11)) (by decide +kernel) (by decide) (fun c2 => absurd c2 c1) (fun _ => ?_)
  refine am_dld hX hi (i := 7) (x := bb) (by decide +kernel) List.mem_cons_self ?_
  refine am_dld hX hi (i := 7) (x := bb) (by decide +kernel) List.mem_cons_self ?_
  refine am_dcmp hX hi (op := .l) (by decide +kernel) ?_
  exact am_if_ne (tgt := 1464) hX hi (off := (5)) (by decide +kernel) (by decide) (fun _ => hend) (fun c2 => absurd c2 c1)
def k_digest (Inv : am_I → am_G → Prop) : Prop := ∀ (I : am_I) (G : am_G) , Inv I G → ∃ (bb : Int64) (I1 : am_I) (G1 : am_G) (I2 : am_I) (G2 : am_G), (R_X11_digest_0 I G  = some (bb, I1, G1)) ∧ (R_X14_digest_79 I1 G1  = some (bb, I2, G2)) ∧ Inv I2 G2
set_option maxRecDepth 20000 in
set_option maxHeartbeats 1000000 in
theorem w_digest {X : am_X} {hh : am_HH} {cells slots MC MS : Nat} {Q : State → Prop} {ad : Nat → Nat} {I : am_I} {G : am_G} {N : Nat} {xs : Nat → Int32} {i : Int32} {x : Nat → Int32} {Inv : am_I → am_G → Prop} (hX : am_okz X ad) (hi : am_info X 15 code 9 false ret 60) (hm : am_mem X MC MS) (hh9 : am_xh X hh) (hs : am_scr X ad N xs) (hroom : cells + 750 ≤ MC ∧ slots + 5000 ≤ MS) (hF : k_digest Inv) (hI : Inv I G) (kk : ∀ (ad' : Nat → Nat) (I2 : am_I) (G2 : am_G), am_okz X ad' → am_scr X ad' N xs → Inv I2 G2 → am_V X (cells + 750) (slots + 5000) Q gS ad' (1481, lw_L i, [], I2, G2, gP 999)) : am_V X cells slots Q gS ad (1467, lw_L i ++ [], [], I, G, gP 999) := by
  obtain ⟨bb, I1, G1, I2, G2, h1, h2, hI2⟩ := hF I G  hI
  refine am_blk 1467 [(.aload_n 1, 1, 1, 0, .null)] (1468, lw_L i ++ [], [.ref 0], I, G, gP 999) (True) hX hi (by decide +kernel) rfl trivial ?_
  refine am_callV hX hi (M := mX11_digest) (idx := 158) (d' := 9) (b := 0) (ci := 9) (As := []) (rest := []) mkX11_digest miX11_digest mvX11_digest (by decide +kernel) (by decide +kernel) rfl (by decide +kernel) rfl ⟨by decide, by decide, Nat.le_of_ble_eq_true rfl⟩ rfl (c_X11_digest_0 999 I G  h1) ?_
  rintro r9 I9 G9 P9 ⟨e0, e1, e2, e3⟩
  rw [e0, e1, e2, e3]
  show am_V X cells slots _ gS ad (1471, lw_L i ++ [], [.long bb], I1, G1, gP 999)
  refine am_blk 1471 [(.aload_n 2, 1, 2, 0, .null)] (1472, lw_L i ++ [], [.ref 79, .long bb], I1, G1, gP 999) (True) hX hi (by decide +kernel) rfl trivial ?_
  refine am_callVM hX hi hm (M := mX14_digest) (idx := 162) (d' := 14) (mc := 700) (ms := 4900) (b := 79) (ci := 12) (As := []) (rest := [.long bb]) mkX14_digest miX14_digest mvX14_digest (by decide +kernel) (by decide +kernel) rfl (by decide +kernel) rfl ⟨by decide, by decide, Nat.le_of_ble_eq_true rfl⟩ rfl ⟨by omega, by omega⟩ (c_X14_digest_79 999 (by decide) I1 G1  h2) ?_
  rintro r9 I9 G9 P9 ⟨e0, e1, e2, e3⟩
  rw [e0, e1, e2, e3]
  show am_V X (cells + 700) (slots + 4900) _ gS ad (1475, lw_L i ++ [], [.long bb, .long bb], I2, G2, gP 999)
  refine am_blk 1475 [(.lcmp, 1, 0, 0, .null)] (1476, lw_L i ++ [], [.int (lg_cmp bb bb)], I2, G2, gP 999) (True) hX hi (by decide +kernel) rfl trivial ?_
  refine am_if_eq (tgt := 1481) hX hi (off := (5)) (by decide +kernel) (by decide) (fun _ => ?_) (fun c2 => absurd (lg_cmp_self _) c2)
  refine am_sub (L' := lw_L i) (fun q hq => List.mem_append.mpr (Or.inl hq)) ?_
  exact am_wid hm (by omega) (by omega) hroom (kk ad I2 G2 hX hs hI2)
def k_all (Inv : am_I → am_G → Prop) : Prop := k_feed Inv ∧ k_trim Inv ∧ k_teach Inv ∧ k_errorAt Inv ∧ k_count Inv ∧ k_height Inv ∧ k_ink Inv ∧ k_patch Inv ∧ k_whence Inv ∧ k_share Inv ∧ k_octave Inv ∧ k_gradient Inv ∧ k_value Inv ∧ k_comb Inv ∧ k_moves Inv ∧ k_setPull Inv ∧ k_setSeed Inv ∧ k_drift Inv ∧ k_dip Inv ∧ k_foresee Inv ∧ k_until Inv ∧ k_advise Inv ∧ k_mean Inv ∧ k_digest Inv
set_option maxRecDepth 20000 in
set_option maxHeartbeats 1000000 in
theorem law_loop {X : am_X} {hh : am_HH} {MC MS : Nat} {Q : State → Prop} {N : Nat} {xs : Nat → Int32} {Inv : am_I → am_G → Prop} (hi : am_info X 15 code 9 false ret 60) (hm : am_mem X MC MS) (hh9 : am_xh X hh) (hN : N ≤ 3072) (hMC : 400000 ≤ MC) (hMS : 3000000 ≤ MS) (hK : k_all Inv)
    (hend : ∀ (ad : Nat → Nat) (i : Int32) (I : am_I) (G : am_G), am_okz X ad → am_V X 400000 3000000 Q gS ad (1488, lw_L i, [.int (1 : Int32)], I, G, gP 999)) :
    ∀ (n r : Nat) (ad : Nat → Nat) (I : am_I) (G : am_G), 6 * r ≤ N → N < 6 * (r + n) → am_okz X ad → am_scr X ad N xs → Inv I G → am_V X (200 + 750 * r) (50000 + 5000 * r) Q gS ad (23, lw_L (Int32.ofNat (6 * r)), [], I, G, gP 999) := by
  intro n
  induction n with
  | zero => intro r ad I G h1 h2; omega
  | succ n ih =>
    intro r ad I G h1 h2 hX hs hI
    refine am_blk 23 [(.iload 4, 2, 4, 0, .null), (.aload_n 0, 1, 0, 0, .null)] (26, lw_L (Int32.ofNat (6 * r)), [.ref 5000, .int (Int32.ofNat (6 * r))], I, G, gP 999) (True) hX hi (by decide +kernel) rfl trivial ?_
    refine am_slen hX hi hs (by decide +kernel) ?_
    show am_V X _ _ _ gS ad (27, lw_L (Int32.ofNat (6 * r)), [.int (Int32.ofNat N), .int (Int32.ofNat (6 * r))], I, G, gP 999)
    refine am_blk 27 [(.bipush (6), 2, 0, 0, .int (6 : Int32)), (.isub, 1, 0, 0, .null)] (30, lw_L (Int32.ofNat (6 * r)), [.int (Int32.ofNat N - (6 : Int32)), .int (Int32.ofNat (6 * r))], I, G, gP 999) (True) hX hi (by decide +kernel) rfl trivial ?_
    have e6 : (Int32.ofNat N - (6 : Int32)).toInt = (N : Int) - 6 := n_sti (a := N) (b := 6) (by omega) (by omega)
    refine am_icmp_gt (tgt := 1487) hX hi (off := (1457)) (by decide +kernel) (by decide) (fun _ => ?_) (fun c30 => ?_)
    · refine am_blk 1487 [(.iconst (1), 1, 0, 0, .int (1 : Int32))] (1488, lw_L (Int32.ofNat (6 * r)), [.int (1 : Int32)], I, G, gP 999) (True) hX hi (by decide +kernel) rfl trivial ?_
      exact am_wid hm (by omega) (by omega) ⟨hMC, hMS⟩ (hend ad _ I G hX)
    have hr6 : 6 * r + 6 ≤ N := by
      rw [i_lt, e6, n_ti (by omega)] at c30
      omega
    refine am_blk 33 [(.aload_n 0, 1, 0, 0, .null), (.iload 4, 2, 4, 0, .null)] (36, lw_L (Int32.ofNat (6 * r)), [.int (Int32.ofNat (6 * r)), .ref 5000], I, G, gP 999) (True) hX hi (by decide +kernel) rfl trivial ?_
    refine am_sld hX hi hs ((n_in (by omega)).mpr (by omega)) (by decide +kernel) ?_
    generalize xs (Int32.ofNat (6 * r)).toNatClampNeg = y
    show am_V X _ _ _ gS ad (37, lw_L (Int32.ofNat (6 * r)), [.int y], I, G, gP 999)
    refine am_blk 37 [(.bipush (31), 2, 0, 0, .int (31 : Int32)), (.iand, 1, 0, 0, .null)] (40, lw_L (Int32.ofNat (6 * r)), [.int (y &&& (31 : Int32))], I, G, gP 999) (True) hX hi (by decide +kernel) rfl trivial ?_
    have hx : lw_rd N xs (Int32.ofNat (6 * r)) (fun k => xs (Int32.ofNat (6 * r) + Int32.ofNat k).toNatClampNeg) := fun k k1 k5 => ⟨by rw [n_add]; exact (n_in (by omega)).mpr (by omega), rfl⟩
    generalize (fun k => xs (Int32.ofNat (6 * r) + Int32.ofNat k).toNatClampNeg) = x at hx
    have hroom : 200 + 750 * r + 750 ≤ MC ∧ 50000 + 5000 * r + 5000 ≤ MS := ⟨by omega, by omega⟩
    have hnext : ∀ (ad' : Nat → Nat) (I2 : am_I) (G2 : am_G), am_okz X ad' → am_scr X ad' N xs → Inv I2 G2 → am_V X (200 + 750 * r + 750) (50000 + 5000 * r + 5000) Q gS ad' (1481, lw_L (Int32.ofNat (6 * r)), [], I2, G2, gP 999) := by
      intro ad' I2 G2 hX hs hI
      refine am_blk 1481 [(.iinc 4 (6), 3, 4, 0, .int (6 : Int32)), (.goto (-1461), 3, 0, 23, .null)] (23, lw_L (Int32.ofNat (6 * r) + (6 : Int32)), [], I2, G2, gP 999) (True) hX hi (by decide +kernel) rfl trivial ?_
      rw [show Int32.ofNat (6 * r) + (6 : Int32) = Int32.ofNat (6 * (r + 1)) from n_add (6 * r) 6, show 200 + 750 * r + 750 = 200 + 750 * (r + 1) by omega, show 50000 + 5000 * r + 5000 = 50000 + 5000 * (r + 1) by omega]
      exact ih (r + 1) ad' I2 G2 (by omega) (by omega) hX hs hI
    obtain ⟨Kfeed, Ktrim, Kteach, KerrorAt, Kcount, Kheight, Kink, Kpatch, Kwhence, Kshare, Koctave, Kgradient, Kvalue, Kcomb, Kmoves, KsetPull, KsetSeed, Kdrift, Kdip, Kforesee, Kuntil, Kadvise, Kmean, Kdigest⟩ := hK
    by_cases s0 : y &&& (31 : Int32) = (0 : Int32)
    · refine am_tsi hX hi (dflt := (1441)) (lo := (0)) (hi' := (23)) (offs := #[(112), (216), (272), (285), (298), (354), (391), (428), (465), (502), (558), (626), (706), (786), (854), (922), (990), (1058), (1126), (1182), (1250), (1330), (1386), (1427)]) (len := 112) (off := (112)) (tgt := 152) (by decide +kernel) (by rw [s0]; decide) (by rw [s0]; decide) (by rw [s0]; rfl) (by decide) ?_
      exact w_feed hX hi hm hh9 hs hroom hx Kfeed hI hnext
    by_cases s1 : y &&& (31 : Int32) = (1 : Int32)
    · refine am_tsi hX hi (dflt := (1441)) (lo := (0)) (hi' := (23)) (offs := #[(112), (216), (272), (285), (298), (354), (391), (428), (465), (502), (558), (626), (706), (786), (854), (922), (990), (1058), (1126), (1182), (1250), (1330), (1386), (1427)]) (len := 112) (off := (216)) (tgt := 256) (by decide +kernel) (by rw [s1]; decide) (by rw [s1]; decide) (by rw [s1]; rfl) (by decide) ?_
      exact w_trim hX hi hm hh9 hs hroom hx Ktrim hI hnext
    by_cases s2 : y &&& (31 : Int32) = (2 : Int32)
    · refine am_tsi hX hi (dflt := (1441)) (lo := (0)) (hi' := (23)) (offs := #[(112), (216), (272), (285), (298), (354), (391), (428), (465), (502), (558), (626), (706), (786), (854), (922), (990), (1058), (1126), (1182), (1250), (1330), (1386), (1427)]) (len := 112) (off := (272)) (tgt := 312) (by decide +kernel) (by rw [s2]; decide) (by rw [s2]; decide) (by rw [s2]; rfl) (by decide) ?_
      exact w_teach (x := x) hX hi hm hh9 hs hroom Kteach hI hnext
    by_cases s3 : y &&& (31 : Int32) = (3 : Int32)
    · refine am_tsi hX hi (dflt := (1441)) (lo := (0)) (hi' := (23)) (offs := #[(112), (216), (272), (285), (298), (354), (391), (428), (465), (502), (558), (626), (706), (786), (854), (922), (990), (1058), (1126), (1182), (1250), (1330), (1386), (1427)]) (len := 112) (off := (285)) (tgt := 325) (by decide +kernel) (by rw [s3]; decide) (by rw [s3]; decide) (by rw [s3]; rfl) (by decide) ?_
      exact w_errorAt (x := x) hX hi hm hh9 hs hroom KerrorAt hI hnext
    by_cases s4 : y &&& (31 : Int32) = (4 : Int32)
    · refine am_tsi hX hi (dflt := (1441)) (lo := (0)) (hi' := (23)) (offs := #[(112), (216), (272), (285), (298), (354), (391), (428), (465), (502), (558), (626), (706), (786), (854), (922), (990), (1058), (1126), (1182), (1250), (1330), (1386), (1427)]) (len := 112) (off := (298)) (tgt := 338) (by decide +kernel) (by rw [s4]; decide) (by rw [s4]; decide) (by rw [s4]; rfl) (by decide) ?_
      exact w_count hX hi hm hh9 hs hroom hx Kcount hI hnext
    by_cases s5 : y &&& (31 : Int32) = (5 : Int32)
    · refine am_tsi hX hi (dflt := (1441)) (lo := (0)) (hi' := (23)) (offs := #[(112), (216), (272), (285), (298), (354), (391), (428), (465), (502), (558), (626), (706), (786), (854), (922), (990), (1058), (1126), (1182), (1250), (1330), (1386), (1427)]) (len := 112) (off := (354)) (tgt := 394) (by decide +kernel) (by rw [s5]; decide) (by rw [s5]; decide) (by rw [s5]; rfl) (by decide) ?_
      exact w_height hX hi hm hh9 hs hroom hx Kheight hI hnext
    by_cases s6 : y &&& (31 : Int32) = (6 : Int32)
    · refine am_tsi hX hi (dflt := (1441)) (lo := (0)) (hi' := (23)) (offs := #[(112), (216), (272), (285), (298), (354), (391), (428), (465), (502), (558), (626), (706), (786), (854), (922), (990), (1058), (1126), (1182), (1250), (1330), (1386), (1427)]) (len := 112) (off := (391)) (tgt := 431) (by decide +kernel) (by rw [s6]; decide) (by rw [s6]; decide) (by rw [s6]; rfl) (by decide) ?_
      exact w_ink hX hi hm hh9 hs hroom hx Kink hI hnext
    by_cases s7 : y &&& (31 : Int32) = (7 : Int32)
    · refine am_tsi hX hi (dflt := (1441)) (lo := (0)) (hi' := (23)) (offs := #[(112), (216), (272), (285), (298), (354), (391), (428), (465), (502), (558), (626), (706), (786), (854), (922), (990), (1058), (1126), (1182), (1250), (1330), (1386), (1427)]) (len := 112) (off := (428)) (tgt := 468) (by decide +kernel) (by rw [s7]; decide) (by rw [s7]; decide) (by rw [s7]; rfl) (by decide) ?_
      exact w_patch hX hi hm hh9 hs hroom hx Kpatch hI hnext
    by_cases s8 : y &&& (31 : Int32) = (8 : Int32)
    · refine am_tsi hX hi (dflt := (1441)) (lo := (0)) (hi' := (23)) (offs := #[(112), (216), (272), (285), (298), (354), (391), (428), (465), (502), (558), (626), (706), (786), (854), (922), (990), (1058), (1126), (1182), (1250), (1330), (1386), (1427)]) (len := 112) (off := (465)) (tgt := 505) (by decide +kernel) (by rw [s8]; decide) (by rw [s8]; decide) (by rw [s8]; rfl) (by decide) ?_
      exact w_whence hX hi hm hh9 hs hroom hx Kwhence hI hnext
    by_cases s9 : y &&& (31 : Int32) = (9 : Int32)
    · refine am_tsi hX hi (dflt := (1441)) (lo := (0)) (hi' := (23)) (offs := #[(112), (216), (272), (285), (298), (354), (391), (428), (465), (502), (558), (626), (706), (786), (854), (922), (990), (1058), (1126), (1182), (1250), (1330), (1386), (1427)]) (len := 112) (off := (502)) (tgt := 542) (by decide +kernel) (by rw [s9]; decide) (by rw [s9]; decide) (by rw [s9]; rfl) (by decide) ?_
      exact w_share hX hi hm hh9 hs hroom hx Kshare hI hnext
    by_cases s10 : y &&& (31 : Int32) = (10 : Int32)
    · refine am_tsi hX hi (dflt := (1441)) (lo := (0)) (hi' := (23)) (offs := #[(112), (216), (272), (285), (298), (354), (391), (428), (465), (502), (558), (626), (706), (786), (854), (922), (990), (1058), (1126), (1182), (1250), (1330), (1386), (1427)]) (len := 112) (off := (558)) (tgt := 598) (by decide +kernel) (by rw [s10]; decide) (by rw [s10]; decide) (by rw [s10]; rfl) (by decide) ?_
      exact w_octave hX hi hm hh9 hs hroom hx Koctave hI hnext
    by_cases s11 : y &&& (31 : Int32) = (11 : Int32)
    · refine am_tsi hX hi (dflt := (1441)) (lo := (0)) (hi' := (23)) (offs := #[(112), (216), (272), (285), (298), (354), (391), (428), (465), (502), (558), (626), (706), (786), (854), (922), (990), (1058), (1126), (1182), (1250), (1330), (1386), (1427)]) (len := 112) (off := (626)) (tgt := 666) (by decide +kernel) (by rw [s11]; decide) (by rw [s11]; decide) (by rw [s11]; rfl) (by decide) ?_
      exact w_gradient hX hi hm hh9 hs hroom hx Kgradient hI hnext
    by_cases s12 : y &&& (31 : Int32) = (12 : Int32)
    · refine am_tsi hX hi (dflt := (1441)) (lo := (0)) (hi' := (23)) (offs := #[(112), (216), (272), (285), (298), (354), (391), (428), (465), (502), (558), (626), (706), (786), (854), (922), (990), (1058), (1126), (1182), (1250), (1330), (1386), (1427)]) (len := 112) (off := (706)) (tgt := 746) (by decide +kernel) (by rw [s12]; decide) (by rw [s12]; decide) (by rw [s12]; rfl) (by decide) ?_
      exact w_value hX hi hm hh9 hs hroom hx Kvalue hI hnext
    by_cases s13 : y &&& (31 : Int32) = (13 : Int32)
    · refine am_tsi hX hi (dflt := (1441)) (lo := (0)) (hi' := (23)) (offs := #[(112), (216), (272), (285), (298), (354), (391), (428), (465), (502), (558), (626), (706), (786), (854), (922), (990), (1058), (1126), (1182), (1250), (1330), (1386), (1427)]) (len := 112) (off := (786)) (tgt := 826) (by decide +kernel) (by rw [s13]; decide) (by rw [s13]; decide) (by rw [s13]; rfl) (by decide) ?_
      exact w_comb hX hi hm hh9 hs hroom hx Kcomb hI hnext
    by_cases s14 : y &&& (31 : Int32) = (14 : Int32)
    · refine am_tsi hX hi (dflt := (1441)) (lo := (0)) (hi' := (23)) (offs := #[(112), (216), (272), (285), (298), (354), (391), (428), (465), (502), (558), (626), (706), (786), (854), (922), (990), (1058), (1126), (1182), (1250), (1330), (1386), (1427)]) (len := 112) (off := (854)) (tgt := 894) (by decide +kernel) (by rw [s14]; decide) (by rw [s14]; decide) (by rw [s14]; rfl) (by decide) ?_
      exact w_moves hX hi hm hh9 hs hroom hx Kmoves hI hnext
    by_cases s15 : y &&& (31 : Int32) = (15 : Int32)
    · refine am_tsi hX hi (dflt := (1441)) (lo := (0)) (hi' := (23)) (offs := #[(112), (216), (272), (285), (298), (354), (391), (428), (465), (502), (558), (626), (706), (786), (854), (922), (990), (1058), (1126), (1182), (1250), (1330), (1386), (1427)]) (len := 112) (off := (922)) (tgt := 962) (by decide +kernel) (by rw [s15]; decide) (by rw [s15]; decide) (by rw [s15]; rfl) (by decide) ?_
      exact w_setPull hX hi hm hh9 hs hroom hx KsetPull hI hnext
    by_cases s16 : y &&& (31 : Int32) = (16 : Int32)
    · refine am_tsi hX hi (dflt := (1441)) (lo := (0)) (hi' := (23)) (offs := #[(112), (216), (272), (285), (298), (354), (391), (428), (465), (502), (558), (626), (706), (786), (854), (922), (990), (1058), (1126), (1182), (1250), (1330), (1386), (1427)]) (len := 112) (off := (990)) (tgt := 1030) (by decide +kernel) (by rw [s16]; decide) (by rw [s16]; decide) (by rw [s16]; rfl) (by decide) ?_
      exact w_setSeed hX hi hm hh9 hs hroom hx KsetSeed hI hnext
    by_cases s17 : y &&& (31 : Int32) = (17 : Int32)
    · refine am_tsi hX hi (dflt := (1441)) (lo := (0)) (hi' := (23)) (offs := #[(112), (216), (272), (285), (298), (354), (391), (428), (465), (502), (558), (626), (706), (786), (854), (922), (990), (1058), (1126), (1182), (1250), (1330), (1386), (1427)]) (len := 112) (off := (1058)) (tgt := 1098) (by decide +kernel) (by rw [s17]; decide) (by rw [s17]; decide) (by rw [s17]; rfl) (by decide) ?_
      exact w_drift hX hi hm hh9 hs hroom hx Kdrift hI hnext
    by_cases s18 : y &&& (31 : Int32) = (18 : Int32)
    · refine am_tsi hX hi (dflt := (1441)) (lo := (0)) (hi' := (23)) (offs := #[(112), (216), (272), (285), (298), (354), (391), (428), (465), (502), (558), (626), (706), (786), (854), (922), (990), (1058), (1126), (1182), (1250), (1330), (1386), (1427)]) (len := 112) (off := (1126)) (tgt := 1166) (by decide +kernel) (by rw [s18]; decide) (by rw [s18]; decide) (by rw [s18]; rfl) (by decide) ?_
      exact w_dip hX hi hm hh9 hs hroom hx Kdip hI hnext
    by_cases s19 : y &&& (31 : Int32) = (19 : Int32)
    · refine am_tsi hX hi (dflt := (1441)) (lo := (0)) (hi' := (23)) (offs := #[(112), (216), (272), (285), (298), (354), (391), (428), (465), (502), (558), (626), (706), (786), (854), (922), (990), (1058), (1126), (1182), (1250), (1330), (1386), (1427)]) (len := 112) (off := (1182)) (tgt := 1222) (by decide +kernel) (by rw [s19]; decide) (by rw [s19]; decide) (by rw [s19]; rfl) (by decide) ?_
      exact w_foresee hX hi hm hh9 hs hroom hx Kforesee hI hnext
    by_cases s20 : y &&& (31 : Int32) = (20 : Int32)
    · refine am_tsi hX hi (dflt := (1441)) (lo := (0)) (hi' := (23)) (offs := #[(112), (216), (272), (285), (298), (354), (391), (428), (465), (502), (558), (626), (706), (786), (854), (922), (990), (1058), (1126), (1182), (1250), (1330), (1386), (1427)]) (len := 112) (off := (1250)) (tgt := 1290) (by decide +kernel) (by rw [s20]; decide) (by rw [s20]; decide) (by rw [s20]; rfl) (by decide) ?_
      exact w_until hX hi hm hh9 hs hroom hx Kuntil hI hnext
    by_cases s21 : y &&& (31 : Int32) = (21 : Int32)
    · refine am_tsi hX hi (dflt := (1441)) (lo := (0)) (hi' := (23)) (offs := #[(112), (216), (272), (285), (298), (354), (391), (428), (465), (502), (558), (626), (706), (786), (854), (922), (990), (1058), (1126), (1182), (1250), (1330), (1386), (1427)]) (len := 112) (off := (1330)) (tgt := 1370) (by decide +kernel) (by rw [s21]; decide) (by rw [s21]; decide) (by rw [s21]; rfl) (by decide) ?_
      exact w_advise hX hi hm hh9 hs hroom hx Kadvise hI hnext
    by_cases s22 : y &&& (31 : Int32) = (22 : Int32)
    · refine am_tsi hX hi (dflt := (1441)) (lo := (0)) (hi' := (23)) (offs := #[(112), (216), (272), (285), (298), (354), (391), (428), (465), (502), (558), (626), (706), (786), (854), (922), (990), (1058), (1126), (1182), (1250), (1330), (1386), (1427)]) (len := 112) (off := (1386)) (tgt := 1426) (by decide +kernel) (by rw [s22]; decide) (by rw [s22]; decide) (by rw [s22]; rfl) (by decide) ?_
      exact w_mean (x := x) hX hi hm hh9 hs hroom Kmean hI hnext
    by_cases s23 : y &&& (31 : Int32) = (23 : Int32)
    · refine am_tsi hX hi (dflt := (1441)) (lo := (0)) (hi' := (23)) (offs := #[(112), (216), (272), (285), (298), (354), (391), (428), (465), (502), (558), (626), (706), (786), (854), (922), (990), (1058), (1126), (1182), (1250), (1330), (1386), (1427)]) (len := 112) (off := (1427)) (tgt := 1467) (by decide +kernel) (by rw [s23]; decide) (by rw [s23]; decide) (by rw [s23]; rfl) (by decide) ?_
      exact w_digest (x := x) hX hi hm hh9 hs hroom Kdigest hI hnext
    refine am_tso hX hi (dflt := (1441)) (lo := (0)) (hi' := (23)) (offs := #[(112), (216), (272), (285), (298), (354), (391), (428), (465), (502), (558), (626), (706), (786), (854), (922), (990), (1058), (1126), (1182), (1250), (1330), (1386), (1427)]) (len := 112) (tgt := 1481) (by decide +kernel) ?_ (by decide) ?_
    · have eF : ∀ v : Int32, ¬ y &&& (31 : Int32) = v → ¬ (y &&& (31 : Int32)).toInt = v.toInt := fun v q z => q ((i_eq _ _).mpr z)
      have e0 := eF (0 : Int32) s0
      have e1 := eF (1 : Int32) s1
      have e2 := eF (2 : Int32) s2
      have e3 := eF (3 : Int32) s3
      have e4 := eF (4 : Int32) s4
      have e5 := eF (5 : Int32) s5
      have e6 := eF (6 : Int32) s6
      have e7 := eF (7 : Int32) s7
      have e8 := eF (8 : Int32) s8
      have e9 := eF (9 : Int32) s9
      have e10 := eF (10 : Int32) s10
      have e11 := eF (11 : Int32) s11
      have e12 := eF (12 : Int32) s12
      have e13 := eF (13 : Int32) s13
      have e14 := eF (14 : Int32) s14
      have e15 := eF (15 : Int32) s15
      have e16 := eF (16 : Int32) s16
      have e17 := eF (17 : Int32) s17
      have e18 := eF (18 : Int32) s18
      have e19 := eF (19 : Int32) s19
      have e20 := eF (20 : Int32) s20
      have e21 := eF (21 : Int32) s21
      have e22 := eF (22 : Int32) s22
      have e23 := eF (23 : Int32) s23
      simp only [show (0 : Int32).toInt = 0 from rfl, show (1 : Int32).toInt = 1 from rfl, show (2 : Int32).toInt = 2 from rfl, show (3 : Int32).toInt = 3 from rfl, show (4 : Int32).toInt = 4 from rfl, show (5 : Int32).toInt = 5 from rfl, show (6 : Int32).toInt = 6 from rfl, show (7 : Int32).toInt = 7 from rfl, show (8 : Int32).toInt = 8 from rfl, show (9 : Int32).toInt = 9 from rfl, show (10 : Int32).toInt = 10 from rfl, show (11 : Int32).toInt = 11 from rfl, show (12 : Int32).toInt = 12 from rfl, show (13 : Int32).toInt = 13 from rfl, show (14 : Int32).toInt = 14 from rfl, show (15 : Int32).toInt = 15 from rfl, show (16 : Int32).toInt = 16 from rfl, show (17 : Int32).toInt = 17 from rfl, show (18 : Int32).toInt = 18 from rfl, show (19 : Int32).toInt = 19 from rfl, show (20 : Int32).toInt = 20 from rfl, show (21 : Int32).toInt = 21 from rfl, show (22 : Int32).toInt = 22 from rfl, show (23 : Int32).toInt = 23 from rfl] at *
      omega
    · exact am_wid hm (by omega) (by omega) hroom (hnext ad I G hX hs hI)
