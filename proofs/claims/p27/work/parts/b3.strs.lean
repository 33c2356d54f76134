/-! String's and StringBuilder's methods over texts, static or made -/
set_option maxRecDepth 100000 in
theorem am_w_cs0 : Cond.fieldLink (am_own 0) 38 "java/lang/String" "COMPACT_STRINGS" "Z" ∈ am_all := am_good (List.mem_of_getElem? (i := 99) rfl) rfl
set_option maxRecDepth 100000 in
theorem am_w_cs21 : Cond.fieldLink (am_own 21) 18 "java/lang/String" "COMPACT_STRINGS" "Z" ∈ am_all := am_good (List.mem_of_getElem? (i := 1391) rfl) rfl
set_option maxRecDepth 100000 in
theorem am_w_acB : Cond.methodLink (am_own 23) 150 arraycopyName ∈ lw_tbl := List.mem_of_getElem? (i := 1385) rfl
set_option maxRecDepth 100000 in
theorem am_w_acS : Cond.methodLink (am_own 0) 212 arraycopyName ∈ lw_tbl := List.mem_of_getElem? (i := 1438) rfl
set_option maxRecDepth 100000 in
theorem am_w_dgO : Cond.fieldLink (am_own 22) 83 "java/lang/Integer" "DigitOnes" "[B" ∈ am_all := am_good (List.mem_of_getElem? (i := 1453) rfl) rfl
set_option maxRecDepth 100000 in
theorem am_w_dgT : Cond.fieldLink (am_own 22) 87 "java/lang/Integer" "DigitTens" "[B" ∈ am_all := am_good (List.mem_of_getElem? (i := 1455) rfl) rfl
set_option maxRecDepth 100000 in
theorem am_w_byte : Cond.arrayClass (newarray.typeOf .byte) ∈ lw_tbl := List.mem_of_getElem? (i := 172) rfl
set_option maxRecDepth 100000 in
theorem sl_latin : am_selP "java/lang/StringBuilder" mJ5_isLatin1_aae02.1 := am_selP.of (am_good (List.mem_of_getElem? (i := 1389) rfl) rfl)
set_option maxRecDepth 100000 in
theorem sl_value : am_selP "java/lang/StringBuilder" mJ5_getValue_6d5f1.1 := am_selP.of (am_good (List.mem_of_getElem? (i := 1522) rfl) rfl)
set_option maxRecDepth 100000 in
theorem sl_ensureCapacityInternal : am_selP "java/lang/StringBuilder" mJ5_ensureCapacityInternal_d00df.1 := am_selP.priv (z := mJ5_isLatin1_aae02.1) (am_good (List.mem_of_getElem? (i := 1389) rfl) rfl) rfl (by decide +kernel) (List.mem_of_getElem? (i := 1358) rfl) rfl (am_good miJ5_ensureCapacityInternal_d00df rfl)
set_option maxRecDepth 100000 in
theorem sl_newCapacity : am_selP "java/lang/StringBuilder" mJ5_newCapacity_0f7a4.1 := am_selP.priv (z := mJ5_isLatin1_aae02.1) (am_good (List.mem_of_getElem? (i := 1389) rfl) rfl) rfl (by decide +kernel) (List.mem_of_getElem? (i := 1362) rfl) rfl (am_good miJ5_newCapacity_0f7a4 rfl)
set_option maxRecDepth 100000 in
theorem sl_putStringAt : am_selP "java/lang/StringBuilder" mJ5_putStringAt_47b60.1 := am_selP.priv (z := mJ5_isLatin1_aae02.1) (am_good (List.mem_of_getElem? (i := 1389) rfl) rfl) rfl (by decide +kernel) (List.mem_of_getElem? (i := 1400) rfl) rfl (am_good miJ5_putStringAt_47b60 rfl)
set_option maxRecDepth 100000 in
theorem sl_inflateIfNeededFor : am_selP "java/lang/StringBuilder" mJ5_inflateIfNeededFor_a7421.1 := am_selP.priv (z := mJ5_isLatin1_aae02.1) (am_good (List.mem_of_getElem? (i := 1389) rfl) rfl) rfl (by decide +kernel) (List.mem_of_getElem? (i := 1404) rfl) rfl (am_good miJ5_inflateIfNeededFor_a7421 rfl)
set_option maxRecDepth 100000 in
theorem sm_ensureCapacityInternal_d00df : Cond.sameMethod mJ5_ensureCapacityInternal_d00df.1.cls mJ5_ensureCapacityInternal_d00df.1.cls mJ5_ensureCapacityInternal_d00df.1.name mJ5_ensureCapacityInternal_d00df.1.desc ∈ lw_tbl := List.mem_of_getElem? (i := 1616) rfl
set_option maxRecDepth 100000 in
theorem sm_newCapacity_0f7a4 : Cond.sameMethod mJ5_newCapacity_0f7a4.1.cls mJ5_newCapacity_0f7a4.1.cls mJ5_newCapacity_0f7a4.1.name mJ5_newCapacity_0f7a4.1.desc ∈ lw_tbl := List.mem_of_getElem? (i := 1617) rfl
set_option maxRecDepth 100000 in
theorem sm_putStringAt_47b60 : Cond.sameMethod mJ5_putStringAt_47b60.1.cls mJ5_putStringAt_47b60.1.cls mJ5_putStringAt_47b60.1.name mJ5_putStringAt_47b60.1.desc ∈ lw_tbl := List.mem_of_getElem? (i := 1618) rfl
set_option maxRecDepth 100000 in
theorem sm_inflateIfNeededFor_a7421 : Cond.sameMethod mJ5_inflateIfNeededFor_a7421.1.cls mJ5_inflateIfNeededFor_a7421.1.cls mJ5_inflateIfNeededFor_a7421.1.name mJ5_inflateIfNeededFor_a7421.1.desc ∈ lw_tbl := List.mem_of_getElem? (i := 1619) rfl
set_option maxRecDepth 100000 in
theorem sm_isLatin1_aae02 : Cond.sameMethod mJ5_isLatin1_aae02.1.cls mJ5_isLatin1_aae02.1.cls mJ5_isLatin1_aae02.1.name mJ5_isLatin1_aae02.1.desc ∈ lw_tbl := List.mem_of_getElem? (i := 1388) rfl
set_option maxRecDepth 100000 in
theorem sm_getValue_6d5f1 : Cond.sameMethod mJ5_getValue_6d5f1.1.cls mJ5_getValue_6d5f1.1.cls mJ5_getValue_6d5f1.1.name mJ5_getValue_6d5f1.1.desc ∈ lw_tbl := List.mem_of_getElem? (i := 1521) rfl
set_option maxRecDepth 100000 in
theorem sm_append_cf1ce : Cond.sameMethod mJ5_append_cf1ce.1.cls mJ5_append_cf1ce.1.cls mJ5_append_cf1ce.1.name mJ5_append_cf1ce.1.desc ∈ lw_tbl := List.mem_of_getElem? (i := 1614) rfl
set_option maxRecDepth 100000 in
theorem sm_append_c97b9 : Cond.sameMethod mJ5_append_c97b9.1.cls mJ5_append_c97b9.1.cls mJ5_append_c97b9.1.name mJ5_append_c97b9.1.desc ∈ lw_tbl := List.mem_of_getElem? (i := 1621) rfl
set_option maxRecDepth 100000 in
theorem sm_length_8abf5 : Cond.sameMethod mJ5_length_8abf5.1.cls mJ5_length_8abf5.1.cls mJ5_length_8abf5.1.name mJ5_length_8abf5.1.desc ∈ lw_tbl := List.mem_of_getElem? (i := 1526) rfl
set_option maxRecDepth 100000 in
theorem sp_SB : Cond.superclass (am_own 1) "java/lang/AbstractStringBuilder" ∈ lw_tbl := List.mem_of_getElem? (i := 1350) rfl
set_option maxRecDepth 100000 in
theorem cn_200 : Cond.constant (am_own 24) 200 (2147483639 : Int32) ∈ lw_tbl := List.mem_of_getElem? (i := 1369) rfl
set_option maxRecDepth 100000 in
theorem cn_39 : Cond.constant (am_own 21) 39 (2147483647 : Int32) ∈ lw_tbl := List.mem_of_getElem? (i := 1373) rfl
section AMTR
variable {X : am_X} {o : Nat} {cc : ByteArray} {nL : Nat} {ini : Bool} {ret : Option FieldType} {d : Nat}
variable {cells slots : Nat} {Q : State → Prop} {sh : List am_Sh} {ad : Nat → Nat} {pc : Nat} {L : am_L} {st : List Value} {I : am_I} {G : am_G} {P : am_P}
theorem am_csS (hX : am_okz X ad) (hi : am_info X o cc nL ini ret d) {idx : Nat} (hw : Cond.fieldLink (am_own o) idx "java/lang/String" "COMPACT_STRINGS" "Z" ∈ am_all) (hd : decode cc pc = .ok (.getstatic idx, 3)) (kk : am_V X cells slots Q sh ad (pc + 3, L, .int 1 :: st, I, G, P)) : am_V X cells slots Q sh ad (pc, L, st, I, G, P) := by
  obtain ⟨p, l, e, R, s, m, args, below, meth, c, A, D, cys, o', cc', nL', ini'⟩ := X
  obtain ⟨rfl, rfl, rfl, rfl, -, -, -⟩ := hi
  obtain ⟨⟨hx, hb, hml, hown, hts, -⟩, hZ⟩ := hX
  intro q1 q2 H locs ls hP hD hS hlo
  exact va_gets hx hb hZ.2.2.2.2.2.2.2.1 hS hown (hts _ hw) (fun x h => h) hd (kk q1 q2 H locs ls hP hD hS hlo)
theorem am_dgs (hX : am_okz X ad) (hi : am_info X o cc nL ini ret d) {idx i : Nat} {q : String × String × List Int32} (hq : am_bT[i]? = some q) (hw : Cond.fieldLink (am_own o) idx q.1 q.2.1 "[B" ∈ am_all) (hd : decode cc pc = .ok (.getstatic idx, 3)) (kk : am_V X cells slots Q sh ad (pc + 3, L, .ref (1020 + i) :: st, I, G, P)) : am_V X cells slots Q sh ad (pc, L, st, I, G, P) := by
  obtain ⟨p, l, e, R, s, m, args, below, meth, c, A, D, cys, o', cc', nL', ini'⟩ := X
  obtain ⟨rfl, rfl, rfl, rfl, -, -, -⟩ := hi
  obtain ⟨⟨hx, hb, hml, hown, hts, -⟩, hZ⟩ := hX
  intro q1 q2 H locs ls hP hD hS hlo
  exact va_gets hx hb (hZ.2.2.2.2.2.2.1 i q hq).1 hS hown (hts _ hw) (fun x h => h) hd (kk q1 q2 H locs ls hP hD hS hlo)
theorem am_dgb (hX : am_okz X ad) (hi : am_info X o cc nL ini ret d) {i : Nat} {q : String × String × List Int32} (hq : am_bT[i]? = some q) {j v : Int32} (hj : vp_in j q.2.2.length) (hv : q.2.2.getD j.toNatClampNeg 0 = v) (hd : decode cc pc = .ok (.baload, 1)) (kk : am_V X cells slots Q sh ad (pc + 1, L, .int v :: st, I, G, P)) : am_V X cells slots Q sh ad (pc, L, .int j :: .ref (1020 + i) :: st, I, G, P) := by
  subst hv
  obtain ⟨p, l, e, R, s, m, args, below, meth, c, A, D, cys, o', cc', nL', ini'⟩ := X
  obtain ⟨rfl, rfl, rfl, rfl, -, -, -⟩ := hi
  obtain ⟨⟨hx, hb, hml, hown, hts, -⟩, hZ⟩ := hX
  intro q1 q2 H locs ls hP hD hS hlo
  exact va_tb hx hb (hZ.2.2.2.2.2.2.1 i q hq).2 hS hj rfl hd (kk q1 q2 H locs ls hP hD hS hlo)
end AMTR
section AMTK
variable {sh : List am_Sh} {I : am_I} {G : am_G} {P : am_P} {q w b v m : Nat} {T : List Nat}
set_option maxHeartbeats 1000000 in
theorem k_coder (hT : xS sh I P q w T) : am_Ct mJ0_coder_7d493 1 sh [.ref q] I G P (pI 0 I G P) := by
  refine am_ofF (by decide +kernel) rfl (by decide) (by decide) (Nat.le_of_ble_eq_true rfl) (fun X ad hX hi => ?_)
  have hi : am_info X 0 cJ0_coder_7d493 1 false (some FieldType.byte) 1 := hi
  show am_V X _ _ _ sh ad (0, [(0, .ref q)], [], I, G, P)
  refine am_csS hX hi (idx := 38) am_w_cs0 (by decide +kernel) ?_
  refine am_if_eq hX hi (off := 10) (tgt := 13) (by decide +kernel) (by decide) (fun c => absurd c (by decide)) (fun _ => ?_)
  refine am_blk 6 [(.aload_n 0, 1, 0, 0, .null)] (7, [(0, .ref q)], [.ref q], I, G, P) True hX hi (by decide +kernel) rfl trivial ?_
  refine t_cod hX hi hT (by decide +kernel) ?_
  refine am_blk 10 [(.goto (4), 3, 0, 14, .null)] (14, [(0, .ref q)], [.int 0], I, G, P) True hX hi (by decide +kernel) rfl trivial ?_
  exact am_iret hX hi rfl rfl (by decide +kernel) (pI_eq rfl)
set_option maxHeartbeats 1000000 in
theorem k_latin (hT : xS sh I P q w T) : am_Ct mJ0_isLatin1_aae02 1 sh [.ref q] I G P (pI 1 I G P) := by
  refine am_ofF (by decide +kernel) rfl (by decide) (by decide) (Nat.le_of_ble_eq_true rfl) (fun X ad hX hi => ?_)
  have hi : am_info X 0 cJ0_isLatin1_aae02 1 false (some FieldType.boolean) 1 := hi
  show am_V X _ _ _ sh ad (0, [(0, .ref q)], [], I, G, P)
  refine am_csS hX hi (idx := 38) am_w_cs0 (by decide +kernel) ?_
  refine am_if_eq hX hi (off := 14) (tgt := 17) (by decide +kernel) (by decide) (fun c => absurd c (by decide)) (fun _ => ?_)
  refine am_blk 6 [(.aload_n 0, 1, 0, 0, .null)] (7, [(0, .ref q)], [.ref q], I, G, P) True hX hi (by decide +kernel) rfl trivial ?_
  refine t_cod hX hi hT (by decide +kernel) ?_
  refine am_if_ne hX hi (off := 7) (tgt := 17) (by decide +kernel) (by decide) (fun c => absurd (rfl) c) (fun _ => ?_)
  refine am_blk 13 [(.iconst (1), 1, 0, 0, .int (1 : Int32)), (.goto (4), 3, 0, 18, .null)] (18, [(0, .ref q)], [.int (1 : Int32)], I, G, P) True hX hi (by decide +kernel) rfl trivial ?_
  exact am_iret hX hi rfl rfl (by decide +kernel) (pI_eq rfl)
set_option maxHeartbeats 1000000 in
theorem k_length (hT : xS sh I P q w T) : am_Ct mJ0_length_8abf5 2 sh [.ref q] I G P (pI (Int32.ofNat T.length) I G P) := by
  refine am_ofF (by decide +kernel) rfl (by decide) (by decide) (Nat.le_of_ble_eq_true rfl) (fun X ad hX hi => ?_)
  have hi : am_info X 0 cJ0_length_8abf5 1 false (some FieldType.int) 2 := hi
  show am_V X _ _ _ sh ad (0, [(0, .ref q)], [], I, G, P)
  refine am_blk 0 [(.aload_n 0, 1, 0, 0, .null)] (1, [(0, .ref q)], [.ref q], I, G, P) True hX hi (by decide +kernel) rfl trivial ?_
  refine t_val hX hi hT (by decide +kernel) ?_
  refine t_len hX hi hT (by decide +kernel) ?_
  refine am_blk 5 [(.aload_n 0, 1, 0, 0, .null)] (6, [(0, .ref q)], [.ref q, .int (Int32.ofNat T.length)], I, G, P) True hX hi (by decide +kernel) rfl trivial ?_
  refine t_call hX hi hT (M := mJ0_coder_7d493) (idx := 335) (d' := 1) (As := []) (rest := [.int (Int32.ofNat T.length)]) mkJ0_coder_7d493 miJ0_coder_7d493 mvJ0_coder_7d493 (by decide +kernel) (by decide +kernel) rfl rfl ⟨by decide, by decide, Nat.le_of_ble_eq_true rfl⟩ rfl (k_coder hT) ?_
  rintro r9 I9 G9 P9 ⟨e0, e1, e2, e3⟩
  rw [e0, e1, e2, e3]
  show am_V X _ _ _ sh ad (9, [(0, .ref q)], [.int (0 : Int32), .int (Int32.ofNat T.length)], I, G, P)
  refine am_blk 9 [(.ishr, 1, 0, 0, .null)] (10, [(0, .ref q)], [.int ((Int32.ofNat T.length) >>> ((0 : Int32) &&& 31))], I, G, P) True hX hi (by decide +kernel) rfl trivial ?_
  refine am_iret hX hi rfl rfl (by decide +kernel) (pI_eq ?_)
  rw [show ((0 : Int32) &&& 31) = 0 from by decide]
  simp
set_option maxHeartbeats 1000000 in
theorem k_lcharAt (hT : xS sh I P q w T) {x : Int32} (h0 : 0 ≤ x.toInt) (h1 : x.toInt < T.length) : am_Ct mJ1_charAt_3b067 3 sh [.ref w, .int x] I G P (pI (Int32.ofNat (T.getD x.toNatClampNeg 0)) I G P) := by
  have hA := hT.1
  have h40 := hT.2.1
  have hc : ∀ x, x < 128 → ((Int32.ofNat x &&& 255).toUInt32 % 65536).toInt32 = Int32.ofNat x ∧ narrow .char (.int (Int32.ofNat x)) = .int (Int32.ofNat x) := by decide +kernel
  have hj : x.toNatClampNeg < T.length := by rw [i_cl]; omega
  obtain ⟨b2, b3⟩ := hc _ (hA _ hj)
  refine am_ofF (by decide +kernel) rfl (by decide) (by decide) (Nat.le_of_ble_eq_true rfl) (fun X ad hX hi => ?_)
  have hi : am_info X 17 cJ1_charAt_3b067 2 false (some FieldType.char) 3 := hi
  show am_V X _ _ _ sh ad (0, [(0, .ref w), (1, .int x)], [], I, G, P)
  refine am_blk 0 [(.iload_n 1, 1, 1, 0, .null), (.aload_n 0, 1, 0, 0, .null)] (2, [(0, .ref w), (1, .int x)], [.ref w, .int x], I, G, P) True hX hi (by decide +kernel) rfl trivial ?_
  refine t_len hX hi hT (by decide +kernel) ?_
  refine am_callS2 hX hi (M := mJ0_checkIndex_df160) (idx := 9) (d' := 2) (As := [.int x, .int (Int32.ofNat T.length)]) (rest := []) mkJ0_checkIndex_df160 msJ0_checkIndex_df160 (by decide +kernel) (by decide +kernel) rfl ⟨by decide, by decide, Nat.le_of_ble_eq_true rfl⟩ rfl (c_chk h0 (by rw [i_of _ (by omega)]; exact h1)) ?_
  rintro r9 I9 G9 P9 ⟨e0, e1, e2, e3⟩
  rw [e0, e1, e2, e3]
  show am_V X _ _ _ sh ad (6, [(0, .ref w), (1, .int x)], [], I, G, P)
  refine am_blk 6 [(.aload_n 0, 1, 0, 0, .null), (.iload_n 1, 1, 1, 0, .null)] (8, [(0, .ref w), (1, .int x)], [.int x, .ref w], I, G, P) True hX hi (by decide +kernel) rfl trivial ?_
  refine t_b hX hi hT ((i_in _ _).mpr ⟨h0, h1⟩) (by decide +kernel) ?_
  refine am_blk 9 [(.sipush (255), 3, 0, 0, .int (255 : Int32)), (.iand, 1, 0, 0, .null), (.i2c, 1, 0, 0, .null)] (14, [(0, .ref w), (1, .int x)], [.int (((Int32.ofNat (T.getD x.toNatClampNeg 0)) &&& (255 : Int32)).toUInt32 % 65536).toInt32], I, G, P) True hX hi (by decide +kernel) rfl trivial ?_
  rw [b2]
  exact am_iret hX hi rfl b3 (by decide +kernel) (pI_eq rfl)
set_option maxHeartbeats 1000000 in
theorem k_charAt (hT : xS sh I P q w T) {x : Int32} (h0 : 0 ≤ x.toInt) (h1 : x.toInt < T.length) : am_Ct mJ0_charAt_5068e 4 sh [.ref q, .int x] I G P (pI (Int32.ofNat (T.getD x.toNatClampNeg 0)) I G P) := by
  have hA := hT.1
  have h40 := hT.2.1
  have hc : ∀ x, x < 128 → ((Int32.ofNat x &&& 255).toUInt32 % 65536).toInt32 = Int32.ofNat x ∧ narrow .char (.int (Int32.ofNat x)) = .int (Int32.ofNat x) := by decide +kernel
  have hj : x.toNatClampNeg < T.length := by rw [i_cl]; omega
  obtain ⟨b2, b3⟩ := hc _ (hA _ hj)
  refine am_ofF (by decide +kernel) rfl (by decide) (by decide) (Nat.le_of_ble_eq_true rfl) (fun X ad hX hi => ?_)
  have hi : am_info X 0 cJ0_charAt_5068e 2 false (some FieldType.char) 4 := hi
  show am_V X _ _ _ sh ad (0, [(0, .ref q), (1, .int x)], [], I, G, P)
  refine am_blk 0 [(.aload_n 0, 1, 0, 0, .null)] (1, [(0, .ref q), (1, .int x)], [.ref q], I, G, P) True hX hi (by decide +kernel) rfl trivial ?_
  refine t_call hX hi hT (M := mJ0_isLatin1_aae02) (idx := 492) (d' := 1) (As := []) (rest := []) mkJ0_isLatin1_aae02 miJ0_isLatin1_aae02 mvJ0_isLatin1_aae02 (by decide +kernel) (by decide +kernel) rfl rfl ⟨by decide, by decide, Nat.le_of_ble_eq_true rfl⟩ rfl (k_latin hT) ?_
  rintro r9 I9 G9 P9 ⟨e0, e1, e2, e3⟩
  rw [e0, e1, e2, e3]
  show am_V X _ _ _ sh ad (4, [(0, .ref q), (1, .int x)], [.int (1 : Int32)], I, G, P)
  refine am_if_eq hX hi (off := 12) (tgt := 16) (by decide +kernel) (by decide) (fun c => absurd c (by decide)) (fun _ => ?_)
  refine am_blk 7 [(.aload_n 0, 1, 0, 0, .null)] (8, [(0, .ref q), (1, .int x)], [.ref q], I, G, P) True hX hi (by decide +kernel) rfl trivial ?_
  refine t_val hX hi hT (by decide +kernel) ?_
  refine am_blk 11 [(.iload_n 1, 1, 1, 0, .null)] (12, [(0, .ref q), (1, .int x)], [.int x, .ref w], I, G, P) True hX hi (by decide +kernel) rfl trivial ?_
  refine am_callS2 hX hi (M := mJ1_charAt_3b067) (idx := 495) (d' := 3) (As := [.ref w, .int x]) (rest := []) mkJ1_charAt_3b067 msJ1_charAt_3b067 (by decide +kernel) (by decide +kernel) rfl ⟨by decide, by decide, Nat.le_of_ble_eq_true rfl⟩ rfl (k_lcharAt hT h0 h1) ?_
  rintro r9 I9 G9 P9 ⟨e0, e1, e2, e3⟩
  rw [e0, e1, e2, e3]
  show am_V X _ _ _ sh ad (15, [(0, .ref q), (1, .int x)], [.int (Int32.ofNat (T.getD x.toNatClampNeg 0))], I, G, P)
  exact am_iret hX hi rfl b3 (by decide +kernel) (pI_eq rfl)
/-- what is put behind the first n bytes -/
def pPut (v n : Nat) (T : List Nat) (I : am_I) (G : am_G) (P : am_P) : am_Po := fun r I' G' P' => r = none ∧ G' = G ∧ P' = P ∧ ∃ f : Nat → Int32, I' = am_row I v f ∧ (∀ j, j < n → f j = I v j) ∧ (∀ j, j < T.length → f (n + j) = Int32.ofNat (T.getD j 0)) ∧ sb_Fit f
set_option maxHeartbeats 1000000 in
theorem k_getBytes (hT : xS sh I P q w T) {n : Nat} (hv : sh[v]? = some (.inr (4, m))) (hm : m ≤ 4096) (hn : n + T.length ≤ m) (hf : sb_Fit (I v)) : am_Ct mJ0_getBytes_840e7 2 sh [.ref q, .ref v, .int (Int32.ofNat n), .int 0] I G P (pPut v n T I G P) := by
  refine am_ofF (by decide +kernel) rfl (by decide) (by decide) (Nat.le_of_ble_eq_true rfl) (fun X ad hX hi => ?_)
  have hi : am_info X 0 cJ0_getBytes_840e7 4 false none 2 := hi
  show am_V X _ _ _ sh ad (0, [(0, .ref q), (1, .ref v), (2, .int (Int32.ofNat n)), (3, .int (0 : Int32))], [], I, G, P)
  refine am_blk 0 [(.aload_n 0, 1, 0, 0, .null)] (1, [(0, .ref q), (1, .ref v), (2, .int (Int32.ofNat n)), (3, .int (0 : Int32))], [.ref q], I, G, P) True hX hi (by decide +kernel) rfl trivial ?_
  refine t_call hX hi hT (M := mJ0_coder_7d493) (idx := 335) (d' := 1) (As := []) (rest := []) mkJ0_coder_7d493 miJ0_coder_7d493 mvJ0_coder_7d493 (by decide +kernel) (by decide +kernel) rfl rfl ⟨by decide, by decide, Nat.le_of_ble_eq_true rfl⟩ rfl (k_coder hT) ?_
  rintro r9 I9 G9 P9 ⟨e0, e1, e2, e3⟩
  rw [e0, e1, e2, e3]
  show am_V X _ _ _ sh ad (4, [(0, .ref q), (1, .ref v), (2, .int (Int32.ofNat n)), (3, .int (0 : Int32))], [.int (0 : Int32)], I, G, P)
  refine am_blk 4 [(.iload_n 3, 1, 3, 0, .null)] (5, [(0, .ref q), (1, .ref v), (2, .int (Int32.ofNat n)), (3, .int (0 : Int32))], [.int (0 : Int32), .int (0 : Int32)], I, G, P) True hX hi (by decide +kernel) rfl trivial ?_
  refine am_icmp_ne hX hi (off := 23) (tgt := 28) (by decide +kernel) (by decide) (fun c => absurd (rfl) c) (fun _ => ?_)
  refine am_blk 8 [(.aload_n 0, 1, 0, 0, .null)] (9, [(0, .ref q), (1, .ref v), (2, .int (Int32.ofNat n)), (3, .int (0 : Int32))], [.ref q], I, G, P) True hX hi (by decide +kernel) rfl trivial ?_
  refine t_val hX hi hT (by decide +kernel) ?_
  refine am_blk 12 [(.iconst (0), 1, 0, 0, .int (0 : Int32)), (.aload_n 1, 1, 1, 0, .null), (.iload_n 2, 1, 2, 0, .null), (.iload_n 3, 1, 3, 0, .null), (.ishl, 1, 0, 0, .null), (.aload_n 0, 1, 0, 0, .null)] (18, [(0, .ref q), (1, .ref v), (2, .int (Int32.ofNat n)), (3, .int (0 : Int32))], [.ref q, .int ((Int32.ofNat n) <<< ((0 : Int32) &&& 31)), .ref v, .int (0 : Int32), .ref w], I, G, P) True hX hi (by decide +kernel) rfl trivial ?_
  refine t_val hX hi hT (by decide +kernel) ?_
  refine t_len hX hi hT (by decide +kernel) ?_
  rw [show Int32.ofNat n <<< ((0 : Int32) &&& 31) = Int32.ofNat n from sb_shl0 _]
  refine t_copy hX hi hT hv hm hn hf am_w_acS (by decide +kernel) ⟨Nat.le_refl _, Nat.le_of_ble_eq_true rfl⟩ (fun f f1 f2 f3 => ?_)
  show am_V X _ _ _ sh ad (25, [(0, .ref q), (1, .ref v), (2, .int (Int32.ofNat n)), (3, .int (0 : Int32))], [], (am_row I v f), G, P)
  refine am_blk 25 [(.goto (18), 3, 0, 43, .null)] (43, [(0, .ref q), (1, .ref v), (2, .int (Int32.ofNat n)), (3, .int (0 : Int32))], [], (am_row I v f), G, P) True hX hi (by decide +kernel) rfl trivial ?_
  exact am_vret hX hi rfl (by decide +kernel) ⟨rfl, rfl, rfl, f, rfl, f1, f2, f3⟩
set_option maxHeartbeats 1000000 in
theorem k_bLatin (hb : sh[b]? = some (.inl 1)) (h0 : I b 1 = 0) : am_Ct mJ5_isLatin1_aae02 1 sh [.ref b] I G P (pI 1 I G P) := by
  refine am_ofF (by decide +kernel) rfl (by decide) (by decide) (Nat.le_of_ble_eq_true rfl) (fun X ad hX hi => ?_)
  have hi : am_info X 21 cJ5_isLatin1_aae02 1 false (some FieldType.boolean) 1 := hi
  show am_V X _ _ _ sh ad (0, [(0, .ref b)], [], I, G, P)
  refine am_csS hX hi (idx := 18) am_w_cs21 (by decide +kernel) ?_
  refine am_if_eq hX hi (off := 14) (tgt := 17) (by decide +kernel) (by decide) (fun c => absurd c (by decide)) (fun _ => ?_)
  refine am_blk 6 [(.aload_n 0, 1, 0, 0, .null)] (7, [(0, .ref b)], [.ref b], I, G, P) True hX hi (by decide +kernel) rfl trivial ?_
  refine am_gfB hX hi (c := 1) (b := 1) (idx := 22) (v := 0) hb rfl (by decide +kernel) h0 (by decide +kernel) ?_
  refine am_if_ne hX hi (off := 7) (tgt := 17) (by decide +kernel) (by decide) (fun c => absurd (rfl) c) (fun _ => ?_)
  refine am_blk 13 [(.iconst (1), 1, 0, 0, .int (1 : Int32)), (.goto (4), 3, 0, 18, .null)] (18, [(0, .ref b)], [.int (1 : Int32)], I, G, P) True hX hi (by decide +kernel) rfl trivial ?_
  exact am_iret hX hi rfl rfl (by decide +kernel) (pI_eq rfl)
set_option maxHeartbeats 1000000 in
theorem k_bValue (hb : sh[b]? = some (.inl 1)) (hv : P b 0 = .ref v) : am_Ct mJ5_getValue_6d5f1 1 sh [.ref b] I G P (pR v I G P) := by
  refine am_ofF (by decide +kernel) rfl (by decide) (by decide) (Nat.le_of_ble_eq_true rfl) (fun X ad hX hi => ?_)
  have hi : am_info X 21 cJ5_getValue_6d5f1 1 false (some (FieldType.array FieldType.byte)) 1 := hi
  show am_V X _ _ _ sh ad (0, [(0, .ref b)], [], I, G, P)
  refine am_blk 0 [(.aload_n 0, 1, 0, 0, .null)] (1, [(0, .ref b)], [.ref b], I, G, P) True hX hi (by decide +kernel) rfl trivial ?_
  refine am_gfP hX hi (c := 1) (b := 0) (idx := 15) hb rfl (by decide +kernel) hv (by decide +kernel) ?_
  exact am_aretC hX hi rfl (by decide +kernel) ⟨rfl, rfl, rfl, rfl⟩
set_option maxHeartbeats 1000000 in
theorem k_bLength0 (hb : sh[b]? = some (.inl 1)) : am_Ct mJ5_length_8abf5 1 sh [.ref b] I G P (pI (I b 3) I G P) := by
  refine am_ofF (by decide +kernel) rfl (by decide) (by decide) (Nat.le_of_ble_eq_true rfl) (fun X ad hX hi => ?_)
  have hi : am_info X 21 cJ5_length_8abf5 1 false (some FieldType.int) 1 := hi
  show am_V X _ _ _ sh ad (0, [(0, .ref b)], [], I, G, P)
  refine am_blk 0 [(.aload_n 0, 1, 0, 0, .null)] (1, [(0, .ref b)], [.ref b], I, G, P) True hX hi (by decide +kernel) rfl trivial ?_
  refine am_gfI hX hi (c := 1) (b := 3) (idx := 79) (v := (I b 3)) hb rfl (by decide +kernel) rfl (by decide +kernel) ?_
  exact am_iret hX hi rfl rfl (by decide +kernel) (pI_eq rfl)
theorem sb_newL {n m : Nat} (hn : m < n) (hm : n ≤ 100000) : (Int32.ofNat m + (if Int32.ofNat (n - m) < Int32.ofNat (m + 2) then Int32.ofNat (m + 2) else Int32.ofNat (n - m))) = Int32.ofNat (sb_cap n m) := by
  have hc : sb_cap n m = m + (if n - m < m + 2 then m + 2 else n - m) := by
    unfold sb_cap
    rw [if_neg (by omega)]
    split <;> split <;> omega
  rw [hc]
  by_cases h2 : n - m < m + 2
  · rw [if_pos h2, if_pos (show Int32.ofNat (n - m) < Int32.ofNat (m + 2) from nI_lt h2 (by omega))]
    exact nI_add m (m + 2)
  · rw [if_neg h2, if_neg (show ¬ Int32.ofNat (n - m) < Int32.ofNat (m + 2) from nI_nlt (by omega) (by omega))]
    exact nI_add m (n - m)
theorem sb_capB {n m : Nat} (hn : m < n) (hm : n ≤ 100000) : 0 < sb_cap n m ∧ sb_cap n m ≤ 200002 ∧ n ≤ sb_cap n m := by
  unfold sb_cap
  rw [if_neg (by omega)]
  split <;> omega
set_option maxHeartbeats 1000000 in
theorem k_newLen {n : Nat} (hn : m < n) (hm : n ≤ 100000) : am_Ct mJ8_newLength_cabcc 1 sh [.int (Int32.ofNat m), .int (Int32.ofNat (n - m)), .int (Int32.ofNat (m + 2))] I G P (pI (Int32.ofNat (sb_cap n m)) I G P) := by
  obtain ⟨c1, c2, -⟩ := sb_capB hn hm
  refine am_ofF (by decide +kernel) rfl (by decide) (by decide) (Nat.le_of_ble_eq_true rfl) (fun X ad hX hi => ?_)
  have hi : am_info X 24 cJ8_newLength_cabcc 4 false (some FieldType.int) 1 := hi
  show am_V X _ _ _ sh ad (0, [(0, .int (Int32.ofNat m)), (1, .int (Int32.ofNat (n - m))), (2, .int (Int32.ofNat (m + 2)))], [], I, G, P)
  refine am_blk 0 [(.iload_n 0, 1, 0, 0, .null), (.iload_n 1, 1, 1, 0, .null), (.iload_n 2, 1, 2, 0, .null), (.invokestatic 194, 3, 2, 0, .null), (.iadd, 1, 0, 0, .null), (.istore_n 3, 1, 3, 0, .null), (.iconst (0), 1, 0, 0, .int (0 : Int32)), (.iload_n 3, 1, 3, 0, .null)] (10, [(0, .int (Int32.ofNat m)), (1, .int (Int32.ofNat (n - m))), (2, .int (Int32.ofNat (m + 2))), (3, .int ((Int32.ofNat m) + (if (Int32.ofNat (n - m)) < (Int32.ofNat (m + 2)) then (Int32.ofNat (m + 2)) else (Int32.ofNat (n - m)))))], [.int ((Int32.ofNat m) + (if (Int32.ofNat (n - m)) < (Int32.ofNat (m + 2)) then (Int32.ofNat (m + 2)) else (Int32.ofNat (n - m)))), .int (0 : Int32)], I, G, P) True hX hi (by decide +kernel) rfl trivial ?_
  rw [show (Int32.ofNat m + (if Int32.ofNat (n - m) < Int32.ofNat (m + 2) then Int32.ofNat (m + 2) else Int32.ofNat (n - m))) = Int32.ofNat (sb_cap n m) from sb_newL hn hm]
  show am_V X _ _ _ sh ad (10, [(0, .int (Int32.ofNat m)), (1, .int (Int32.ofNat (n - m))), (2, .int (Int32.ofNat (m + 2))), (3, .int (Int32.ofNat (sb_cap n m)))], [.int (Int32.ofNat (sb_cap n m)), .int (0 : Int32)], I, G, P)
  refine am_icmp_ge hX hi (off := 11) (tgt := 21) (by decide +kernel) (by decide) (fun c => absurd c (by rw [i_le, i_0, i_of _ (by omega)]; omega)) (fun _ => ?_)
  refine am_blk 13 [(.iload_n 3, 1, 3, 0, .null)] (14, [(0, .int (Int32.ofNat m)), (1, .int (Int32.ofNat (n - m))), (2, .int (Int32.ofNat (m + 2))), (3, .int (Int32.ofNat (sb_cap n m)))], [.int (Int32.ofNat (sb_cap n m))], I, G, P) True hX hi (by decide +kernel) rfl trivial ?_
  refine am_ldci hX hi (idx := 200) (v := 2147483639) cn_200 (by decide +kernel) ?_
  refine am_icmp_gt hX hi (off := 5) (tgt := 21) (by decide +kernel) (by decide) (fun c => absurd c (by rw [i_lt, i_of _ (by omega)]; have : (2147483639 : Int32).toInt = 2147483639 := rfl; omega)) (fun _ => ?_)
  refine am_blk 19 [(.iload_n 3, 1, 3, 0, .null)] (20, [(0, .int (Int32.ofNat m)), (1, .int (Int32.ofNat (n - m))), (2, .int (Int32.ofNat (m + 2))), (3, .int (Int32.ofNat (sb_cap n m)))], [.int (Int32.ofNat (sb_cap n m))], I, G, P) True hX hi (by decide +kernel) rfl trivial ?_
  exact am_iret hX hi rfl rfl (by decide +kernel) (pI_eq rfl)
set_option maxHeartbeats 1000000 in
theorem k_newCap {n : Nat} (hn : m < n) (hm : n ≤ 100000) (hb : sh[b]? = some (.inl 1)) (hv : sh[v]? = some (.inr (4, m))) (hP : P b 0 = .ref v) (h0 : I b 1 = 0) : am_Ct mJ5_newCapacity_0f7a4 2 sh [.ref b, .int (Int32.ofNat n)] I G P (pI (Int32.ofNat (sb_cap n m)) I G P) := by
  obtain ⟨c1, c2, -⟩ := sb_capB hn hm
  refine am_ofF (by decide +kernel) rfl (by decide) (by decide) (Nat.le_of_ble_eq_true rfl) (fun X ad hX hi => ?_)
  have hi : am_info X 21 cJ5_newCapacity_0f7a4 6 false (some FieldType.int) 2 := hi
  show am_V X _ _ _ sh ad (0, [(0, .ref b), (1, .int (Int32.ofNat n))], [], I, G, P)
  refine am_blk 0 [(.aload_n 0, 1, 0, 0, .null)] (1, [(0, .ref b), (1, .int (Int32.ofNat n))], [.ref b], I, G, P) True hX hi (by decide +kernel) rfl trivial ?_
  refine am_gfP hX hi (c := 1) (b := 0) (idx := 15) hb rfl (by decide +kernel) hP (by decide +kernel) ?_
  refine am_lenS hX hi hv (by decide +kernel) ?_
  refine am_blk 5 [(.istore_n 2, 1, 2, 0, .null), (.iload_n 1, 1, 1, 0, .null), (.aload_n 0, 1, 0, 0, .null)] (8, [(0, .ref b), (1, .int (Int32.ofNat n)), (2, .int (Int32.ofNat m))], [.ref b, .int (Int32.ofNat n)], I, G, P) True hX hi (by decide +kernel) rfl trivial ?_
  refine am_gfB hX hi (c := 1) (b := 1) (idx := 22) (v := 0) hb rfl (by decide +kernel) h0 (by decide +kernel) ?_
  refine am_blk 11 [(.ishl, 1, 0, 0, .null), (.istore_n 3, 1, 3, 0, .null), (.iload_n 3, 1, 3, 0, .null), (.iload_n 2, 1, 2, 0, .null), (.isub, 1, 0, 0, .null), (.istore 4, 2, 4, 0, .null), (.iload_n 2, 1, 2, 0, .null), (.iload 4, 2, 4, 0, .null), (.iload_n 2, 1, 2, 0, .null), (.iconst (2), 1, 0, 0, .int (2 : Int32)), (.aload_n 0, 1, 0, 0, .null)] (24, [(0, .ref b), (1, .int (Int32.ofNat n)), (2, .int (Int32.ofNat m)), (3, .int ((Int32.ofNat n) <<< (0 &&& 31))), (4, .int (((Int32.ofNat n) <<< (0 &&& 31)) - (Int32.ofNat m)))], [.ref b, .int (2 : Int32), .int (Int32.ofNat m), .int (((Int32.ofNat n) <<< (0 &&& 31)) - (Int32.ofNat m)), .int (Int32.ofNat m)], I, G, P) True hX hi (by decide +kernel) rfl trivial ?_
  rw [show Int32.ofNat n <<< ((0 : Int32) &&& 31) - Int32.ofNat m = Int32.ofNat (n - m) from by rw [sb_shl0]; exact pk_sub (a := n) (b := m) (by omega), show Int32.ofNat n <<< ((0 : Int32) &&& 31) = Int32.ofNat n from sb_shl0 _]
  show am_V X _ _ _ sh ad (24, [(0, .ref b), (1, .int (Int32.ofNat n)), (2, .int (Int32.ofNat m)), (3, .int (Int32.ofNat n)), (4, .int (Int32.ofNat (n - m)))], [.ref b, .int (2 : Int32), .int (Int32.ofNat m), .int (Int32.ofNat (n - m)), .int (Int32.ofNat m)], I, G, P)
  refine am_gfB hX hi (c := 1) (b := 1) (idx := 22) (v := 0) hb rfl (by decide +kernel) h0 (by decide +kernel) ?_
  refine am_blk 27 [(.ishl, 1, 0, 0, .null), (.iadd, 1, 0, 0, .null)] (29, [(0, .ref b), (1, .int (Int32.ofNat n)), (2, .int (Int32.ofNat m)), (3, .int (Int32.ofNat n)), (4, .int (Int32.ofNat (n - m)))], [.int ((Int32.ofNat m) + ((2 : Int32) <<< (0 &&& 31))), .int (Int32.ofNat (n - m)), .int (Int32.ofNat m)], I, G, P) True hX hi (by decide +kernel) rfl trivial ?_
  rw [show Int32.ofNat m + (2 : Int32) <<< ((0 : Int32) &&& 31) = Int32.ofNat (m + 2) from by rw [sb_shl0]; exact nI_add m 2]
  show am_V X _ _ _ sh ad (29, [(0, .ref b), (1, .int (Int32.ofNat n)), (2, .int (Int32.ofNat m)), (3, .int (Int32.ofNat n)), (4, .int (Int32.ofNat (n - m)))], [.int (Int32.ofNat (m + 2)), .int (Int32.ofNat (n - m)), .int (Int32.ofNat m)], I, G, P)
  refine am_callS2 hX hi (M := mJ8_newLength_cabcc) (idx := 114) (d' := 1) (As := [.int (Int32.ofNat m), .int (Int32.ofNat (n - m)), .int (Int32.ofNat (m + 2))]) (rest := []) mkJ8_newLength_cabcc msJ8_newLength_cabcc (by decide +kernel) (by decide +kernel) rfl ⟨by decide, by decide, Nat.le_of_ble_eq_true rfl⟩ rfl (k_newLen hn hm) ?_
  rintro r9 I9 G9 P9 ⟨e0, e1, e2, e3⟩
  rw [e0, e1, e2, e3]
  show am_V X _ _ _ sh ad (32, [(0, .ref b), (1, .int (Int32.ofNat n)), (2, .int (Int32.ofNat m)), (3, .int (Int32.ofNat n)), (4, .int (Int32.ofNat (n - m)))], [.int (Int32.ofNat (sb_cap n m))], I, G, P)
  refine am_blk 32 [(.istore 5, 2, 5, 0, .null), (.iload 5, 2, 5, 0, .null)] (36, [(0, .ref b), (1, .int (Int32.ofNat n)), (2, .int (Int32.ofNat m)), (3, .int (Int32.ofNat n)), (4, .int (Int32.ofNat (n - m))), (5, .int (Int32.ofNat (sb_cap n m)))], [.int (Int32.ofNat (sb_cap n m))], I, G, P) True hX hi (by decide +kernel) rfl trivial ?_
  refine am_ldci hX hi (idx := 39) (v := 2147483647) cn_39 (by decide +kernel) ?_
  refine am_icmp_ne hX hi (off := 13) (tgt := 51) (by decide +kernel) (by decide) (fun _ => ?_) (fun c => absurd c (fun e => by have := congrArg Int32.toInt e; rw [i_of _ (by omega)] at this; have h9 : (2147483647 : Int32).toInt = 2147483647 := rfl; omega))
  refine am_blk 51 [(.iload 5, 2, 5, 0, .null), (.aload_n 0, 1, 0, 0, .null)] (54, [(0, .ref b), (1, .int (Int32.ofNat n)), (2, .int (Int32.ofNat m)), (3, .int (Int32.ofNat n)), (4, .int (Int32.ofNat (n - m))), (5, .int (Int32.ofNat (sb_cap n m)))], [.ref b, .int (Int32.ofNat (sb_cap n m))], I, G, P) True hX hi (by decide +kernel) rfl trivial ?_
  refine am_gfB hX hi (c := 1) (b := 1) (idx := 22) (v := 0) hb rfl (by decide +kernel) h0 (by decide +kernel) ?_
  refine am_blk 57 [(.ishr, 1, 0, 0, .null)] (58, [(0, .ref b), (1, .int (Int32.ofNat n)), (2, .int (Int32.ofNat m)), (3, .int (Int32.ofNat n)), (4, .int (Int32.ofNat (n - m))), (5, .int (Int32.ofNat (sb_cap n m)))], [.int ((Int32.ofNat (sb_cap n m)) >>> (0 &&& 31))], I, G, P) True hX hi (by decide +kernel) rfl trivial ?_
  exact am_iret hX hi rfl rfl (by decide +kernel) (pI_eq (sb_shr0 _))
end AMTK
