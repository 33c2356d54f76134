/-! StringBuilder.append(String), AbstractStringBuilder.ensureCapacityInternal, Arrays.copyOf over cells -/
section AMTL
variable {sh : List am_Sh} {I : am_I} {G : am_G} {P : am_P} {q w b v m n : Nat} {T S : List Nat}
def pCpy (sh : List am_Sh) (v m N : Nat) (I : am_I) (G : am_G) (P : am_P) : am_PoA := fun r sh' I' G' P' => r = some (.ref sh.length) ∧ sh' = sh ++ [.inr (4, N)] ∧ G' = G ∧ P' = P ∧ ∃ f : Nat → Int32, I' = am_row I sh.length f ∧ (∀ j, j < m → f j = I v j) ∧ sb_Fit f
theorem cpy_fit {f g : Nat → Int32} {a k : Nat} (hf : sb_Fit f) (hg : sb_Fit g) : sb_Fit (va_cpy f g 0 a k) := sb_fitC hf hg
set_option maxHeartbeats 1000000 in
theorem k_copyOf (hv : sh[v]? = some (.inr (4, m))) (hmn : m < n) (hn : n ≤ 4096) (hf : sb_Fit (I v)) (hl : sh.length < 1000) (hR : lR sh.length sh P) : am_CtA mJ7_copyOf_9075b 2 1 n sh.length sh [.ref v, .int (Int32.ofNat n)] I G P (pCpy sh v m n I G P) := by
  have lv := am_at_lt hv
  refine am_ofA (by decide +kernel) rfl (by decide) (by decide) (Nat.le_of_ble_eq_true rfl) (fun X ad hX hi hm => ?_)
  have hi : am_info X 23 cJ7_copyOf_9075b 3 false (some (FieldType.array FieldType.byte)) 2 := hi
  have hm : am_mem X 1 n := hm
  show am_V X _ _ _ sh ad (0, [(0, .ref v), (1, .int (Int32.ofNat n))], [], I, G, P)
  refine am_blk 0 [(.iload_n 1, 1, 1, 0, .null), (.aload_n 0, 1, 0, 0, .null)] (2, [(0, .ref v), (1, .int (Int32.ofNat n))], [.ref v, .int (Int32.ofNat n)], I, G, P) True hX hi (by decide +kernel) rfl trivial ?_
  refine am_lenS hX hi hv (by decide +kernel) ?_
  refine am_icmp_ne hX hi (off := 11) (tgt := 14) (by decide +kernel) (by decide) (fun _ => ?_) (fun c => absurd c (fun e => by have := congrArg Int32.toInt e; rw [i_of _ (by omega), i_of _ (by omega)] at this; omega))
  refine am_blk 14 [(.iload_n 1, 1, 1, 0, .null)] (15, [(0, .ref v), (1, .int (Int32.ofNat n))], [.int (Int32.ofNat n)], I, G, P) True hX hi (by decide +kernel) rfl trivial ?_
  refine am_newB hX hi hm (N := n) am_w_byte (by decide +kernel) (by rw [i_lt, i_0, i_of _ (by omega)]; omega) (by rw [i_cl, i_of _ (by omega)]; omega) (by omega) ⟨by omega, by omega⟩ hl hR (am_kqL_r (Or.inl lv) (am_kqL_i am_kqL_n)) am_kqS_n (fun ad1 ha1 hX1 => ?_)
  show am_V X _ _ _ (sh ++ [.inr (4, n)]) ad1 (17, [(0, .ref v), (1, .int (Int32.ofNat n))], [.ref sh.length], (am_row I sh.length (fun _ => 0)), G, P)
  refine am_blk 17 [(.astore_n 2, 1, 2, 0, .null), (.aload_n 0, 1, 0, 0, .null), (.iconst (0), 1, 0, 0, .int (0 : Int32)), (.aload_n 2, 1, 2, 0, .null), (.iconst (0), 1, 0, 0, .int (0 : Int32)), (.aload_n 0, 1, 0, 0, .null)] (23, [(0, .ref v), (1, .int (Int32.ofNat n)), (2, .ref sh.length)], [.ref v, .int (0 : Int32), .ref sh.length, .int (0 : Int32), .ref v], (am_row I sh.length (fun _ => 0)), G, P) True hX1 hi (by decide +kernel) rfl trivial ?_
  refine am_lenS hX1 hi (am_at_app hv) (by decide +kernel) ?_
  refine am_blk 24 [(.iload_n 1, 1, 1, 0, .null), (.invokestatic 304, 3, 1, 0, .null)] (28, [(0, .ref v), (1, .int (Int32.ofNat n)), (2, .ref sh.length)], [.int (if (Int32.ofNat n) < (Int32.ofNat m) then (Int32.ofNat n) else (Int32.ofNat m)), .int (0 : Int32), .ref sh.length, .int (0 : Int32), .ref v], (am_row I sh.length (fun _ => 0)), G, P) True hX1 hi (by decide +kernel) rfl trivial ?_
  rw [show (if (Int32.ofNat n) < (Int32.ofNat m) then (Int32.ofNat n) else (Int32.ofNat m)) = Int32.ofNat m from by first | exact if_neg (by rw [i_lt, i_of _ (by omega), i_of _ (by omega)]; omega) | exact if_pos (by rw [i_lt, i_of _ (by omega), i_of _ (by omega)]; omega)]
  have e0 : am_row I sh.length (fun _ => 0) v = I v := am_row_ne _ _ (by omega)
  refine am_acpB hX1 hi (am_at_app hv) am_at_end (by decide) (by rw [i_of _ (by omega)]; have : (0 : Int32).toInt = 0 := rfl; omega) (fun i _ => by rw [e0]; exact hf _) am_w_acB (by decide +kernel) ⟨Nat.le_refl _, Nat.le_of_ble_eq_true rfl⟩ ?_
  rw [e0, am_row_self, am_row_row]
  show am_V X _ _ _ (sh ++ [.inr (4, n)]) ad1 (31, [(0, .ref v), (1, .int (Int32.ofNat n)), (2, .ref sh.length)], [], (am_row I sh.length (va_cpy (I v) (fun _ => 0) 0 (0 : Int32).toNatClampNeg (Int32.ofNat m).toNatClampNeg)), G, P)
  refine am_blk 31 [(.aload_n 2, 1, 2, 0, .null)] (32, [(0, .ref v), (1, .int (Int32.ofNat n)), (2, .ref sh.length)], [.ref sh.length], (am_row I sh.length (va_cpy (I v) (fun _ => 0) 0 (0 : Int32).toNatClampNeg (Int32.ofNat m).toNatClampNeg)), G, P) True hX1 hi (by decide +kernel) rfl trivial ?_
  refine am_aretR hX1 hi rfl (by decide +kernel) ha1 ⟨rfl, rfl, rfl, rfl, _, rfl, fun j hj => ?_, cpy_fit hf sb_fit0⟩ ⟨by omega, by omega⟩
  rw [show (Int32.ofNat m).toNatClampNeg = m from by rw [i_cl, i_of _ (by omega)]; omega]
  exact sb_cpy0 hj
def pEns (sh : List am_Sh) (b v m n : Nat) (I : am_I) (G : am_G) (P : am_P) : am_PoA := fun r sh' I' G' P' => r = none ∧ G' = G ∧ ((n ≤ m ∧ sh' = sh ∧ I' = I ∧ P' = P) ∨ (m < n ∧ sh' = sh ++ [.inr (4, sb_cap n m)] ∧ P' = am_up P b 0 (.ref sh.length) ∧ ∃ f : Nat → Int32, I' = am_row I sh.length f ∧ (∀ j, j < m → f j = I v j) ∧ sb_Fit f))
theorem sb_capL {n m : Nat} (hn : m < n) (h2 : n ≤ 2000) : sb_cap n m ≤ 4096 ∧ m < sb_cap n m := by
  unfold sb_cap
  rw [if_neg (by omega)]
  split <;> omega
set_option maxHeartbeats 1000000 in
theorem k_ensure (hb : sh[b]? = some (.inl 1)) (hv : sh[v]? = some (.inr (4, m))) (hm9 : m ≤ 4096) (hP : P b 0 = .ref v) (h0 : I b 1 = 0) (hn : n ≤ 2000) (hf : sb_Fit (I v)) (hl : sh.length < 1000) (hR : lR sh.length sh P) : am_CtA mJ5_ensureCapacityInternal_d00df 3 1 4096 sh.length sh [.ref b, .int (Int32.ofNat n)] I G P (pEns sh b v m n I G P) := by
  have lb := am_at_lt hb
  refine am_ofA (by decide +kernel) rfl (by decide) (by decide) (Nat.le_of_ble_eq_true rfl) (fun X ad hX hi hm => ?_)
  have hi : am_info X 21 cJ5_ensureCapacityInternal_d00df 3 false none 3 := hi
  have hm : am_mem X 1 4096 := hm
  show am_V X _ _ _ sh ad (0, [(0, .ref b), (1, .int (Int32.ofNat n))], [], I, G, P)
  refine am_blk 0 [(.aload_n 0, 1, 0, 0, .null)] (1, [(0, .ref b), (1, .int (Int32.ofNat n))], [.ref b], I, G, P) True hX hi (by decide +kernel) rfl trivial ?_
  refine am_gfP hX hi (c := 1) (b := 0) (idx := 15) hb rfl (by decide +kernel) hP (by decide +kernel) ?_
  refine am_lenS hX hi hv (by decide +kernel) ?_
  refine am_blk 5 [(.aload_n 0, 1, 0, 0, .null)] (6, [(0, .ref b), (1, .int (Int32.ofNat n))], [.ref b, .int (Int32.ofNat m)], I, G, P) True hX hi (by decide +kernel) rfl trivial ?_
  refine am_gfB hX hi (c := 1) (b := 1) (idx := 22) (v := 0) hb rfl (by decide +kernel) h0 (by decide +kernel) ?_
  refine am_blk 9 [(.ishr, 1, 0, 0, .null)] (10, [(0, .ref b), (1, .int (Int32.ofNat n))], [.int ((Int32.ofNat m) >>> (0 &&& 31))], I, G, P) True hX hi (by decide +kernel) rfl trivial ?_
  rw [show Int32.ofNat m >>> ((0 : Int32) &&& 31) = Int32.ofNat m from sb_shr0 _]
  show am_V X _ _ _ sh ad (10, [(0, .ref b), (1, .int (Int32.ofNat n))], [.int (Int32.ofNat m)], I, G, P)
  refine am_blk 10 [(.istore_n 2, 1, 2, 0, .null), (.iload_n 1, 1, 1, 0, .null), (.iload_n 2, 1, 2, 0, .null), (.isub, 1, 0, 0, .null)] (14, [(0, .ref b), (1, .int (Int32.ofNat n)), (2, .int (Int32.ofNat m))], [.int ((Int32.ofNat n) - (Int32.ofNat m))], I, G, P) True hX hi (by decide +kernel) rfl trivial ?_
  by_cases h : n ≤ m
  · refine am_if_le hX hi (off := 24) (tgt := 38) (by decide +kernel) (by decide) (fun _ => ?_) (fun c => absurd (by rw [i_le, i_0]; have := pk_sub_toInt (a := n) (b := m) (by omega) (by omega); simp only [nI] at this; omega) c)
    exact am_vretA hX hi rfl (by decide +kernel) (fun _ _ => rfl) ⟨rfl, rfl, Or.inl ⟨h, rfl, rfl, rfl⟩⟩ ⟨by omega, by omega⟩
  · obtain ⟨g1, g2⟩ := sb_capL (n := n) (m := m) (by omega) hn
    refine am_if_le hX hi (off := 24) (tgt := 38) (by decide +kernel) (by decide) (fun c => absurd c (by rw [i_le, i_0]; have := pk_sub_toInt (a := n) (b := m) (by omega) (by omega); simp only [nI] at this; omega)) (fun _ => ?_)
    refine am_blk 17 [(.aload_n 0, 1, 0, 0, .null), (.aload_n 0, 1, 0, 0, .null)] (19, [(0, .ref b), (1, .int (Int32.ofNat n)), (2, .int (Int32.ofNat m))], [.ref b, .ref b], I, G, P) True hX hi (by decide +kernel) rfl trivial ?_
    refine am_gfP hX hi (c := 1) (b := 0) (idx := 15) hb rfl (by decide +kernel) hP (by decide +kernel) ?_
    refine am_blk 22 [(.aload_n 0, 1, 0, 0, .null), (.iload_n 1, 1, 1, 0, .null)] (24, [(0, .ref b), (1, .int (Int32.ofNat n)), (2, .int (Int32.ofNat m))], [.int (Int32.ofNat n), .ref b, .ref v, .ref b], I, G, P) True hX hi (by decide +kernel) rfl trivial ?_
    refine am_callU hX hi (C := "java/lang/StringBuilder") (M := mJ5_newCapacity_0f7a4) (idx := 104) (d' := 2) (As := [.int (Int32.ofNat n)]) (rest := [.ref v, .ref b]) mkJ5_newCapacity_0f7a4 miJ5_newCapacity_0f7a4 sl_newCapacity sm_newCapacity_0f7a4 (by decide +kernel) (by decide +kernel) hb rfl rfl ⟨by decide, by decide, Nat.le_of_ble_eq_true rfl⟩ rfl (k_newCap (by omega) (by omega) hb hv hP h0) ?_
    rintro r9 I9 G9 P9 ⟨e0, e1, e2, e3⟩
    rw [e0, e1, e2, e3]
    show am_V X _ _ _ sh ad (27, [(0, .ref b), (1, .int (Int32.ofNat n)), (2, .int (Int32.ofNat m))], [.int (Int32.ofNat (sb_cap n m)), .ref v, .ref b], I, G, P)
    refine am_blk 27 [(.aload_n 0, 1, 0, 0, .null)] (28, [(0, .ref b), (1, .int (Int32.ofNat n)), (2, .int (Int32.ofNat m))], [.ref b, .int (Int32.ofNat (sb_cap n m)), .ref v, .ref b], I, G, P) True hX hi (by decide +kernel) rfl trivial ?_
    refine am_gfB hX hi (c := 1) (b := 1) (idx := 22) (v := 0) hb rfl (by decide +kernel) h0 (by decide +kernel) ?_
    refine am_blk 31 [(.ishl, 1, 0, 0, .null)] (32, [(0, .ref b), (1, .int (Int32.ofNat n)), (2, .int (Int32.ofNat m))], [.int ((Int32.ofNat (sb_cap n m)) <<< (0 &&& 31)), .ref v, .ref b], I, G, P) True hX hi (by decide +kernel) rfl trivial ?_
    rw [show Int32.ofNat (sb_cap n m) <<< ((0 : Int32) &&& 31) = Int32.ofNat (sb_cap n m) from sb_shl0 _]
    show am_V X _ _ _ sh ad (32, [(0, .ref b), (1, .int (Int32.ofNat n)), (2, .int (Int32.ofNat m))], [.int (Int32.ofNat (sb_cap n m)), .ref v, .ref b], I, G, P)
    refine am_callSA hX hi hm (M := mJ7_copyOf_9075b) (idx := 108) (d' := 2) (As := [.ref v, .int (Int32.ofNat (sb_cap n m))]) (rest := [.ref b]) mkJ7_copyOf_9075b msJ7_copyOf_9075b (by decide +kernel) (by decide +kernel) rfl ⟨by decide, by decide, Nat.le_of_ble_eq_true rfl⟩ rfl ⟨by omega, by omega⟩ (am_kqL_r (Or.inl lb) (am_kqL_i (am_kqL_i am_kqL_n))) (am_kqS_r (Or.inl lb) am_kqS_n) (k_copyOf hv g2 g1 hf hl hR) ?_
    rintro r9 sh9 ad1 I9 G P ⟨rfl, rfl, rfl, rfl, f, rfl, f1, f2⟩ ha1 hX1
    show am_V X _ _ _ (sh ++ [.inr (4, sb_cap n m)]) ad1 (35, [(0, .ref b), (1, .int (Int32.ofNat n)), (2, .int (Int32.ofNat m))], [.ref sh.length, .ref b], (am_row I sh.length f), G, P)
    refine am_pfP hX1 hi (c := 1) (b := 0) (idx := 15) (am_at_app hb) rfl (by decide +kernel) rfl (by decide +kernel) ?_
    show am_V X _ _ _ (sh ++ [.inr (4, sb_cap n m)]) ad1 (38, [(0, .ref b), (1, .int (Int32.ofNat n)), (2, .int (Int32.ofNat m))], [], (am_row I sh.length f), G, (am_up P b 0 (.ref sh.length)))
    exact am_vretA hX1 hi rfl (by decide +kernel) ha1 ⟨rfl, rfl, Or.inr ⟨by omega, rfl, rfl, f, rfl, f1, f2⟩⟩ ⟨by omega, by omega⟩
set_option maxHeartbeats 1000000 in
theorem k_inflate (hb : sh[b]? = some (.inl 1)) (h0 : I b 1 = 0) (hT : xS sh I P q w S) : am_Ct mJ5_inflateIfNeededFor_a7421 2 sh [.ref b, .ref q] I G P (pV I G P) := by
  refine am_ofF (by decide +kernel) rfl (by decide) (by decide) (Nat.le_of_ble_eq_true rfl) (fun X ad hX hi => ?_)
  have hi : am_info X 21 cJ5_inflateIfNeededFor_a7421 2 false none 2 := hi
  show am_V X _ _ _ sh ad (0, [(0, .ref b), (1, .ref q)], [], I, G, P)
  refine am_csS hX hi (idx := 18) am_w_cs21 (by decide +kernel) ?_
  refine am_if_eq hX hi (off := 18) (tgt := 21) (by decide +kernel) (by decide) (fun c => absurd c (by decide)) (fun _ => ?_)
  refine am_blk 6 [(.aload_n 0, 1, 0, 0, .null)] (7, [(0, .ref b), (1, .ref q)], [.ref b], I, G, P) True hX hi (by decide +kernel) rfl trivial ?_
  refine am_gfB hX hi (c := 1) (b := 1) (idx := 22) (v := 0) hb rfl (by decide +kernel) h0 (by decide +kernel) ?_
  refine am_blk 10 [(.aload_n 1, 1, 1, 0, .null)] (11, [(0, .ref b), (1, .ref q)], [.ref q, .int 0], I, G, P) True hX hi (by decide +kernel) rfl trivial ?_
  refine t_call hX hi hT (M := mJ0_coder_7d493) (idx := 40) (d' := 1) (As := []) (rest := [.int 0]) mkJ0_coder_7d493 miJ0_coder_7d493 mvJ0_coder_7d493 (by decide +kernel) (by decide +kernel) rfl rfl ⟨by decide, by decide, Nat.le_of_ble_eq_true rfl⟩ rfl (k_coder hT) ?_
  rintro r9 I9 G9 P9 ⟨e0, e1, e2, e3⟩
  rw [e0, e1, e2, e3]
  show am_V X _ _ _ sh ad (14, [(0, .ref b), (1, .ref q)], [.int (0 : Int32), .int 0], I, G, P)
  refine am_icmp_eq hX hi (off := 7) (tgt := 21) (by decide +kernel) (by decide) (fun _ => ?_) (fun c => absurd (rfl) c)
  exact am_vret hX hi rfl (by decide +kernel) (pV_eq rfl)
set_option maxHeartbeats 1000000 in
theorem k_putAt (hb : sh[b]? = some (.inl 1)) (hv : sh[v]? = some (.inr (4, m))) (hm9 : m ≤ 4096) (hP : P b 0 = .ref v) (h0 : I b 1 = 0) (hT : xS sh I P q w S) (hn : n + S.length ≤ m) (hf : sb_Fit (I v)) : am_Ct mJ5_putStringAt_47b60 3 sh [.ref b, .int (Int32.ofNat n), .ref q] I G P (pPut v n S I G P) := by
  refine am_ofF (by decide +kernel) rfl (by decide) (by decide) (Nat.le_of_ble_eq_true rfl) (fun X ad hX hi => ?_)
  have hi : am_info X 21 cJ5_putStringAt_47b60 3 false none 3 := hi
  show am_V X _ _ _ sh ad (0, [(0, .ref b), (1, .int (Int32.ofNat n)), (2, .ref q)], [], I, G, P)
  refine am_blk 0 [(.aload_n 0, 1, 0, 0, .null), (.aload_n 2, 1, 2, 0, .null)] (2, [(0, .ref b), (1, .int (Int32.ofNat n)), (2, .ref q)], [.ref q, .ref b], I, G, P) True hX hi (by decide +kernel) rfl trivial ?_
  refine am_callU hX hi (C := "java/lang/StringBuilder") (M := mJ5_inflateIfNeededFor_a7421) (idx := 397) (d' := 2) (As := [.ref q]) (rest := []) mkJ5_inflateIfNeededFor_a7421 miJ5_inflateIfNeededFor_a7421 sl_inflateIfNeededFor sm_inflateIfNeededFor_a7421 (by decide +kernel) (by decide +kernel) hb rfl rfl ⟨by decide, by decide, Nat.le_of_ble_eq_true rfl⟩ rfl (k_inflate hb h0 hT) ?_
  rintro r9 I9 G9 P9 ⟨e0, e1, e2, e3⟩
  rw [e0, e1, e2, e3]
  show am_V X _ _ _ sh ad (5, [(0, .ref b), (1, .int (Int32.ofNat n)), (2, .ref q)], [], I, G, P)
  refine am_blk 5 [(.aload_n 2, 1, 2, 0, .null), (.aload_n 0, 1, 0, 0, .null)] (7, [(0, .ref b), (1, .int (Int32.ofNat n)), (2, .ref q)], [.ref b, .ref q], I, G, P) True hX hi (by decide +kernel) rfl trivial ?_
  refine am_gfP hX hi (c := 1) (b := 0) (idx := 15) hb rfl (by decide +kernel) hP (by decide +kernel) ?_
  refine am_blk 10 [(.iload_n 1, 1, 1, 0, .null), (.aload_n 0, 1, 0, 0, .null)] (12, [(0, .ref b), (1, .int (Int32.ofNat n)), (2, .ref q)], [.ref b, .int (Int32.ofNat n), .ref v, .ref q], I, G, P) True hX hi (by decide +kernel) rfl trivial ?_
  refine am_gfB hX hi (c := 1) (b := 1) (idx := 22) (v := 0) hb rfl (by decide +kernel) h0 (by decide +kernel) ?_
  refine t_call hX hi hT (M := mJ0_getBytes_840e7) (idx := 399) (d' := 2) (As := [.ref v, .int (Int32.ofNat n), .int 0]) (rest := []) mkJ0_getBytes_840e7 miJ0_getBytes_840e7 mvJ0_getBytes_840e7 (by decide +kernel) (by decide +kernel) rfl rfl ⟨by decide, by decide, Nat.le_of_ble_eq_true rfl⟩ rfl (k_getBytes hT hv hm9 hn hf) ?_
  rintro r9 I9 G P ⟨rfl, rfl, rfl, f, rfl, f1, f2, f3⟩
  show am_V X _ _ _ sh ad (18, [(0, .ref b), (1, .int (Int32.ofNat n)), (2, .ref q)], [], (am_row I v f), G, P)
  exact am_vret hX hi rfl (by decide +kernel) ⟨rfl, rfl, rfl, f, rfl, f1, f2, f3⟩
/-- what a text is after an append -/
def pAp (sh : List am_Sh) (b v m : Nat) (T S : List Nat) (I : am_I) (G : am_G) (P : am_P) : am_PoA := fun r sh' I' G' P' => r = some (.ref b) ∧ G' = G ∧ ∃ f : Nat → Int32, bT (T ++ S) f ∧ sb_Fit f ∧ (((T ++ S).length ≤ m ∧ sh' = sh ∧ P' = P ∧ I' = am_up (am_row I v f) b 3 (Int32.ofNat (T ++ S).length)) ∨ (m < (T ++ S).length ∧ sh' = sh ++ [.inr (4, sb_cap (T ++ S).length m)] ∧ P' = am_up P b 0 (.ref sh.length) ∧ I' = am_up (am_row I sh.length f) b 3 (Int32.ofNat (T ++ S).length)))
theorem bT_app {f g : Nat → Int32} (hg : bT T g) (h1 : ∀ j, j < T.length → f j = g j) (h2 : ∀ j, j < S.length → f (T.length + j) = Int32.ofNat (S.getD j 0)) : bT (T ++ S) f := fun j hj => by
  rw [List.length_append] at hj
  by_cases h : j < T.length
  · rw [h1 j h, hg j h, List.getD_eq_getElem?_getD, List.getD_eq_getElem?_getD, List.getElem?_append_left h]
  · have e := h2 (j - T.length) (by omega)
    rw [show T.length + (j - T.length) = j by omega] at e
    rw [e, List.getD_eq_getElem?_getD, List.getD_eq_getElem?_getD, List.getElem?_append_right (by omega)]
theorem xS.mv {s : am_Sh} {f : Nat → Int32} {z : Nat} (h : xS sh I P q w S) (hb : sh[b]? = some (.inl 1)) (hl : sh.length < 1000) : xS (sh ++ [s]) (am_row I sh.length f) (am_up P b 0 (.ref z)) q w S := by
  obtain ⟨h1, h2, h3⟩ := h
  refine ⟨h1, h2, ?_⟩
  rcases h3 with h3 | ⟨a1, a2, a3, a4, a5⟩
  · exact Or.inl h3
  · have l1 := am_at_lt a1
    have l2 := am_at_lt a2
    have hqb : q ≠ b := fun e => by subst e; rw [hb] at a1; cases a1
    exact Or.inr ⟨am_at_app a1, am_at_app a2, by rw [am_up_a P _ _ _ hqb]; exact a3, by rw [am_row_ne _ _ (by omega)]; exact a4, by rw [am_row_ne _ _ (by omega)]; exact a5⟩
set_option maxHeartbeats 1000000 in
theorem ap_rest {X : am_X} {ad : Nat → Nat} {cells slots : Nat} {Q : State → Prop} (hX : am_okz X ad) (hi : am_info X 21 cJ5_append_cf1ce 3 false (some (.object "java/lang/AbstractStringBuilder")) 4) (hb : sh[b]? = some (.inl 1)) (hv : sh[v]? = some (.inr (4, m))) (hm9 : m ≤ 4096) (hP : P b 0 = .ref v) (h0 : I b 1 = 0) (h3 : I b 3 = Int32.ofNat n) (hT : xS sh I P q w S) (hn : n + S.length ≤ m) (hf : sb_Fit (I v))
    (kk : ∀ f : Nat → Int32, (∀ j, j < n → f j = I v j) → (∀ j, j < S.length → f (n + j) = Int32.ofNat (S.getD j 0)) → sb_Fit f → am_V X cells slots Q sh ad (44, [(0, .ref b), (1, .ref q), (2, .int (Int32.ofNat S.length))], [.ref b], am_up (am_row I v f) b 3 (Int32.ofNat (n + S.length)), G, P)) : am_V X cells slots Q sh ad (24, [(0, .ref b), (1, .ref q), (2, .int (Int32.ofNat S.length))], [], I, G, P) := by
  have hbv : b ≠ v := fun e => by subst e; rw [hb] at hv; cases hv
  refine am_blk 24 [(.aload_n 0, 1, 0, 0, .null), (.aload_n 0, 1, 0, 0, .null)] (26, [(0, .ref b), (1, .ref q), (2, .int (Int32.ofNat S.length))], [.ref b, .ref b], I, G, P) True hX hi (by decide +kernel) rfl trivial ?_
  refine am_gfI hX hi (c := 1) (b := 3) (idx := 79) (v := (Int32.ofNat n)) hb rfl (by decide +kernel) h3 (by decide +kernel) ?_
  refine am_blk 29 [(.aload_n 1, 1, 1, 0, .null)] (30, [(0, .ref b), (1, .ref q), (2, .int (Int32.ofNat S.length))], [.ref q, .int (Int32.ofNat n), .ref b], I, G, P) True hX hi (by decide +kernel) rfl trivial ?_
  refine am_callU hX hi (C := "java/lang/StringBuilder") (M := mJ5_putStringAt_47b60) (idx := 208) (d' := 3) (As := [.int (Int32.ofNat n), .ref q]) (rest := []) mkJ5_putStringAt_47b60 miJ5_putStringAt_47b60 sl_putStringAt sm_putStringAt_47b60 (by decide +kernel) (by decide +kernel) hb rfl rfl ⟨by decide, by decide, Nat.le_of_ble_eq_true rfl⟩ rfl (k_putAt hb hv hm9 hP h0 hT hn hf) ?_
  rintro r9 I9 G P ⟨rfl, rfl, rfl, f, rfl, f1, f2, f3⟩
  show am_V X _ _ _ sh ad (33, [(0, .ref b), (1, .ref q), (2, .int (Int32.ofNat S.length))], [], (am_row I v f), G, P)
  refine am_blk 33 [(.aload_n 0, 1, 0, 0, .null), (.dup, 1, 0, 0, .null)] (35, [(0, .ref b), (1, .ref q), (2, .int (Int32.ofNat S.length))], [.ref b, .ref b], (am_row I v f), G, P) True hX hi (by decide +kernel) rfl trivial ?_
  refine am_gfI hX hi (c := 1) (b := 3) (idx := 79) (v := (Int32.ofNat n)) hb rfl (by decide +kernel) (by rw [am_row_ne _ _ hbv]; exact h3) (by decide +kernel) ?_
  refine am_blk 38 [(.iload_n 2, 1, 2, 0, .null), (.iadd, 1, 0, 0, .null)] (40, [(0, .ref b), (1, .ref q), (2, .int (Int32.ofNat S.length))], [.int ((Int32.ofNat n) + (Int32.ofNat S.length)), .ref b], (am_row I v f), G, P) True hX hi (by decide +kernel) rfl trivial ?_
  rw [show Int32.ofNat n + Int32.ofNat S.length = Int32.ofNat (n + S.length) from nI_add n S.length]
  show am_V X _ _ _ sh ad (40, [(0, .ref b), (1, .ref q), (2, .int (Int32.ofNat S.length))], [.int (Int32.ofNat (n + S.length)), .ref b], (am_row I v f), G, P)
  refine am_pfI hX hi (c := 1) (b := 3) (idx := 79) hb rfl (by decide +kernel) rfl (by decide +kernel) ?_
  show am_V X _ _ _ sh ad (43, [(0, .ref b), (1, .ref q), (2, .int (Int32.ofNat S.length))], [], (am_up (am_row I v f) b 3 (Int32.ofNat (n + S.length))), G, P)
  refine am_blk 43 [(.aload_n 0, 1, 0, 0, .null)] (44, [(0, .ref b), (1, .ref q), (2, .int (Int32.ofNat S.length))], [.ref b], (am_up (am_row I v f) b 3 (Int32.ofNat (n + S.length))), G, P) True hX hi (by decide +kernel) rfl trivial ?_
  exact kk f f1 f2 f3
theorem xS.nk (h : xS sh I P q w S) : am_nk sh.length q := by
  rcases h.2.2 with ⟨k, p, -, rfl, -⟩ | ⟨a1, -⟩
  · exact Or.inr (by omega)
  · exact Or.inl (am_at_lt a1)
set_option maxHeartbeats 1000000 in
theorem k_append (hB : sB sh I P b v m T) (hT : xS sh I P q w S) (hn : T.length + S.length ≤ 2000) (hl : sh.length < 1000) (hR : lR sh.length sh P) : am_CtA mJ5_append_cf1ce 4 1 4096 sh.length sh [.ref b, .ref q] I G P (pAp sh b v m T S I G P) := by
  obtain ⟨hb, hv, hP, h0, h3, hTm, hm9, haT, hbT, hf⟩ := hB
  have lb := am_at_lt hb
  have hq := hT.nk
  refine am_ofA (by decide +kernel) rfl (by decide) (by decide) (Nat.le_of_ble_eq_true rfl) (fun X ad hX hi hm => ?_)
  have hi : am_info X 21 cJ5_append_cf1ce 3 false (some (FieldType.object "java/lang/AbstractStringBuilder")) 4 := hi
  have hm : am_mem X 1 4096 := hm
  show am_V X _ _ _ sh ad (0, [(0, .ref b), (1, .ref q)], [], I, G, P)
  refine am_blk 0 [(.aload_n 1, 1, 1, 0, .null)] (1, [(0, .ref b), (1, .ref q)], [.ref q], I, G, P) True hX hi (by decide +kernel) rfl trivial ?_
  refine am_nnul hX hi (off := 8) (tgt := 9) (by decide +kernel) (by decide) ?_
  refine am_blk 9 [(.aload_n 1, 1, 1, 0, .null)] (10, [(0, .ref b), (1, .ref q)], [.ref q], I, G, P) True hX hi (by decide +kernel) rfl trivial ?_
  refine t_call hX hi hT (M := mJ0_length_8abf5) (idx := 32) (d' := 2) (As := []) (rest := []) mkJ0_length_8abf5 miJ0_length_8abf5 mvJ0_length_8abf5 (by decide +kernel) (by decide +kernel) rfl rfl ⟨by decide, by decide, Nat.le_of_ble_eq_true rfl⟩ rfl (k_length hT) ?_
  rintro r9 I9 G9 P9 ⟨e0, e1, e2, e3⟩
  rw [e0, e1, e2, e3]
  show am_V X _ _ _ sh ad (13, [(0, .ref b), (1, .ref q)], [.int (Int32.ofNat S.length)], I, G, P)
  refine am_blk 13 [(.istore_n 2, 1, 2, 0, .null), (.aload_n 0, 1, 0, 0, .null), (.aload_n 0, 1, 0, 0, .null)] (16, [(0, .ref b), (1, .ref q), (2, .int (Int32.ofNat S.length))], [.ref b, .ref b], I, G, P) True hX hi (by decide +kernel) rfl trivial ?_
  refine am_gfI hX hi (c := 1) (b := 3) (idx := 79) (v := (Int32.ofNat T.length)) hb rfl (by decide +kernel) h3 (by decide +kernel) ?_
  refine am_blk 19 [(.iload_n 2, 1, 2, 0, .null), (.iadd, 1, 0, 0, .null)] (21, [(0, .ref b), (1, .ref q), (2, .int (Int32.ofNat S.length))], [.int ((Int32.ofNat T.length) + (Int32.ofNat S.length)), .ref b], I, G, P) True hX hi (by decide +kernel) rfl trivial ?_
  rw [show Int32.ofNat T.length + Int32.ofNat S.length = Int32.ofNat (T.length + S.length) from nI_add T.length S.length]
  show am_V X _ _ _ sh ad (21, [(0, .ref b), (1, .ref q), (2, .int (Int32.ofNat S.length))], [.int (Int32.ofNat (T.length + S.length)), .ref b], I, G, P)
  refine am_callUA hX hi hm (C := "java/lang/StringBuilder") (M := mJ5_ensureCapacityInternal_d00df) (idx := 100) (d' := 3) (As := [.int (Int32.ofNat (T.length + S.length))]) (rest := []) mkJ5_ensureCapacityInternal_d00df miJ5_ensureCapacityInternal_d00df sl_ensureCapacityInternal sm_ensureCapacityInternal_d00df (by decide +kernel) (by decide +kernel) hb rfl rfl ⟨by decide, by decide, Nat.le_of_ble_eq_true rfl⟩ rfl ⟨by omega, by omega⟩ (am_kqL_r (Or.inl lb) (am_kqL_r hq (am_kqL_i am_kqL_n))) am_kqS_n (k_ensure hb hv hm9 hP h0 hn hf hl hR) ?_
  rintro r9 sh9 ad1 I9 G P9 ⟨rfl, rfl, hc⟩ ha1 hX1
  show am_V X _ _ _ sh9 ad1 (24, [(0, .ref b), (1, .ref q), (2, .int (Int32.ofNat S.length))], [], I9, G, P9)
  have eTS : (T ++ S).length = T.length + S.length := List.length_append
  rcases hc with ⟨c1, rfl, rfl, rfl⟩ | ⟨c1, rfl, rfl, f, rfl, f1, f2⟩
  · refine ap_rest hX1 hi hb hv hm9 hP h0 h3 hT c1 hf (fun g g1 g2 g3 => ?_)
    refine am_aretA hX1 hi rfl (by decide +kernel) ha1 ⟨rfl, rfl, g, bT_app hbT g1 g2, g3, Or.inl ⟨by rw [eTS]; exact c1, rfl, rfl, by rw [eTS]⟩⟩ ⟨by omega, by omega⟩
  · obtain ⟨g1, g2⟩ := sb_capL c1 hn
    have hbl : b ≠ sh.length := by omega
    refine ap_rest (v := sh.length) (m := sb_cap (T.length + S.length) m) (n := T.length) hX1 hi (am_at_app hb) am_at_end g1 (am_up_self _ _ _ _) (by rw [am_row_ne _ _ hbl]; exact h0) (by rw [am_row_ne _ _ hbl]; exact h3) (hT.mv hb hl) (sb_capB c1 (by omega)).2.2 (by rw [am_row_self]; exact f2) (fun g h1 h2 h4 => ?_)
    rw [am_row_self] at h1
    refine am_aretA hX1 hi rfl (by decide +kernel) ha1 ⟨rfl, rfl, g, bT_app hbT (fun j hj => (h1 j hj).trans (f1 j (by omega))) h2, h4, Or.inr ⟨by rw [eTS]; exact c1, by rw [eTS], rfl, by rw [eTS, am_row_row]⟩⟩ ⟨by omega, by omega⟩
set_option maxHeartbeats 1000000 in
theorem k_bAppend (hB : sB sh I P b v m T) (hT : xS sh I P q w S) (hn : T.length + S.length ≤ 2000) (hl : sh.length < 1000) (hR : lR sh.length sh P) : am_CtA mJ4_append_15ec4 5 1 4096 sh.length sh [.ref b, .ref q] I G P (pAp sh b v m T S I G P) := by
  have hb := hB.1
  have lb := am_at_lt hb
  have hq := hT.nk
  refine am_ofA (by decide +kernel) rfl (by decide) (by decide) (Nat.le_of_ble_eq_true rfl) (fun X ad hX hi hm => ?_)
  have hi : am_info X 1 cJ4_append_15ec4 2 false (some (FieldType.object "java/lang/StringBuilder")) 5 := hi
  have hm : am_mem X 1 4096 := hm
  show am_V X _ _ _ sh ad (0, [(0, .ref b), (1, .ref q)], [], I, G, P)
  refine am_blk 0 [(.aload_n 0, 1, 0, 0, .null), (.aload_n 1, 1, 1, 0, .null)] (2, [(0, .ref b), (1, .ref q)], [.ref q, .ref b], I, G, P) True hX hi (by decide +kernel) rfl trivial ?_
  refine am_callSUA hX hi hm (C := "java/lang/StringBuilder") (M := mJ5_append_cf1ce) (idx := 29) (d' := 4) (As := [.ref q]) (rest := []) mkJ5_append_cf1ce miJ5_append_cf1ce sm_append_cf1ce sp_SB (by decide +kernel) (by decide +kernel) (by decide +kernel) hb rfl rfl ⟨by decide, by decide, Nat.le_of_ble_eq_true rfl⟩ rfl ⟨by omega, by omega⟩ (am_kqL_r (Or.inl lb) (am_kqL_r hq am_kqL_n)) am_kqS_n (k_append hB hT hn hl hR) ?_
  rintro r9 sh9 ad1 I9 G9 P9 ⟨rfl, hp⟩ ha1 hX1
  show am_V X _ _ _ sh9 ad1 (5, [(0, .ref b), (1, .ref q)], [.ref b], I9, G9, P9)
  refine am_blk 5 [(.pop, 1, 0, 0, .null), (.aload_n 0, 1, 0, 0, .null)] (7, [(0, .ref b), (1, .ref q)], [.ref b], I9, G9, P9) True hX1 hi (by decide +kernel) rfl trivial ?_
  exact am_aretA hX1 hi rfl (by decide +kernel) ha1 ⟨rfl, hp⟩ ⟨by omega, by omega⟩
end AMTL
