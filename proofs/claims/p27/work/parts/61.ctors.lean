/-! constructors: invokespecial of a nest mate's; the cells in the order of their making -/
section AMGN
variable {X : am_X} {o : Nat} {cc : ByteArray} {nL : Nat} {ini : Bool} {ret : Option FieldType} {d : Nat}
variable {cells slots mc ms MC MS keep : Nat} {Q : State → Prop} {sh : List am_Sh} {ad : Nat → Nat} {pc : Nat} {L : am_L} {st : List Value} {I : am_I} {G : am_G} {P : am_P} {post : am_PoA}
theorem am_callIN (hX : am_okz X ad) (hi : am_info X o cc nL ini ret d) (hm : am_mem X MC MS) {M : am_M} {d' idx b : Nat} {As rest : List Value} (hM : am_Mok M) (hin : Cond.instanceMethod M.1 ∈ lw_tbl) (hnm : M.1.name = "<init>") (hret : M.2.2.2.1 = none) (hl : am_lnk o idx M.1 true = true) (hd : decode cc pc = .ok (.invokespecial idx, 3))
    (hn : As.length = M.2.2.2.2.2.1) (hdd : d' + 1 ≤ d ∧ M.2.2.1 ≤ 11 ∧ (rest.map fun v => v.category).sum ≤ 8) (hst : st = As.reverse ++ .ref b :: rest) (hroom : cells + mc ≤ MC ∧ slots + ms ≤ MS) (hkp : am_kpL keep L rest = true) (hC : am_CtA M d' mc ms keep sh (.ref b :: As) I G P post)
    (kk : ∀ r sh' ad' I' G' P', post r sh' I' G' P' → (∀ j, j < keep ∨ 1000 ≤ j → ad' j = ad j) → am_V X (cells + mc) (slots + ms) Q sh' ad' (pc + 3, L, r.toList ++ rest, I', G', P')) : am_V X cells slots Q sh ad (pc, L, st, I, G, P) := by
  subst hst
  obtain ⟨y, cb, mL, rt, oM, nA, iniM⟩ := M
  simp only at hret hnm hn hdd hin hl
  subst hret
  obtain ⟨p, l, e, R, s, m, args, below, meth, c, A, D, cys, o', cc', nL', ini'⟩ := X
  obtain ⟨rfl, rfl, rfl, rfl, -, hR1, hR2⟩ := hi
  obtain ⟨rfl, rfl⟩ := hm
  obtain ⟨⟨hx, hb, hml, hown, hts, hlk, hK, hN, hA, hini, hR3, hR4⟩, hZ⟩ := hX
  intro h1 h2 H locs ls hP hD hS hlo
  obtain ⟨q1, q2, q3, q4, q5⟩ := hM
  have hlw : Cond.methodLinkNest (am_own o') idx y (am_host o') ∈ lw_tbl := by
    have := am_lnk_ok hl
    simpa using this
  have cw : va_CN R s args (am_own o') idx y (am_host o') cb mL none (am_wl y cb mL none) (am_rm d' mc ms) mc ms nA ∧ y.name = "<init>" ∧ (Cond.instanceMethod y).before args s = true :=
    ⟨va_cnB _ hts (am_goodIn (M := (y, cb, mL, none, oM, nA, iniM)) ⟨q1, q2, q3, q4, q5⟩) rfl rfl rfl (hN _ hlw rfl) (hts _ (am_good q2 rfl)) ⟨q3, q4, q5⟩ ⟨by show d' + 1 ≤ R.frames; omega, by show 8 + (mL + 11) + 30 * d' ≤ R.locals; omega⟩, hnm, hts _ (am_good hin rfl)⟩
  have hA1 := am_A1 hD hS hA
  refine am_goesA (A1 := va_A (am_ws cys ad sh I G P) H.size) (va_runIN (As := As.map (am_tv ad)) (b := ad b) (rest := rest.map (am_tv ad)) ⟨hx, hb, hml, hown, hts⟩ (hC l D cys ad H.size) cw ⟨am_blind, ?_⟩ rfl (by rw [List.length_map]; exact hn) hlo.1 ?_ ?_ hd hroom) hS hA1 ?_
  · intro U hU hW
    exact ⟨rfl, by rw [hU], by rw [hU]; exact hP, va_K.moved hW.alike hK, hD.weaken (fun _ _ _ _ => trivial), am_nst.warm hW hN, by rw [hU]; exact (am_Zs.warm hW (hZ.kept hS.2.1)).narrow hA1⟩
  · simp [am_tv]
  · exact lv_room (by rw [am_cats]; exact hdd.2.2)
  · intro r sh' ad' I' G' P' hp had H1 locs1 hP1 hD1 hS1
    obtain ⟨e1, e2⟩ := am_kp_map hkp had
    rw [← e2, am_out]
    exact kk r sh' ad' I' G' P' hp had hroom.1 hroom.2 H1 locs1 ls hP1 hD1 hS1 (by rw [e1]; exact hlo)
end AMGN
def am_pA (sh1 : List am_Sh) (I1 : am_I) (G1 : am_G) (P1 : am_P) : am_PoA := fun r sh' I' G' P' => r = none ∧ sh' = sh1 ∧ I' = I1 ∧ G' = G1 ∧ P' = P1
def zP_0 : am_P := fun _ _ => .null
def zP_1 : am_P := (am_z zP_0 1 .null)
def zP_2 : am_P := (am_up (am_z (am_up (am_z (am_up (am_z (am_up (am_z (am_up (am_z zP_1 2 .null) 1 0 (.ref 2)) 3 .null) 1 1 (.ref 3)) 4 .null) 1 2 (.ref 4)) 5 .null) 1 3 (.ref 5)) 6 .null) 1 4 (.ref 6))
def zI_X9a (I : am_I) : am_I := (am_z (am_z (am_z (am_z (am_z I 2 0) 3 0) 4 0) 5 0) 6 0)
def zG_X9a (G : am_G) : am_G := (am_z (am_z (am_z (am_z (am_z G 2 0) 3 0) 4 0) 5 0) 6 0)
noncomputable def L_X9_init_1 (n0 : Nat) (hd : Nat) (I : am_I) (G : am_G) (v1 : Int32) (v2 : Int64) (v4 : Int32) : Option (Unit × am_I × am_G) := match n0 with
  | 0 => none
  | n + 1 => match hd with
    | _ => (if (Int32.ofNat (am_tB.getD 0 (0, [])).2.length) ≤ v4 then some ((), I, G) else rg (0 ≤ v4.toInt ∧ v4.toInt < (am_tB.getD 0 (0, [])).2.length) ((if ((am_tB.getD 0 (0, [])).2.getD v4.toInt.toNat 0) = (32 : Int32) then (if (Int32.ofNat 24) ≤ v1 then L_X9_init_1 n 0 I G v1 v2 (v4 + (1 : Int32)) else rg (vp_in v1 24) (L_X9_init_1 n 0 I (am_up G 3 v1.toNatClampNeg v2) (v1 + (1 : Int32)) (0) (v4 + (1 : Int32)))) else L_X9_init_1 n 0 I G v1 ((v2 * (37)) + ((((am_tB.getD 0 (0, [])).2.getD v4.toInt.toNat 0) - (97 : Int32)) + (1 : Int32)).toInt64) (v4 + (1 : Int32)))))
theorem L_X9_init_1_0 (n : Nat) (I : am_I) (G : am_G) (v1 : Int32) (v2 : Int64) (v4 : Int32) : L_X9_init_1 (n + 1) 0 I G v1 v2 v4 = (if (Int32.ofNat (am_tB.getD 0 (0, [])).2.length) ≤ v4 then some ((), I, G) else rg (0 ≤ v4.toInt ∧ v4.toInt < (am_tB.getD 0 (0, [])).2.length) ((if ((am_tB.getD 0 (0, [])).2.getD v4.toInt.toNat 0) = (32 : Int32) then (if (Int32.ofNat 24) ≤ v1 then L_X9_init_1 n 0 I G v1 v2 (v4 + (1 : Int32)) else rg (vp_in v1 24) (L_X9_init_1 n 0 I (am_up G 3 v1.toNatClampNeg v2) (v1 + (1 : Int32)) (0) (v4 + (1 : Int32)))) else L_X9_init_1 n 0 I G v1 ((v2 * (37)) + ((((am_tB.getD 0 (0, [])).2.getD v4.toInt.toNat 0) - (97 : Int32)) + (1 : Int32)).toInt64) (v4 + (1 : Int32))))) := rfl
theorem L_X9_init_1_z (h : Nat) (I : am_I) (G : am_G) (v1 : Int32) (v2 : Int64) (v4 : Int32) : L_X9_init_1 0 h I G v1 v2 v4 = none := rfl
set_option maxRecDepth 20000 in
set_option maxHeartbeats 4000000 in
theorem l_X9_init_1 {X : am_X} {ad : Nat → Nat} {cells slots : Nat} {Q : State → Prop} (hX : am_okz X ad) (hi : am_info X 9 cX9_init 6 true none 5) (n : Nat) : ∀ (I : am_I) (G : am_G) (v1 : Int32) (v2 : Int64) (v4 : Int32) (out : Unit × am_I × am_G), L_X9_init_1 n 0 I G v1 v2 v4 = some out → (∀ (I7 : am_I) (G7 : am_G), out = ((), I7, G7) → am_V X cells slots Q (gS.take 7) ad (126, [(0, .ref 1)], [], I7, G7, zP_2)) → am_V X cells slots Q (gS.take 7) ad (55, [(0, .ref 1), (1, .int v1), (2, .long v2), (4, .int v4)], [], I, G, zP_2) := by
  induction n with
  | zero => exact fun I G v1 v2 v4 out h _ => by rw [L_X9_init_1_z] at h; cases h
  | succ n ih =>
    intro I G v1 v2 v4 out h hk
    rw [L_X9_init_1_0] at h
    refine am_blk 55 [(.iload 4, 2, 4, 0, .null)] (57, [(0, .ref 1), (1, .int v1), (2, .long v2), (4, .int v4)], [.int v4], I, G, zP_2) (True) hX hi (by decide +kernel) rfl trivial ?_
    refine am_ldcS hX hi (i := 0) (idx := 30) rfl rfl rfl (by decide +kernel) ?_
    show am_V X _ _ _ _ ad (59, [(0, .ref 1), (1, .int v1), (2, .long v2), (4, .int v4)], [.ref 2000, .int v4], I, G, zP_2)
    refine am_callT hX hi (M := mJ0_length_8abf5) (idx := 32) (d' := 2) (As := []) (rest := [.int v4]) mkJ0_length_8abf5 miJ0_length_8abf5 mvJ0_length_8abf5 (by decide +kernel) (by decide +kernel) (show am_tB[0]? = some (am_tB.getD 0 (0, [])) from rfl) rfl rfl ⟨by omega, by decide, Nat.le_of_ble_eq_true rfl⟩ rfl (c_tlength (show am_tB[0]? = some (am_tB.getD 0 (0, [])) from rfl)) ?_
    rintro r9 I9 G9 P9 ⟨e0, e1, e2, e3⟩
    rw [e0, e1, e2, e3]
    show am_V X _ _ _ _ ad (62, [(0, .ref 1), (1, .int v1), (2, .long v2), (4, .int v4)], [.int (Int32.ofNat (am_tB.getD 0 (0, [])).2.length), .int v4], I, G, zP_2)
    refine am_icmp_ge (tgt := 126) hX hi (off := (64)) (by decide +kernel) (by decide) (fun c62 => ?_) (fun c62 => ?_)
    · rw [if_pos c62] at h
      exact am_sub (L' := [(0, .ref 1)]) (by simp) (hk _ _ (Option.some.inj h).symm)
    · rw [if_neg c62] at h
      refine am_ldcS hX hi (i := 0) (idx := 30) rfl rfl rfl (by decide +kernel) ?_
      show am_V X _ _ _ _ ad (67, [(0, .ref 1), (1, .int v1), (2, .long v2), (4, .int v4)], [.ref 2000], I, G, zP_2)
      refine am_blk 67 [(.iload 4, 2, 4, 0, .null)] (69, [(0, .ref 1), (1, .int v1), (2, .long v2), (4, .int v4)], [.int v4, .ref 2000], I, G, zP_2) (True) hX hi (by decide +kernel) rfl trivial ?_
      obtain ⟨hq1, h⟩ := rg_some h
      refine am_callT hX hi (M := mJ0_charAt_5068e) (idx := 38) (d' := 4) (As := [.int v4]) (rest := []) mkJ0_charAt_5068e miJ0_charAt_5068e mvJ0_charAt_5068e (by decide +kernel) (by decide +kernel) (show am_tB[0]? = some (am_tB.getD 0 (0, [])) from rfl) rfl rfl ⟨by omega, by decide, Nat.le_of_ble_eq_true rfl⟩ rfl (c_charAt (show am_tB[0]? = some (am_tB.getD 0 (0, [])) from rfl) hq1.1 hq1.2) ?_
      rintro r9 I9 G9 P9 ⟨e0, e1, e2, e3⟩
      rw [e0, e1, e2, e3]
      show am_V X _ _ _ _ ad (72, [(0, .ref 1), (1, .int v1), (2, .long v2), (4, .int v4)], [.int ((am_tB.getD 0 (0, [])).2.getD v4.toInt.toNat 0)], I, G, zP_2)
      refine am_blk 72 [(.istore 5, 2, 5, 0, .null), (.iload 5, 2, 5, 0, .null), (.bipush (32), 2, 0, 0, .int (32 : Int32))] (78, [(0, .ref 1), (1, .int v1), (2, .long v2), (4, .int v4), (5, .int ((am_tB.getD 0 (0, [])).2.getD v4.toInt.toNat 0))], [.int (32 : Int32), .int ((am_tB.getD 0 (0, [])).2.getD v4.toInt.toNat 0)], I, G, zP_2) (True) hX hi (by decide +kernel) rfl trivial ?_
      refine am_icmp_eq (tgt := 99) hX hi (off := (21)) (by decide +kernel) (by decide) (fun c78 => ?_) (fun c78 => ?_)
      · rw [if_pos c78] at h
        refine am_blk 99 [(.iload_n 1, 1, 1, 0, .null), (.aload_n 0, 1, 0, 0, .null), (.getfield 17, 3, 9, 1, .null), (.arraylength, 1, 0, 0, .null)] (105, [(0, .ref 1), (1, .int v1), (2, .long v2), (4, .int v4), (5, .int ((am_tB.getD 0 (0, [])).2.getD v4.toInt.toNat 0))], [.int (Int32.ofNat 24), .int v1], I, G, zP_2) (True) hX hi (by decide +kernel) rfl trivial ?_
        refine am_icmp_ge (tgt := 120) hX hi (off := (15)) (by decide +kernel) (by decide) (fun c105 => ?_) (fun c105 => ?_)
        · rw [if_pos c105] at h
          refine am_blk 120 [(.iinc 4 (1), 3, 4, 0, .int (1 : Int32)), (.goto (-68), 3, 0, 55, .null)] (55, [(0, .ref 1), (1, .int v1), (2, .long v2), (4, .int (v4 + (1 : Int32))), (5, .int ((am_tB.getD 0 (0, [])).2.getD v4.toInt.toNat 0))], [], I, G, zP_2) (True) hX hi (by decide +kernel) rfl trivial ?_
          refine am_sub (L' := [(0, .ref 1), (1, .int v1), (2, .long v2), (4, .int (v4 + (1 : Int32)))]) (by simp) ?_
          exact ih _ _ _ _ _ _ h hk
        · rw [if_neg c105] at h
          obtain ⟨g0, h⟩ := rg_some h
          refine am_blk 108 [(.aload_n 0, 1, 0, 0, .null), (.getfield 17, 3, 9, 1, .null), (.iload_n 1, 1, 1, 0, .null), (.lload_n 2, 1, 2, 0, .null), (.lastore, 1, 0, 0, .null), (.iinc 1 (1), 3, 1, 0, .int (1 : Int32)), (.lconst 0, 1, 0, 0, .long (0)), (.lstore_n 2, 1, 2, 0, .null), (.iinc 4 (1), 3, 4, 0, .int (1 : Int32)), (.goto (-68), 3, 0, 55, .null)] (55, [(0, .ref 1), (1, .int (v1 + (1 : Int32))), (2, .long (0)), (4, .int (v4 + (1 : Int32))), (5, .int ((am_tB.getD 0 (0, [])).2.getD v4.toInt.toNat 0))], [], I, (am_up G 3 v1.toNatClampNeg v2), zP_2) (vp_in v1 24 ∧ True) hX hi (by decide +kernel) rfl ⟨g0, trivial⟩ ?_
          refine am_sub (L' := [(0, .ref 1), (1, .int (v1 + (1 : Int32))), (2, .long (0)), (4, .int (v4 + (1 : Int32)))]) (by simp) ?_
          exact ih _ _ _ _ _ _ h hk
      · rw [if_neg c78] at h
        refine am_blk 81 [(.lload_n 2, 1, 2, 0, .null), (.ldc2_w 42, 3, 0, 0, .long (37)), (.lmul, 1, 0, 0, .null), (.iload 5, 2, 5, 0, .null), (.bipush (97), 2, 0, 0, .int (97 : Int32)), (.isub, 1, 0, 0, .null), (.iconst (1), 1, 0, 0, .int (1 : Int32)), (.iadd, 1, 0, 0, .null), (.i2l, 1, 0, 0, .null), (.ladd, 1, 0, 0, .null), (.lstore_n 2, 1, 2, 0, .null), (.goto (24), 3, 0, 120, .null), (.iinc 4 (1), 3, 4, 0, .int (1 : Int32)), (.goto (-68), 3, 0, 55, .null)] (55, [(0, .ref 1), (1, .int v1), (2, .long ((v2 * (37)) + ((((am_tB.getD 0 (0, [])).2.getD v4.toInt.toNat 0) - (97 : Int32)) + (1 : Int32)).toInt64)), (4, .int (v4 + (1 : Int32))), (5, .int ((am_tB.getD 0 (0, [])).2.getD v4.toInt.toNat 0))], [], I, G, zP_2) (True) hX hi (by decide +kernel) rfl trivial ?_
        refine am_sub (L' := [(0, .ref 1), (1, .int v1), (2, .long ((v2 * (37)) + ((((am_tB.getD 0 (0, [])).2.getD v4.toInt.toNat 0) - (97 : Int32)) + (1 : Int32)).toInt64)), (4, .int (v4 + (1 : Int32)))]) (by simp) ?_
        exact ih _ _ _ _ _ _ h hk
set_option maxRecDepth 20000 in
set_option maxHeartbeats 4000000 in
theorem c_X9_init_1 (I : am_I) (G : am_G) {I9 : am_I} {G9 : am_G} (hc9 : L_X9_init_1 FU 0 (zI_X9a I) (zG_X9a G) 0 0 0 = some ((), I9, G9)) : am_CtA mX9_init 5 5 3227 2 (gS.take 2) [.ref 1] I G zP_1 (am_pA (gS.take 7) I9 G9 zP_2) := by
  refine am_ofA (by decide +kernel) rfl (fun _ => rfl) (by decide) (Nat.le_of_ble_eq_true rfl) (fun X ad hX0 hi hm => ?_)
  have hi : am_info X 9 cX9_init 6 true none 5 := hi
  have hm : am_mem X 5 3227 := hm
  show am_V X 0 0 _ (gS.take 2) ad (0, [(0, .ref 1)], [], I, G, zP_1)
  refine am_blk 0 [(.aload_n 0, 1, 0, 0, .null)] (1, [(0, .ref 1)], [.ref 1], I, G, zP_1) (True) hX0 hi (by decide +kernel) rfl trivial ?_
  refine am_obj hX0 hi (idx := 3) (by decide +kernel) (by decide +kernel) (Nat.le_of_ble_eq_true rfl) ?_
  show am_V X 0 0 _ (gS.take 2) ad (4, [(0, .ref 1)], [], I, G, zP_1)
  refine am_blk 4 [(.aload_n 0, 1, 0, 0, .null), (.sipush (2000), 3, 0, 0, .int (2000 : Int32))] (8, [(0, .ref 1)], [.int (2000 : Int32), .ref 1], I, G, zP_1) (True) hX0 hi (by decide +kernel) rfl trivial ?_
  refine am_newa hX0 hi hm (t := 0) (N := 2000) (n := (2000 : Int32)) (at' := .int) (by simp) (by decide +kernel) (by decide +kernel) (by decide) (by decide) (by decide) ⟨by decide, by decide⟩ (by decide +kernel) (by decide +kernel) (fun ad1 e1 => ?_)
  have e1 : ∀ j, j ≠ 2 → ad1 j = ad j := e1
  have hX1 := hX0.adr (fun j hj => e1 j (by show j ≠ 2; omega))
  show am_V X 1 2000 _ (gS.take 3) ad1 (10, [(0, .ref 1)], [.ref 2, .ref 1], (am_z I 2 0), (am_z G 2 0), (am_z zP_1 2 .null))
  refine am_blk 10 [(.putfield 9, 3, 9, 0, .null), (.aload_n 0, 1, 0, 0, .null), (.bipush (24), 2, 0, 0, .int (24 : Int32))] (16, [(0, .ref 1)], [.int (24 : Int32), .ref 1], (am_z I 2 0), (am_z G 2 0), (am_up (am_z zP_1 2 .null) 1 0 (.ref 2))) (True) hX1 hi (by decide +kernel) rfl trivial ?_
  refine am_newa hX1 hi hm (t := 2) (N := 24) (n := (24 : Int32)) (at' := .long) (by simp) (by decide +kernel) (by decide +kernel) (by decide) (by decide) (by decide) ⟨by decide, by decide⟩ (by decide +kernel) (by decide +kernel) (fun ad2 e2 => ?_)
  have e2 : ∀ j, j ≠ 3 → ad2 j = ad1 j := e2
  have hX2 := hX1.adr (fun j hj => e2 j (by show j ≠ 3; omega))
  show am_V X 2 2024 _ (gS.take 4) ad2 (18, [(0, .ref 1)], [.ref 3, .ref 1], (am_z (am_z I 2 0) 3 0), (am_z (am_z G 2 0) 3 0), (am_z (am_up (am_z zP_1 2 .null) 1 0 (.ref 2)) 3 .null))
  refine am_blk 18 [(.putfield 17, 3, 9, 1, .null), (.aload_n 0, 1, 0, 0, .null), (.sipush (401), 3, 0, 0, .int (401 : Int32))] (25, [(0, .ref 1)], [.int (401 : Int32), .ref 1], (am_z (am_z I 2 0) 3 0), (am_z (am_z G 2 0) 3 0), (am_up (am_z (am_up (am_z zP_1 2 .null) 1 0 (.ref 2)) 3 .null) 1 1 (.ref 3))) (True) hX2 hi (by decide +kernel) rfl trivial ?_
  refine am_newa hX2 hi hm (t := 0) (N := 401) (n := (401 : Int32)) (at' := .int) (by simp) (by decide +kernel) (by decide +kernel) (by decide) (by decide) (by decide) ⟨by decide, by decide⟩ (by decide +kernel) (by decide +kernel) (fun ad3 e3 => ?_)
  have e3 : ∀ j, j ≠ 4 → ad3 j = ad2 j := e3
  have hX3 := hX2.adr (fun j hj => e3 j (by show j ≠ 4; omega))
  show am_V X 3 2425 _ (gS.take 5) ad3 (27, [(0, .ref 1)], [.ref 4, .ref 1], (am_z (am_z (am_z I 2 0) 3 0) 4 0), (am_z (am_z (am_z G 2 0) 3 0) 4 0), (am_z (am_up (am_z (am_up (am_z zP_1 2 .null) 1 0 (.ref 2)) 3 .null) 1 1 (.ref 3)) 4 .null))
  refine am_blk 27 [(.putfield 21, 3, 9, 2, .null), (.aload_n 0, 1, 0, 0, .null), (.sipush (401), 3, 0, 0, .int (401 : Int32))] (34, [(0, .ref 1)], [.int (401 : Int32), .ref 1], (am_z (am_z (am_z I 2 0) 3 0) 4 0), (am_z (am_z (am_z G 2 0) 3 0) 4 0), (am_up (am_z (am_up (am_z (am_up (am_z zP_1 2 .null) 1 0 (.ref 2)) 3 .null) 1 1 (.ref 3)) 4 .null) 1 2 (.ref 4))) (True) hX3 hi (by decide +kernel) rfl trivial ?_
  refine am_newa hX3 hi hm (t := 0) (N := 401) (n := (401 : Int32)) (at' := .int) (by simp) (by decide +kernel) (by decide +kernel) (by decide) (by decide) (by decide) ⟨by decide, by decide⟩ (by decide +kernel) (by decide +kernel) (fun ad4 e4 => ?_)
  have e4 : ∀ j, j ≠ 5 → ad4 j = ad3 j := e4
  have hX4 := hX3.adr (fun j hj => e4 j (by show j ≠ 5; omega))
  show am_V X 4 2826 _ (gS.take 6) ad4 (36, [(0, .ref 1)], [.ref 5, .ref 1], (am_z (am_z (am_z (am_z I 2 0) 3 0) 4 0) 5 0), (am_z (am_z (am_z (am_z G 2 0) 3 0) 4 0) 5 0), (am_z (am_up (am_z (am_up (am_z (am_up (am_z zP_1 2 .null) 1 0 (.ref 2)) 3 .null) 1 1 (.ref 3)) 4 .null) 1 2 (.ref 4)) 5 .null))
  refine am_blk 36 [(.putfield 24, 3, 9, 3, .null), (.aload_n 0, 1, 0, 0, .null), (.sipush (401), 3, 0, 0, .int (401 : Int32))] (43, [(0, .ref 1)], [.int (401 : Int32), .ref 1], (am_z (am_z (am_z (am_z I 2 0) 3 0) 4 0) 5 0), (am_z (am_z (am_z (am_z G 2 0) 3 0) 4 0) 5 0), (am_up (am_z (am_up (am_z (am_up (am_z (am_up (am_z zP_1 2 .null) 1 0 (.ref 2)) 3 .null) 1 1 (.ref 3)) 4 .null) 1 2 (.ref 4)) 5 .null) 1 3 (.ref 5))) (True) hX4 hi (by decide +kernel) rfl trivial ?_
  refine am_newa hX4 hi hm (t := 2) (N := 401) (n := (401 : Int32)) (at' := .long) (by simp) (by decide +kernel) (by decide +kernel) (by decide) (by decide) (by decide) ⟨by decide, by decide⟩ (by decide +kernel) (by decide +kernel) (fun ad5 e5 => ?_)
  have e5 : ∀ j, j ≠ 6 → ad5 j = ad4 j := e5
  have hX5 := hX4.adr (fun j hj => e5 j (by show j ≠ 6; omega))
  show am_V X 5 3227 _ (gS.take 7) ad5 (45, [(0, .ref 1)], [.ref 6, .ref 1], (am_z (am_z (am_z (am_z (am_z I 2 0) 3 0) 4 0) 5 0) 6 0), (am_z (am_z (am_z (am_z (am_z G 2 0) 3 0) 4 0) 5 0) 6 0), (am_z (am_up (am_z (am_up (am_z (am_up (am_z (am_up (am_z zP_1 2 .null) 1 0 (.ref 2)) 3 .null) 1 1 (.ref 3)) 4 .null) 1 2 (.ref 4)) 5 .null) 1 3 (.ref 5)) 6 .null))
  refine am_blk 45 [(.putfield 27, 3, 9, 4, .null), (.iconst (0), 1, 0, 0, .int (0 : Int32)), (.istore_n 1, 1, 1, 0, .null), (.lconst 0, 1, 0, 0, .long (0)), (.lstore_n 2, 1, 2, 0, .null), (.iconst (0), 1, 0, 0, .int (0 : Int32)), (.istore 4, 2, 4, 0, .null)] (55, [(0, .ref 1), (1, .int (0 : Int32)), (2, .long (0)), (4, .int (0 : Int32))], [], (am_z (am_z (am_z (am_z (am_z I 2 0) 3 0) 4 0) 5 0) 6 0), (am_z (am_z (am_z (am_z (am_z G 2 0) 3 0) 4 0) 5 0) 6 0), (am_up (am_z (am_up (am_z (am_up (am_z (am_up (am_z (am_up (am_z zP_1 2 .null) 1 0 (.ref 2)) 3 .null) 1 1 (.ref 3)) 4 .null) 1 2 (.ref 4)) 5 .null) 1 3 (.ref 5)) 6 .null) 1 4 (.ref 6))) (True) hX5 hi (by decide +kernel) rfl trivial ?_
  show am_V X 5 3227 _ (gS.take 7) ad5 (55, [(0, .ref 1), (1, .int 0), (2, .long 0), (4, .int 0)], [], (zI_X9a I), (zG_X9a G), zP_2)
  refine l_X9_init_1 hX5 hi FU _ _ _ _ _ _ hc9 (fun I7 G7 e => ?_)
  cases e
  exact am_vretA hX5 hi rfl (by decide +kernel) (fun j hj => by rw [e5 j (by omega), e4 j (by omega), e3 j (by omega), e2 j (by omega), e1 j (by omega)]) ⟨rfl, rfl, rfl, rfl, rfl⟩ ⟨by decide, by decide⟩
def zP_3 : am_P := (am_z zP_2 7 .null)
def zP_4 : am_P := (am_z (am_up (am_z (am_up (am_z (am_up (am_z (am_up (am_z (am_up (am_z (am_up (am_z (am_up (am_z (am_up (am_z zP_3 8 .null) 7 0 (.ref 8)) 9 .null) 7 1 (.ref 9)) 10 .null) 7 2 (.ref 10)) 11 .null) 7 3 (.ref 11)) 12 .null) 7 4 (.ref 12)) 13 .null) 7 5 (.ref 13)) 14 .null) 7 6 (.ref 14)) 15 .null) 7 7 (.ref 15)) 16 .null)
def zP_5 : am_P := (am_up (am_z (am_up (am_z (am_up (am_z (am_up (am_z (am_up (am_z (am_up (am_z (am_up (am_z (am_up (am_z zP_4 17 .null) 16 0 (.ref 17)) 18 .null) 16 1 (.ref 18)) 19 .null) 16 2 (.ref 19)) 20 .null) 16 3 (.ref 20)) 21 .null) 16 4 (.ref 21)) 22 .null) 16 5 (.ref 22)) 23 .null) 16 6 (.ref 23)) 24 .null) 16 7 (.ref 24))
def zI_X3_init_16 (I : am_I) : am_I := (am_z (am_z (am_z (am_z (am_z (am_z (am_z (am_z I 17 0) 18 0) 19 0) 20 0) 21 0) 22 0) 23 0) 24 0)
def zG_X3_init_16 (G : am_G) : am_G := (am_z (am_z (am_z (am_z (am_z (am_z (am_z (am_z G 17 0) 18 0) 19 0) 20 0) 21 0) 22 0) 23 0) 24 0)
set_option maxRecDepth 20000 in
set_option maxHeartbeats 4000000 in
theorem c_X3_init_16 (I : am_I) (G : am_G)  : am_CtA mX3_init 1 8 920 17 (gS.take 17) [.ref 16] I G zP_4 (am_pA (gS.take 25) (zI_X3_init_16 I) (zG_X3_init_16 G) zP_5) := by
  refine am_ofA (by decide +kernel) rfl (fun _ => rfl) (by decide) (Nat.le_of_ble_eq_true rfl) (fun X ad hX0 hi hm => ?_)
  have hi : am_info X 3 cX3_init 1 true none 1 := hi
  have hm : am_mem X 8 920 := hm
  show am_V X 0 0 _ (gS.take 17) ad (0, [(0, .ref 16)], [], I, G, zP_4)
  refine am_blk 0 [(.aload_n 0, 1, 0, 0, .null)] (1, [(0, .ref 16)], [.ref 16], I, G, zP_4) (True) hX0 hi (by decide +kernel) rfl trivial ?_
  refine am_obj hX0 hi (idx := 3) (by decide +kernel) (by decide +kernel) (Nat.le_of_ble_eq_true rfl) ?_
  show am_V X 0 0 _ (gS.take 17) ad (4, [(0, .ref 16)], [], I, G, zP_4)
  refine am_blk 4 [(.aload_n 0, 1, 0, 0, .null), (.bipush (20), 2, 0, 0, .int (20 : Int32))] (7, [(0, .ref 16)], [.int (20 : Int32), .ref 16], I, G, zP_4) (True) hX0 hi (by decide +kernel) rfl trivial ?_
  refine am_newa hX0 hi hm (t := 0) (N := 20) (n := (20 : Int32)) (at' := .int) (by simp) (by decide +kernel) (by decide +kernel) (by decide) (by decide) (by decide) ⟨by decide, by decide⟩ (by decide +kernel) (by decide +kernel) (fun ad1 e1 => ?_)
  have e1 : ∀ j, j ≠ 17 → ad1 j = ad j := e1
  have hX1 := hX0.adr (fun j hj => e1 j (by show j ≠ 17; omega))
  show am_V X 1 20 _ (gS.take 18) ad1 (9, [(0, .ref 16)], [.ref 17, .ref 16], (am_z I 17 0), (am_z G 17 0), (am_z zP_4 17 .null))
  refine am_blk 9 [(.putfield 9, 3, 3, 0, .null), (.aload_n 0, 1, 0, 0, .null), (.bipush (20), 2, 0, 0, .int (20 : Int32))] (15, [(0, .ref 16)], [.int (20 : Int32), .ref 16], (am_z I 17 0), (am_z G 17 0), (am_up (am_z zP_4 17 .null) 16 0 (.ref 17))) (True) hX1 hi (by decide +kernel) rfl trivial ?_
  refine am_newa hX1 hi hm (t := 0) (N := 20) (n := (20 : Int32)) (at' := .int) (by simp) (by decide +kernel) (by decide +kernel) (by decide) (by decide) (by decide) ⟨by decide, by decide⟩ (by decide +kernel) (by decide +kernel) (fun ad2 e2 => ?_)
  have e2 : ∀ j, j ≠ 18 → ad2 j = ad1 j := e2
  have hX2 := hX1.adr (fun j hj => e2 j (by show j ≠ 18; omega))
  show am_V X 2 40 _ (gS.take 19) ad2 (17, [(0, .ref 16)], [.ref 18, .ref 16], (am_z (am_z I 17 0) 18 0), (am_z (am_z G 17 0) 18 0), (am_z (am_up (am_z zP_4 17 .null) 16 0 (.ref 17)) 18 .null))
  refine am_blk 17 [(.putfield 15, 3, 3, 1, .null), (.aload_n 0, 1, 0, 0, .null), (.bipush (20), 2, 0, 0, .int (20 : Int32))] (23, [(0, .ref 16)], [.int (20 : Int32), .ref 16], (am_z (am_z I 17 0) 18 0), (am_z (am_z G 17 0) 18 0), (am_up (am_z (am_up (am_z zP_4 17 .null) 16 0 (.ref 17)) 18 .null) 16 1 (.ref 18))) (True) hX2 hi (by decide +kernel) rfl trivial ?_
  refine am_newa hX2 hi hm (t := 0) (N := 20) (n := (20 : Int32)) (at' := .int) (by simp) (by decide +kernel) (by decide +kernel) (by decide) (by decide) (by decide) ⟨by decide, by decide⟩ (by decide +kernel) (by decide +kernel) (fun ad3 e3 => ?_)
  have e3 : ∀ j, j ≠ 19 → ad3 j = ad2 j := e3
  have hX3 := hX2.adr (fun j hj => e3 j (by show j ≠ 19; omega))
  show am_V X 3 60 _ (gS.take 20) ad3 (25, [(0, .ref 16)], [.ref 19, .ref 16], (am_z (am_z (am_z I 17 0) 18 0) 19 0), (am_z (am_z (am_z G 17 0) 18 0) 19 0), (am_z (am_up (am_z (am_up (am_z zP_4 17 .null) 16 0 (.ref 17)) 18 .null) 16 1 (.ref 18)) 19 .null))
  refine am_blk 25 [(.putfield 18, 3, 3, 2, .null), (.aload_n 0, 1, 0, 0, .null), (.bipush (20), 2, 0, 0, .int (20 : Int32))] (31, [(0, .ref 16)], [.int (20 : Int32), .ref 16], (am_z (am_z (am_z I 17 0) 18 0) 19 0), (am_z (am_z (am_z G 17 0) 18 0) 19 0), (am_up (am_z (am_up (am_z (am_up (am_z zP_4 17 .null) 16 0 (.ref 17)) 18 .null) 16 1 (.ref 18)) 19 .null) 16 2 (.ref 19))) (True) hX3 hi (by decide +kernel) rfl trivial ?_
  refine am_newa hX3 hi hm (t := 0) (N := 20) (n := (20 : Int32)) (at' := .int) (by simp) (by decide +kernel) (by decide +kernel) (by decide) (by decide) (by decide) ⟨by decide, by decide⟩ (by decide +kernel) (by decide +kernel) (fun ad4 e4 => ?_)
  have e4 : ∀ j, j ≠ 20 → ad4 j = ad3 j := e4
  have hX4 := hX3.adr (fun j hj => e4 j (by show j ≠ 20; omega))
  show am_V X 4 80 _ (gS.take 21) ad4 (33, [(0, .ref 16)], [.ref 20, .ref 16], (am_z (am_z (am_z (am_z I 17 0) 18 0) 19 0) 20 0), (am_z (am_z (am_z (am_z G 17 0) 18 0) 19 0) 20 0), (am_z (am_up (am_z (am_up (am_z (am_up (am_z zP_4 17 .null) 16 0 (.ref 17)) 18 .null) 16 1 (.ref 18)) 19 .null) 16 2 (.ref 19)) 20 .null))
  refine am_blk 33 [(.putfield 21, 3, 3, 3, .null), (.aload_n 0, 1, 0, 0, .null), (.bipush (20), 2, 0, 0, .int (20 : Int32))] (39, [(0, .ref 16)], [.int (20 : Int32), .ref 16], (am_z (am_z (am_z (am_z I 17 0) 18 0) 19 0) 20 0), (am_z (am_z (am_z (am_z G 17 0) 18 0) 19 0) 20 0), (am_up (am_z (am_up (am_z (am_up (am_z (am_up (am_z zP_4 17 .null) 16 0 (.ref 17)) 18 .null) 16 1 (.ref 18)) 19 .null) 16 2 (.ref 19)) 20 .null) 16 3 (.ref 20))) (True) hX4 hi (by decide +kernel) rfl trivial ?_
  refine am_newa hX4 hi hm (t := 0) (N := 20) (n := (20 : Int32)) (at' := .int) (by simp) (by decide +kernel) (by decide +kernel) (by decide) (by decide) (by decide) ⟨by decide, by decide⟩ (by decide +kernel) (by decide +kernel) (fun ad5 e5 => ?_)
  have e5 : ∀ j, j ≠ 21 → ad5 j = ad4 j := e5
  have hX5 := hX4.adr (fun j hj => e5 j (by show j ≠ 21; omega))
  show am_V X 5 100 _ (gS.take 22) ad5 (41, [(0, .ref 16)], [.ref 21, .ref 16], (am_z (am_z (am_z (am_z (am_z I 17 0) 18 0) 19 0) 20 0) 21 0), (am_z (am_z (am_z (am_z (am_z G 17 0) 18 0) 19 0) 20 0) 21 0), (am_z (am_up (am_z (am_up (am_z (am_up (am_z (am_up (am_z zP_4 17 .null) 16 0 (.ref 17)) 18 .null) 16 1 (.ref 18)) 19 .null) 16 2 (.ref 19)) 20 .null) 16 3 (.ref 20)) 21 .null))
  refine am_blk 41 [(.putfield 24, 3, 3, 4, .null), (.aload_n 0, 1, 0, 0, .null), (.bipush (20), 2, 0, 0, .int (20 : Int32))] (47, [(0, .ref 16)], [.int (20 : Int32), .ref 16], (am_z (am_z (am_z (am_z (am_z I 17 0) 18 0) 19 0) 20 0) 21 0), (am_z (am_z (am_z (am_z (am_z G 17 0) 18 0) 19 0) 20 0) 21 0), (am_up (am_z (am_up (am_z (am_up (am_z (am_up (am_z (am_up (am_z zP_4 17 .null) 16 0 (.ref 17)) 18 .null) 16 1 (.ref 18)) 19 .null) 16 2 (.ref 19)) 20 .null) 16 3 (.ref 20)) 21 .null) 16 4 (.ref 21))) (True) hX5 hi (by decide +kernel) rfl trivial ?_
  refine am_newa hX5 hi hm (t := 0) (N := 20) (n := (20 : Int32)) (at' := .int) (by simp) (by decide +kernel) (by decide +kernel) (by decide) (by decide) (by decide) ⟨by decide, by decide⟩ (by decide +kernel) (by decide +kernel) (fun ad6 e6 => ?_)
  have e6 : ∀ j, j ≠ 22 → ad6 j = ad5 j := e6
  have hX6 := hX5.adr (fun j hj => e6 j (by show j ≠ 22; omega))
  show am_V X 6 120 _ (gS.take 23) ad6 (49, [(0, .ref 16)], [.ref 22, .ref 16], (am_z (am_z (am_z (am_z (am_z (am_z I 17 0) 18 0) 19 0) 20 0) 21 0) 22 0), (am_z (am_z (am_z (am_z (am_z (am_z G 17 0) 18 0) 19 0) 20 0) 21 0) 22 0), (am_z (am_up (am_z (am_up (am_z (am_up (am_z (am_up (am_z (am_up (am_z zP_4 17 .null) 16 0 (.ref 17)) 18 .null) 16 1 (.ref 18)) 19 .null) 16 2 (.ref 19)) 20 .null) 16 3 (.ref 20)) 21 .null) 16 4 (.ref 21)) 22 .null))
  refine am_blk 49 [(.putfield 27, 3, 3, 5, .null), (.aload_n 0, 1, 0, 0, .null), (.sipush (400), 3, 0, 0, .int (400 : Int32))] (56, [(0, .ref 16)], [.int (400 : Int32), .ref 16], (am_z (am_z (am_z (am_z (am_z (am_z I 17 0) 18 0) 19 0) 20 0) 21 0) 22 0), (am_z (am_z (am_z (am_z (am_z (am_z G 17 0) 18 0) 19 0) 20 0) 21 0) 22 0), (am_up (am_z (am_up (am_z (am_up (am_z (am_up (am_z (am_up (am_z (am_up (am_z zP_4 17 .null) 16 0 (.ref 17)) 18 .null) 16 1 (.ref 18)) 19 .null) 16 2 (.ref 19)) 20 .null) 16 3 (.ref 20)) 21 .null) 16 4 (.ref 21)) 22 .null) 16 5 (.ref 22))) (True) hX6 hi (by decide +kernel) rfl trivial ?_
  refine am_newa hX6 hi hm (t := 0) (N := 400) (n := (400 : Int32)) (at' := .int) (by simp) (by decide +kernel) (by decide +kernel) (by decide) (by decide) (by decide) ⟨by decide, by decide⟩ (by decide +kernel) (by decide +kernel) (fun ad7 e7 => ?_)
  have e7 : ∀ j, j ≠ 23 → ad7 j = ad6 j := e7
  have hX7 := hX6.adr (fun j hj => e7 j (by show j ≠ 23; omega))
  show am_V X 7 520 _ (gS.take 24) ad7 (58, [(0, .ref 16)], [.ref 23, .ref 16], (am_z (am_z (am_z (am_z (am_z (am_z (am_z I 17 0) 18 0) 19 0) 20 0) 21 0) 22 0) 23 0), (am_z (am_z (am_z (am_z (am_z (am_z (am_z G 17 0) 18 0) 19 0) 20 0) 21 0) 22 0) 23 0), (am_z (am_up (am_z (am_up (am_z (am_up (am_z (am_up (am_z (am_up (am_z (am_up (am_z zP_4 17 .null) 16 0 (.ref 17)) 18 .null) 16 1 (.ref 18)) 19 .null) 16 2 (.ref 19)) 20 .null) 16 3 (.ref 20)) 21 .null) 16 4 (.ref 21)) 22 .null) 16 5 (.ref 22)) 23 .null))
  refine am_blk 58 [(.putfield 30, 3, 3, 6, .null), (.aload_n 0, 1, 0, 0, .null), (.sipush (400), 3, 0, 0, .int (400 : Int32))] (65, [(0, .ref 16)], [.int (400 : Int32), .ref 16], (am_z (am_z (am_z (am_z (am_z (am_z (am_z I 17 0) 18 0) 19 0) 20 0) 21 0) 22 0) 23 0), (am_z (am_z (am_z (am_z (am_z (am_z (am_z G 17 0) 18 0) 19 0) 20 0) 21 0) 22 0) 23 0), (am_up (am_z (am_up (am_z (am_up (am_z (am_up (am_z (am_up (am_z (am_up (am_z (am_up (am_z zP_4 17 .null) 16 0 (.ref 17)) 18 .null) 16 1 (.ref 18)) 19 .null) 16 2 (.ref 19)) 20 .null) 16 3 (.ref 20)) 21 .null) 16 4 (.ref 21)) 22 .null) 16 5 (.ref 22)) 23 .null) 16 6 (.ref 23))) (True) hX7 hi (by decide +kernel) rfl trivial ?_
  refine am_newa hX7 hi hm (t := 0) (N := 400) (n := (400 : Int32)) (at' := .int) (by simp) (by decide +kernel) (by decide +kernel) (by decide) (by decide) (by decide) ⟨by decide, by decide⟩ (by decide +kernel) (by decide +kernel) (fun ad8 e8 => ?_)
  have e8 : ∀ j, j ≠ 24 → ad8 j = ad7 j := e8
  have hX8 := hX7.adr (fun j hj => e8 j (by show j ≠ 24; omega))
  show am_V X 8 920 _ (gS.take 25) ad8 (67, [(0, .ref 16)], [.ref 24, .ref 16], (am_z (am_z (am_z (am_z (am_z (am_z (am_z (am_z I 17 0) 18 0) 19 0) 20 0) 21 0) 22 0) 23 0) 24 0), (am_z (am_z (am_z (am_z (am_z (am_z (am_z (am_z G 17 0) 18 0) 19 0) 20 0) 21 0) 22 0) 23 0) 24 0), (am_z (am_up (am_z (am_up (am_z (am_up (am_z (am_up (am_z (am_up (am_z (am_up (am_z (am_up (am_z zP_4 17 .null) 16 0 (.ref 17)) 18 .null) 16 1 (.ref 18)) 19 .null) 16 2 (.ref 19)) 20 .null) 16 3 (.ref 20)) 21 .null) 16 4 (.ref 21)) 22 .null) 16 5 (.ref 22)) 23 .null) 16 6 (.ref 23)) 24 .null))
  refine am_blk 67 [(.putfield 33, 3, 3, 7, .null)] (70, [(0, .ref 16)], [], (am_z (am_z (am_z (am_z (am_z (am_z (am_z (am_z I 17 0) 18 0) 19 0) 20 0) 21 0) 22 0) 23 0) 24 0), (am_z (am_z (am_z (am_z (am_z (am_z (am_z (am_z G 17 0) 18 0) 19 0) 20 0) 21 0) 22 0) 23 0) 24 0), (am_up (am_z (am_up (am_z (am_up (am_z (am_up (am_z (am_up (am_z (am_up (am_z (am_up (am_z (am_up (am_z zP_4 17 .null) 16 0 (.ref 17)) 18 .null) 16 1 (.ref 18)) 19 .null) 16 2 (.ref 19)) 20 .null) 16 3 (.ref 20)) 21 .null) 16 4 (.ref 21)) 22 .null) 16 5 (.ref 22)) 23 .null) 16 6 (.ref 23)) 24 .null) 16 7 (.ref 24))) (True) hX8 hi (by decide +kernel) rfl trivial ?_
  exact am_vretA hX8 hi rfl (by decide +kernel) (fun j hj => by rw [e8 j (by omega), e7 j (by omega), e6 j (by omega), e5 j (by omega), e4 j (by omega), e3 j (by omega), e2 j (by omega), e1 j (by omega)]) ⟨rfl, rfl, rfl, rfl, rfl⟩ ⟨by decide, by decide⟩
def zP_6 : am_P := (am_up zP_5 7 8 (.ref 16))
def zI_X5_init_7 (I : am_I) : am_I := (am_up (am_up (zI_X3_init_16 (am_z (am_z (am_z (am_z (am_z (am_z (am_z (am_z (am_z I 8 0) 9 0) 10 0) 11 0) 12 0) 13 0) 14 0) 15 0) 16 0)) 7 9 (16 : Int32)) 7 10 (12 : Int32))
def zG_X5_init_7 (G : am_G) : am_G := (zG_X3_init_16 (am_z (am_z (am_z (am_z (am_z (am_z (am_z (am_z (am_z G 8 0) 9 0) 10 0) 11 0) 12 0) 13 0) 14 0) 15 0) 16 0))
set_option maxRecDepth 20000 in
set_option maxHeartbeats 4000000 in
theorem c_X5_init_7 (I : am_I) (G : am_G)  : am_CtA mX5_init 2 17 963 8 (gS.take 8) [.ref 7] I G zP_3 (am_pA (gS.take 25) (zI_X5_init_7 I) (zG_X5_init_7 G) zP_6) := by
  refine am_ofA (by decide +kernel) rfl (fun _ => rfl) (by decide) (Nat.le_of_ble_eq_true rfl) (fun X ad hX0 hi hm => ?_)
  have hi : am_info X 5 cX5_init 1 true none 2 := hi
  have hm : am_mem X 17 963 := hm
  show am_V X 0 0 _ (gS.take 8) ad (0, [(0, .ref 7)], [], I, G, zP_3)
  refine am_blk 0 [(.aload_n 0, 1, 0, 0, .null)] (1, [(0, .ref 7)], [.ref 7], I, G, zP_3) (True) hX0 hi (by decide +kernel) rfl trivial ?_
  refine am_obj hX0 hi (idx := 3) (by decide +kernel) (by decide +kernel) (Nat.le_of_ble_eq_true rfl) ?_
  show am_V X 0 0 _ (gS.take 8) ad (4, [(0, .ref 7)], [], I, G, zP_3)
  refine am_blk 4 [(.aload_n 0, 1, 0, 0, .null), (.iconst (4), 1, 0, 0, .int (4 : Int32))] (6, [(0, .ref 7)], [.int (4 : Int32), .ref 7], I, G, zP_3) (True) hX0 hi (by decide +kernel) rfl trivial ?_
  refine am_newa hX0 hi hm (t := 0) (N := 4) (n := (4 : Int32)) (at' := .int) (by simp) (by decide +kernel) (by decide +kernel) (by decide) (by decide) (by decide) ⟨by decide, by decide⟩ (by decide +kernel) (by decide +kernel) (fun ad1 e1 => ?_)
  have e1 : ∀ j, j ≠ 8 → ad1 j = ad j := e1
  have hX1 := hX0.adr (fun j hj => e1 j (by show j ≠ 8; omega))
  show am_V X 1 4 _ (gS.take 9) ad1 (8, [(0, .ref 7)], [.ref 8, .ref 7], (am_z I 8 0), (am_z G 8 0), (am_z zP_3 8 .null))
  refine am_blk 8 [(.putfield 9, 3, 5, 0, .null), (.aload_n 0, 1, 0, 0, .null), (.iconst (4), 1, 0, 0, .int (4 : Int32))] (13, [(0, .ref 7)], [.int (4 : Int32), .ref 7], (am_z I 8 0), (am_z G 8 0), (am_up (am_z zP_3 8 .null) 7 0 (.ref 8))) (True) hX1 hi (by decide +kernel) rfl trivial ?_
  refine am_newa hX1 hi hm (t := 0) (N := 4) (n := (4 : Int32)) (at' := .int) (by simp) (by decide +kernel) (by decide +kernel) (by decide) (by decide) (by decide) ⟨by decide, by decide⟩ (by decide +kernel) (by decide +kernel) (fun ad2 e2 => ?_)
  have e2 : ∀ j, j ≠ 9 → ad2 j = ad1 j := e2
  have hX2 := hX1.adr (fun j hj => e2 j (by show j ≠ 9; omega))
  show am_V X 2 8 _ (gS.take 10) ad2 (15, [(0, .ref 7)], [.ref 9, .ref 7], (am_z (am_z I 8 0) 9 0), (am_z (am_z G 8 0) 9 0), (am_z (am_up (am_z zP_3 8 .null) 7 0 (.ref 8)) 9 .null))
  refine am_blk 15 [(.putfield 15, 3, 5, 1, .null), (.aload_n 0, 1, 0, 0, .null), (.iconst (4), 1, 0, 0, .int (4 : Int32))] (20, [(0, .ref 7)], [.int (4 : Int32), .ref 7], (am_z (am_z I 8 0) 9 0), (am_z (am_z G 8 0) 9 0), (am_up (am_z (am_up (am_z zP_3 8 .null) 7 0 (.ref 8)) 9 .null) 7 1 (.ref 9))) (True) hX2 hi (by decide +kernel) rfl trivial ?_
  refine am_newa hX2 hi hm (t := 0) (N := 4) (n := (4 : Int32)) (at' := .int) (by simp) (by decide +kernel) (by decide +kernel) (by decide) (by decide) (by decide) ⟨by decide, by decide⟩ (by decide +kernel) (by decide +kernel) (fun ad3 e3 => ?_)
  have e3 : ∀ j, j ≠ 10 → ad3 j = ad2 j := e3
  have hX3 := hX2.adr (fun j hj => e3 j (by show j ≠ 10; omega))
  show am_V X 3 12 _ (gS.take 11) ad3 (22, [(0, .ref 7)], [.ref 10, .ref 7], (am_z (am_z (am_z I 8 0) 9 0) 10 0), (am_z (am_z (am_z G 8 0) 9 0) 10 0), (am_z (am_up (am_z (am_up (am_z zP_3 8 .null) 7 0 (.ref 8)) 9 .null) 7 1 (.ref 9)) 10 .null))
  refine am_blk 22 [(.putfield 18, 3, 5, 2, .null), (.aload_n 0, 1, 0, 0, .null), (.iconst (4), 1, 0, 0, .int (4 : Int32))] (27, [(0, .ref 7)], [.int (4 : Int32), .ref 7], (am_z (am_z (am_z I 8 0) 9 0) 10 0), (am_z (am_z (am_z G 8 0) 9 0) 10 0), (am_up (am_z (am_up (am_z (am_up (am_z zP_3 8 .null) 7 0 (.ref 8)) 9 .null) 7 1 (.ref 9)) 10 .null) 7 2 (.ref 10))) (True) hX3 hi (by decide +kernel) rfl trivial ?_
  refine am_newa hX3 hi hm (t := 0) (N := 4) (n := (4 : Int32)) (at' := .int) (by simp) (by decide +kernel) (by decide +kernel) (by decide) (by decide) (by decide) ⟨by decide, by decide⟩ (by decide +kernel) (by decide +kernel) (fun ad4 e4 => ?_)
  have e4 : ∀ j, j ≠ 11 → ad4 j = ad3 j := e4
  have hX4 := hX3.adr (fun j hj => e4 j (by show j ≠ 11; omega))
  show am_V X 4 16 _ (gS.take 12) ad4 (29, [(0, .ref 7)], [.ref 11, .ref 7], (am_z (am_z (am_z (am_z I 8 0) 9 0) 10 0) 11 0), (am_z (am_z (am_z (am_z G 8 0) 9 0) 10 0) 11 0), (am_z (am_up (am_z (am_up (am_z (am_up (am_z zP_3 8 .null) 7 0 (.ref 8)) 9 .null) 7 1 (.ref 9)) 10 .null) 7 2 (.ref 10)) 11 .null))
  refine am_blk 29 [(.putfield 21, 3, 5, 3, .null), (.aload_n 0, 1, 0, 0, .null), (.iconst (4), 1, 0, 0, .int (4 : Int32))] (34, [(0, .ref 7)], [.int (4 : Int32), .ref 7], (am_z (am_z (am_z (am_z I 8 0) 9 0) 10 0) 11 0), (am_z (am_z (am_z (am_z G 8 0) 9 0) 10 0) 11 0), (am_up (am_z (am_up (am_z (am_up (am_z (am_up (am_z zP_3 8 .null) 7 0 (.ref 8)) 9 .null) 7 1 (.ref 9)) 10 .null) 7 2 (.ref 10)) 11 .null) 7 3 (.ref 11))) (True) hX4 hi (by decide +kernel) rfl trivial ?_
  refine am_newa hX4 hi hm (t := 0) (N := 4) (n := (4 : Int32)) (at' := .int) (by simp) (by decide +kernel) (by decide +kernel) (by decide) (by decide) (by decide) ⟨by decide, by decide⟩ (by decide +kernel) (by decide +kernel) (fun ad5 e5 => ?_)
  have e5 : ∀ j, j ≠ 12 → ad5 j = ad4 j := e5
  have hX5 := hX4.adr (fun j hj => e5 j (by show j ≠ 12; omega))
  show am_V X 5 20 _ (gS.take 13) ad5 (36, [(0, .ref 7)], [.ref 12, .ref 7], (am_z (am_z (am_z (am_z (am_z I 8 0) 9 0) 10 0) 11 0) 12 0), (am_z (am_z (am_z (am_z (am_z G 8 0) 9 0) 10 0) 11 0) 12 0), (am_z (am_up (am_z (am_up (am_z (am_up (am_z (am_up (am_z zP_3 8 .null) 7 0 (.ref 8)) 9 .null) 7 1 (.ref 9)) 10 .null) 7 2 (.ref 10)) 11 .null) 7 3 (.ref 11)) 12 .null))
  refine am_blk 36 [(.putfield 24, 3, 5, 4, .null), (.aload_n 0, 1, 0, 0, .null), (.iconst (4), 1, 0, 0, .int (4 : Int32))] (41, [(0, .ref 7)], [.int (4 : Int32), .ref 7], (am_z (am_z (am_z (am_z (am_z I 8 0) 9 0) 10 0) 11 0) 12 0), (am_z (am_z (am_z (am_z (am_z G 8 0) 9 0) 10 0) 11 0) 12 0), (am_up (am_z (am_up (am_z (am_up (am_z (am_up (am_z (am_up (am_z zP_3 8 .null) 7 0 (.ref 8)) 9 .null) 7 1 (.ref 9)) 10 .null) 7 2 (.ref 10)) 11 .null) 7 3 (.ref 11)) 12 .null) 7 4 (.ref 12))) (True) hX5 hi (by decide +kernel) rfl trivial ?_
  refine am_newa hX5 hi hm (t := 0) (N := 4) (n := (4 : Int32)) (at' := .int) (by simp) (by decide +kernel) (by decide +kernel) (by decide) (by decide) (by decide) ⟨by decide, by decide⟩ (by decide +kernel) (by decide +kernel) (fun ad6 e6 => ?_)
  have e6 : ∀ j, j ≠ 13 → ad6 j = ad5 j := e6
  have hX6 := hX5.adr (fun j hj => e6 j (by show j ≠ 13; omega))
  show am_V X 6 24 _ (gS.take 14) ad6 (43, [(0, .ref 7)], [.ref 13, .ref 7], (am_z (am_z (am_z (am_z (am_z (am_z I 8 0) 9 0) 10 0) 11 0) 12 0) 13 0), (am_z (am_z (am_z (am_z (am_z (am_z G 8 0) 9 0) 10 0) 11 0) 12 0) 13 0), (am_z (am_up (am_z (am_up (am_z (am_up (am_z (am_up (am_z (am_up (am_z zP_3 8 .null) 7 0 (.ref 8)) 9 .null) 7 1 (.ref 9)) 10 .null) 7 2 (.ref 10)) 11 .null) 7 3 (.ref 11)) 12 .null) 7 4 (.ref 12)) 13 .null))
  refine am_blk 43 [(.putfield 27, 3, 5, 5, .null), (.aload_n 0, 1, 0, 0, .null), (.iconst (4), 1, 0, 0, .int (4 : Int32))] (48, [(0, .ref 7)], [.int (4 : Int32), .ref 7], (am_z (am_z (am_z (am_z (am_z (am_z I 8 0) 9 0) 10 0) 11 0) 12 0) 13 0), (am_z (am_z (am_z (am_z (am_z (am_z G 8 0) 9 0) 10 0) 11 0) 12 0) 13 0), (am_up (am_z (am_up (am_z (am_up (am_z (am_up (am_z (am_up (am_z (am_up (am_z zP_3 8 .null) 7 0 (.ref 8)) 9 .null) 7 1 (.ref 9)) 10 .null) 7 2 (.ref 10)) 11 .null) 7 3 (.ref 11)) 12 .null) 7 4 (.ref 12)) 13 .null) 7 5 (.ref 13))) (True) hX6 hi (by decide +kernel) rfl trivial ?_
  refine am_newa hX6 hi hm (t := 0) (N := 4) (n := (4 : Int32)) (at' := .int) (by simp) (by decide +kernel) (by decide +kernel) (by decide) (by decide) (by decide) ⟨by decide, by decide⟩ (by decide +kernel) (by decide +kernel) (fun ad7 e7 => ?_)
  have e7 : ∀ j, j ≠ 14 → ad7 j = ad6 j := e7
  have hX7 := hX6.adr (fun j hj => e7 j (by show j ≠ 14; omega))
  show am_V X 7 28 _ (gS.take 15) ad7 (50, [(0, .ref 7)], [.ref 14, .ref 7], (am_z (am_z (am_z (am_z (am_z (am_z (am_z I 8 0) 9 0) 10 0) 11 0) 12 0) 13 0) 14 0), (am_z (am_z (am_z (am_z (am_z (am_z (am_z G 8 0) 9 0) 10 0) 11 0) 12 0) 13 0) 14 0), (am_z (am_up (am_z (am_up (am_z (am_up (am_z (am_up (am_z (am_up (am_z (am_up (am_z zP_3 8 .null) 7 0 (.ref 8)) 9 .null) 7 1 (.ref 9)) 10 .null) 7 2 (.ref 10)) 11 .null) 7 3 (.ref 11)) 12 .null) 7 4 (.ref 12)) 13 .null) 7 5 (.ref 13)) 14 .null))
  refine am_blk 50 [(.putfield 30, 3, 5, 6, .null), (.aload_n 0, 1, 0, 0, .null), (.iconst (5), 1, 0, 0, .int (5 : Int32))] (55, [(0, .ref 7)], [.int (5 : Int32), .ref 7], (am_z (am_z (am_z (am_z (am_z (am_z (am_z I 8 0) 9 0) 10 0) 11 0) 12 0) 13 0) 14 0), (am_z (am_z (am_z (am_z (am_z (am_z (am_z G 8 0) 9 0) 10 0) 11 0) 12 0) 13 0) 14 0), (am_up (am_z (am_up (am_z (am_up (am_z (am_up (am_z (am_up (am_z (am_up (am_z (am_up (am_z zP_3 8 .null) 7 0 (.ref 8)) 9 .null) 7 1 (.ref 9)) 10 .null) 7 2 (.ref 10)) 11 .null) 7 3 (.ref 11)) 12 .null) 7 4 (.ref 12)) 13 .null) 7 5 (.ref 13)) 14 .null) 7 6 (.ref 14))) (True) hX7 hi (by decide +kernel) rfl trivial ?_
  refine am_newa hX7 hi hm (t := 0) (N := 5) (n := (5 : Int32)) (at' := .int) (by simp) (by decide +kernel) (by decide +kernel) (by decide) (by decide) (by decide) ⟨by decide, by decide⟩ (by decide +kernel) (by decide +kernel) (fun ad8 e8 => ?_)
  have e8 : ∀ j, j ≠ 15 → ad8 j = ad7 j := e8
  have hX8 := hX7.adr (fun j hj => e8 j (by show j ≠ 15; omega))
  show am_V X 8 33 _ (gS.take 16) ad8 (57, [(0, .ref 7)], [.ref 15, .ref 7], (am_z (am_z (am_z (am_z (am_z (am_z (am_z (am_z I 8 0) 9 0) 10 0) 11 0) 12 0) 13 0) 14 0) 15 0), (am_z (am_z (am_z (am_z (am_z (am_z (am_z (am_z G 8 0) 9 0) 10 0) 11 0) 12 0) 13 0) 14 0) 15 0), (am_z (am_up (am_z (am_up (am_z (am_up (am_z (am_up (am_z (am_up (am_z (am_up (am_z (am_up (am_z zP_3 8 .null) 7 0 (.ref 8)) 9 .null) 7 1 (.ref 9)) 10 .null) 7 2 (.ref 10)) 11 .null) 7 3 (.ref 11)) 12 .null) 7 4 (.ref 12)) 13 .null) 7 5 (.ref 13)) 14 .null) 7 6 (.ref 14)) 15 .null))
  refine am_blk 57 [(.putfield 33, 3, 5, 7, .null), (.aload_n 0, 1, 0, 0, .null)] (61, [(0, .ref 7)], [.ref 7], (am_z (am_z (am_z (am_z (am_z (am_z (am_z (am_z I 8 0) 9 0) 10 0) 11 0) 12 0) 13 0) 14 0) 15 0), (am_z (am_z (am_z (am_z (am_z (am_z (am_z (am_z G 8 0) 9 0) 10 0) 11 0) 12 0) 13 0) 14 0) 15 0), (am_up (am_z (am_up (am_z (am_up (am_z (am_up (am_z (am_up (am_z (am_up (am_z (am_up (am_z (am_up (am_z zP_3 8 .null) 7 0 (.ref 8)) 9 .null) 7 1 (.ref 9)) 10 .null) 7 2 (.ref 10)) 11 .null) 7 3 (.ref 11)) 12 .null) 7 4 (.ref 12)) 13 .null) 7 5 (.ref 13)) 14 .null) 7 6 (.ref 14)) 15 .null) 7 7 (.ref 15))) (True) hX8 hi (by decide +kernel) rfl trivial ?_
  refine am_new hX8 hi hm (ci := 3) (idx := 36) rfl (by decide +kernel) (by decide +kernel) (by decide +kernel) (by decide +kernel) ⟨by decide, by decide⟩ (by decide +kernel) (by decide +kernel) (fun ad9 e9 => ?_)
  have e9 : ∀ j, j ≠ 16 → ad9 j = ad8 j := e9
  have hX9 := hX8.adr (fun j hj => e9 j (by show j ≠ 16; omega))
  show am_V X 9 43 _ (gS.take 17) ad9 (64, [(0, .ref 7)], [.ref 16, .ref 7], (am_z (am_z (am_z (am_z (am_z (am_z (am_z (am_z (am_z I 8 0) 9 0) 10 0) 11 0) 12 0) 13 0) 14 0) 15 0) 16 0), (am_z (am_z (am_z (am_z (am_z (am_z (am_z (am_z (am_z G 8 0) 9 0) 10 0) 11 0) 12 0) 13 0) 14 0) 15 0) 16 0), (am_z (am_up (am_z (am_up (am_z (am_up (am_z (am_up (am_z (am_up (am_z (am_up (am_z (am_up (am_z (am_up (am_z zP_3 8 .null) 7 0 (.ref 8)) 9 .null) 7 1 (.ref 9)) 10 .null) 7 2 (.ref 10)) 11 .null) 7 3 (.ref 11)) 12 .null) 7 4 (.ref 12)) 13 .null) 7 5 (.ref 13)) 14 .null) 7 6 (.ref 14)) 15 .null) 7 7 (.ref 15)) 16 .null))
  refine am_blk 64 [(.dup, 1, 0, 0, .null)] (65, [(0, .ref 7)], [.ref 16, .ref 16, .ref 7], (am_z (am_z (am_z (am_z (am_z (am_z (am_z (am_z (am_z I 8 0) 9 0) 10 0) 11 0) 12 0) 13 0) 14 0) 15 0) 16 0), (am_z (am_z (am_z (am_z (am_z (am_z (am_z (am_z (am_z G 8 0) 9 0) 10 0) 11 0) 12 0) 13 0) 14 0) 15 0) 16 0), (am_z (am_up (am_z (am_up (am_z (am_up (am_z (am_up (am_z (am_up (am_z (am_up (am_z (am_up (am_z (am_up (am_z zP_3 8 .null) 7 0 (.ref 8)) 9 .null) 7 1 (.ref 9)) 10 .null) 7 2 (.ref 10)) 11 .null) 7 3 (.ref 11)) 12 .null) 7 4 (.ref 12)) 13 .null) 7 5 (.ref 13)) 14 .null) 7 6 (.ref 14)) 15 .null) 7 7 (.ref 15)) 16 .null)) (True) hX9 hi (by decide +kernel) rfl trivial ?_
  show am_V X 9 43 _ (gS.take 17) ad9 (65, [(0, .ref 7)], [.ref 16, .ref 16, .ref 7], (am_z (am_z (am_z (am_z (am_z (am_z (am_z (am_z (am_z I 8 0) 9 0) 10 0) 11 0) 12 0) 13 0) 14 0) 15 0) 16 0), (am_z (am_z (am_z (am_z (am_z (am_z (am_z (am_z (am_z G 8 0) 9 0) 10 0) 11 0) 12 0) 13 0) 14 0) 15 0) 16 0), zP_4)
  refine am_callIN hX9 hi hm (M := mX3_init) (idx := 38) (d' := 1) (mc := 8) (ms := 920) (keep := 17) (As := []) (rest := [.ref 16, .ref 7]) mkX3_init miX3_init rfl rfl (by decide +kernel) (by decide +kernel) rfl ⟨by decide, by decide, Nat.le_of_ble_eq_true rfl⟩ rfl ⟨by decide, by decide⟩ (by decide +kernel) (c_X3_init_16 (am_z (am_z (am_z (am_z (am_z (am_z (am_z (am_z (am_z I 8 0) 9 0) 10 0) 11 0) 12 0) 13 0) 14 0) 15 0) 16 0) (am_z (am_z (am_z (am_z (am_z (am_z (am_z (am_z (am_z G 8 0) 9 0) 10 0) 11 0) 12 0) 13 0) 14 0) 15 0) 16 0)) ?_
  rintro r7 sh7 ad10 I7 G7 P7 ⟨q0, q1, q2, q3, q4⟩ e10
  rw [q0, q1, q2, q3, q4]
  have hX10 := hX9.adr (fun j hj => e10 j (Or.inr hj))
  show am_V X 17 963 _ (gS.take 25) ad10 (68, [(0, .ref 7)], [.ref 16, .ref 7], (zI_X3_init_16 (am_z (am_z (am_z (am_z (am_z (am_z (am_z (am_z (am_z I 8 0) 9 0) 10 0) 11 0) 12 0) 13 0) 14 0) 15 0) 16 0)), (zG_X3_init_16 (am_z (am_z (am_z (am_z (am_z (am_z (am_z (am_z (am_z G 8 0) 9 0) 10 0) 11 0) 12 0) 13 0) 14 0) 15 0) 16 0)), zP_5)
  refine am_blk 68 [(.putfield 39, 3, 5, 8, .null), (.aload_n 0, 1, 0, 0, .null), (.bipush (16), 2, 0, 0, .int (16 : Int32)), (.putfield 43, 3, 5, 9, .null), (.aload_n 0, 1, 0, 0, .null), (.bipush (12), 2, 0, 0, .int (12 : Int32)), (.putfield 47, 3, 5, 10, .null)] (83, [(0, .ref 7)], [], (am_up (am_up (zI_X3_init_16 (am_z (am_z (am_z (am_z (am_z (am_z (am_z (am_z (am_z I 8 0) 9 0) 10 0) 11 0) 12 0) 13 0) 14 0) 15 0) 16 0)) 7 9 (16 : Int32)) 7 10 (12 : Int32)), (zG_X3_init_16 (am_z (am_z (am_z (am_z (am_z (am_z (am_z (am_z (am_z G 8 0) 9 0) 10 0) 11 0) 12 0) 13 0) 14 0) 15 0) 16 0)), (am_up zP_5 7 8 (.ref 16))) (True) hX10 hi (by decide +kernel) rfl trivial ?_
  exact am_vretA hX10 hi rfl (by decide +kernel) (fun j hj => by rw [e10 j (by omega), e9 j (by omega), e8 j (by omega), e7 j (by omega), e6 j (by omega), e5 j (by omega), e4 j (by omega), e3 j (by omega), e2 j (by omega), e1 j (by omega)]) ⟨rfl, rfl, rfl, rfl, rfl⟩ ⟨by decide, by decide⟩
def zP_7 : am_P := (am_z zP_6 25 .null)
def zP_8 : am_P := (am_up (am_up (am_z (am_up (am_z zP_7 26 .null) 25 1 (.ref 26)) 27 .null) 25 2 (.ref 27)) 25 0 (.ref 7))
def zI_X10_init_25 (I : am_I) : am_I := (am_z (am_z I 26 0) 27 0)
def zG_X10_init_25 (G : am_G) : am_G := (am_z (am_z G 26 0) 27 0)
set_option maxRecDepth 20000 in
set_option maxHeartbeats 4000000 in
theorem c_X10_init_25 (I : am_I) (G : am_G)  : am_CtA mX10_init 1 2 18464 26 (gS.take 26) [.ref 25, .ref 7] I G zP_7 (am_pA (gS.take 28) (zI_X10_init_25 I) (zG_X10_init_25 G) zP_8) := by
  refine am_ofA (by decide +kernel) rfl (fun _ => rfl) (by decide) (Nat.le_of_ble_eq_true rfl) (fun X ad hX0 hi hm => ?_)
  have hi : am_info X 10 cX10_init 2 true none 1 := hi
  have hm : am_mem X 2 18464 := hm
  show am_V X 0 0 _ (gS.take 26) ad (0, [(0, .ref 25), (1, .ref 7)], [], I, G, zP_7)
  refine am_blk 0 [(.aload_n 0, 1, 0, 0, .null)] (1, [(0, .ref 25), (1, .ref 7)], [.ref 25], I, G, zP_7) (True) hX0 hi (by decide +kernel) rfl trivial ?_
  refine am_obj hX0 hi (idx := 3) (by decide +kernel) (by decide +kernel) (Nat.le_of_ble_eq_true rfl) ?_
  show am_V X 0 0 _ (gS.take 26) ad (4, [(0, .ref 25), (1, .ref 7)], [], I, G, zP_7)
  refine am_blk 4 [(.aload_n 0, 1, 0, 0, .null), (.sipush (18432), 3, 0, 0, .int (18432 : Int32))] (8, [(0, .ref 25), (1, .ref 7)], [.int (18432 : Int32), .ref 25], I, G, zP_7) (True) hX0 hi (by decide +kernel) rfl trivial ?_
  refine am_newa hX0 hi hm (t := 0) (N := 18432) (n := (18432 : Int32)) (at' := .int) (by simp) (by decide +kernel) (by decide +kernel) (by decide) (by decide) (by decide) ⟨by decide, by decide⟩ (by decide +kernel) (by decide +kernel) (fun ad1 e1 => ?_)
  have e1 : ∀ j, j ≠ 26 → ad1 j = ad j := e1
  have hX1 := hX0.adr (fun j hj => e1 j (by show j ≠ 26; omega))
  show am_V X 1 18432 _ (gS.take 27) ad1 (10, [(0, .ref 25), (1, .ref 7)], [.ref 26, .ref 25], (am_z I 26 0), (am_z G 26 0), (am_z zP_7 26 .null))
  refine am_blk 10 [(.putfield 9, 3, 10, 1, .null), (.aload_n 0, 1, 0, 0, .null), (.bipush (32), 2, 0, 0, .int (32 : Int32))] (16, [(0, .ref 25), (1, .ref 7)], [.int (32 : Int32), .ref 25], (am_z I 26 0), (am_z G 26 0), (am_up (am_z zP_7 26 .null) 25 1 (.ref 26))) (True) hX1 hi (by decide +kernel) rfl trivial ?_
  refine am_newa hX1 hi hm (t := 0) (N := 32) (n := (32 : Int32)) (at' := .int) (by simp) (by decide +kernel) (by decide +kernel) (by decide) (by decide) (by decide) ⟨by decide, by decide⟩ (by decide +kernel) (by decide +kernel) (fun ad2 e2 => ?_)
  have e2 : ∀ j, j ≠ 27 → ad2 j = ad1 j := e2
  have hX2 := hX1.adr (fun j hj => e2 j (by show j ≠ 27; omega))
  show am_V X 2 18464 _ (gS.take 28) ad2 (18, [(0, .ref 25), (1, .ref 7)], [.ref 27, .ref 25], (am_z (am_z I 26 0) 27 0), (am_z (am_z G 26 0) 27 0), (am_z (am_up (am_z zP_7 26 .null) 25 1 (.ref 26)) 27 .null))
  refine am_blk 18 [(.putfield 15, 3, 10, 2, .null), (.aload_n 0, 1, 0, 0, .null), (.aload_n 1, 1, 1, 0, .null), (.putfield 18, 3, 10, 0, .null)] (26, [(0, .ref 25), (1, .ref 7)], [], (am_z (am_z I 26 0) 27 0), (am_z (am_z G 26 0) 27 0), (am_up (am_up (am_z (am_up (am_z zP_7 26 .null) 25 1 (.ref 26)) 27 .null) 25 2 (.ref 27)) 25 0 (.ref 7))) (True) hX2 hi (by decide +kernel) rfl trivial ?_
  exact am_vretA hX2 hi rfl (by decide +kernel) (fun j hj => by rw [e2 j (by omega), e1 j (by omega)]) ⟨rfl, rfl, rfl, rfl, rfl⟩ ⟨by decide, by decide⟩
def zP_9 : am_P := (am_z (am_up zP_8 0 0 (.ref 1)) 28 .null)
def zP_10 : am_P := (am_z zP_9 29 .null)
def zP_11 : am_P := (am_z (am_up (am_z (am_up (am_z (am_up (am_z (am_up (am_z (am_up (am_z (am_up (am_z (am_up (am_z (am_up (am_z zP_10 30 .null) 29 0 (.ref 30)) 31 .null) 29 1 (.ref 31)) 32 .null) 29 2 (.ref 32)) 33 .null) 29 3 (.ref 33)) 34 .null) 29 4 (.ref 34)) 35 .null) 29 5 (.ref 35)) 36 .null) 29 6 (.ref 36)) 37 .null) 29 7 (.ref 37)) 38 .null)
def zP_12 : am_P := (am_up (am_z (am_up (am_z (am_up (am_z (am_up (am_z (am_up (am_z (am_up (am_z (am_up (am_z (am_up (am_z zP_11 39 .null) 38 0 (.ref 39)) 40 .null) 38 1 (.ref 40)) 41 .null) 38 2 (.ref 41)) 42 .null) 38 3 (.ref 42)) 43 .null) 38 4 (.ref 43)) 44 .null) 38 5 (.ref 44)) 45 .null) 38 6 (.ref 45)) 46 .null) 38 7 (.ref 46))
def zI_X3_init_38 (I : am_I) : am_I := (am_z (am_z (am_z (am_z (am_z (am_z (am_z (am_z I 39 0) 40 0) 41 0) 42 0) 43 0) 44 0) 45 0) 46 0)
def zG_X3_init_38 (G : am_G) : am_G := (am_z (am_z (am_z (am_z (am_z (am_z (am_z (am_z G 39 0) 40 0) 41 0) 42 0) 43 0) 44 0) 45 0) 46 0)
set_option maxRecDepth 20000 in
set_option maxHeartbeats 4000000 in
theorem c_X3_init_38 (I : am_I) (G : am_G)  : am_CtA mX3_init 1 8 920 39 (gS.take 39) [.ref 38] I G zP_11 (am_pA (gS.take 47) (zI_X3_init_38 I) (zG_X3_init_38 G) zP_12) := by
  refine am_ofA (by decide +kernel) rfl (fun _ => rfl) (by decide) (Nat.le_of_ble_eq_true rfl) (fun X ad hX0 hi hm => ?_)
  have hi : am_info X 3 cX3_init 1 true none 1 := hi
  have hm : am_mem X 8 920 := hm
  show am_V X 0 0 _ (gS.take 39) ad (0, [(0, .ref 38)], [], I, G, zP_11)
  refine am_blk 0 [(.aload_n 0, 1, 0, 0, .null)] (1, [(0, .ref 38)], [.ref 38], I, G, zP_11) (True) hX0 hi (by decide +kernel) rfl trivial ?_
  refine am_obj hX0 hi (idx := 3) (by decide +kernel) (by decide +kernel) (Nat.le_of_ble_eq_true rfl) ?_
  show am_V X 0 0 _ (gS.take 39) ad (4, [(0, .ref 38)], [], I, G, zP_11)
  refine am_blk 4 [(.aload_n 0, 1, 0, 0, .null), (.bipush (20), 2, 0, 0, .int (20 : Int32))] (7, [(0, .ref 38)], [.int (20 : Int32), .ref 38], I, G, zP_11) (True) hX0 hi (by decide +kernel) rfl trivial ?_
  refine am_newa hX0 hi hm (t := 0) (N := 20) (n := (20 : Int32)) (at' := .int) (by simp) (by decide +kernel) (by decide +kernel) (by decide) (by decide) (by decide) ⟨by decide, by decide⟩ (by decide +kernel) (by decide +kernel) (fun ad1 e1 => ?_)
  have e1 : ∀ j, j ≠ 39 → ad1 j = ad j := e1
  have hX1 := hX0.adr (fun j hj => e1 j (by show j ≠ 39; omega))
  show am_V X 1 20 _ (gS.take 40) ad1 (9, [(0, .ref 38)], [.ref 39, .ref 38], (am_z I 39 0), (am_z G 39 0), (am_z zP_11 39 .null))
  refine am_blk 9 [(.putfield 9, 3, 3, 0, .null), (.aload_n 0, 1, 0, 0, .null), (.bipush (20), 2, 0, 0, .int (20 : Int32))] (15, [(0, .ref 38)], [.int (20 : Int32), .ref 38], (am_z I 39 0), (am_z G 39 0), (am_up (am_z zP_11 39 .null) 38 0 (.ref 39))) (True) hX1 hi (by decide +kernel) rfl trivial ?_
  refine am_newa hX1 hi hm (t := 0) (N := 20) (n := (20 : Int32)) (at' := .int) (by simp) (by decide +kernel) (by decide +kernel) (by decide) (by decide) (by decide) ⟨by decide, by decide⟩ (by decide +kernel) (by decide +kernel) (fun ad2 e2 => ?_)
  have e2 : ∀ j, j ≠ 40 → ad2 j = ad1 j := e2
  have hX2 := hX1.adr (fun j hj => e2 j (by show j ≠ 40; omega))
  show am_V X 2 40 _ (gS.take 41) ad2 (17, [(0, .ref 38)], [.ref 40, .ref 38], (am_z (am_z I 39 0) 40 0), (am_z (am_z G 39 0) 40 0), (am_z (am_up (am_z zP_11 39 .null) 38 0 (.ref 39)) 40 .null))
  refine am_blk 17 [(.putfield 15, 3, 3, 1, .null), (.aload_n 0, 1, 0, 0, .null), (.bipush (20), 2, 0, 0, .int (20 : Int32))] (23, [(0, .ref 38)], [.int (20 : Int32), .ref 38], (am_z (am_z I 39 0) 40 0), (am_z (am_z G 39 0) 40 0), (am_up (am_z (am_up (am_z zP_11 39 .null) 38 0 (.ref 39)) 40 .null) 38 1 (.ref 40))) (True) hX2 hi (by decide +kernel) rfl trivial ?_
  refine am_newa hX2 hi hm (t := 0) (N := 20) (n := (20 : Int32)) (at' := .int) (by simp) (by decide +kernel) (by decide +kernel) (by decide) (by decide) (by decide) ⟨by decide, by decide⟩ (by decide +kernel) (by decide +kernel) (fun ad3 e3 => ?_)
  have e3 : ∀ j, j ≠ 41 → ad3 j = ad2 j := e3
  have hX3 := hX2.adr (fun j hj => e3 j (by show j ≠ 41; omega))
  show am_V X 3 60 _ (gS.take 42) ad3 (25, [(0, .ref 38)], [.ref 41, .ref 38], (am_z (am_z (am_z I 39 0) 40 0) 41 0), (am_z (am_z (am_z G 39 0) 40 0) 41 0), (am_z (am_up (am_z (am_up (am_z zP_11 39 .null) 38 0 (.ref 39)) 40 .null) 38 1 (.ref 40)) 41 .null))
  refine am_blk 25 [(.putfield 18, 3, 3, 2, .null), (.aload_n 0, 1, 0, 0, .null), (.bipush (20), 2, 0, 0, .int (20 : Int32))] (31, [(0, .ref 38)], [.int (20 : Int32), .ref 38], (am_z (am_z (am_z I 39 0) 40 0) 41 0), (am_z (am_z (am_z G 39 0) 40 0) 41 0), (am_up (am_z (am_up (am_z (am_up (am_z zP_11 39 .null) 38 0 (.ref 39)) 40 .null) 38 1 (.ref 40)) 41 .null) 38 2 (.ref 41))) (True) hX3 hi (by decide +kernel) rfl trivial ?_
  refine am_newa hX3 hi hm (t := 0) (N := 20) (n := (20 : Int32)) (at' := .int) (by simp) (by decide +kernel) (by decide +kernel) (by decide) (by decide) (by decide) ⟨by decide, by decide⟩ (by decide +kernel) (by decide +kernel) (fun ad4 e4 => ?_)
  have e4 : ∀ j, j ≠ 42 → ad4 j = ad3 j := e4
  have hX4 := hX3.adr (fun j hj => e4 j (by show j ≠ 42; omega))
  show am_V X 4 80 _ (gS.take 43) ad4 (33, [(0, .ref 38)], [.ref 42, .ref 38], (am_z (am_z (am_z (am_z I 39 0) 40 0) 41 0) 42 0), (am_z (am_z (am_z (am_z G 39 0) 40 0) 41 0) 42 0), (am_z (am_up (am_z (am_up (am_z (am_up (am_z zP_11 39 .null) 38 0 (.ref 39)) 40 .null) 38 1 (.ref 40)) 41 .null) 38 2 (.ref 41)) 42 .null))
  refine am_blk 33 [(.putfield 21, 3, 3, 3, .null), (.aload_n 0, 1, 0, 0, .null), (.bipush (20), 2, 0, 0, .int (20 : Int32))] (39, [(0, .ref 38)], [.int (20 : Int32), .ref 38], (am_z (am_z (am_z (am_z I 39 0) 40 0) 41 0) 42 0), (am_z (am_z (am_z (am_z G 39 0) 40 0) 41 0) 42 0), (am_up (am_z (am_up (am_z (am_up (am_z (am_up (am_z zP_11 39 .null) 38 0 (.ref 39)) 40 .null) 38 1 (.ref 40)) 41 .null) 38 2 (.ref 41)) 42 .null) 38 3 (.ref 42))) (True) hX4 hi (by decide +kernel) rfl trivial ?_
  refine am_newa hX4 hi hm (t := 0) (N := 20) (n := (20 : Int32)) (at' := .int) (by simp) (by decide +kernel) (by decide +kernel) (by decide) (by decide) (by decide) ⟨by decide, by decide⟩ (by decide +kernel) (by decide +kernel) (fun ad5 e5 => ?_)
  have e5 : ∀ j, j ≠ 43 → ad5 j = ad4 j := e5
  have hX5 := hX4.adr (fun j hj => e5 j (by show j ≠ 43; omega))
  show am_V X 5 100 _ (gS.take 44) ad5 (41, [(0, .ref 38)], [.ref 43, .ref 38], (am_z (am_z (am_z (am_z (am_z I 39 0) 40 0) 41 0) 42 0) 43 0), (am_z (am_z (am_z (am_z (am_z G 39 0) 40 0) 41 0) 42 0) 43 0), (am_z (am_up (am_z (am_up (am_z (am_up (am_z (am_up (am_z zP_11 39 .null) 38 0 (.ref 39)) 40 .null) 38 1 (.ref 40)) 41 .null) 38 2 (.ref 41)) 42 .null) 38 3 (.ref 42)) 43 .null))
  refine am_blk 41 [(.putfield 24, 3, 3, 4, .null), (.aload_n 0, 1, 0, 0, .null), (.bipush (20), 2, 0, 0, .int (20 : Int32))] (47, [(0, .ref 38)], [.int (20 : Int32), .ref 38], (am_z (am_z (am_z (am_z (am_z I 39 0) 40 0) 41 0) 42 0) 43 0), (am_z (am_z (am_z (am_z (am_z G 39 0) 40 0) 41 0) 42 0) 43 0), (am_up (am_z (am_up (am_z (am_up (am_z (am_up (am_z (am_up (am_z zP_11 39 .null) 38 0 (.ref 39)) 40 .null) 38 1 (.ref 40)) 41 .null) 38 2 (.ref 41)) 42 .null) 38 3 (.ref 42)) 43 .null) 38 4 (.ref 43))) (True) hX5 hi (by decide +kernel) rfl trivial ?_
  refine am_newa hX5 hi hm (t := 0) (N := 20) (n := (20 : Int32)) (at' := .int) (by simp) (by decide +kernel) (by decide +kernel) (by decide) (by decide) (by decide) ⟨by decide, by decide⟩ (by decide +kernel) (by decide +kernel) (fun ad6 e6 => ?_)
  have e6 : ∀ j, j ≠ 44 → ad6 j = ad5 j := e6
  have hX6 := hX5.adr (fun j hj => e6 j (by show j ≠ 44; omega))
  show am_V X 6 120 _ (gS.take 45) ad6 (49, [(0, .ref 38)], [.ref 44, .ref 38], (am_z (am_z (am_z (am_z (am_z (am_z I 39 0) 40 0) 41 0) 42 0) 43 0) 44 0), (am_z (am_z (am_z (am_z (am_z (am_z G 39 0) 40 0) 41 0) 42 0) 43 0) 44 0), (am_z (am_up (am_z (am_up (am_z (am_up (am_z (am_up (am_z (am_up (am_z zP_11 39 .null) 38 0 (.ref 39)) 40 .null) 38 1 (.ref 40)) 41 .null) 38 2 (.ref 41)) 42 .null) 38 3 (.ref 42)) 43 .null) 38 4 (.ref 43)) 44 .null))
  refine am_blk 49 [(.putfield 27, 3, 3, 5, .null), (.aload_n 0, 1, 0, 0, .null), (.sipush (400), 3, 0, 0, .int (400 : Int32))] (56, [(0, .ref 38)], [.int (400 : Int32), .ref 38], (am_z (am_z (am_z (am_z (am_z (am_z I 39 0) 40 0) 41 0) 42 0) 43 0) 44 0), (am_z (am_z (am_z (am_z (am_z (am_z G 39 0) 40 0) 41 0) 42 0) 43 0) 44 0), (am_up (am_z (am_up (am_z (am_up (am_z (am_up (am_z (am_up (am_z (am_up (am_z zP_11 39 .null) 38 0 (.ref 39)) 40 .null) 38 1 (.ref 40)) 41 .null) 38 2 (.ref 41)) 42 .null) 38 3 (.ref 42)) 43 .null) 38 4 (.ref 43)) 44 .null) 38 5 (.ref 44))) (True) hX6 hi (by decide +kernel) rfl trivial ?_
  refine am_newa hX6 hi hm (t := 0) (N := 400) (n := (400 : Int32)) (at' := .int) (by simp) (by decide +kernel) (by decide +kernel) (by decide) (by decide) (by decide) ⟨by decide, by decide⟩ (by decide +kernel) (by decide +kernel) (fun ad7 e7 => ?_)
  have e7 : ∀ j, j ≠ 45 → ad7 j = ad6 j := e7
  have hX7 := hX6.adr (fun j hj => e7 j (by show j ≠ 45; omega))
  show am_V X 7 520 _ (gS.take 46) ad7 (58, [(0, .ref 38)], [.ref 45, .ref 38], (am_z (am_z (am_z (am_z (am_z (am_z (am_z I 39 0) 40 0) 41 0) 42 0) 43 0) 44 0) 45 0), (am_z (am_z (am_z (am_z (am_z (am_z (am_z G 39 0) 40 0) 41 0) 42 0) 43 0) 44 0) 45 0), (am_z (am_up (am_z (am_up (am_z (am_up (am_z (am_up (am_z (am_up (am_z (am_up (am_z zP_11 39 .null) 38 0 (.ref 39)) 40 .null) 38 1 (.ref 40)) 41 .null) 38 2 (.ref 41)) 42 .null) 38 3 (.ref 42)) 43 .null) 38 4 (.ref 43)) 44 .null) 38 5 (.ref 44)) 45 .null))
  refine am_blk 58 [(.putfield 30, 3, 3, 6, .null), (.aload_n 0, 1, 0, 0, .null), (.sipush (400), 3, 0, 0, .int (400 : Int32))] (65, [(0, .ref 38)], [.int (400 : Int32), .ref 38], (am_z (am_z (am_z (am_z (am_z (am_z (am_z I 39 0) 40 0) 41 0) 42 0) 43 0) 44 0) 45 0), (am_z (am_z (am_z (am_z (am_z (am_z (am_z G 39 0) 40 0) 41 0) 42 0) 43 0) 44 0) 45 0), (am_up (am_z (am_up (am_z (am_up (am_z (am_up (am_z (am_up (am_z (am_up (am_z (am_up (am_z zP_11 39 .null) 38 0 (.ref 39)) 40 .null) 38 1 (.ref 40)) 41 .null) 38 2 (.ref 41)) 42 .null) 38 3 (.ref 42)) 43 .null) 38 4 (.ref 43)) 44 .null) 38 5 (.ref 44)) 45 .null) 38 6 (.ref 45))) (True) hX7 hi (by decide +kernel) rfl trivial ?_
  refine am_newa hX7 hi hm (t := 0) (N := 400) (n := (400 : Int32)) (at' := .int) (by simp) (by decide +kernel) (by decide +kernel) (by decide) (by decide) (by decide) ⟨by decide, by decide⟩ (by decide +kernel) (by decide +kernel) (fun ad8 e8 => ?_)
  have e8 : ∀ j, j ≠ 46 → ad8 j = ad7 j := e8
  have hX8 := hX7.adr (fun j hj => e8 j (by show j ≠ 46; omega))
  show am_V X 8 920 _ (gS.take 47) ad8 (67, [(0, .ref 38)], [.ref 46, .ref 38], (am_z (am_z (am_z (am_z (am_z (am_z (am_z (am_z I 39 0) 40 0) 41 0) 42 0) 43 0) 44 0) 45 0) 46 0), (am_z (am_z (am_z (am_z (am_z (am_z (am_z (am_z G 39 0) 40 0) 41 0) 42 0) 43 0) 44 0) 45 0) 46 0), (am_z (am_up (am_z (am_up (am_z (am_up (am_z (am_up (am_z (am_up (am_z (am_up (am_z (am_up (am_z zP_11 39 .null) 38 0 (.ref 39)) 40 .null) 38 1 (.ref 40)) 41 .null) 38 2 (.ref 41)) 42 .null) 38 3 (.ref 42)) 43 .null) 38 4 (.ref 43)) 44 .null) 38 5 (.ref 44)) 45 .null) 38 6 (.ref 45)) 46 .null))
  refine am_blk 67 [(.putfield 33, 3, 3, 7, .null)] (70, [(0, .ref 38)], [], (am_z (am_z (am_z (am_z (am_z (am_z (am_z (am_z I 39 0) 40 0) 41 0) 42 0) 43 0) 44 0) 45 0) 46 0), (am_z (am_z (am_z (am_z (am_z (am_z (am_z (am_z G 39 0) 40 0) 41 0) 42 0) 43 0) 44 0) 45 0) 46 0), (am_up (am_z (am_up (am_z (am_up (am_z (am_up (am_z (am_up (am_z (am_up (am_z (am_up (am_z (am_up (am_z zP_11 39 .null) 38 0 (.ref 39)) 40 .null) 38 1 (.ref 40)) 41 .null) 38 2 (.ref 41)) 42 .null) 38 3 (.ref 42)) 43 .null) 38 4 (.ref 43)) 44 .null) 38 5 (.ref 44)) 45 .null) 38 6 (.ref 45)) 46 .null) 38 7 (.ref 46))) (True) hX8 hi (by decide +kernel) rfl trivial ?_
  exact am_vretA hX8 hi rfl (by decide +kernel) (fun j hj => by rw [e8 j (by omega), e7 j (by omega), e6 j (by omega), e5 j (by omega), e4 j (by omega), e3 j (by omega), e2 j (by omega), e1 j (by omega)]) ⟨rfl, rfl, rfl, rfl, rfl⟩ ⟨by decide, by decide⟩
def zP_13 : am_P := (am_up zP_12 29 8 (.ref 38))
def zI_X5_init_29 (I : am_I) : am_I := (am_up (am_up (zI_X3_init_38 (am_z (am_z (am_z (am_z (am_z (am_z (am_z (am_z (am_z I 30 0) 31 0) 32 0) 33 0) 34 0) 35 0) 36 0) 37 0) 38 0)) 29 9 (16 : Int32)) 29 10 (12 : Int32))
def zG_X5_init_29 (G : am_G) : am_G := (zG_X3_init_38 (am_z (am_z (am_z (am_z (am_z (am_z (am_z (am_z (am_z G 30 0) 31 0) 32 0) 33 0) 34 0) 35 0) 36 0) 37 0) 38 0))
set_option maxRecDepth 20000 in
set_option maxHeartbeats 4000000 in
theorem c_X5_init_29 (I : am_I) (G : am_G)  : am_CtA mX5_init 2 17 963 30 (gS.take 30) [.ref 29] I G zP_10 (am_pA (gS.take 47) (zI_X5_init_29 I) (zG_X5_init_29 G) zP_13) := by
  refine am_ofA (by decide +kernel) rfl (fun _ => rfl) (by decide) (Nat.le_of_ble_eq_true rfl) (fun X ad hX0 hi hm => ?_)
  have hi : am_info X 5 cX5_init 1 true none 2 := hi
  have hm : am_mem X 17 963 := hm
  show am_V X 0 0 _ (gS.take 30) ad (0, [(0, .ref 29)], [], I, G, zP_10)
  refine am_blk 0 [(.aload_n 0, 1, 0, 0, .null)] (1, [(0, .ref 29)], [.ref 29], I, G, zP_10) (True) hX0 hi (by decide +kernel) rfl trivial ?_
  refine am_obj hX0 hi (idx := 3) (by decide +kernel) (by decide +kernel) (Nat.le_of_ble_eq_true rfl) ?_
  show am_V X 0 0 _ (gS.take 30) ad (4, [(0, .ref 29)], [], I, G, zP_10)
  refine am_blk 4 [(.aload_n 0, 1, 0, 0, .null), (.iconst (4), 1, 0, 0, .int (4 : Int32))] (6, [(0, .ref 29)], [.int (4 : Int32), .ref 29], I, G, zP_10) (True) hX0 hi (by decide +kernel) rfl trivial ?_
  refine am_newa hX0 hi hm (t := 0) (N := 4) (n := (4 : Int32)) (at' := .int) (by simp) (by decide +kernel) (by decide +kernel) (by decide) (by decide) (by decide) ⟨by decide, by decide⟩ (by decide +kernel) (by decide +kernel) (fun ad1 e1 => ?_)
  have e1 : ∀ j, j ≠ 30 → ad1 j = ad j := e1
  have hX1 := hX0.adr (fun j hj => e1 j (by show j ≠ 30; omega))
  show am_V X 1 4 _ (gS.take 31) ad1 (8, [(0, .ref 29)], [.ref 30, .ref 29], (am_z I 30 0), (am_z G 30 0), (am_z zP_10 30 .null))
  refine am_blk 8 [(.putfield 9, 3, 5, 0, .null), (.aload_n 0, 1, 0, 0, .null), (.iconst (4), 1, 0, 0, .int (4 : Int32))] (13, [(0, .ref 29)], [.int (4 : Int32), .ref 29], (am_z I 30 0), (am_z G 30 0), (am_up (am_z zP_10 30 .null) 29 0 (.ref 30))) (True) hX1 hi (by decide +kernel) rfl trivial ?_
  refine am_newa hX1 hi hm (t := 0) (N := 4) (n := (4 : Int32)) (at' := .int) (by simp) (by decide +kernel) (by decide +kernel) (by decide) (by decide) (by decide) ⟨by decide, by decide⟩ (by decide +kernel) (by decide +kernel) (fun ad2 e2 => ?_)
  have e2 : ∀ j, j ≠ 31 → ad2 j = ad1 j := e2
  have hX2 := hX1.adr (fun j hj => e2 j (by show j ≠ 31; omega))
  show am_V X 2 8 _ (gS.take 32) ad2 (15, [(0, .ref 29)], [.ref 31, .ref 29], (am_z (am_z I 30 0) 31 0), (am_z (am_z G 30 0) 31 0), (am_z (am_up (am_z zP_10 30 .null) 29 0 (.ref 30)) 31 .null))
  refine am_blk 15 [(.putfield 15, 3, 5, 1, .null), (.aload_n 0, 1, 0, 0, .null), (.iconst (4), 1, 0, 0, .int (4 : Int32))] (20, [(0, .ref 29)], [.int (4 : Int32), .ref 29], (am_z (am_z I 30 0) 31 0), (am_z (am_z G 30 0) 31 0), (am_up (am_z (am_up (am_z zP_10 30 .null) 29 0 (.ref 30)) 31 .null) 29 1 (.ref 31))) (True) hX2 hi (by decide +kernel) rfl trivial ?_
  refine am_newa hX2 hi hm (t := 0) (N := 4) (n := (4 : Int32)) (at' := .int) (by simp) (by decide +kernel) (by decide +kernel) (by decide) (by decide) (by decide) ⟨by decide, by decide⟩ (by decide +kernel) (by decide +kernel) (fun ad3 e3 => ?_)
  have e3 : ∀ j, j ≠ 32 → ad3 j = ad2 j := e3
  have hX3 := hX2.adr (fun j hj => e3 j (by show j ≠ 32; omega))
  show am_V X 3 12 _ (gS.take 33) ad3 (22, [(0, .ref 29)], [.ref 32, .ref 29], (am_z (am_z (am_z I 30 0) 31 0) 32 0), (am_z (am_z (am_z G 30 0) 31 0) 32 0), (am_z (am_up (am_z (am_up (am_z zP_10 30 .null) 29 0 (.ref 30)) 31 .null) 29 1 (.ref 31)) 32 .null))
  refine am_blk 22 [(.putfield 18, 3, 5, 2, .null), (.aload_n 0, 1, 0, 0, .null), (.iconst (4), 1, 0, 0, .int (4 : Int32))] (27, [(0, .ref 29)], [.int (4 : Int32), .ref 29], (am_z (am_z (am_z I 30 0) 31 0) 32 0), (am_z (am_z (am_z G 30 0) 31 0) 32 0), (am_up (am_z (am_up (am_z (am_up (am_z zP_10 30 .null) 29 0 (.ref 30)) 31 .null) 29 1 (.ref 31)) 32 .null) 29 2 (.ref 32))) (True) hX3 hi (by decide +kernel) rfl trivial ?_
  refine am_newa hX3 hi hm (t := 0) (N := 4) (n := (4 : Int32)) (at' := .int) (by simp) (by decide +kernel) (by decide +kernel) (by decide) (by decide) (by decide) ⟨by decide, by decide⟩ (by decide +kernel) (by decide +kernel) (fun ad4 e4 => ?_)
  have e4 : ∀ j, j ≠ 33 → ad4 j = ad3 j := e4
  have hX4 := hX3.adr (fun j hj => e4 j (by show j ≠ 33; omega))
  show am_V X 4 16 _ (gS.take 34) ad4 (29, [(0, .ref 29)], [.ref 33, .ref 29], (am_z (am_z (am_z (am_z I 30 0) 31 0) 32 0) 33 0), (am_z (am_z (am_z (am_z G 30 0) 31 0) 32 0) 33 0), (am_z (am_up (am_z (am_up (am_z (am_up (am_z zP_10 30 .null) 29 0 (.ref 30)) 31 .null) 29 1 (.ref 31)) 32 .null) 29 2 (.ref 32)) 33 .null))
  refine am_blk 29 [(.putfield 21, 3, 5, 3, .null), (.aload_n 0, 1, 0, 0, .null), (.iconst (4), 1, 0, 0, .int (4 : Int32))] (34, [(0, .ref 29)], [.int (4 : Int32), .ref 29], (am_z (am_z (am_z (am_z I 30 0) 31 0) 32 0) 33 0), (am_z (am_z (am_z (am_z G 30 0) 31 0) 32 0) 33 0), (am_up (am_z (am_up (am_z (am_up (am_z (am_up (am_z zP_10 30 .null) 29 0 (.ref 30)) 31 .null) 29 1 (.ref 31)) 32 .null) 29 2 (.ref 32)) 33 .null) 29 3 (.ref 33))) (True) hX4 hi (by decide +kernel) rfl trivial ?_
  refine am_newa hX4 hi hm (t := 0) (N := 4) (n := (4 : Int32)) (at' := .int) (by simp) (by decide +kernel) (by decide +kernel) (by decide) (by decide) (by decide) ⟨by decide, by decide⟩ (by decide +kernel) (by decide +kernel) (fun ad5 e5 => ?_)
  have e5 : ∀ j, j ≠ 34 → ad5 j = ad4 j := e5
  have hX5 := hX4.adr (fun j hj => e5 j (by show j ≠ 34; omega))
  show am_V X 5 20 _ (gS.take 35) ad5 (36, [(0, .ref 29)], [.ref 34, .ref 29], (am_z (am_z (am_z (am_z (am_z I 30 0) 31 0) 32 0) 33 0) 34 0), (am_z (am_z (am_z (am_z (am_z G 30 0) 31 0) 32 0) 33 0) 34 0), (am_z (am_up (am_z (am_up (am_z (am_up (am_z (am_up (am_z zP_10 30 .null) 29 0 (.ref 30)) 31 .null) 29 1 (.ref 31)) 32 .null) 29 2 (.ref 32)) 33 .null) 29 3 (.ref 33)) 34 .null))
  refine am_blk 36 [(.putfield 24, 3, 5, 4, .null), (.aload_n 0, 1, 0, 0, .null), (.iconst (4), 1, 0, 0, .int (4 : Int32))] (41, [(0, .ref 29)], [.int (4 : Int32), .ref 29], (am_z (am_z (am_z (am_z (am_z I 30 0) 31 0) 32 0) 33 0) 34 0), (am_z (am_z (am_z (am_z (am_z G 30 0) 31 0) 32 0) 33 0) 34 0), (am_up (am_z (am_up (am_z (am_up (am_z (am_up (am_z (am_up (am_z zP_10 30 .null) 29 0 (.ref 30)) 31 .null) 29 1 (.ref 31)) 32 .null) 29 2 (.ref 32)) 33 .null) 29 3 (.ref 33)) 34 .null) 29 4 (.ref 34))) (True) hX5 hi (by decide +kernel) rfl trivial ?_
  refine am_newa hX5 hi hm (t := 0) (N := 4) (n := (4 : Int32)) (at' := .int) (by simp) (by decide +kernel) (by decide +kernel) (by decide) (by decide) (by decide) ⟨by decide, by decide⟩ (by decide +kernel) (by decide +kernel) (fun ad6 e6 => ?_)
  have e6 : ∀ j, j ≠ 35 → ad6 j = ad5 j := e6
  have hX6 := hX5.adr (fun j hj => e6 j (by show j ≠ 35; omega))
  show am_V X 6 24 _ (gS.take 36) ad6 (43, [(0, .ref 29)], [.ref 35, .ref 29], (am_z (am_z (am_z (am_z (am_z (am_z I 30 0) 31 0) 32 0) 33 0) 34 0) 35 0), (am_z (am_z (am_z (am_z (am_z (am_z G 30 0) 31 0) 32 0) 33 0) 34 0) 35 0), (am_z (am_up (am_z (am_up (am_z (am_up (am_z (am_up (am_z (am_up (am_z zP_10 30 .null) 29 0 (.ref 30)) 31 .null) 29 1 (.ref 31)) 32 .null) 29 2 (.ref 32)) 33 .null) 29 3 (.ref 33)) 34 .null) 29 4 (.ref 34)) 35 .null))
  refine am_blk 43 [(.putfield 27, 3, 5, 5, .null), (.aload_n 0, 1, 0, 0, .null), (.iconst (4), 1, 0, 0, .int (4 : Int32))] (48, [(0, .ref 29)], [.int (4 : Int32), .ref 29], (am_z (am_z (am_z (am_z (am_z (am_z I 30 0) 31 0) 32 0) 33 0) 34 0) 35 0), (am_z (am_z (am_z (am_z (am_z (am_z G 30 0) 31 0) 32 0) 33 0) 34 0) 35 0), (am_up (am_z (am_up (am_z (am_up (am_z (am_up (am_z (am_up (am_z (am_up (am_z zP_10 30 .null) 29 0 (.ref 30)) 31 .null) 29 1 (.ref 31)) 32 .null) 29 2 (.ref 32)) 33 .null) 29 3 (.ref 33)) 34 .null) 29 4 (.ref 34)) 35 .null) 29 5 (.ref 35))) (True) hX6 hi (by decide +kernel) rfl trivial ?_
  refine am_newa hX6 hi hm (t := 0) (N := 4) (n := (4 : Int32)) (at' := .int) (by simp) (by decide +kernel) (by decide +kernel) (by decide) (by decide) (by decide) ⟨by decide, by decide⟩ (by decide +kernel) (by decide +kernel) (fun ad7 e7 => ?_)
  have e7 : ∀ j, j ≠ 36 → ad7 j = ad6 j := e7
  have hX7 := hX6.adr (fun j hj => e7 j (by show j ≠ 36; omega))
  show am_V X 7 28 _ (gS.take 37) ad7 (50, [(0, .ref 29)], [.ref 36, .ref 29], (am_z (am_z (am_z (am_z (am_z (am_z (am_z I 30 0) 31 0) 32 0) 33 0) 34 0) 35 0) 36 0), (am_z (am_z (am_z (am_z (am_z (am_z (am_z G 30 0) 31 0) 32 0) 33 0) 34 0) 35 0) 36 0), (am_z (am_up (am_z (am_up (am_z (am_up (am_z (am_up (am_z (am_up (am_z (am_up (am_z zP_10 30 .null) 29 0 (.ref 30)) 31 .null) 29 1 (.ref 31)) 32 .null) 29 2 (.ref 32)) 33 .null) 29 3 (.ref 33)) 34 .null) 29 4 (.ref 34)) 35 .null) 29 5 (.ref 35)) 36 .null))
  refine am_blk 50 [(.putfield 30, 3, 5, 6, .null), (.aload_n 0, 1, 0, 0, .null), (.iconst (5), 1, 0, 0, .int (5 : Int32))] (55, [(0, .ref 29)], [.int (5 : Int32), .ref 29], (am_z (am_z (am_z (am_z (am_z (am_z (am_z I 30 0) 31 0) 32 0) 33 0) 34 0) 35 0) 36 0), (am_z (am_z (am_z (am_z (am_z (am_z (am_z G 30 0) 31 0) 32 0) 33 0) 34 0) 35 0) 36 0), (am_up (am_z (am_up (am_z (am_up (am_z (am_up (am_z (am_up (am_z (am_up (am_z (am_up (am_z zP_10 30 .null) 29 0 (.ref 30)) 31 .null) 29 1 (.ref 31)) 32 .null) 29 2 (.ref 32)) 33 .null) 29 3 (.ref 33)) 34 .null) 29 4 (.ref 34)) 35 .null) 29 5 (.ref 35)) 36 .null) 29 6 (.ref 36))) (True) hX7 hi (by decide +kernel) rfl trivial ?_
  refine am_newa hX7 hi hm (t := 0) (N := 5) (n := (5 : Int32)) (at' := .int) (by simp) (by decide +kernel) (by decide +kernel) (by decide) (by decide) (by decide) ⟨by decide, by decide⟩ (by decide +kernel) (by decide +kernel) (fun ad8 e8 => ?_)
  have e8 : ∀ j, j ≠ 37 → ad8 j = ad7 j := e8
  have hX8 := hX7.adr (fun j hj => e8 j (by show j ≠ 37; omega))
  show am_V X 8 33 _ (gS.take 38) ad8 (57, [(0, .ref 29)], [.ref 37, .ref 29], (am_z (am_z (am_z (am_z (am_z (am_z (am_z (am_z I 30 0) 31 0) 32 0) 33 0) 34 0) 35 0) 36 0) 37 0), (am_z (am_z (am_z (am_z (am_z (am_z (am_z (am_z G 30 0) 31 0) 32 0) 33 0) 34 0) 35 0) 36 0) 37 0), (am_z (am_up (am_z (am_up (am_z (am_up (am_z (am_up (am_z (am_up (am_z (am_up (am_z (am_up (am_z zP_10 30 .null) 29 0 (.ref 30)) 31 .null) 29 1 (.ref 31)) 32 .null) 29 2 (.ref 32)) 33 .null) 29 3 (.ref 33)) 34 .null) 29 4 (.ref 34)) 35 .null) 29 5 (.ref 35)) 36 .null) 29 6 (.ref 36)) 37 .null))
  refine am_blk 57 [(.putfield 33, 3, 5, 7, .null), (.aload_n 0, 1, 0, 0, .null)] (61, [(0, .ref 29)], [.ref 29], (am_z (am_z (am_z (am_z (am_z (am_z (am_z (am_z I 30 0) 31 0) 32 0) 33 0) 34 0) 35 0) 36 0) 37 0), (am_z (am_z (am_z (am_z (am_z (am_z (am_z (am_z G 30 0) 31 0) 32 0) 33 0) 34 0) 35 0) 36 0) 37 0), (am_up (am_z (am_up (am_z (am_up (am_z (am_up (am_z (am_up (am_z (am_up (am_z (am_up (am_z (am_up (am_z zP_10 30 .null) 29 0 (.ref 30)) 31 .null) 29 1 (.ref 31)) 32 .null) 29 2 (.ref 32)) 33 .null) 29 3 (.ref 33)) 34 .null) 29 4 (.ref 34)) 35 .null) 29 5 (.ref 35)) 36 .null) 29 6 (.ref 36)) 37 .null) 29 7 (.ref 37))) (True) hX8 hi (by decide +kernel) rfl trivial ?_
  refine am_new hX8 hi hm (ci := 3) (idx := 36) rfl (by decide +kernel) (by decide +kernel) (by decide +kernel) (by decide +kernel) ⟨by decide, by decide⟩ (by decide +kernel) (by decide +kernel) (fun ad9 e9 => ?_)
  have e9 : ∀ j, j ≠ 38 → ad9 j = ad8 j := e9
  have hX9 := hX8.adr (fun j hj => e9 j (by show j ≠ 38; omega))
  show am_V X 9 43 _ (gS.take 39) ad9 (64, [(0, .ref 29)], [.ref 38, .ref 29], (am_z (am_z (am_z (am_z (am_z (am_z (am_z (am_z (am_z I 30 0) 31 0) 32 0) 33 0) 34 0) 35 0) 36 0) 37 0) 38 0), (am_z (am_z (am_z (am_z (am_z (am_z (am_z (am_z (am_z G 30 0) 31 0) 32 0) 33 0) 34 0) 35 0) 36 0) 37 0) 38 0), (am_z (am_up (am_z (am_up (am_z (am_up (am_z (am_up (am_z (am_up (am_z (am_up (am_z (am_up (am_z (am_up (am_z zP_10 30 .null) 29 0 (.ref 30)) 31 .null) 29 1 (.ref 31)) 32 .null) 29 2 (.ref 32)) 33 .null) 29 3 (.ref 33)) 34 .null) 29 4 (.ref 34)) 35 .null) 29 5 (.ref 35)) 36 .null) 29 6 (.ref 36)) 37 .null) 29 7 (.ref 37)) 38 .null))
  refine am_blk 64 [(.dup, 1, 0, 0, .null)] (65, [(0, .ref 29)], [.ref 38, .ref 38, .ref 29], (am_z (am_z (am_z (am_z (am_z (am_z (am_z (am_z (am_z I 30 0) 31 0) 32 0) 33 0) 34 0) 35 0) 36 0) 37 0) 38 0), (am_z (am_z (am_z (am_z (am_z (am_z (am_z (am_z (am_z G 30 0) 31 0) 32 0) 33 0) 34 0) 35 0) 36 0) 37 0) 38 0), (am_z (am_up (am_z (am_up (am_z (am_up (am_z (am_up (am_z (am_up (am_z (am_up (am_z (am_up (am_z (am_up (am_z zP_10 30 .null) 29 0 (.ref 30)) 31 .null) 29 1 (.ref 31)) 32 .null) 29 2 (.ref 32)) 33 .null) 29 3 (.ref 33)) 34 .null) 29 4 (.ref 34)) 35 .null) 29 5 (.ref 35)) 36 .null) 29 6 (.ref 36)) 37 .null) 29 7 (.ref 37)) 38 .null)) (True) hX9 hi (by decide +kernel) rfl trivial ?_
  show am_V X 9 43 _ (gS.take 39) ad9 (65, [(0, .ref 29)], [.ref 38, .ref 38, .ref 29], (am_z (am_z (am_z (am_z (am_z (am_z (am_z (am_z (am_z I 30 0) 31 0) 32 0) 33 0) 34 0) 35 0) 36 0) 37 0) 38 0), (am_z (am_z (am_z (am_z (am_z (am_z (am_z (am_z (am_z G 30 0) 31 0) 32 0) 33 0) 34 0) 35 0) 36 0) 37 0) 38 0), zP_11)
  refine am_callIN hX9 hi hm (M := mX3_init) (idx := 38) (d' := 1) (mc := 8) (ms := 920) (keep := 39) (As := []) (rest := [.ref 38, .ref 29]) mkX3_init miX3_init rfl rfl (by decide +kernel) (by decide +kernel) rfl ⟨by decide, by decide, Nat.le_of_ble_eq_true rfl⟩ rfl ⟨by decide, by decide⟩ (by decide +kernel) (c_X3_init_38 (am_z (am_z (am_z (am_z (am_z (am_z (am_z (am_z (am_z I 30 0) 31 0) 32 0) 33 0) 34 0) 35 0) 36 0) 37 0) 38 0) (am_z (am_z (am_z (am_z (am_z (am_z (am_z (am_z (am_z G 30 0) 31 0) 32 0) 33 0) 34 0) 35 0) 36 0) 37 0) 38 0)) ?_
  rintro r7 sh7 ad10 I7 G7 P7 ⟨q0, q1, q2, q3, q4⟩ e10
  rw [q0, q1, q2, q3, q4]
  have hX10 := hX9.adr (fun j hj => e10 j (Or.inr hj))
  show am_V X 17 963 _ (gS.take 47) ad10 (68, [(0, .ref 29)], [.ref 38, .ref 29], (zI_X3_init_38 (am_z (am_z (am_z (am_z (am_z (am_z (am_z (am_z (am_z I 30 0) 31 0) 32 0) 33 0) 34 0) 35 0) 36 0) 37 0) 38 0)), (zG_X3_init_38 (am_z (am_z (am_z (am_z (am_z (am_z (am_z (am_z (am_z G 30 0) 31 0) 32 0) 33 0) 34 0) 35 0) 36 0) 37 0) 38 0)), zP_12)
  refine am_blk 68 [(.putfield 39, 3, 5, 8, .null), (.aload_n 0, 1, 0, 0, .null), (.bipush (16), 2, 0, 0, .int (16 : Int32)), (.putfield 43, 3, 5, 9, .null), (.aload_n 0, 1, 0, 0, .null), (.bipush (12), 2, 0, 0, .int (12 : Int32)), (.putfield 47, 3, 5, 10, .null)] (83, [(0, .ref 29)], [], (am_up (am_up (zI_X3_init_38 (am_z (am_z (am_z (am_z (am_z (am_z (am_z (am_z (am_z I 30 0) 31 0) 32 0) 33 0) 34 0) 35 0) 36 0) 37 0) 38 0)) 29 9 (16 : Int32)) 29 10 (12 : Int32)), (zG_X3_init_38 (am_z (am_z (am_z (am_z (am_z (am_z (am_z (am_z (am_z G 30 0) 31 0) 32 0) 33 0) 34 0) 35 0) 36 0) 37 0) 38 0)), (am_up zP_12 29 8 (.ref 38))) (True) hX10 hi (by decide +kernel) rfl trivial ?_
  exact am_vretA hX10 hi rfl (by decide +kernel) (fun j hj => by rw [e10 j (by omega), e9 j (by omega), e8 j (by omega), e7 j (by omega), e6 j (by omega), e5 j (by omega), e4 j (by omega), e3 j (by omega), e2 j (by omega), e1 j (by omega)]) ⟨rfl, rfl, rfl, rfl, rfl⟩ ⟨by decide, by decide⟩
def zP_14 : am_P := (am_z (am_up zP_13 28 1 (.ref 29)) 47 .null)
def zP_15 : am_P := (am_up (am_z zP_14 48 .null) 47 0 (.ref 48))
def zI_X2_init_47 (I : am_I) : am_I := (am_z I 48 0)
def zG_X2_init_47 (G : am_G) : am_G := (am_z G 48 0)
set_option maxRecDepth 20000 in
set_option maxHeartbeats 4000000 in
theorem c_X2_init_47 (I : am_I) (G : am_G)  : am_CtA mX2_init 1 1 4 48 (gS.take 48) [.ref 47, .int (4 : Int32)] I G zP_14 (am_pA (gS.take 49) (zI_X2_init_47 I) (zG_X2_init_47 G) zP_15) := by
  refine am_ofA (by decide +kernel) rfl (fun _ => rfl) (by decide) (Nat.le_of_ble_eq_true rfl) (fun X ad hX0 hi hm => ?_)
  have hi : am_info X 2 cX2_init 2 true none 1 := hi
  have hm : am_mem X 1 4 := hm
  show am_V X 0 0 _ (gS.take 48) ad (0, [(0, .ref 47), (1, .int (4 : Int32))], [], I, G, zP_14)
  refine am_blk 0 [(.aload_n 0, 1, 0, 0, .null)] (1, [(0, .ref 47), (1, .int (4 : Int32))], [.ref 47], I, G, zP_14) (True) hX0 hi (by decide +kernel) rfl trivial ?_
  refine am_obj hX0 hi (idx := 1) (by decide +kernel) (by decide +kernel) (Nat.le_of_ble_eq_true rfl) ?_
  show am_V X 0 0 _ (gS.take 48) ad (4, [(0, .ref 47), (1, .int (4 : Int32))], [], I, G, zP_14)
  refine am_blk 4 [(.aload_n 0, 1, 0, 0, .null), (.iload_n 1, 1, 1, 0, .null), (.iconst (0), 1, 0, 0, .int (0 : Int32)), (.invokestatic 7, 3, 2, 0, .null)] (10, [(0, .ref 47), (1, .int (4 : Int32))], [.int (if (4 : Int32) < (0 : Int32) then (0 : Int32) else (4 : Int32)), .ref 47], I, G, zP_14) (True) hX0 hi (by decide +kernel) rfl trivial ?_
  refine am_newa hX0 hi hm (t := 2) (N := 4) (n := (if (4 : Int32) < (0 : Int32) then (0 : Int32) else (4 : Int32))) (at' := .long) (by simp) (by decide +kernel) (by decide +kernel) (by decide) (by decide) (by decide) ⟨by decide, by decide⟩ (by decide +kernel) (by decide +kernel) (fun ad1 e1 => ?_)
  have e1 : ∀ j, j ≠ 48 → ad1 j = ad j := e1
  have hX1 := hX0.adr (fun j hj => e1 j (by show j ≠ 48; omega))
  show am_V X 1 4 _ (gS.take 49) ad1 (12, [(0, .ref 47), (1, .int (4 : Int32))], [.ref 48, .ref 47], (am_z I 48 0), (am_z G 48 0), (am_z zP_14 48 .null))
  refine am_blk 12 [(.putfield 13, 3, 2, 0, .null)] (15, [(0, .ref 47), (1, .int (4 : Int32))], [], (am_z I 48 0), (am_z G 48 0), (am_up (am_z zP_14 48 .null) 47 0 (.ref 48))) (True) hX1 hi (by decide +kernel) rfl trivial ?_
  exact am_vretA hX1 hi rfl (by decide +kernel) (fun j hj => by rw [e1 j (by omega)]) ⟨rfl, rfl, rfl, rfl, rfl⟩ ⟨by decide, by decide⟩
def zP_16 : am_P := (am_z (am_up zP_15 28 2 (.ref 47)) 49 .null)
def zP_17 : am_P := (am_up (am_z zP_16 50 .null) 49 0 (.ref 50))
def zI_X2_init_49 (I : am_I) : am_I := (am_z I 50 0)
def zG_X2_init_49 (G : am_G) : am_G := (am_z G 50 0)
set_option maxRecDepth 20000 in
set_option maxHeartbeats 4000000 in
theorem c_X2_init_49 (I : am_I) (G : am_G)  : am_CtA mX2_init 1 1 4 50 (gS.take 50) [.ref 49, .int (4 : Int32)] I G zP_16 (am_pA (gS.take 51) (zI_X2_init_49 I) (zG_X2_init_49 G) zP_17) := by
  refine am_ofA (by decide +kernel) rfl (fun _ => rfl) (by decide) (Nat.le_of_ble_eq_true rfl) (fun X ad hX0 hi hm => ?_)
  have hi : am_info X 2 cX2_init 2 true none 1 := hi
  have hm : am_mem X 1 4 := hm
  show am_V X 0 0 _ (gS.take 50) ad (0, [(0, .ref 49), (1, .int (4 : Int32))], [], I, G, zP_16)
  refine am_blk 0 [(.aload_n 0, 1, 0, 0, .null)] (1, [(0, .ref 49), (1, .int (4 : Int32))], [.ref 49], I, G, zP_16) (True) hX0 hi (by decide +kernel) rfl trivial ?_
  refine am_obj hX0 hi (idx := 1) (by decide +kernel) (by decide +kernel) (Nat.le_of_ble_eq_true rfl) ?_
  show am_V X 0 0 _ (gS.take 50) ad (4, [(0, .ref 49), (1, .int (4 : Int32))], [], I, G, zP_16)
  refine am_blk 4 [(.aload_n 0, 1, 0, 0, .null), (.iload_n 1, 1, 1, 0, .null), (.iconst (0), 1, 0, 0, .int (0 : Int32)), (.invokestatic 7, 3, 2, 0, .null)] (10, [(0, .ref 49), (1, .int (4 : Int32))], [.int (if (4 : Int32) < (0 : Int32) then (0 : Int32) else (4 : Int32)), .ref 49], I, G, zP_16) (True) hX0 hi (by decide +kernel) rfl trivial ?_
  refine am_newa hX0 hi hm (t := 2) (N := 4) (n := (if (4 : Int32) < (0 : Int32) then (0 : Int32) else (4 : Int32))) (at' := .long) (by simp) (by decide +kernel) (by decide +kernel) (by decide) (by decide) (by decide) ⟨by decide, by decide⟩ (by decide +kernel) (by decide +kernel) (fun ad1 e1 => ?_)
  have e1 : ∀ j, j ≠ 50 → ad1 j = ad j := e1
  have hX1 := hX0.adr (fun j hj => e1 j (by show j ≠ 50; omega))
  show am_V X 1 4 _ (gS.take 51) ad1 (12, [(0, .ref 49), (1, .int (4 : Int32))], [.ref 50, .ref 49], (am_z I 50 0), (am_z G 50 0), (am_z zP_16 50 .null))
  refine am_blk 12 [(.putfield 13, 3, 2, 0, .null)] (15, [(0, .ref 49), (1, .int (4 : Int32))], [], (am_z I 50 0), (am_z G 50 0), (am_up (am_z zP_16 50 .null) 49 0 (.ref 50))) (True) hX1 hi (by decide +kernel) rfl trivial ?_
  exact am_vretA hX1 hi rfl (by decide +kernel) (fun j hj => by rw [e1 j (by omega)]) ⟨rfl, rfl, rfl, rfl, rfl⟩ ⟨by decide, by decide⟩
def zP_18 : am_P := (am_z (am_up zP_17 28 3 (.ref 49)) 51 .null)
def zP_19 : am_P := (am_up (am_z zP_18 52 .null) 51 0 (.ref 52))
def zI_X2_init_51 (I : am_I) : am_I := (am_z I 52 0)
def zG_X2_init_51 (G : am_G) : am_G := (am_z G 52 0)
set_option maxRecDepth 20000 in
set_option maxHeartbeats 4000000 in
theorem c_X2_init_51 (I : am_I) (G : am_G)  : am_CtA mX2_init 1 1 5 52 (gS.take 52) [.ref 51, .int (5 : Int32)] I G zP_18 (am_pA (gS.take 53) (zI_X2_init_51 I) (zG_X2_init_51 G) zP_19) := by
  refine am_ofA (by decide +kernel) rfl (fun _ => rfl) (by decide) (Nat.le_of_ble_eq_true rfl) (fun X ad hX0 hi hm => ?_)
  have hi : am_info X 2 cX2_init 2 true none 1 := hi
  have hm : am_mem X 1 5 := hm
  show am_V X 0 0 _ (gS.take 52) ad (0, [(0, .ref 51), (1, .int (5 : Int32))], [], I, G, zP_18)
  refine am_blk 0 [(.aload_n 0, 1, 0, 0, .null)] (1, [(0, .ref 51), (1, .int (5 : Int32))], [.ref 51], I, G, zP_18) (True) hX0 hi (by decide +kernel) rfl trivial ?_
  refine am_obj hX0 hi (idx := 1) (by decide +kernel) (by decide +kernel) (Nat.le_of_ble_eq_true rfl) ?_
  show am_V X 0 0 _ (gS.take 52) ad (4, [(0, .ref 51), (1, .int (5 : Int32))], [], I, G, zP_18)
  refine am_blk 4 [(.aload_n 0, 1, 0, 0, .null), (.iload_n 1, 1, 1, 0, .null), (.iconst (0), 1, 0, 0, .int (0 : Int32)), (.invokestatic 7, 3, 2, 0, .null)] (10, [(0, .ref 51), (1, .int (5 : Int32))], [.int (if (5 : Int32) < (0 : Int32) then (0 : Int32) else (5 : Int32)), .ref 51], I, G, zP_18) (True) hX0 hi (by decide +kernel) rfl trivial ?_
  refine am_newa hX0 hi hm (t := 2) (N := 5) (n := (if (5 : Int32) < (0 : Int32) then (0 : Int32) else (5 : Int32))) (at' := .long) (by simp) (by decide +kernel) (by decide +kernel) (by decide) (by decide) (by decide) ⟨by decide, by decide⟩ (by decide +kernel) (by decide +kernel) (fun ad1 e1 => ?_)
  have e1 : ∀ j, j ≠ 52 → ad1 j = ad j := e1
  have hX1 := hX0.adr (fun j hj => e1 j (by show j ≠ 52; omega))
  show am_V X 1 5 _ (gS.take 53) ad1 (12, [(0, .ref 51), (1, .int (5 : Int32))], [.ref 52, .ref 51], (am_z I 52 0), (am_z G 52 0), (am_z zP_18 52 .null))
  refine am_blk 12 [(.putfield 13, 3, 2, 0, .null)] (15, [(0, .ref 51), (1, .int (5 : Int32))], [], (am_z I 52 0), (am_z G 52 0), (am_up (am_z zP_18 52 .null) 51 0 (.ref 52))) (True) hX1 hi (by decide +kernel) rfl trivial ?_
  exact am_vretA hX1 hi rfl (by decide +kernel) (fun j hj => by rw [e1 j (by omega)]) ⟨rfl, rfl, rfl, rfl, rfl⟩ ⟨by decide, by decide⟩
def zP_20 : am_P := (am_up (am_up zP_19 28 4 (.ref 51)) 28 0 (.ref 1))
def zI_X6_init_28 (I : am_I) : am_I := (zI_X2_init_51 (am_z (zI_X2_init_49 (am_z (zI_X2_init_47 (am_z (zI_X5_init_29 (am_z I 29 0)) 47 0)) 49 0)) 51 0))
def zG_X6_init_28 (G : am_G) : am_G := (zG_X2_init_51 (am_z (zG_X2_init_49 (am_z (zG_X2_init_47 (am_z (zG_X5_init_29 (am_z G 29 0)) 47 0)) 49 0)) 51 0))
set_option maxRecDepth 20000 in
set_option maxHeartbeats 4000000 in
theorem c_X6_init_28 (I : am_I) (G : am_G)  : am_CtA mX6_init 3 24 996 29 (gS.take 29) [.ref 28, .ref 1] I G zP_9 (am_pA (gS.take 53) (zI_X6_init_28 I) (zG_X6_init_28 G) zP_20) := by
  refine am_ofA (by decide +kernel) rfl (fun _ => rfl) (by decide) (Nat.le_of_ble_eq_true rfl) (fun X ad hX0 hi hm => ?_)
  have hi : am_info X 6 cX6_init 2 true none 3 := hi
  have hm : am_mem X 24 996 := hm
  show am_V X 0 0 _ (gS.take 29) ad (0, [(0, .ref 28), (1, .ref 1)], [], I, G, zP_9)
  refine am_blk 0 [(.aload_n 0, 1, 0, 0, .null)] (1, [(0, .ref 28), (1, .ref 1)], [.ref 28], I, G, zP_9) (True) hX0 hi (by decide +kernel) rfl trivial ?_
  refine am_obj hX0 hi (idx := 3) (by decide +kernel) (by decide +kernel) (Nat.le_of_ble_eq_true rfl) ?_
  show am_V X 0 0 _ (gS.take 29) ad (4, [(0, .ref 28), (1, .ref 1)], [], I, G, zP_9)
  refine am_blk 4 [(.aload_n 0, 1, 0, 0, .null)] (5, [(0, .ref 28), (1, .ref 1)], [.ref 28], I, G, zP_9) (True) hX0 hi (by decide +kernel) rfl trivial ?_
  refine am_new hX0 hi hm (ci := 5) (idx := 9) rfl (by decide +kernel) (by decide +kernel) (by decide +kernel) (by decide +kernel) ⟨by decide, by decide⟩ (by decide +kernel) (by decide +kernel) (fun ad1 e1 => ?_)
  have e1 : ∀ j, j ≠ 29 → ad1 j = ad j := e1
  have hX1 := hX0.adr (fun j hj => e1 j (by show j ≠ 29; omega))
  show am_V X 1 14 _ (gS.take 30) ad1 (8, [(0, .ref 28), (1, .ref 1)], [.ref 29, .ref 28], (am_z I 29 0), (am_z G 29 0), (am_z zP_9 29 .null))
  refine am_blk 8 [(.dup, 1, 0, 0, .null)] (9, [(0, .ref 28), (1, .ref 1)], [.ref 29, .ref 29, .ref 28], (am_z I 29 0), (am_z G 29 0), (am_z zP_9 29 .null)) (True) hX1 hi (by decide +kernel) rfl trivial ?_
  show am_V X 1 14 _ (gS.take 30) ad1 (9, [(0, .ref 28), (1, .ref 1)], [.ref 29, .ref 29, .ref 28], (am_z I 29 0), (am_z G 29 0), zP_10)
  refine am_callIN hX1 hi hm (M := mX5_init) (idx := 11) (d' := 2) (mc := 17) (ms := 963) (keep := 30) (As := []) (rest := [.ref 29, .ref 28]) mkX5_init miX5_init rfl rfl (by decide +kernel) (by decide +kernel) rfl ⟨by decide, by decide, Nat.le_of_ble_eq_true rfl⟩ rfl ⟨by decide, by decide⟩ (by decide +kernel) (c_X5_init_29 (am_z I 29 0) (am_z G 29 0)) ?_
  rintro r7 sh7 ad2 I7 G7 P7 ⟨q0, q1, q2, q3, q4⟩ e2
  rw [q0, q1, q2, q3, q4]
  have hX2 := hX1.adr (fun j hj => e2 j (Or.inr hj))
  show am_V X 18 977 _ (gS.take 47) ad2 (12, [(0, .ref 28), (1, .ref 1)], [.ref 29, .ref 28], (zI_X5_init_29 (am_z I 29 0)), (zG_X5_init_29 (am_z G 29 0)), zP_13)
  refine am_blk 12 [(.putfield 12, 3, 6, 1, .null), (.aload_n 0, 1, 0, 0, .null)] (16, [(0, .ref 28), (1, .ref 1)], [.ref 28], (zI_X5_init_29 (am_z I 29 0)), (zG_X5_init_29 (am_z G 29 0)), (am_up zP_13 28 1 (.ref 29))) (True) hX2 hi (by decide +kernel) rfl trivial ?_
  refine am_new hX2 hi hm (ci := 2) (idx := 18) rfl (by decide +kernel) (by decide +kernel) (by decide +kernel) (by decide +kernel) ⟨by decide, by decide⟩ (by decide +kernel) (by decide +kernel) (fun ad3 e3 => ?_)
  have e3 : ∀ j, j ≠ 47 → ad3 j = ad2 j := e3
  have hX3 := hX2.adr (fun j hj => e3 j (by show j ≠ 47; omega))
  show am_V X 19 979 _ (gS.take 48) ad3 (19, [(0, .ref 28), (1, .ref 1)], [.ref 47, .ref 28], (am_z (zI_X5_init_29 (am_z I 29 0)) 47 0), (am_z (zG_X5_init_29 (am_z G 29 0)) 47 0), (am_z (am_up zP_13 28 1 (.ref 29)) 47 .null))
  refine am_blk 19 [(.dup, 1, 0, 0, .null), (.iconst (4), 1, 0, 0, .int (4 : Int32))] (21, [(0, .ref 28), (1, .ref 1)], [.int (4 : Int32), .ref 47, .ref 47, .ref 28], (am_z (zI_X5_init_29 (am_z I 29 0)) 47 0), (am_z (zG_X5_init_29 (am_z G 29 0)) 47 0), (am_z (am_up zP_13 28 1 (.ref 29)) 47 .null)) (True) hX3 hi (by decide +kernel) rfl trivial ?_
  show am_V X 19 979 _ (gS.take 48) ad3 (21, [(0, .ref 28), (1, .ref 1)], [.int (4 : Int32), .ref 47, .ref 47, .ref 28], (am_z (zI_X5_init_29 (am_z I 29 0)) 47 0), (am_z (zG_X5_init_29 (am_z G 29 0)) 47 0), zP_14)
  refine am_callI hX3 hi hm (M := mX2_init) (idx := 20) (d' := 1) (mc := 1) (ms := 4) (keep := 48) (As := [.int (4 : Int32)]) (rest := [.ref 47, .ref 28]) mkX2_init miX2_init rfl rfl (by decide +kernel) (by decide +kernel) rfl ⟨by decide, by decide, Nat.le_of_ble_eq_true rfl⟩ rfl ⟨by decide, by decide⟩ (by decide +kernel) (c_X2_init_47 (am_z (zI_X5_init_29 (am_z I 29 0)) 47 0) (am_z (zG_X5_init_29 (am_z G 29 0)) 47 0)) ?_
  rintro r7 sh7 ad4 I7 G7 P7 ⟨q0, q1, q2, q3, q4⟩ e4
  rw [q0, q1, q2, q3, q4]
  have hX4 := hX3.adr (fun j hj => e4 j (Or.inr hj))
  show am_V X 20 983 _ (gS.take 49) ad4 (24, [(0, .ref 28), (1, .ref 1)], [.ref 47, .ref 28], (zI_X2_init_47 (am_z (zI_X5_init_29 (am_z I 29 0)) 47 0)), (zG_X2_init_47 (am_z (zG_X5_init_29 (am_z G 29 0)) 47 0)), zP_15)
  refine am_blk 24 [(.putfield 23, 3, 6, 2, .null), (.aload_n 0, 1, 0, 0, .null)] (28, [(0, .ref 28), (1, .ref 1)], [.ref 28], (zI_X2_init_47 (am_z (zI_X5_init_29 (am_z I 29 0)) 47 0)), (zG_X2_init_47 (am_z (zG_X5_init_29 (am_z G 29 0)) 47 0)), (am_up zP_15 28 2 (.ref 47))) (True) hX4 hi (by decide +kernel) rfl trivial ?_
  refine am_new hX4 hi hm (ci := 2) (idx := 18) rfl (by decide +kernel) (by decide +kernel) (by decide +kernel) (by decide +kernel) ⟨by decide, by decide⟩ (by decide +kernel) (by decide +kernel) (fun ad5 e5 => ?_)
  have e5 : ∀ j, j ≠ 49 → ad5 j = ad4 j := e5
  have hX5 := hX4.adr (fun j hj => e5 j (by show j ≠ 49; omega))
  show am_V X 21 985 _ (gS.take 50) ad5 (31, [(0, .ref 28), (1, .ref 1)], [.ref 49, .ref 28], (am_z (zI_X2_init_47 (am_z (zI_X5_init_29 (am_z I 29 0)) 47 0)) 49 0), (am_z (zG_X2_init_47 (am_z (zG_X5_init_29 (am_z G 29 0)) 47 0)) 49 0), (am_z (am_up zP_15 28 2 (.ref 47)) 49 .null))
  refine am_blk 31 [(.dup, 1, 0, 0, .null), (.iconst (4), 1, 0, 0, .int (4 : Int32))] (33, [(0, .ref 28), (1, .ref 1)], [.int (4 : Int32), .ref 49, .ref 49, .ref 28], (am_z (zI_X2_init_47 (am_z (zI_X5_init_29 (am_z I 29 0)) 47 0)) 49 0), (am_z (zG_X2_init_47 (am_z (zG_X5_init_29 (am_z G 29 0)) 47 0)) 49 0), (am_z (am_up zP_15 28 2 (.ref 47)) 49 .null)) (True) hX5 hi (by decide +kernel) rfl trivial ?_
  show am_V X 21 985 _ (gS.take 50) ad5 (33, [(0, .ref 28), (1, .ref 1)], [.int (4 : Int32), .ref 49, .ref 49, .ref 28], (am_z (zI_X2_init_47 (am_z (zI_X5_init_29 (am_z I 29 0)) 47 0)) 49 0), (am_z (zG_X2_init_47 (am_z (zG_X5_init_29 (am_z G 29 0)) 47 0)) 49 0), zP_16)
  refine am_callI hX5 hi hm (M := mX2_init) (idx := 20) (d' := 1) (mc := 1) (ms := 4) (keep := 50) (As := [.int (4 : Int32)]) (rest := [.ref 49, .ref 28]) mkX2_init miX2_init rfl rfl (by decide +kernel) (by decide +kernel) rfl ⟨by decide, by decide, Nat.le_of_ble_eq_true rfl⟩ rfl ⟨by decide, by decide⟩ (by decide +kernel) (c_X2_init_49 (am_z (zI_X2_init_47 (am_z (zI_X5_init_29 (am_z I 29 0)) 47 0)) 49 0) (am_z (zG_X2_init_47 (am_z (zG_X5_init_29 (am_z G 29 0)) 47 0)) 49 0)) ?_
  rintro r7 sh7 ad6 I7 G7 P7 ⟨q0, q1, q2, q3, q4⟩ e6
  rw [q0, q1, q2, q3, q4]
  have hX6 := hX5.adr (fun j hj => e6 j (Or.inr hj))
  show am_V X 22 989 _ (gS.take 51) ad6 (36, [(0, .ref 28), (1, .ref 1)], [.ref 49, .ref 28], (zI_X2_init_49 (am_z (zI_X2_init_47 (am_z (zI_X5_init_29 (am_z I 29 0)) 47 0)) 49 0)), (zG_X2_init_49 (am_z (zG_X2_init_47 (am_z (zG_X5_init_29 (am_z G 29 0)) 47 0)) 49 0)), zP_17)
  refine am_blk 36 [(.putfield 27, 3, 6, 3, .null), (.aload_n 0, 1, 0, 0, .null)] (40, [(0, .ref 28), (1, .ref 1)], [.ref 28], (zI_X2_init_49 (am_z (zI_X2_init_47 (am_z (zI_X5_init_29 (am_z I 29 0)) 47 0)) 49 0)), (zG_X2_init_49 (am_z (zG_X2_init_47 (am_z (zG_X5_init_29 (am_z G 29 0)) 47 0)) 49 0)), (am_up zP_17 28 3 (.ref 49))) (True) hX6 hi (by decide +kernel) rfl trivial ?_
  refine am_new hX6 hi hm (ci := 2) (idx := 18) rfl (by decide +kernel) (by decide +kernel) (by decide +kernel) (by decide +kernel) ⟨by decide, by decide⟩ (by decide +kernel) (by decide +kernel) (fun ad7 e7 => ?_)
  have e7 : ∀ j, j ≠ 51 → ad7 j = ad6 j := e7
  have hX7 := hX6.adr (fun j hj => e7 j (by show j ≠ 51; omega))
  show am_V X 23 991 _ (gS.take 52) ad7 (43, [(0, .ref 28), (1, .ref 1)], [.ref 51, .ref 28], (am_z (zI_X2_init_49 (am_z (zI_X2_init_47 (am_z (zI_X5_init_29 (am_z I 29 0)) 47 0)) 49 0)) 51 0), (am_z (zG_X2_init_49 (am_z (zG_X2_init_47 (am_z (zG_X5_init_29 (am_z G 29 0)) 47 0)) 49 0)) 51 0), (am_z (am_up zP_17 28 3 (.ref 49)) 51 .null))
  refine am_blk 43 [(.dup, 1, 0, 0, .null), (.iconst (5), 1, 0, 0, .int (5 : Int32))] (45, [(0, .ref 28), (1, .ref 1)], [.int (5 : Int32), .ref 51, .ref 51, .ref 28], (am_z (zI_X2_init_49 (am_z (zI_X2_init_47 (am_z (zI_X5_init_29 (am_z I 29 0)) 47 0)) 49 0)) 51 0), (am_z (zG_X2_init_49 (am_z (zG_X2_init_47 (am_z (zG_X5_init_29 (am_z G 29 0)) 47 0)) 49 0)) 51 0), (am_z (am_up zP_17 28 3 (.ref 49)) 51 .null)) (True) hX7 hi (by decide +kernel) rfl trivial ?_
  show am_V X 23 991 _ (gS.take 52) ad7 (45, [(0, .ref 28), (1, .ref 1)], [.int (5 : Int32), .ref 51, .ref 51, .ref 28], (am_z (zI_X2_init_49 (am_z (zI_X2_init_47 (am_z (zI_X5_init_29 (am_z I 29 0)) 47 0)) 49 0)) 51 0), (am_z (zG_X2_init_49 (am_z (zG_X2_init_47 (am_z (zG_X5_init_29 (am_z G 29 0)) 47 0)) 49 0)) 51 0), zP_18)
  refine am_callI hX7 hi hm (M := mX2_init) (idx := 20) (d' := 1) (mc := 1) (ms := 5) (keep := 52) (As := [.int (5 : Int32)]) (rest := [.ref 51, .ref 28]) mkX2_init miX2_init rfl rfl (by decide +kernel) (by decide +kernel) rfl ⟨by decide, by decide, Nat.le_of_ble_eq_true rfl⟩ rfl ⟨by decide, by decide⟩ (by decide +kernel) (c_X2_init_51 (am_z (zI_X2_init_49 (am_z (zI_X2_init_47 (am_z (zI_X5_init_29 (am_z I 29 0)) 47 0)) 49 0)) 51 0) (am_z (zG_X2_init_49 (am_z (zG_X2_init_47 (am_z (zG_X5_init_29 (am_z G 29 0)) 47 0)) 49 0)) 51 0)) ?_
  rintro r7 sh7 ad8 I7 G7 P7 ⟨q0, q1, q2, q3, q4⟩ e8
  rw [q0, q1, q2, q3, q4]
  have hX8 := hX7.adr (fun j hj => e8 j (Or.inr hj))
  show am_V X 24 996 _ (gS.take 53) ad8 (48, [(0, .ref 28), (1, .ref 1)], [.ref 51, .ref 28], (zI_X2_init_51 (am_z (zI_X2_init_49 (am_z (zI_X2_init_47 (am_z (zI_X5_init_29 (am_z I 29 0)) 47 0)) 49 0)) 51 0)), (zG_X2_init_51 (am_z (zG_X2_init_49 (am_z (zG_X2_init_47 (am_z (zG_X5_init_29 (am_z G 29 0)) 47 0)) 49 0)) 51 0)), zP_19)
  refine am_blk 48 [(.putfield 30, 3, 6, 4, .null), (.aload_n 0, 1, 0, 0, .null), (.aload_n 1, 1, 1, 0, .null), (.putfield 33, 3, 6, 0, .null)] (56, [(0, .ref 28), (1, .ref 1)], [], (zI_X2_init_51 (am_z (zI_X2_init_49 (am_z (zI_X2_init_47 (am_z (zI_X5_init_29 (am_z I 29 0)) 47 0)) 49 0)) 51 0)), (zG_X2_init_51 (am_z (zG_X2_init_49 (am_z (zG_X2_init_47 (am_z (zG_X5_init_29 (am_z G 29 0)) 47 0)) 49 0)) 51 0)), (am_up (am_up zP_19 28 4 (.ref 51)) 28 0 (.ref 1))) (True) hX8 hi (by decide +kernel) rfl trivial ?_
  exact am_vretA hX8 hi rfl (by decide +kernel) (fun j hj => by rw [e8 j (by omega), e7 j (by omega), e6 j (by omega), e5 j (by omega), e4 j (by omega), e3 j (by omega), e2 j (by omega), e1 j (by omega)]) ⟨rfl, rfl, rfl, rfl, rfl⟩ ⟨by decide, by decide⟩
def zP_21 : am_P := (am_z (am_up (am_up (am_up zP_20 0 1 (.ref 28)) 0 2 (.ref 7)) 0 3 (.ref 25)) 53 .null)
def zP_22 : am_P := (am_z (am_up (am_z (am_up (am_z (am_up (am_z (am_up (am_z (am_up (am_z (am_up (am_z zP_21 54 .null) 53 2 (.ref 54)) 55 .null) 53 3 (.ref 55)) 56 .null) 53 4 (.ref 56)) 57 .null) 53 5 (.ref 57)) 58 .null) 53 6 (.ref 58)) 59 .null) 53 7 (.ref 59)) 60 .null)
def zP_23 : am_P := (am_up (am_z (am_up (am_z (am_up (am_z zP_22 61 .null) 60 0 (.ref 61)) 62 .null) 60 1 (.ref 62)) 63 .null) 60 2 (.ref 63))
def zI_X4_init_60 (I : am_I) : am_I := (am_z (am_z (am_z I 61 0) 62 0) 63 0)
def zG_X4_init_60 (G : am_G) : am_G := (am_z (am_z (am_z G 61 0) 62 0) 63 0)
set_option maxRecDepth 20000 in
set_option maxHeartbeats 4000000 in
theorem c_X4_init_60 (I : am_I) (G : am_G)  : am_CtA mX4_init 1 3 1728 61 (gS.take 61) [.ref 60] I G zP_22 (am_pA (gS.take 64) (zI_X4_init_60 I) (zG_X4_init_60 G) zP_23) := by
  refine am_ofA (by decide +kernel) rfl (fun _ => rfl) (by decide) (Nat.le_of_ble_eq_true rfl) (fun X ad hX0 hi hm => ?_)
  have hi : am_info X 4 cX4_init 1 true none 1 := hi
  have hm : am_mem X 3 1728 := hm
  show am_V X 0 0 _ (gS.take 61) ad (0, [(0, .ref 60)], [], I, G, zP_22)
  refine am_blk 0 [(.aload_n 0, 1, 0, 0, .null)] (1, [(0, .ref 60)], [.ref 60], I, G, zP_22) (True) hX0 hi (by decide +kernel) rfl trivial ?_
  refine am_obj hX0 hi (idx := 3) (by decide +kernel) (by decide +kernel) (Nat.le_of_ble_eq_true rfl) ?_
  show am_V X 0 0 _ (gS.take 61) ad (4, [(0, .ref 60)], [], I, G, zP_22)
  refine am_blk 4 [(.aload_n 0, 1, 0, 0, .null), (.sipush (576), 3, 0, 0, .int (576 : Int32))] (8, [(0, .ref 60)], [.int (576 : Int32), .ref 60], I, G, zP_22) (True) hX0 hi (by decide +kernel) rfl trivial ?_
  refine am_newa hX0 hi hm (t := 0) (N := 576) (n := (576 : Int32)) (at' := .int) (by simp) (by decide +kernel) (by decide +kernel) (by decide) (by decide) (by decide) ⟨by decide, by decide⟩ (by decide +kernel) (by decide +kernel) (fun ad1 e1 => ?_)
  have e1 : ∀ j, j ≠ 61 → ad1 j = ad j := e1
  have hX1 := hX0.adr (fun j hj => e1 j (by show j ≠ 61; omega))
  show am_V X 1 576 _ (gS.take 62) ad1 (10, [(0, .ref 60)], [.ref 61, .ref 60], (am_z I 61 0), (am_z G 61 0), (am_z zP_22 61 .null))
  refine am_blk 10 [(.putfield 9, 3, 4, 0, .null), (.aload_n 0, 1, 0, 0, .null), (.sipush (576), 3, 0, 0, .int (576 : Int32))] (17, [(0, .ref 60)], [.int (576 : Int32), .ref 60], (am_z I 61 0), (am_z G 61 0), (am_up (am_z zP_22 61 .null) 60 0 (.ref 61))) (True) hX1 hi (by decide +kernel) rfl trivial ?_
  refine am_newa hX1 hi hm (t := 0) (N := 576) (n := (576 : Int32)) (at' := .int) (by simp) (by decide +kernel) (by decide +kernel) (by decide) (by decide) (by decide) ⟨by decide, by decide⟩ (by decide +kernel) (by decide +kernel) (fun ad2 e2 => ?_)
  have e2 : ∀ j, j ≠ 62 → ad2 j = ad1 j := e2
  have hX2 := hX1.adr (fun j hj => e2 j (by show j ≠ 62; omega))
  show am_V X 2 1152 _ (gS.take 63) ad2 (19, [(0, .ref 60)], [.ref 62, .ref 60], (am_z (am_z I 61 0) 62 0), (am_z (am_z G 61 0) 62 0), (am_z (am_up (am_z zP_22 61 .null) 60 0 (.ref 61)) 62 .null))
  refine am_blk 19 [(.putfield 15, 3, 4, 1, .null), (.aload_n 0, 1, 0, 0, .null), (.sipush (576), 3, 0, 0, .int (576 : Int32))] (26, [(0, .ref 60)], [.int (576 : Int32), .ref 60], (am_z (am_z I 61 0) 62 0), (am_z (am_z G 61 0) 62 0), (am_up (am_z (am_up (am_z zP_22 61 .null) 60 0 (.ref 61)) 62 .null) 60 1 (.ref 62))) (True) hX2 hi (by decide +kernel) rfl trivial ?_
  refine am_newa hX2 hi hm (t := 0) (N := 576) (n := (576 : Int32)) (at' := .int) (by simp) (by decide +kernel) (by decide +kernel) (by decide) (by decide) (by decide) ⟨by decide, by decide⟩ (by decide +kernel) (by decide +kernel) (fun ad3 e3 => ?_)
  have e3 : ∀ j, j ≠ 63 → ad3 j = ad2 j := e3
  have hX3 := hX2.adr (fun j hj => e3 j (by show j ≠ 63; omega))
  show am_V X 3 1728 _ (gS.take 64) ad3 (28, [(0, .ref 60)], [.ref 63, .ref 60], (am_z (am_z (am_z I 61 0) 62 0) 63 0), (am_z (am_z (am_z G 61 0) 62 0) 63 0), (am_z (am_up (am_z (am_up (am_z zP_22 61 .null) 60 0 (.ref 61)) 62 .null) 60 1 (.ref 62)) 63 .null))
  refine am_blk 28 [(.putfield 18, 3, 4, 2, .null)] (31, [(0, .ref 60)], [], (am_z (am_z (am_z I 61 0) 62 0) 63 0), (am_z (am_z (am_z G 61 0) 62 0) 63 0), (am_up (am_z (am_up (am_z (am_up (am_z zP_22 61 .null) 60 0 (.ref 61)) 62 .null) 60 1 (.ref 62)) 63 .null) 60 2 (.ref 63))) (True) hX3 hi (by decide +kernel) rfl trivial ?_
  exact am_vretA hX3 hi rfl (by decide +kernel) (fun j hj => by rw [e3 j (by omega), e2 j (by omega), e1 j (by omega)]) ⟨rfl, rfl, rfl, rfl, rfl⟩ ⟨by decide, by decide⟩
def zP_24 : am_P := (am_z (am_up zP_23 53 8 (.ref 60)) 64 .null)
def zP_25 : am_P := (am_up (am_z zP_24 65 .null) 64 0 (.ref 65))
def zI_X8_init_64 (I : am_I) : am_I := (am_z I 65 0)
def zG_X8_init_64 (G : am_G) : am_G := (am_z G 65 0)
set_option maxRecDepth 20000 in
set_option maxHeartbeats 4000000 in
theorem c_X8_init_64 (I : am_I) (G : am_G)  : am_CtA mX8_init 1 1 400 65 (gS.take 65) [.ref 64] I G zP_24 (am_pA (gS.take 66) (zI_X8_init_64 I) (zG_X8_init_64 G) zP_25) := by
  refine am_ofA (by decide +kernel) rfl (fun _ => rfl) (by decide) (Nat.le_of_ble_eq_true rfl) (fun X ad hX0 hi hm => ?_)
  have hi : am_info X 8 cX8_init 1 true none 1 := hi
  have hm : am_mem X 1 400 := hm
  show am_V X 0 0 _ (gS.take 65) ad (0, [(0, .ref 64)], [], I, G, zP_24)
  refine am_blk 0 [(.aload_n 0, 1, 0, 0, .null)] (1, [(0, .ref 64)], [.ref 64], I, G, zP_24) (True) hX0 hi (by decide +kernel) rfl trivial ?_
  refine am_obj hX0 hi (idx := 3) (by decide +kernel) (by decide +kernel) (Nat.le_of_ble_eq_true rfl) ?_
  show am_V X 0 0 _ (gS.take 65) ad (4, [(0, .ref 64)], [], I, G, zP_24)
  refine am_blk 4 [(.aload_n 0, 1, 0, 0, .null), (.sipush (400), 3, 0, 0, .int (400 : Int32))] (8, [(0, .ref 64)], [.int (400 : Int32), .ref 64], I, G, zP_24) (True) hX0 hi (by decide +kernel) rfl trivial ?_
  refine am_newa hX0 hi hm (t := 0) (N := 400) (n := (400 : Int32)) (at' := .int) (by simp) (by decide +kernel) (by decide +kernel) (by decide) (by decide) (by decide) ⟨by decide, by decide⟩ (by decide +kernel) (by decide +kernel) (fun ad1 e1 => ?_)
  have e1 : ∀ j, j ≠ 65 → ad1 j = ad j := e1
  have hX1 := hX0.adr (fun j hj => e1 j (by show j ≠ 65; omega))
  show am_V X 1 400 _ (gS.take 66) ad1 (10, [(0, .ref 64)], [.ref 65, .ref 64], (am_z I 65 0), (am_z G 65 0), (am_z zP_24 65 .null))
  refine am_blk 10 [(.putfield 9, 3, 8, 0, .null)] (13, [(0, .ref 64)], [], (am_z I 65 0), (am_z G 65 0), (am_up (am_z zP_24 65 .null) 64 0 (.ref 65))) (True) hX1 hi (by decide +kernel) rfl trivial ?_
  exact am_vretA hX1 hi rfl (by decide +kernel) (fun j hj => by rw [e1 j (by omega)]) ⟨rfl, rfl, rfl, rfl, rfl⟩ ⟨by decide, by decide⟩
def zP_26 : am_P := (am_up (am_up (am_up zP_25 53 9 (.ref 64)) 53 0 (.ref 7)) 53 1 (.ref 25))
def zI_X7_init_53 (I : am_I) : am_I := (zI_X8_init_64 (am_z (zI_X4_init_60 (am_z (am_z (am_z (am_z (am_z (am_z (am_z I 54 0) 55 0) 56 0) 57 0) 58 0) 59 0) 60 0)) 64 0))
def zG_X7_init_53 (G : am_G) : am_G := (zG_X8_init_64 (am_z (zG_X4_init_60 (am_z (am_z (am_z (am_z (am_z (am_z (am_z G 54 0) 55 0) 56 0) 57 0) 58 0) 59 0) 60 0)) 64 0))
set_option maxRecDepth 20000 in
set_option maxHeartbeats 4000000 in
theorem c_X7_init_53 (I : am_I) (G : am_G)  : am_CtA mX7_init 2 12 3398 54 (gS.take 54) [.ref 53, .ref 7, .ref 25] I G zP_21 (am_pA (gS.take 66) (zI_X7_init_53 I) (zG_X7_init_53 G) zP_26) := by
  refine am_ofA (by decide +kernel) rfl (fun _ => rfl) (by decide) (Nat.le_of_ble_eq_true rfl) (fun X ad hX0 hi hm => ?_)
  have hi : am_info X 7 cX7_init 3 true none 2 := hi
  have hm : am_mem X 12 3398 := hm
  show am_V X 0 0 _ (gS.take 54) ad (0, [(0, .ref 53), (1, .ref 7), (2, .ref 25)], [], I, G, zP_21)
  refine am_blk 0 [(.aload_n 0, 1, 0, 0, .null)] (1, [(0, .ref 53), (1, .ref 7), (2, .ref 25)], [.ref 53], I, G, zP_21) (True) hX0 hi (by decide +kernel) rfl trivial ?_
  refine am_obj hX0 hi (idx := 3) (by decide +kernel) (by decide +kernel) (Nat.le_of_ble_eq_true rfl) ?_
  show am_V X 0 0 _ (gS.take 54) ad (4, [(0, .ref 53), (1, .ref 7), (2, .ref 25)], [], I, G, zP_21)
  refine am_blk 4 [(.aload_n 0, 1, 0, 0, .null), (.iconst (4), 1, 0, 0, .int (4 : Int32))] (6, [(0, .ref 53), (1, .ref 7), (2, .ref 25)], [.int (4 : Int32), .ref 53], I, G, zP_21) (True) hX0 hi (by decide +kernel) rfl trivial ?_
  refine am_newa hX0 hi hm (t := 0) (N := 4) (n := (4 : Int32)) (at' := .int) (by simp) (by decide +kernel) (by decide +kernel) (by decide) (by decide) (by decide) ⟨by decide, by decide⟩ (by decide +kernel) (by decide +kernel) (fun ad1 e1 => ?_)
  have e1 : ∀ j, j ≠ 54 → ad1 j = ad j := e1
  have hX1 := hX0.adr (fun j hj => e1 j (by show j ≠ 54; omega))
  show am_V X 1 4 _ (gS.take 55) ad1 (8, [(0, .ref 53), (1, .ref 7), (2, .ref 25)], [.ref 54, .ref 53], (am_z I 54 0), (am_z G 54 0), (am_z zP_21 54 .null))
  refine am_blk 8 [(.putfield 9, 3, 7, 2, .null), (.aload_n 0, 1, 0, 0, .null), (.bipush (96), 2, 0, 0, .int (96 : Int32))] (14, [(0, .ref 53), (1, .ref 7), (2, .ref 25)], [.int (96 : Int32), .ref 53], (am_z I 54 0), (am_z G 54 0), (am_up (am_z zP_21 54 .null) 53 2 (.ref 54))) (True) hX1 hi (by decide +kernel) rfl trivial ?_
  refine am_newa hX1 hi hm (t := 0) (N := 96) (n := (96 : Int32)) (at' := .int) (by simp) (by decide +kernel) (by decide +kernel) (by decide) (by decide) (by decide) ⟨by decide, by decide⟩ (by decide +kernel) (by decide +kernel) (fun ad2 e2 => ?_)
  have e2 : ∀ j, j ≠ 55 → ad2 j = ad1 j := e2
  have hX2 := hX1.adr (fun j hj => e2 j (by show j ≠ 55; omega))
  show am_V X 2 100 _ (gS.take 56) ad2 (16, [(0, .ref 53), (1, .ref 7), (2, .ref 25)], [.ref 55, .ref 53], (am_z (am_z I 54 0) 55 0), (am_z (am_z G 54 0) 55 0), (am_z (am_up (am_z zP_21 54 .null) 53 2 (.ref 54)) 55 .null))
  refine am_blk 16 [(.putfield 15, 3, 7, 3, .null), (.aload_n 0, 1, 0, 0, .null), (.iconst (4), 1, 0, 0, .int (4 : Int32))] (21, [(0, .ref 53), (1, .ref 7), (2, .ref 25)], [.int (4 : Int32), .ref 53], (am_z (am_z I 54 0) 55 0), (am_z (am_z G 54 0) 55 0), (am_up (am_z (am_up (am_z zP_21 54 .null) 53 2 (.ref 54)) 55 .null) 53 3 (.ref 55))) (True) hX2 hi (by decide +kernel) rfl trivial ?_
  refine am_newa hX2 hi hm (t := 0) (N := 4) (n := (4 : Int32)) (at' := .int) (by simp) (by decide +kernel) (by decide +kernel) (by decide) (by decide) (by decide) ⟨by decide, by decide⟩ (by decide +kernel) (by decide +kernel) (fun ad3 e3 => ?_)
  have e3 : ∀ j, j ≠ 56 → ad3 j = ad2 j := e3
  have hX3 := hX2.adr (fun j hj => e3 j (by show j ≠ 56; omega))
  show am_V X 3 104 _ (gS.take 57) ad3 (23, [(0, .ref 53), (1, .ref 7), (2, .ref 25)], [.ref 56, .ref 53], (am_z (am_z (am_z I 54 0) 55 0) 56 0), (am_z (am_z (am_z G 54 0) 55 0) 56 0), (am_z (am_up (am_z (am_up (am_z zP_21 54 .null) 53 2 (.ref 54)) 55 .null) 53 3 (.ref 55)) 56 .null))
  refine am_blk 23 [(.putfield 18, 3, 7, 4, .null), (.aload_n 0, 1, 0, 0, .null), (.sipush (576), 3, 0, 0, .int (576 : Int32))] (30, [(0, .ref 53), (1, .ref 7), (2, .ref 25)], [.int (576 : Int32), .ref 53], (am_z (am_z (am_z I 54 0) 55 0) 56 0), (am_z (am_z (am_z G 54 0) 55 0) 56 0), (am_up (am_z (am_up (am_z (am_up (am_z zP_21 54 .null) 53 2 (.ref 54)) 55 .null) 53 3 (.ref 55)) 56 .null) 53 4 (.ref 56))) (True) hX3 hi (by decide +kernel) rfl trivial ?_
  refine am_newa hX3 hi hm (t := 0) (N := 576) (n := (576 : Int32)) (at' := .int) (by simp) (by decide +kernel) (by decide +kernel) (by decide) (by decide) (by decide) ⟨by decide, by decide⟩ (by decide +kernel) (by decide +kernel) (fun ad4 e4 => ?_)
  have e4 : ∀ j, j ≠ 57 → ad4 j = ad3 j := e4
  have hX4 := hX3.adr (fun j hj => e4 j (by show j ≠ 57; omega))
  show am_V X 4 680 _ (gS.take 58) ad4 (32, [(0, .ref 53), (1, .ref 7), (2, .ref 25)], [.ref 57, .ref 53], (am_z (am_z (am_z (am_z I 54 0) 55 0) 56 0) 57 0), (am_z (am_z (am_z (am_z G 54 0) 55 0) 56 0) 57 0), (am_z (am_up (am_z (am_up (am_z (am_up (am_z zP_21 54 .null) 53 2 (.ref 54)) 55 .null) 53 3 (.ref 55)) 56 .null) 53 4 (.ref 56)) 57 .null))
  refine am_blk 32 [(.putfield 21, 3, 7, 5, .null), (.aload_n 0, 1, 0, 0, .null), (.sipush (576), 3, 0, 0, .int (576 : Int32))] (39, [(0, .ref 53), (1, .ref 7), (2, .ref 25)], [.int (576 : Int32), .ref 53], (am_z (am_z (am_z (am_z I 54 0) 55 0) 56 0) 57 0), (am_z (am_z (am_z (am_z G 54 0) 55 0) 56 0) 57 0), (am_up (am_z (am_up (am_z (am_up (am_z (am_up (am_z zP_21 54 .null) 53 2 (.ref 54)) 55 .null) 53 3 (.ref 55)) 56 .null) 53 4 (.ref 56)) 57 .null) 53 5 (.ref 57))) (True) hX4 hi (by decide +kernel) rfl trivial ?_
  refine am_newa hX4 hi hm (t := 0) (N := 576) (n := (576 : Int32)) (at' := .int) (by simp) (by decide +kernel) (by decide +kernel) (by decide) (by decide) (by decide) ⟨by decide, by decide⟩ (by decide +kernel) (by decide +kernel) (fun ad5 e5 => ?_)
  have e5 : ∀ j, j ≠ 58 → ad5 j = ad4 j := e5
  have hX5 := hX4.adr (fun j hj => e5 j (by show j ≠ 58; omega))
  show am_V X 5 1256 _ (gS.take 59) ad5 (41, [(0, .ref 53), (1, .ref 7), (2, .ref 25)], [.ref 58, .ref 53], (am_z (am_z (am_z (am_z (am_z I 54 0) 55 0) 56 0) 57 0) 58 0), (am_z (am_z (am_z (am_z (am_z G 54 0) 55 0) 56 0) 57 0) 58 0), (am_z (am_up (am_z (am_up (am_z (am_up (am_z (am_up (am_z zP_21 54 .null) 53 2 (.ref 54)) 55 .null) 53 3 (.ref 55)) 56 .null) 53 4 (.ref 56)) 57 .null) 53 5 (.ref 57)) 58 .null))
  refine am_blk 41 [(.putfield 24, 3, 7, 6, .null), (.aload_n 0, 1, 0, 0, .null), (.bipush (6), 2, 0, 0, .int (6 : Int32))] (47, [(0, .ref 53), (1, .ref 7), (2, .ref 25)], [.int (6 : Int32), .ref 53], (am_z (am_z (am_z (am_z (am_z I 54 0) 55 0) 56 0) 57 0) 58 0), (am_z (am_z (am_z (am_z (am_z G 54 0) 55 0) 56 0) 57 0) 58 0), (am_up (am_z (am_up (am_z (am_up (am_z (am_up (am_z (am_up (am_z zP_21 54 .null) 53 2 (.ref 54)) 55 .null) 53 3 (.ref 55)) 56 .null) 53 4 (.ref 56)) 57 .null) 53 5 (.ref 57)) 58 .null) 53 6 (.ref 58))) (True) hX5 hi (by decide +kernel) rfl trivial ?_
  refine am_newa hX5 hi hm (t := 0) (N := 6) (n := (6 : Int32)) (at' := .int) (by simp) (by decide +kernel) (by decide +kernel) (by decide) (by decide) (by decide) ⟨by decide, by decide⟩ (by decide +kernel) (by decide +kernel) (fun ad6 e6 => ?_)
  have e6 : ∀ j, j ≠ 59 → ad6 j = ad5 j := e6
  have hX6 := hX5.adr (fun j hj => e6 j (by show j ≠ 59; omega))
  show am_V X 6 1262 _ (gS.take 60) ad6 (49, [(0, .ref 53), (1, .ref 7), (2, .ref 25)], [.ref 59, .ref 53], (am_z (am_z (am_z (am_z (am_z (am_z I 54 0) 55 0) 56 0) 57 0) 58 0) 59 0), (am_z (am_z (am_z (am_z (am_z (am_z G 54 0) 55 0) 56 0) 57 0) 58 0) 59 0), (am_z (am_up (am_z (am_up (am_z (am_up (am_z (am_up (am_z (am_up (am_z zP_21 54 .null) 53 2 (.ref 54)) 55 .null) 53 3 (.ref 55)) 56 .null) 53 4 (.ref 56)) 57 .null) 53 5 (.ref 57)) 58 .null) 53 6 (.ref 58)) 59 .null))
  refine am_blk 49 [(.putfield 27, 3, 7, 7, .null), (.aload_n 0, 1, 0, 0, .null)] (53, [(0, .ref 53), (1, .ref 7), (2, .ref 25)], [.ref 53], (am_z (am_z (am_z (am_z (am_z (am_z I 54 0) 55 0) 56 0) 57 0) 58 0) 59 0), (am_z (am_z (am_z (am_z (am_z (am_z G 54 0) 55 0) 56 0) 57 0) 58 0) 59 0), (am_up (am_z (am_up (am_z (am_up (am_z (am_up (am_z (am_up (am_z (am_up (am_z zP_21 54 .null) 53 2 (.ref 54)) 55 .null) 53 3 (.ref 55)) 56 .null) 53 4 (.ref 56)) 57 .null) 53 5 (.ref 57)) 58 .null) 53 6 (.ref 58)) 59 .null) 53 7 (.ref 59))) (True) hX6 hi (by decide +kernel) rfl trivial ?_
  refine am_new hX6 hi hm (ci := 4) (idx := 30) rfl (by decide +kernel) (by decide +kernel) (by decide +kernel) (by decide +kernel) ⟨by decide, by decide⟩ (by decide +kernel) (by decide +kernel) (fun ad7 e7 => ?_)
  have e7 : ∀ j, j ≠ 60 → ad7 j = ad6 j := e7
  have hX7 := hX6.adr (fun j hj => e7 j (by show j ≠ 60; omega))
  show am_V X 7 1268 _ (gS.take 61) ad7 (56, [(0, .ref 53), (1, .ref 7), (2, .ref 25)], [.ref 60, .ref 53], (am_z (am_z (am_z (am_z (am_z (am_z (am_z I 54 0) 55 0) 56 0) 57 0) 58 0) 59 0) 60 0), (am_z (am_z (am_z (am_z (am_z (am_z (am_z G 54 0) 55 0) 56 0) 57 0) 58 0) 59 0) 60 0), (am_z (am_up (am_z (am_up (am_z (am_up (am_z (am_up (am_z (am_up (am_z (am_up (am_z zP_21 54 .null) 53 2 (.ref 54)) 55 .null) 53 3 (.ref 55)) 56 .null) 53 4 (.ref 56)) 57 .null) 53 5 (.ref 57)) 58 .null) 53 6 (.ref 58)) 59 .null) 53 7 (.ref 59)) 60 .null))
  refine am_blk 56 [(.dup, 1, 0, 0, .null)] (57, [(0, .ref 53), (1, .ref 7), (2, .ref 25)], [.ref 60, .ref 60, .ref 53], (am_z (am_z (am_z (am_z (am_z (am_z (am_z I 54 0) 55 0) 56 0) 57 0) 58 0) 59 0) 60 0), (am_z (am_z (am_z (am_z (am_z (am_z (am_z G 54 0) 55 0) 56 0) 57 0) 58 0) 59 0) 60 0), (am_z (am_up (am_z (am_up (am_z (am_up (am_z (am_up (am_z (am_up (am_z (am_up (am_z zP_21 54 .null) 53 2 (.ref 54)) 55 .null) 53 3 (.ref 55)) 56 .null) 53 4 (.ref 56)) 57 .null) 53 5 (.ref 57)) 58 .null) 53 6 (.ref 58)) 59 .null) 53 7 (.ref 59)) 60 .null)) (True) hX7 hi (by decide +kernel) rfl trivial ?_
  show am_V X 7 1268 _ (gS.take 61) ad7 (57, [(0, .ref 53), (1, .ref 7), (2, .ref 25)], [.ref 60, .ref 60, .ref 53], (am_z (am_z (am_z (am_z (am_z (am_z (am_z I 54 0) 55 0) 56 0) 57 0) 58 0) 59 0) 60 0), (am_z (am_z (am_z (am_z (am_z (am_z (am_z G 54 0) 55 0) 56 0) 57 0) 58 0) 59 0) 60 0), zP_22)
  refine am_callIN hX7 hi hm (M := mX4_init) (idx := 32) (d' := 1) (mc := 3) (ms := 1728) (keep := 61) (As := []) (rest := [.ref 60, .ref 53]) mkX4_init miX4_init rfl rfl (by decide +kernel) (by decide +kernel) rfl ⟨by decide, by decide, Nat.le_of_ble_eq_true rfl⟩ rfl ⟨by decide, by decide⟩ (by decide +kernel) (c_X4_init_60 (am_z (am_z (am_z (am_z (am_z (am_z (am_z I 54 0) 55 0) 56 0) 57 0) 58 0) 59 0) 60 0) (am_z (am_z (am_z (am_z (am_z (am_z (am_z G 54 0) 55 0) 56 0) 57 0) 58 0) 59 0) 60 0)) ?_
  rintro r7 sh7 ad8 I7 G7 P7 ⟨q0, q1, q2, q3, q4⟩ e8
  rw [q0, q1, q2, q3, q4]
  have hX8 := hX7.adr (fun j hj => e8 j (Or.inr hj))
  show am_V X 10 2996 _ (gS.take 64) ad8 (60, [(0, .ref 53), (1, .ref 7), (2, .ref 25)], [.ref 60, .ref 53], (zI_X4_init_60 (am_z (am_z (am_z (am_z (am_z (am_z (am_z I 54 0) 55 0) 56 0) 57 0) 58 0) 59 0) 60 0)), (zG_X4_init_60 (am_z (am_z (am_z (am_z (am_z (am_z (am_z G 54 0) 55 0) 56 0) 57 0) 58 0) 59 0) 60 0)), zP_23)
  refine am_blk 60 [(.putfield 33, 3, 7, 8, .null), (.aload_n 0, 1, 0, 0, .null)] (64, [(0, .ref 53), (1, .ref 7), (2, .ref 25)], [.ref 53], (zI_X4_init_60 (am_z (am_z (am_z (am_z (am_z (am_z (am_z I 54 0) 55 0) 56 0) 57 0) 58 0) 59 0) 60 0)), (zG_X4_init_60 (am_z (am_z (am_z (am_z (am_z (am_z (am_z G 54 0) 55 0) 56 0) 57 0) 58 0) 59 0) 60 0)), (am_up zP_23 53 8 (.ref 60))) (True) hX8 hi (by decide +kernel) rfl trivial ?_
  refine am_new hX8 hi hm (ci := 8) (idx := 37) rfl (by decide +kernel) (by decide +kernel) (by decide +kernel) (by decide +kernel) ⟨by decide, by decide⟩ (by decide +kernel) (by decide +kernel) (fun ad9 e9 => ?_)
  have e9 : ∀ j, j ≠ 64 → ad9 j = ad8 j := e9
  have hX9 := hX8.adr (fun j hj => e9 j (by show j ≠ 64; omega))
  show am_V X 11 2998 _ (gS.take 65) ad9 (67, [(0, .ref 53), (1, .ref 7), (2, .ref 25)], [.ref 64, .ref 53], (am_z (zI_X4_init_60 (am_z (am_z (am_z (am_z (am_z (am_z (am_z I 54 0) 55 0) 56 0) 57 0) 58 0) 59 0) 60 0)) 64 0), (am_z (zG_X4_init_60 (am_z (am_z (am_z (am_z (am_z (am_z (am_z G 54 0) 55 0) 56 0) 57 0) 58 0) 59 0) 60 0)) 64 0), (am_z (am_up zP_23 53 8 (.ref 60)) 64 .null))
  refine am_blk 67 [(.dup, 1, 0, 0, .null)] (68, [(0, .ref 53), (1, .ref 7), (2, .ref 25)], [.ref 64, .ref 64, .ref 53], (am_z (zI_X4_init_60 (am_z (am_z (am_z (am_z (am_z (am_z (am_z I 54 0) 55 0) 56 0) 57 0) 58 0) 59 0) 60 0)) 64 0), (am_z (zG_X4_init_60 (am_z (am_z (am_z (am_z (am_z (am_z (am_z G 54 0) 55 0) 56 0) 57 0) 58 0) 59 0) 60 0)) 64 0), (am_z (am_up zP_23 53 8 (.ref 60)) 64 .null)) (True) hX9 hi (by decide +kernel) rfl trivial ?_
  show am_V X 11 2998 _ (gS.take 65) ad9 (68, [(0, .ref 53), (1, .ref 7), (2, .ref 25)], [.ref 64, .ref 64, .ref 53], (am_z (zI_X4_init_60 (am_z (am_z (am_z (am_z (am_z (am_z (am_z I 54 0) 55 0) 56 0) 57 0) 58 0) 59 0) 60 0)) 64 0), (am_z (zG_X4_init_60 (am_z (am_z (am_z (am_z (am_z (am_z (am_z G 54 0) 55 0) 56 0) 57 0) 58 0) 59 0) 60 0)) 64 0), zP_24)
  refine am_callIN hX9 hi hm (M := mX8_init) (idx := 39) (d' := 1) (mc := 1) (ms := 400) (keep := 65) (As := []) (rest := [.ref 64, .ref 53]) mkX8_init miX8_init rfl rfl (by decide +kernel) (by decide +kernel) rfl ⟨by decide, by decide, Nat.le_of_ble_eq_true rfl⟩ rfl ⟨by decide, by decide⟩ (by decide +kernel) (c_X8_init_64 (am_z (zI_X4_init_60 (am_z (am_z (am_z (am_z (am_z (am_z (am_z I 54 0) 55 0) 56 0) 57 0) 58 0) 59 0) 60 0)) 64 0) (am_z (zG_X4_init_60 (am_z (am_z (am_z (am_z (am_z (am_z (am_z G 54 0) 55 0) 56 0) 57 0) 58 0) 59 0) 60 0)) 64 0)) ?_
  rintro r7 sh7 ad10 I7 G7 P7 ⟨q0, q1, q2, q3, q4⟩ e10
  rw [q0, q1, q2, q3, q4]
  have hX10 := hX9.adr (fun j hj => e10 j (Or.inr hj))
  show am_V X 12 3398 _ (gS.take 66) ad10 (71, [(0, .ref 53), (1, .ref 7), (2, .ref 25)], [.ref 64, .ref 53], (zI_X8_init_64 (am_z (zI_X4_init_60 (am_z (am_z (am_z (am_z (am_z (am_z (am_z I 54 0) 55 0) 56 0) 57 0) 58 0) 59 0) 60 0)) 64 0)), (zG_X8_init_64 (am_z (zG_X4_init_60 (am_z (am_z (am_z (am_z (am_z (am_z (am_z G 54 0) 55 0) 56 0) 57 0) 58 0) 59 0) 60 0)) 64 0)), zP_25)
  refine am_blk 71 [(.putfield 40, 3, 7, 9, .null), (.aload_n 0, 1, 0, 0, .null), (.aload_n 1, 1, 1, 0, .null), (.putfield 44, 3, 7, 0, .null), (.aload_n 0, 1, 0, 0, .null), (.aload_n 2, 1, 2, 0, .null), (.putfield 48, 3, 7, 1, .null)] (84, [(0, .ref 53), (1, .ref 7), (2, .ref 25)], [], (zI_X8_init_64 (am_z (zI_X4_init_60 (am_z (am_z (am_z (am_z (am_z (am_z (am_z I 54 0) 55 0) 56 0) 57 0) 58 0) 59 0) 60 0)) 64 0)), (zG_X8_init_64 (am_z (zG_X4_init_60 (am_z (am_z (am_z (am_z (am_z (am_z (am_z G 54 0) 55 0) 56 0) 57 0) 58 0) 59 0) 60 0)) 64 0)), (am_up (am_up (am_up zP_25 53 9 (.ref 64)) 53 0 (.ref 7)) 53 1 (.ref 25))) (True) hX10 hi (by decide +kernel) rfl trivial ?_
  exact am_vretA hX10 hi rfl (by decide +kernel) (fun j hj => by rw [e10 j (by omega), e9 j (by omega), e8 j (by omega), e7 j (by omega), e6 j (by omega), e5 j (by omega), e4 j (by omega), e3 j (by omega), e2 j (by omega), e1 j (by omega)]) ⟨rfl, rfl, rfl, rfl, rfl⟩ ⟨by decide, by decide⟩
def zP_27 : am_P := (am_z (am_up zP_26 0 4 (.ref 53)) 66 .null)
def zP_28 : am_P := (am_z (am_up (am_z (am_up (am_z (am_up (am_z (am_up (am_z (am_up (am_z (am_up (am_z zP_27 67 .null) 66 2 (.ref 67)) 68 .null) 66 3 (.ref 68)) 69 .null) 66 4 (.ref 69)) 70 .null) 66 5 (.ref 70)) 71 .null) 66 6 (.ref 71)) 72 .null) 66 7 (.ref 72)) 73 .null)
def zP_29 : am_P := (am_up (am_z (am_up (am_z (am_up (am_z zP_28 74 .null) 73 0 (.ref 74)) 75 .null) 73 1 (.ref 75)) 76 .null) 73 2 (.ref 76))
def zI_X4_init_73 (I : am_I) : am_I := (am_z (am_z (am_z I 74 0) 75 0) 76 0)
def zG_X4_init_73 (G : am_G) : am_G := (am_z (am_z (am_z G 74 0) 75 0) 76 0)
set_option maxRecDepth 20000 in
set_option maxHeartbeats 4000000 in
theorem c_X4_init_73 (I : am_I) (G : am_G)  : am_CtA mX4_init 1 3 1728 74 (gS.take 74) [.ref 73] I G zP_28 (am_pA (gS.take 77) (zI_X4_init_73 I) (zG_X4_init_73 G) zP_29) := by
  refine am_ofA (by decide +kernel) rfl (fun _ => rfl) (by decide) (Nat.le_of_ble_eq_true rfl) (fun X ad hX0 hi hm => ?_)
  have hi : am_info X 4 cX4_init 1 true none 1 := hi
  have hm : am_mem X 3 1728 := hm
  show am_V X 0 0 _ (gS.take 74) ad (0, [(0, .ref 73)], [], I, G, zP_28)
  refine am_blk 0 [(.aload_n 0, 1, 0, 0, .null)] (1, [(0, .ref 73)], [.ref 73], I, G, zP_28) (True) hX0 hi (by decide +kernel) rfl trivial ?_
  refine am_obj hX0 hi (idx := 3) (by decide +kernel) (by decide +kernel) (Nat.le_of_ble_eq_true rfl) ?_
  show am_V X 0 0 _ (gS.take 74) ad (4, [(0, .ref 73)], [], I, G, zP_28)
  refine am_blk 4 [(.aload_n 0, 1, 0, 0, .null), (.sipush (576), 3, 0, 0, .int (576 : Int32))] (8, [(0, .ref 73)], [.int (576 : Int32), .ref 73], I, G, zP_28) (True) hX0 hi (by decide +kernel) rfl trivial ?_
  refine am_newa hX0 hi hm (t := 0) (N := 576) (n := (576 : Int32)) (at' := .int) (by simp) (by decide +kernel) (by decide +kernel) (by decide) (by decide) (by decide) ⟨by decide, by decide⟩ (by decide +kernel) (by decide +kernel) (fun ad1 e1 => ?_)
  have e1 : ∀ j, j ≠ 74 → ad1 j = ad j := e1
  have hX1 := hX0.adr (fun j hj => e1 j (by show j ≠ 74; omega))
  show am_V X 1 576 _ (gS.take 75) ad1 (10, [(0, .ref 73)], [.ref 74, .ref 73], (am_z I 74 0), (am_z G 74 0), (am_z zP_28 74 .null))
  refine am_blk 10 [(.putfield 9, 3, 4, 0, .null), (.aload_n 0, 1, 0, 0, .null), (.sipush (576), 3, 0, 0, .int (576 : Int32))] (17, [(0, .ref 73)], [.int (576 : Int32), .ref 73], (am_z I 74 0), (am_z G 74 0), (am_up (am_z zP_28 74 .null) 73 0 (.ref 74))) (True) hX1 hi (by decide +kernel) rfl trivial ?_
  refine am_newa hX1 hi hm (t := 0) (N := 576) (n := (576 : Int32)) (at' := .int) (by simp) (by decide +kernel) (by decide +kernel) (by decide) (by decide) (by decide) ⟨by decide, by decide⟩ (by decide +kernel) (by decide +kernel) (fun ad2 e2 => ?_)
  have e2 : ∀ j, j ≠ 75 → ad2 j = ad1 j := e2
  have hX2 := hX1.adr (fun j hj => e2 j (by show j ≠ 75; omega))
  show am_V X 2 1152 _ (gS.take 76) ad2 (19, [(0, .ref 73)], [.ref 75, .ref 73], (am_z (am_z I 74 0) 75 0), (am_z (am_z G 74 0) 75 0), (am_z (am_up (am_z zP_28 74 .null) 73 0 (.ref 74)) 75 .null))
  refine am_blk 19 [(.putfield 15, 3, 4, 1, .null), (.aload_n 0, 1, 0, 0, .null), (.sipush (576), 3, 0, 0, .int (576 : Int32))] (26, [(0, .ref 73)], [.int (576 : Int32), .ref 73], (am_z (am_z I 74 0) 75 0), (am_z (am_z G 74 0) 75 0), (am_up (am_z (am_up (am_z zP_28 74 .null) 73 0 (.ref 74)) 75 .null) 73 1 (.ref 75))) (True) hX2 hi (by decide +kernel) rfl trivial ?_
  refine am_newa hX2 hi hm (t := 0) (N := 576) (n := (576 : Int32)) (at' := .int) (by simp) (by decide +kernel) (by decide +kernel) (by decide) (by decide) (by decide) ⟨by decide, by decide⟩ (by decide +kernel) (by decide +kernel) (fun ad3 e3 => ?_)
  have e3 : ∀ j, j ≠ 76 → ad3 j = ad2 j := e3
  have hX3 := hX2.adr (fun j hj => e3 j (by show j ≠ 76; omega))
  show am_V X 3 1728 _ (gS.take 77) ad3 (28, [(0, .ref 73)], [.ref 76, .ref 73], (am_z (am_z (am_z I 74 0) 75 0) 76 0), (am_z (am_z (am_z G 74 0) 75 0) 76 0), (am_z (am_up (am_z (am_up (am_z zP_28 74 .null) 73 0 (.ref 74)) 75 .null) 73 1 (.ref 75)) 76 .null))
  refine am_blk 28 [(.putfield 18, 3, 4, 2, .null)] (31, [(0, .ref 73)], [], (am_z (am_z (am_z I 74 0) 75 0) 76 0), (am_z (am_z (am_z G 74 0) 75 0) 76 0), (am_up (am_z (am_up (am_z (am_up (am_z zP_28 74 .null) 73 0 (.ref 74)) 75 .null) 73 1 (.ref 75)) 76 .null) 73 2 (.ref 76))) (True) hX3 hi (by decide +kernel) rfl trivial ?_
  exact am_vretA hX3 hi rfl (by decide +kernel) (fun j hj => by rw [e3 j (by omega), e2 j (by omega), e1 j (by omega)]) ⟨rfl, rfl, rfl, rfl, rfl⟩ ⟨by decide, by decide⟩
def zP_30 : am_P := (am_z (am_up zP_29 66 8 (.ref 73)) 77 .null)
def zP_31 : am_P := (am_up (am_z zP_30 78 .null) 77 0 (.ref 78))
def zI_X8_init_77 (I : am_I) : am_I := (am_z I 78 0)
def zG_X8_init_77 (G : am_G) : am_G := (am_z G 78 0)
set_option maxRecDepth 20000 in
set_option maxHeartbeats 4000000 in
theorem c_X8_init_77 (I : am_I) (G : am_G)  : am_CtA mX8_init 1 1 400 78 (gS.take 78) [.ref 77] I G zP_30 (am_pA (gS.take 79) (zI_X8_init_77 I) (zG_X8_init_77 G) zP_31) := by
  refine am_ofA (by decide +kernel) rfl (fun _ => rfl) (by decide) (Nat.le_of_ble_eq_true rfl) (fun X ad hX0 hi hm => ?_)
  have hi : am_info X 8 cX8_init 1 true none 1 := hi
  have hm : am_mem X 1 400 := hm
  show am_V X 0 0 _ (gS.take 78) ad (0, [(0, .ref 77)], [], I, G, zP_30)
  refine am_blk 0 [(.aload_n 0, 1, 0, 0, .null)] (1, [(0, .ref 77)], [.ref 77], I, G, zP_30) (True) hX0 hi (by decide +kernel) rfl trivial ?_
  refine am_obj hX0 hi (idx := 3) (by decide +kernel) (by decide +kernel) (Nat.le_of_ble_eq_true rfl) ?_
  show am_V X 0 0 _ (gS.take 78) ad (4, [(0, .ref 77)], [], I, G, zP_30)
  refine am_blk 4 [(.aload_n 0, 1, 0, 0, .null), (.sipush (400), 3, 0, 0, .int (400 : Int32))] (8, [(0, .ref 77)], [.int (400 : Int32), .ref 77], I, G, zP_30) (True) hX0 hi (by decide +kernel) rfl trivial ?_
  refine am_newa hX0 hi hm (t := 0) (N := 400) (n := (400 : Int32)) (at' := .int) (by simp) (by decide +kernel) (by decide +kernel) (by decide) (by decide) (by decide) ⟨by decide, by decide⟩ (by decide +kernel) (by decide +kernel) (fun ad1 e1 => ?_)
  have e1 : ∀ j, j ≠ 78 → ad1 j = ad j := e1
  have hX1 := hX0.adr (fun j hj => e1 j (by show j ≠ 78; omega))
  show am_V X 1 400 _ (gS.take 79) ad1 (10, [(0, .ref 77)], [.ref 78, .ref 77], (am_z I 78 0), (am_z G 78 0), (am_z zP_30 78 .null))
  refine am_blk 10 [(.putfield 9, 3, 8, 0, .null)] (13, [(0, .ref 77)], [], (am_z I 78 0), (am_z G 78 0), (am_up (am_z zP_30 78 .null) 77 0 (.ref 78))) (True) hX1 hi (by decide +kernel) rfl trivial ?_
  exact am_vretA hX1 hi rfl (by decide +kernel) (fun j hj => by rw [e1 j (by omega)]) ⟨rfl, rfl, rfl, rfl, rfl⟩ ⟨by decide, by decide⟩
def zP_32 : am_P := (am_up (am_up (am_up zP_31 66 9 (.ref 77)) 66 0 (.ref 7)) 66 1 (.ref 25))
def zI_X7_init_66 (I : am_I) : am_I := (zI_X8_init_77 (am_z (zI_X4_init_73 (am_z (am_z (am_z (am_z (am_z (am_z (am_z I 67 0) 68 0) 69 0) 70 0) 71 0) 72 0) 73 0)) 77 0))
def zG_X7_init_66 (G : am_G) : am_G := (zG_X8_init_77 (am_z (zG_X4_init_73 (am_z (am_z (am_z (am_z (am_z (am_z (am_z G 67 0) 68 0) 69 0) 70 0) 71 0) 72 0) 73 0)) 77 0))
set_option maxRecDepth 20000 in
set_option maxHeartbeats 4000000 in
theorem c_X7_init_66 (I : am_I) (G : am_G)  : am_CtA mX7_init 2 12 3398 67 (gS.take 67) [.ref 66, .ref 7, .ref 25] I G zP_27 (am_pA (gS.take 79) (zI_X7_init_66 I) (zG_X7_init_66 G) zP_32) := by
  refine am_ofA (by decide +kernel) rfl (fun _ => rfl) (by decide) (Nat.le_of_ble_eq_true rfl) (fun X ad hX0 hi hm => ?_)
  have hi : am_info X 7 cX7_init 3 true none 2 := hi
  have hm : am_mem X 12 3398 := hm
  show am_V X 0 0 _ (gS.take 67) ad (0, [(0, .ref 66), (1, .ref 7), (2, .ref 25)], [], I, G, zP_27)
  refine am_blk 0 [(.aload_n 0, 1, 0, 0, .null)] (1, [(0, .ref 66), (1, .ref 7), (2, .ref 25)], [.ref 66], I, G, zP_27) (True) hX0 hi (by decide +kernel) rfl trivial ?_
  refine am_obj hX0 hi (idx := 3) (by decide +kernel) (by decide +kernel) (Nat.le_of_ble_eq_true rfl) ?_
  show am_V X 0 0 _ (gS.take 67) ad (4, [(0, .ref 66), (1, .ref 7), (2, .ref 25)], [], I, G, zP_27)
  refine am_blk 4 [(.aload_n 0, 1, 0, 0, .null), (.iconst (4), 1, 0, 0, .int (4 : Int32))] (6, [(0, .ref 66), (1, .ref 7), (2, .ref 25)], [.int (4 : Int32), .ref 66], I, G, zP_27) (True) hX0 hi (by decide +kernel) rfl trivial ?_
  refine am_newa hX0 hi hm (t := 0) (N := 4) (n := (4 : Int32)) (at' := .int) (by simp) (by decide +kernel) (by decide +kernel) (by decide) (by decide) (by decide) ⟨by decide, by decide⟩ (by decide +kernel) (by decide +kernel) (fun ad1 e1 => ?_)
  have e1 : ∀ j, j ≠ 67 → ad1 j = ad j := e1
  have hX1 := hX0.adr (fun j hj => e1 j (by show j ≠ 67; omega))
  show am_V X 1 4 _ (gS.take 68) ad1 (8, [(0, .ref 66), (1, .ref 7), (2, .ref 25)], [.ref 67, .ref 66], (am_z I 67 0), (am_z G 67 0), (am_z zP_27 67 .null))
  refine am_blk 8 [(.putfield 9, 3, 7, 2, .null), (.aload_n 0, 1, 0, 0, .null), (.bipush (96), 2, 0, 0, .int (96 : Int32))] (14, [(0, .ref 66), (1, .ref 7), (2, .ref 25)], [.int (96 : Int32), .ref 66], (am_z I 67 0), (am_z G 67 0), (am_up (am_z zP_27 67 .null) 66 2 (.ref 67))) (True) hX1 hi (by decide +kernel) rfl trivial ?_
  refine am_newa hX1 hi hm (t := 0) (N := 96) (n := (96 : Int32)) (at' := .int) (by simp) (by decide +kernel) (by decide +kernel) (by decide) (by decide) (by decide) ⟨by decide, by decide⟩ (by decide +kernel) (by decide +kernel) (fun ad2 e2 => ?_)
  have e2 : ∀ j, j ≠ 68 → ad2 j = ad1 j := e2
  have hX2 := hX1.adr (fun j hj => e2 j (by show j ≠ 68; omega))
  show am_V X 2 100 _ (gS.take 69) ad2 (16, [(0, .ref 66), (1, .ref 7), (2, .ref 25)], [.ref 68, .ref 66], (am_z (am_z I 67 0) 68 0), (am_z (am_z G 67 0) 68 0), (am_z (am_up (am_z zP_27 67 .null) 66 2 (.ref 67)) 68 .null))
  refine am_blk 16 [(.putfield 15, 3, 7, 3, .null), (.aload_n 0, 1, 0, 0, .null), (.iconst (4), 1, 0, 0, .int (4 : Int32))] (21, [(0, .ref 66), (1, .ref 7), (2, .ref 25)], [.int (4 : Int32), .ref 66], (am_z (am_z I 67 0) 68 0), (am_z (am_z G 67 0) 68 0), (am_up (am_z (am_up (am_z zP_27 67 .null) 66 2 (.ref 67)) 68 .null) 66 3 (.ref 68))) (True) hX2 hi (by decide +kernel) rfl trivial ?_
  refine am_newa hX2 hi hm (t := 0) (N := 4) (n := (4 : Int32)) (at' := .int) (by simp) (by decide +kernel) (by decide +kernel) (by decide) (by decide) (by decide) ⟨by decide, by decide⟩ (by decide +kernel) (by decide +kernel) (fun ad3 e3 => ?_)
  have e3 : ∀ j, j ≠ 69 → ad3 j = ad2 j := e3
  have hX3 := hX2.adr (fun j hj => e3 j (by show j ≠ 69; omega))
  show am_V X 3 104 _ (gS.take 70) ad3 (23, [(0, .ref 66), (1, .ref 7), (2, .ref 25)], [.ref 69, .ref 66], (am_z (am_z (am_z I 67 0) 68 0) 69 0), (am_z (am_z (am_z G 67 0) 68 0) 69 0), (am_z (am_up (am_z (am_up (am_z zP_27 67 .null) 66 2 (.ref 67)) 68 .null) 66 3 (.ref 68)) 69 .null))
  refine am_blk 23 [(.putfield 18, 3, 7, 4, .null), (.aload_n 0, 1, 0, 0, .null), (.sipush (576), 3, 0, 0, .int (576 : Int32))] (30, [(0, .ref 66), (1, .ref 7), (2, .ref 25)], [.int (576 : Int32), .ref 66], (am_z (am_z (am_z I 67 0) 68 0) 69 0), (am_z (am_z (am_z G 67 0) 68 0) 69 0), (am_up (am_z (am_up (am_z (am_up (am_z zP_27 67 .null) 66 2 (.ref 67)) 68 .null) 66 3 (.ref 68)) 69 .null) 66 4 (.ref 69))) (True) hX3 hi (by decide +kernel) rfl trivial ?_
  refine am_newa hX3 hi hm (t := 0) (N := 576) (n := (576 : Int32)) (at' := .int) (by simp) (by decide +kernel) (by decide +kernel) (by decide) (by decide) (by decide) ⟨by decide, by decide⟩ (by decide +kernel) (by decide +kernel) (fun ad4 e4 => ?_)
  have e4 : ∀ j, j ≠ 70 → ad4 j = ad3 j := e4
  have hX4 := hX3.adr (fun j hj => e4 j (by show j ≠ 70; omega))
  show am_V X 4 680 _ (gS.take 71) ad4 (32, [(0, .ref 66), (1, .ref 7), (2, .ref 25)], [.ref 70, .ref 66], (am_z (am_z (am_z (am_z I 67 0) 68 0) 69 0) 70 0), (am_z (am_z (am_z (am_z G 67 0) 68 0) 69 0) 70 0), (am_z (am_up (am_z (am_up (am_z (am_up (am_z zP_27 67 .null) 66 2 (.ref 67)) 68 .null) 66 3 (.ref 68)) 69 .null) 66 4 (.ref 69)) 70 .null))
  refine am_blk 32 [(.putfield 21, 3, 7, 5, .null), (.aload_n 0, 1, 0, 0, .null), (.sipush (576), 3, 0, 0, .int (576 : Int32))] (39, [(0, .ref 66), (1, .ref 7), (2, .ref 25)], [.int (576 : Int32), .ref 66], (am_z (am_z (am_z (am_z I 67 0) 68 0) 69 0) 70 0), (am_z (am_z (am_z (am_z G 67 0) 68 0) 69 0) 70 0), (am_up (am_z (am_up (am_z (am_up (am_z (am_up (am_z zP_27 67 .null) 66 2 (.ref 67)) 68 .null) 66 3 (.ref 68)) 69 .null) 66 4 (.ref 69)) 70 .null) 66 5 (.ref 70))) (True) hX4 hi (by decide +kernel) rfl trivial ?_
  refine am_newa hX4 hi hm (t := 0) (N := 576) (n := (576 : Int32)) (at' := .int) (by simp) (by decide +kernel) (by decide +kernel) (by decide) (by decide) (by decide) ⟨by decide, by decide⟩ (by decide +kernel) (by decide +kernel) (fun ad5 e5 => ?_)
  have e5 : ∀ j, j ≠ 71 → ad5 j = ad4 j := e5
  have hX5 := hX4.adr (fun j hj => e5 j (by show j ≠ 71; omega))
  show am_V X 5 1256 _ (gS.take 72) ad5 (41, [(0, .ref 66), (1, .ref 7), (2, .ref 25)], [.ref 71, .ref 66], (am_z (am_z (am_z (am_z (am_z I 67 0) 68 0) 69 0) 70 0) 71 0), (am_z (am_z (am_z (am_z (am_z G 67 0) 68 0) 69 0) 70 0) 71 0), (am_z (am_up (am_z (am_up (am_z (am_up (am_z (am_up (am_z zP_27 67 .null) 66 2 (.ref 67)) 68 .null) 66 3 (.ref 68)) 69 .null) 66 4 (.ref 69)) 70 .null) 66 5 (.ref 70)) 71 .null))
  refine am_blk 41 [(.putfield 24, 3, 7, 6, .null), (.aload_n 0, 1, 0, 0, .null), (.bipush (6), 2, 0, 0, .int (6 : Int32))] (47, [(0, .ref 66), (1, .ref 7), (2, .ref 25)], [.int (6 : Int32), .ref 66], (am_z (am_z (am_z (am_z (am_z I 67 0) 68 0) 69 0) 70 0) 71 0), (am_z (am_z (am_z (am_z (am_z G 67 0) 68 0) 69 0) 70 0) 71 0), (am_up (am_z (am_up (am_z (am_up (am_z (am_up (am_z (am_up (am_z zP_27 67 .null) 66 2 (.ref 67)) 68 .null) 66 3 (.ref 68)) 69 .null) 66 4 (.ref 69)) 70 .null) 66 5 (.ref 70)) 71 .null) 66 6 (.ref 71))) (True) hX5 hi (by decide +kernel) rfl trivial ?_
  refine am_newa hX5 hi hm (t := 0) (N := 6) (n := (6 : Int32)) (at' := .int) (by simp) (by decide +kernel) (by decide +kernel) (by decide) (by decide) (by decide) ⟨by decide, by decide⟩ (by decide +kernel) (by decide +kernel) (fun ad6 e6 => ?_)
  have e6 : ∀ j, j ≠ 72 → ad6 j = ad5 j := e6
  have hX6 := hX5.adr (fun j hj => e6 j (by show j ≠ 72; omega))
  show am_V X 6 1262 _ (gS.take 73) ad6 (49, [(0, .ref 66), (1, .ref 7), (2, .ref 25)], [.ref 72, .ref 66], (am_z (am_z (am_z (am_z (am_z (am_z I 67 0) 68 0) 69 0) 70 0) 71 0) 72 0), (am_z (am_z (am_z (am_z (am_z (am_z G 67 0) 68 0) 69 0) 70 0) 71 0) 72 0), (am_z (am_up (am_z (am_up (am_z (am_up (am_z (am_up (am_z (am_up (am_z zP_27 67 .null) 66 2 (.ref 67)) 68 .null) 66 3 (.ref 68)) 69 .null) 66 4 (.ref 69)) 70 .null) 66 5 (.ref 70)) 71 .null) 66 6 (.ref 71)) 72 .null))
  refine am_blk 49 [(.putfield 27, 3, 7, 7, .null), (.aload_n 0, 1, 0, 0, .null)] (53, [(0, .ref 66), (1, .ref 7), (2, .ref 25)], [.ref 66], (am_z (am_z (am_z (am_z (am_z (am_z I 67 0) 68 0) 69 0) 70 0) 71 0) 72 0), (am_z (am_z (am_z (am_z (am_z (am_z G 67 0) 68 0) 69 0) 70 0) 71 0) 72 0), (am_up (am_z (am_up (am_z (am_up (am_z (am_up (am_z (am_up (am_z (am_up (am_z zP_27 67 .null) 66 2 (.ref 67)) 68 .null) 66 3 (.ref 68)) 69 .null) 66 4 (.ref 69)) 70 .null) 66 5 (.ref 70)) 71 .null) 66 6 (.ref 71)) 72 .null) 66 7 (.ref 72))) (True) hX6 hi (by decide +kernel) rfl trivial ?_
  refine am_new hX6 hi hm (ci := 4) (idx := 30) rfl (by decide +kernel) (by decide +kernel) (by decide +kernel) (by decide +kernel) ⟨by decide, by decide⟩ (by decide +kernel) (by decide +kernel) (fun ad7 e7 => ?_)
  have e7 : ∀ j, j ≠ 73 → ad7 j = ad6 j := e7
  have hX7 := hX6.adr (fun j hj => e7 j (by show j ≠ 73; omega))
  show am_V X 7 1268 _ (gS.take 74) ad7 (56, [(0, .ref 66), (1, .ref 7), (2, .ref 25)], [.ref 73, .ref 66], (am_z (am_z (am_z (am_z (am_z (am_z (am_z I 67 0) 68 0) 69 0) 70 0) 71 0) 72 0) 73 0), (am_z (am_z (am_z (am_z (am_z (am_z (am_z G 67 0) 68 0) 69 0) 70 0) 71 0) 72 0) 73 0), (am_z (am_up (am_z (am_up (am_z (am_up (am_z (am_up (am_z (am_up (am_z (am_up (am_z zP_27 67 .null) 66 2 (.ref 67)) 68 .null) 66 3 (.ref 68)) 69 .null) 66 4 (.ref 69)) 70 .null) 66 5 (.ref 70)) 71 .null) 66 6 (.ref 71)) 72 .null) 66 7 (.ref 72)) 73 .null))
  refine am_blk 56 [(.dup, 1, 0, 0, .null)] (57, [(0, .ref 66), (1, .ref 7), (2, .ref 25)], [.ref 73, .ref 73, .ref 66], (am_z (am_z (am_z (am_z (am_z (am_z (am_z I 67 0) 68 0) 69 0) 70 0) 71 0) 72 0) 73 0), (am_z (am_z (am_z (am_z (am_z (am_z (am_z G 67 0) 68 0) 69 0) 70 0) 71 0) 72 0) 73 0), (am_z (am_up (am_z (am_up (am_z (am_up (am_z (am_up (am_z (am_up (am_z (am_up (am_z zP_27 67 .null) 66 2 (.ref 67)) 68 .null) 66 3 (.ref 68)) 69 .null) 66 4 (.ref 69)) 70 .null) 66 5 (.ref 70)) 71 .null) 66 6 (.ref 71)) 72 .null) 66 7 (.ref 72)) 73 .null)) (True) hX7 hi (by decide +kernel) rfl trivial ?_
  show am_V X 7 1268 _ (gS.take 74) ad7 (57, [(0, .ref 66), (1, .ref 7), (2, .ref 25)], [.ref 73, .ref 73, .ref 66], (am_z (am_z (am_z (am_z (am_z (am_z (am_z I 67 0) 68 0) 69 0) 70 0) 71 0) 72 0) 73 0), (am_z (am_z (am_z (am_z (am_z (am_z (am_z G 67 0) 68 0) 69 0) 70 0) 71 0) 72 0) 73 0), zP_28)
  refine am_callIN hX7 hi hm (M := mX4_init) (idx := 32) (d' := 1) (mc := 3) (ms := 1728) (keep := 74) (As := []) (rest := [.ref 73, .ref 66]) mkX4_init miX4_init rfl rfl (by decide +kernel) (by decide +kernel) rfl ⟨by decide, by decide, Nat.le_of_ble_eq_true rfl⟩ rfl ⟨by decide, by decide⟩ (by decide +kernel) (c_X4_init_73 (am_z (am_z (am_z (am_z (am_z (am_z (am_z I 67 0) 68 0) 69 0) 70 0) 71 0) 72 0) 73 0) (am_z (am_z (am_z (am_z (am_z (am_z (am_z G 67 0) 68 0) 69 0) 70 0) 71 0) 72 0) 73 0)) ?_
  rintro r7 sh7 ad8 I7 G7 P7 ⟨q0, q1, q2, q3, q4⟩ e8
  rw [q0, q1, q2, q3, q4]
  have hX8 := hX7.adr (fun j hj => e8 j (Or.inr hj))
  show am_V X 10 2996 _ (gS.take 77) ad8 (60, [(0, .ref 66), (1, .ref 7), (2, .ref 25)], [.ref 73, .ref 66], (zI_X4_init_73 (am_z (am_z (am_z (am_z (am_z (am_z (am_z I 67 0) 68 0) 69 0) 70 0) 71 0) 72 0) 73 0)), (zG_X4_init_73 (am_z (am_z (am_z (am_z (am_z (am_z (am_z G 67 0) 68 0) 69 0) 70 0) 71 0) 72 0) 73 0)), zP_29)
  refine am_blk 60 [(.putfield 33, 3, 7, 8, .null), (.aload_n 0, 1, 0, 0, .null)] (64, [(0, .ref 66), (1, .ref 7), (2, .ref 25)], [.ref 66], (zI_X4_init_73 (am_z (am_z (am_z (am_z (am_z (am_z (am_z I 67 0) 68 0) 69 0) 70 0) 71 0) 72 0) 73 0)), (zG_X4_init_73 (am_z (am_z (am_z (am_z (am_z (am_z (am_z G 67 0) 68 0) 69 0) 70 0) 71 0) 72 0) 73 0)), (am_up zP_29 66 8 (.ref 73))) (True) hX8 hi (by decide +kernel) rfl trivial ?_
  refine am_new hX8 hi hm (ci := 8) (idx := 37) rfl (by decide +kernel) (by decide +kernel) (by decide +kernel) (by decide +kernel) ⟨by decide, by decide⟩ (by decide +kernel) (by decide +kernel) (fun ad9 e9 => ?_)
  have e9 : ∀ j, j ≠ 77 → ad9 j = ad8 j := e9
  have hX9 := hX8.adr (fun j hj => e9 j (by show j ≠ 77; omega))
  show am_V X 11 2998 _ (gS.take 78) ad9 (67, [(0, .ref 66), (1, .ref 7), (2, .ref 25)], [.ref 77, .ref 66], (am_z (zI_X4_init_73 (am_z (am_z (am_z (am_z (am_z (am_z (am_z I 67 0) 68 0) 69 0) 70 0) 71 0) 72 0) 73 0)) 77 0), (am_z (zG_X4_init_73 (am_z (am_z (am_z (am_z (am_z (am_z (am_z G 67 0) 68 0) 69 0) 70 0) 71 0) 72 0) 73 0)) 77 0), (am_z (am_up zP_29 66 8 (.ref 73)) 77 .null))
  refine am_blk 67 [(.dup, 1, 0, 0, .null)] (68, [(0, .ref 66), (1, .ref 7), (2, .ref 25)], [.ref 77, .ref 77, .ref 66], (am_z (zI_X4_init_73 (am_z (am_z (am_z (am_z (am_z (am_z (am_z I 67 0) 68 0) 69 0) 70 0) 71 0) 72 0) 73 0)) 77 0), (am_z (zG_X4_init_73 (am_z (am_z (am_z (am_z (am_z (am_z (am_z G 67 0) 68 0) 69 0) 70 0) 71 0) 72 0) 73 0)) 77 0), (am_z (am_up zP_29 66 8 (.ref 73)) 77 .null)) (True) hX9 hi (by decide +kernel) rfl trivial ?_
  show am_V X 11 2998 _ (gS.take 78) ad9 (68, [(0, .ref 66), (1, .ref 7), (2, .ref 25)], [.ref 77, .ref 77, .ref 66], (am_z (zI_X4_init_73 (am_z (am_z (am_z (am_z (am_z (am_z (am_z I 67 0) 68 0) 69 0) 70 0) 71 0) 72 0) 73 0)) 77 0), (am_z (zG_X4_init_73 (am_z (am_z (am_z (am_z (am_z (am_z (am_z G 67 0) 68 0) 69 0) 70 0) 71 0) 72 0) 73 0)) 77 0), zP_30)
  refine am_callIN hX9 hi hm (M := mX8_init) (idx := 39) (d' := 1) (mc := 1) (ms := 400) (keep := 78) (As := []) (rest := [.ref 77, .ref 66]) mkX8_init miX8_init rfl rfl (by decide +kernel) (by decide +kernel) rfl ⟨by decide, by decide, Nat.le_of_ble_eq_true rfl⟩ rfl ⟨by decide, by decide⟩ (by decide +kernel) (c_X8_init_77 (am_z (zI_X4_init_73 (am_z (am_z (am_z (am_z (am_z (am_z (am_z I 67 0) 68 0) 69 0) 70 0) 71 0) 72 0) 73 0)) 77 0) (am_z (zG_X4_init_73 (am_z (am_z (am_z (am_z (am_z (am_z (am_z G 67 0) 68 0) 69 0) 70 0) 71 0) 72 0) 73 0)) 77 0)) ?_
  rintro r7 sh7 ad10 I7 G7 P7 ⟨q0, q1, q2, q3, q4⟩ e10
  rw [q0, q1, q2, q3, q4]
  have hX10 := hX9.adr (fun j hj => e10 j (Or.inr hj))
  show am_V X 12 3398 _ (gS.take 79) ad10 (71, [(0, .ref 66), (1, .ref 7), (2, .ref 25)], [.ref 77, .ref 66], (zI_X8_init_77 (am_z (zI_X4_init_73 (am_z (am_z (am_z (am_z (am_z (am_z (am_z I 67 0) 68 0) 69 0) 70 0) 71 0) 72 0) 73 0)) 77 0)), (zG_X8_init_77 (am_z (zG_X4_init_73 (am_z (am_z (am_z (am_z (am_z (am_z (am_z G 67 0) 68 0) 69 0) 70 0) 71 0) 72 0) 73 0)) 77 0)), zP_31)
  refine am_blk 71 [(.putfield 40, 3, 7, 9, .null), (.aload_n 0, 1, 0, 0, .null), (.aload_n 1, 1, 1, 0, .null), (.putfield 44, 3, 7, 0, .null), (.aload_n 0, 1, 0, 0, .null), (.aload_n 2, 1, 2, 0, .null), (.putfield 48, 3, 7, 1, .null)] (84, [(0, .ref 66), (1, .ref 7), (2, .ref 25)], [], (zI_X8_init_77 (am_z (zI_X4_init_73 (am_z (am_z (am_z (am_z (am_z (am_z (am_z I 67 0) 68 0) 69 0) 70 0) 71 0) 72 0) 73 0)) 77 0)), (zG_X8_init_77 (am_z (zG_X4_init_73 (am_z (am_z (am_z (am_z (am_z (am_z (am_z G 67 0) 68 0) 69 0) 70 0) 71 0) 72 0) 73 0)) 77 0)), (am_up (am_up (am_up zP_31 66 9 (.ref 77)) 66 0 (.ref 7)) 66 1 (.ref 25))) (True) hX10 hi (by decide +kernel) rfl trivial ?_
  exact am_vretA hX10 hi rfl (by decide +kernel) (fun j hj => by rw [e10 j (by omega), e9 j (by omega), e8 j (by omega), e7 j (by omega), e6 j (by omega), e5 j (by omega), e4 j (by omega), e3 j (by omega), e2 j (by omega), e1 j (by omega)]) ⟨rfl, rfl, rfl, rfl, rfl⟩ ⟨by decide, by decide⟩
def zP_33 : am_P := (am_up zP_32 0 5 (.ref 66))
def zI_X11_init_0 (I9 : am_I) : am_I := (am_up (zI_X7_init_66 (am_z (zI_X7_init_53 (am_z (zI_X6_init_28 (am_z (zI_X10_init_25 (am_z (zI_X5_init_7 (am_z I9 7 0)) 25 0)) 28 0)) 53 0)) 66 0)) 0 6 (-1 : Int32))
def zG_X11_init_0 (G9 : am_G) : am_G := (zG_X7_init_66 (am_z (zG_X7_init_53 (am_z (zG_X6_init_28 (am_z (zG_X10_init_25 (am_z (zG_X5_init_7 (am_z G9 7 0)) 25 0)) 28 0)) 53 0)) 66 0))
set_option maxRecDepth 20000 in
set_option maxHeartbeats 4000000 in
theorem c_X11_init_0 (I : am_I) (G : am_G) {I9 : am_I} {G9 : am_G} (hc9 : L_X9_init_1 FU 0 (zI_X9a (am_z I 1 0)) (zG_X9a (am_z G 1 0)) 0 0 0 = some ((), I9, G9)) : am_CtA mX11_init 6 78 30513 1 (gS.take 1) [.ref 0] I G zP_0 (am_pA (gS.take 79) (zI_X11_init_0 I9) (zG_X11_init_0 G9) zP_33) := by
  refine am_ofA (by decide +kernel) rfl (fun _ => rfl) (by decide) (Nat.le_of_ble_eq_true rfl) (fun X ad hX0 hi hm => ?_)
  have hi : am_info X 11 cX11_init 4 true none 6 := hi
  have hm : am_mem X 78 30513 := hm
  show am_V X 0 0 _ (gS.take 1) ad (0, [(0, .ref 0)], [], I, G, zP_0)
  refine am_blk 0 [(.aload_n 0, 1, 0, 0, .null)] (1, [(0, .ref 0)], [.ref 0], I, G, zP_0) (True) hX0 hi (by decide +kernel) rfl trivial ?_
  refine am_obj hX0 hi (idx := 3) (by decide +kernel) (by decide +kernel) (Nat.le_of_ble_eq_true rfl) ?_
  show am_V X 0 0 _ (gS.take 1) ad (4, [(0, .ref 0)], [], I, G, zP_0)
  refine am_new hX0 hi hm (ci := 9) (idx := 9) rfl (by decide +kernel) (by decide +kernel) (by decide +kernel) (by decide +kernel) ⟨by decide, by decide⟩ (by decide +kernel) (by decide +kernel) (fun ad1 e1 => ?_)
  have e1 : ∀ j, j ≠ 1 → ad1 j = ad j := e1
  have hX1 := hX0.adr (fun j hj => e1 j (by show j ≠ 1; omega))
  show am_V X 1 9 _ (gS.take 2) ad1 (7, [(0, .ref 0)], [.ref 1], (am_z I 1 0), (am_z G 1 0), (am_z zP_0 1 .null))
  refine am_blk 7 [(.dup, 1, 0, 0, .null)] (8, [(0, .ref 0)], [.ref 1, .ref 1], (am_z I 1 0), (am_z G 1 0), (am_z zP_0 1 .null)) (True) hX1 hi (by decide +kernel) rfl trivial ?_
  show am_V X 1 9 _ (gS.take 2) ad1 (8, [(0, .ref 0)], [.ref 1, .ref 1], (am_z I 1 0), (am_z G 1 0), zP_1)
  refine am_callI hX1 hi hm (M := mX9_init) (idx := 11) (d' := 5) (mc := 5) (ms := 3227) (keep := 2) (As := []) (rest := [.ref 1]) mkX9_init miX9_init rfl rfl (by decide +kernel) (by decide +kernel) rfl ⟨by decide, by decide, Nat.le_of_ble_eq_true rfl⟩ rfl ⟨by decide, by decide⟩ (by decide +kernel) (c_X9_init_1 (am_z I 1 0) (am_z G 1 0) hc9) ?_
  rintro r7 sh7 ad2 I7 G7 P7 ⟨q0, q1, q2, q3, q4⟩ e2
  rw [q0, q1, q2, q3, q4]
  have hX2 := hX1.adr (fun j hj => e2 j (Or.inr hj))
  show am_V X 6 3236 _ (gS.take 7) ad2 (11, [(0, .ref 0)], [.ref 1], I9, G9, zP_2)
  refine am_blk 11 [(.astore_n 1, 1, 1, 0, .null)] (12, [(0, .ref 0), (1, .ref 1)], [], I9, G9, zP_2) (True) hX2 hi (by decide +kernel) rfl trivial ?_
  refine am_new hX2 hi hm (ci := 5) (idx := 12) rfl (by decide +kernel) (by decide +kernel) (by decide +kernel) (by decide +kernel) ⟨by decide, by decide⟩ (by decide +kernel) (by decide +kernel) (fun ad3 e3 => ?_)
  have e3 : ∀ j, j ≠ 7 → ad3 j = ad2 j := e3
  have hX3 := hX2.adr (fun j hj => e3 j (by show j ≠ 7; omega))
  show am_V X 7 3250 _ (gS.take 8) ad3 (15, [(0, .ref 0), (1, .ref 1)], [.ref 7], (am_z I9 7 0), (am_z G9 7 0), (am_z zP_2 7 .null))
  refine am_blk 15 [(.dup, 1, 0, 0, .null)] (16, [(0, .ref 0), (1, .ref 1)], [.ref 7, .ref 7], (am_z I9 7 0), (am_z G9 7 0), (am_z zP_2 7 .null)) (True) hX3 hi (by decide +kernel) rfl trivial ?_
  show am_V X 7 3250 _ (gS.take 8) ad3 (16, [(0, .ref 0), (1, .ref 1)], [.ref 7, .ref 7], (am_z I9 7 0), (am_z G9 7 0), zP_3)
  refine am_callIN hX3 hi hm (M := mX5_init) (idx := 14) (d' := 2) (mc := 17) (ms := 963) (keep := 8) (As := []) (rest := [.ref 7]) mkX5_init miX5_init rfl rfl (by decide +kernel) (by decide +kernel) rfl ⟨by decide, by decide, Nat.le_of_ble_eq_true rfl⟩ rfl ⟨by decide, by decide⟩ (by decide +kernel) (c_X5_init_7 (am_z I9 7 0) (am_z G9 7 0)) ?_
  rintro r7 sh7 ad4 I7 G7 P7 ⟨q0, q1, q2, q3, q4⟩ e4
  rw [q0, q1, q2, q3, q4]
  have hX4 := hX3.adr (fun j hj => e4 j (Or.inr hj))
  show am_V X 24 4213 _ (gS.take 25) ad4 (19, [(0, .ref 0), (1, .ref 1)], [.ref 7], (zI_X5_init_7 (am_z I9 7 0)), (zG_X5_init_7 (am_z G9 7 0)), zP_6)
  refine am_blk 19 [(.astore_n 2, 1, 2, 0, .null)] (20, [(0, .ref 0), (1, .ref 1), (2, .ref 7)], [], (zI_X5_init_7 (am_z I9 7 0)), (zG_X5_init_7 (am_z G9 7 0)), zP_6) (True) hX4 hi (by decide +kernel) rfl trivial ?_
  refine am_new hX4 hi hm (ci := 10) (idx := 15) rfl (by decide +kernel) (by decide +kernel) (by decide +kernel) (by decide +kernel) ⟨by decide, by decide⟩ (by decide +kernel) (by decide +kernel) (fun ad5 e5 => ?_)
  have e5 : ∀ j, j ≠ 25 → ad5 j = ad4 j := e5
  have hX5 := hX4.adr (fun j hj => e5 j (by show j ≠ 25; omega))
  show am_V X 25 4216 _ (gS.take 26) ad5 (23, [(0, .ref 0), (1, .ref 1), (2, .ref 7)], [.ref 25], (am_z (zI_X5_init_7 (am_z I9 7 0)) 25 0), (am_z (zG_X5_init_7 (am_z G9 7 0)) 25 0), (am_z zP_6 25 .null))
  refine am_blk 23 [(.dup, 1, 0, 0, .null), (.aload_n 2, 1, 2, 0, .null)] (25, [(0, .ref 0), (1, .ref 1), (2, .ref 7)], [.ref 7, .ref 25, .ref 25], (am_z (zI_X5_init_7 (am_z I9 7 0)) 25 0), (am_z (zG_X5_init_7 (am_z G9 7 0)) 25 0), (am_z zP_6 25 .null)) (True) hX5 hi (by decide +kernel) rfl trivial ?_
  show am_V X 25 4216 _ (gS.take 26) ad5 (25, [(0, .ref 0), (1, .ref 1), (2, .ref 7)], [.ref 7, .ref 25, .ref 25], (am_z (zI_X5_init_7 (am_z I9 7 0)) 25 0), (am_z (zG_X5_init_7 (am_z G9 7 0)) 25 0), zP_7)
  refine am_callI hX5 hi hm (M := mX10_init) (idx := 17) (d' := 1) (mc := 2) (ms := 18464) (keep := 26) (As := [.ref 7]) (rest := [.ref 25]) mkX10_init miX10_init rfl rfl (by decide +kernel) (by decide +kernel) rfl ⟨by decide, by decide, Nat.le_of_ble_eq_true rfl⟩ rfl ⟨by decide, by decide⟩ (by decide +kernel) (c_X10_init_25 (am_z (zI_X5_init_7 (am_z I9 7 0)) 25 0) (am_z (zG_X5_init_7 (am_z G9 7 0)) 25 0)) ?_
  rintro r7 sh7 ad6 I7 G7 P7 ⟨q0, q1, q2, q3, q4⟩ e6
  rw [q0, q1, q2, q3, q4]
  have hX6 := hX5.adr (fun j hj => e6 j (Or.inr hj))
  show am_V X 27 22680 _ (gS.take 28) ad6 (28, [(0, .ref 0), (1, .ref 1), (2, .ref 7)], [.ref 25], (zI_X10_init_25 (am_z (zI_X5_init_7 (am_z I9 7 0)) 25 0)), (zG_X10_init_25 (am_z (zG_X5_init_7 (am_z G9 7 0)) 25 0)), zP_8)
  refine am_blk 28 [(.astore_n 3, 1, 3, 0, .null), (.aload_n 0, 1, 0, 0, .null), (.aload_n 1, 1, 1, 0, .null), (.putfield 20, 3, 11, 0, .null), (.aload_n 0, 1, 0, 0, .null)] (35, [(0, .ref 0), (1, .ref 1), (2, .ref 7), (3, .ref 25)], [.ref 0], (zI_X10_init_25 (am_z (zI_X5_init_7 (am_z I9 7 0)) 25 0)), (zG_X10_init_25 (am_z (zG_X5_init_7 (am_z G9 7 0)) 25 0)), (am_up zP_8 0 0 (.ref 1))) (True) hX6 hi (by decide +kernel) rfl trivial ?_
  refine am_new hX6 hi hm (ci := 6) (idx := 24) rfl (by decide +kernel) (by decide +kernel) (by decide +kernel) (by decide +kernel) ⟨by decide, by decide⟩ (by decide +kernel) (by decide +kernel) (fun ad7 e7 => ?_)
  have e7 : ∀ j, j ≠ 28 → ad7 j = ad6 j := e7
  have hX7 := hX6.adr (fun j hj => e7 j (by show j ≠ 28; omega))
  show am_V X 28 22689 _ (gS.take 29) ad7 (38, [(0, .ref 0), (1, .ref 1), (2, .ref 7), (3, .ref 25)], [.ref 28, .ref 0], (am_z (zI_X10_init_25 (am_z (zI_X5_init_7 (am_z I9 7 0)) 25 0)) 28 0), (am_z (zG_X10_init_25 (am_z (zG_X5_init_7 (am_z G9 7 0)) 25 0)) 28 0), (am_z (am_up zP_8 0 0 (.ref 1)) 28 .null))
  refine am_blk 38 [(.dup, 1, 0, 0, .null), (.aload_n 1, 1, 1, 0, .null)] (40, [(0, .ref 0), (1, .ref 1), (2, .ref 7), (3, .ref 25)], [.ref 1, .ref 28, .ref 28, .ref 0], (am_z (zI_X10_init_25 (am_z (zI_X5_init_7 (am_z I9 7 0)) 25 0)) 28 0), (am_z (zG_X10_init_25 (am_z (zG_X5_init_7 (am_z G9 7 0)) 25 0)) 28 0), (am_z (am_up zP_8 0 0 (.ref 1)) 28 .null)) (True) hX7 hi (by decide +kernel) rfl trivial ?_
  show am_V X 28 22689 _ (gS.take 29) ad7 (40, [(0, .ref 0), (1, .ref 1), (2, .ref 7), (3, .ref 25)], [.ref 1, .ref 28, .ref 28, .ref 0], (am_z (zI_X10_init_25 (am_z (zI_X5_init_7 (am_z I9 7 0)) 25 0)) 28 0), (am_z (zG_X10_init_25 (am_z (zG_X5_init_7 (am_z G9 7 0)) 25 0)) 28 0), zP_9)
  refine am_callI hX7 hi hm (M := mX6_init) (idx := 26) (d' := 3) (mc := 24) (ms := 996) (keep := 29) (As := [.ref 1]) (rest := [.ref 28, .ref 0]) mkX6_init miX6_init rfl rfl (by decide +kernel) (by decide +kernel) rfl ⟨by decide, by decide, Nat.le_of_ble_eq_true rfl⟩ rfl ⟨by decide, by decide⟩ (by decide +kernel) (c_X6_init_28 (am_z (zI_X10_init_25 (am_z (zI_X5_init_7 (am_z I9 7 0)) 25 0)) 28 0) (am_z (zG_X10_init_25 (am_z (zG_X5_init_7 (am_z G9 7 0)) 25 0)) 28 0)) ?_
  rintro r7 sh7 ad8 I7 G7 P7 ⟨q0, q1, q2, q3, q4⟩ e8
  rw [q0, q1, q2, q3, q4]
  have hX8 := hX7.adr (fun j hj => e8 j (Or.inr hj))
  show am_V X 52 23685 _ (gS.take 53) ad8 (43, [(0, .ref 0), (1, .ref 1), (2, .ref 7), (3, .ref 25)], [.ref 28, .ref 0], (zI_X6_init_28 (am_z (zI_X10_init_25 (am_z (zI_X5_init_7 (am_z I9 7 0)) 25 0)) 28 0)), (zG_X6_init_28 (am_z (zG_X10_init_25 (am_z (zG_X5_init_7 (am_z G9 7 0)) 25 0)) 28 0)), zP_20)
  refine am_blk 43 [(.putfield 29, 3, 11, 1, .null), (.aload_n 0, 1, 0, 0, .null), (.aload_n 2, 1, 2, 0, .null), (.putfield 33, 3, 11, 2, .null), (.aload_n 0, 1, 0, 0, .null), (.aload_n 3, 1, 3, 0, .null), (.putfield 37, 3, 11, 3, .null), (.aload_n 0, 1, 0, 0, .null)] (57, [(0, .ref 0), (1, .ref 1), (2, .ref 7), (3, .ref 25)], [.ref 0], (zI_X6_init_28 (am_z (zI_X10_init_25 (am_z (zI_X5_init_7 (am_z I9 7 0)) 25 0)) 28 0)), (zG_X6_init_28 (am_z (zG_X10_init_25 (am_z (zG_X5_init_7 (am_z G9 7 0)) 25 0)) 28 0)), (am_up (am_up (am_up zP_20 0 1 (.ref 28)) 0 2 (.ref 7)) 0 3 (.ref 25))) (True) hX8 hi (by decide +kernel) rfl trivial ?_
  refine am_new hX8 hi hm (ci := 7) (idx := 41) rfl (by decide +kernel) (by decide +kernel) (by decide +kernel) (by decide +kernel) ⟨by decide, by decide⟩ (by decide +kernel) (by decide +kernel) (fun ad9 e9 => ?_)
  have e9 : ∀ j, j ≠ 53 → ad9 j = ad8 j := e9
  have hX9 := hX8.adr (fun j hj => e9 j (by show j ≠ 53; omega))
  show am_V X 53 23701 _ (gS.take 54) ad9 (60, [(0, .ref 0), (1, .ref 1), (2, .ref 7), (3, .ref 25)], [.ref 53, .ref 0], (am_z (zI_X6_init_28 (am_z (zI_X10_init_25 (am_z (zI_X5_init_7 (am_z I9 7 0)) 25 0)) 28 0)) 53 0), (am_z (zG_X6_init_28 (am_z (zG_X10_init_25 (am_z (zG_X5_init_7 (am_z G9 7 0)) 25 0)) 28 0)) 53 0), (am_z (am_up (am_up (am_up zP_20 0 1 (.ref 28)) 0 2 (.ref 7)) 0 3 (.ref 25)) 53 .null))
  refine am_blk 60 [(.dup, 1, 0, 0, .null), (.aload_n 2, 1, 2, 0, .null), (.aload_n 3, 1, 3, 0, .null)] (63, [(0, .ref 0), (1, .ref 1), (2, .ref 7), (3, .ref 25)], [.ref 25, .ref 7, .ref 53, .ref 53, .ref 0], (am_z (zI_X6_init_28 (am_z (zI_X10_init_25 (am_z (zI_X5_init_7 (am_z I9 7 0)) 25 0)) 28 0)) 53 0), (am_z (zG_X6_init_28 (am_z (zG_X10_init_25 (am_z (zG_X5_init_7 (am_z G9 7 0)) 25 0)) 28 0)) 53 0), (am_z (am_up (am_up (am_up zP_20 0 1 (.ref 28)) 0 2 (.ref 7)) 0 3 (.ref 25)) 53 .null)) (True) hX9 hi (by decide +kernel) rfl trivial ?_
  show am_V X 53 23701 _ (gS.take 54) ad9 (63, [(0, .ref 0), (1, .ref 1), (2, .ref 7), (3, .ref 25)], [.ref 25, .ref 7, .ref 53, .ref 53, .ref 0], (am_z (zI_X6_init_28 (am_z (zI_X10_init_25 (am_z (zI_X5_init_7 (am_z I9 7 0)) 25 0)) 28 0)) 53 0), (am_z (zG_X6_init_28 (am_z (zG_X10_init_25 (am_z (zG_X5_init_7 (am_z G9 7 0)) 25 0)) 28 0)) 53 0), zP_21)
  refine am_callI hX9 hi hm (M := mX7_init) (idx := 43) (d' := 2) (mc := 12) (ms := 3398) (keep := 54) (As := [.ref 7, .ref 25]) (rest := [.ref 53, .ref 0]) mkX7_init miX7_init rfl rfl (by decide +kernel) (by decide +kernel) rfl ⟨by decide, by decide, Nat.le_of_ble_eq_true rfl⟩ rfl ⟨by decide, by decide⟩ (by decide +kernel) (c_X7_init_53 (am_z (zI_X6_init_28 (am_z (zI_X10_init_25 (am_z (zI_X5_init_7 (am_z I9 7 0)) 25 0)) 28 0)) 53 0) (am_z (zG_X6_init_28 (am_z (zG_X10_init_25 (am_z (zG_X5_init_7 (am_z G9 7 0)) 25 0)) 28 0)) 53 0)) ?_
  rintro r7 sh7 ad10 I7 G7 P7 ⟨q0, q1, q2, q3, q4⟩ e10
  rw [q0, q1, q2, q3, q4]
  have hX10 := hX9.adr (fun j hj => e10 j (Or.inr hj))
  show am_V X 65 27099 _ (gS.take 66) ad10 (66, [(0, .ref 0), (1, .ref 1), (2, .ref 7), (3, .ref 25)], [.ref 53, .ref 0], (zI_X7_init_53 (am_z (zI_X6_init_28 (am_z (zI_X10_init_25 (am_z (zI_X5_init_7 (am_z I9 7 0)) 25 0)) 28 0)) 53 0)), (zG_X7_init_53 (am_z (zG_X6_init_28 (am_z (zG_X10_init_25 (am_z (zG_X5_init_7 (am_z G9 7 0)) 25 0)) 28 0)) 53 0)), zP_26)
  refine am_blk 66 [(.putfield 46, 3, 11, 4, .null), (.aload_n 0, 1, 0, 0, .null)] (70, [(0, .ref 0), (1, .ref 1), (2, .ref 7), (3, .ref 25)], [.ref 0], (zI_X7_init_53 (am_z (zI_X6_init_28 (am_z (zI_X10_init_25 (am_z (zI_X5_init_7 (am_z I9 7 0)) 25 0)) 28 0)) 53 0)), (zG_X7_init_53 (am_z (zG_X6_init_28 (am_z (zG_X10_init_25 (am_z (zG_X5_init_7 (am_z G9 7 0)) 25 0)) 28 0)) 53 0)), (am_up zP_26 0 4 (.ref 53))) (True) hX10 hi (by decide +kernel) rfl trivial ?_
  refine am_new hX10 hi hm (ci := 7) (idx := 41) rfl (by decide +kernel) (by decide +kernel) (by decide +kernel) (by decide +kernel) ⟨by decide, by decide⟩ (by decide +kernel) (by decide +kernel) (fun ad11 e11 => ?_)
  have e11 : ∀ j, j ≠ 66 → ad11 j = ad10 j := e11
  have hX11 := hX10.adr (fun j hj => e11 j (by show j ≠ 66; omega))
  show am_V X 66 27115 _ (gS.take 67) ad11 (73, [(0, .ref 0), (1, .ref 1), (2, .ref 7), (3, .ref 25)], [.ref 66, .ref 0], (am_z (zI_X7_init_53 (am_z (zI_X6_init_28 (am_z (zI_X10_init_25 (am_z (zI_X5_init_7 (am_z I9 7 0)) 25 0)) 28 0)) 53 0)) 66 0), (am_z (zG_X7_init_53 (am_z (zG_X6_init_28 (am_z (zG_X10_init_25 (am_z (zG_X5_init_7 (am_z G9 7 0)) 25 0)) 28 0)) 53 0)) 66 0), (am_z (am_up zP_26 0 4 (.ref 53)) 66 .null))
  refine am_blk 73 [(.dup, 1, 0, 0, .null), (.aload_n 2, 1, 2, 0, .null), (.aload_n 3, 1, 3, 0, .null)] (76, [(0, .ref 0), (1, .ref 1), (2, .ref 7), (3, .ref 25)], [.ref 25, .ref 7, .ref 66, .ref 66, .ref 0], (am_z (zI_X7_init_53 (am_z (zI_X6_init_28 (am_z (zI_X10_init_25 (am_z (zI_X5_init_7 (am_z I9 7 0)) 25 0)) 28 0)) 53 0)) 66 0), (am_z (zG_X7_init_53 (am_z (zG_X6_init_28 (am_z (zG_X10_init_25 (am_z (zG_X5_init_7 (am_z G9 7 0)) 25 0)) 28 0)) 53 0)) 66 0), (am_z (am_up zP_26 0 4 (.ref 53)) 66 .null)) (True) hX11 hi (by decide +kernel) rfl trivial ?_
  show am_V X 66 27115 _ (gS.take 67) ad11 (76, [(0, .ref 0), (1, .ref 1), (2, .ref 7), (3, .ref 25)], [.ref 25, .ref 7, .ref 66, .ref 66, .ref 0], (am_z (zI_X7_init_53 (am_z (zI_X6_init_28 (am_z (zI_X10_init_25 (am_z (zI_X5_init_7 (am_z I9 7 0)) 25 0)) 28 0)) 53 0)) 66 0), (am_z (zG_X7_init_53 (am_z (zG_X6_init_28 (am_z (zG_X10_init_25 (am_z (zG_X5_init_7 (am_z G9 7 0)) 25 0)) 28 0)) 53 0)) 66 0), zP_27)
  refine am_callI hX11 hi hm (M := mX7_init) (idx := 43) (d' := 2) (mc := 12) (ms := 3398) (keep := 67) (As := [.ref 7, .ref 25]) (rest := [.ref 66, .ref 0]) mkX7_init miX7_init rfl rfl (by decide +kernel) (by decide +kernel) rfl ⟨by decide, by decide, Nat.le_of_ble_eq_true rfl⟩ rfl ⟨by decide, by decide⟩ (by decide +kernel) (c_X7_init_66 (am_z (zI_X7_init_53 (am_z (zI_X6_init_28 (am_z (zI_X10_init_25 (am_z (zI_X5_init_7 (am_z I9 7 0)) 25 0)) 28 0)) 53 0)) 66 0) (am_z (zG_X7_init_53 (am_z (zG_X6_init_28 (am_z (zG_X10_init_25 (am_z (zG_X5_init_7 (am_z G9 7 0)) 25 0)) 28 0)) 53 0)) 66 0)) ?_
  rintro r7 sh7 ad12 I7 G7 P7 ⟨q0, q1, q2, q3, q4⟩ e12
  rw [q0, q1, q2, q3, q4]
  have hX12 := hX11.adr (fun j hj => e12 j (Or.inr hj))
  show am_V X 78 30513 _ (gS.take 79) ad12 (79, [(0, .ref 0), (1, .ref 1), (2, .ref 7), (3, .ref 25)], [.ref 66, .ref 0], (zI_X7_init_66 (am_z (zI_X7_init_53 (am_z (zI_X6_init_28 (am_z (zI_X10_init_25 (am_z (zI_X5_init_7 (am_z I9 7 0)) 25 0)) 28 0)) 53 0)) 66 0)), (zG_X7_init_66 (am_z (zG_X7_init_53 (am_z (zG_X6_init_28 (am_z (zG_X10_init_25 (am_z (zG_X5_init_7 (am_z G9 7 0)) 25 0)) 28 0)) 53 0)) 66 0)), zP_32)
  refine am_blk 79 [(.putfield 50, 3, 11, 5, .null), (.aload_n 0, 1, 0, 0, .null), (.iconst (-1), 1, 0, 0, .int (-1 : Int32)), (.putfield 53, 3, 11, 6, .null)] (87, [(0, .ref 0), (1, .ref 1), (2, .ref 7), (3, .ref 25)], [], (am_up (zI_X7_init_66 (am_z (zI_X7_init_53 (am_z (zI_X6_init_28 (am_z (zI_X10_init_25 (am_z (zI_X5_init_7 (am_z I9 7 0)) 25 0)) 28 0)) 53 0)) 66 0)) 0 6 (-1 : Int32)), (zG_X7_init_66 (am_z (zG_X7_init_53 (am_z (zG_X6_init_28 (am_z (zG_X10_init_25 (am_z (zG_X5_init_7 (am_z G9 7 0)) 25 0)) 28 0)) 53 0)) 66 0)), (am_up zP_32 0 5 (.ref 66))) (True) hX12 hi (by decide +kernel) rfl trivial ?_
  exact am_vretA hX12 hi rfl (by decide +kernel) (fun j hj => by rw [e12 j (by omega), e11 j (by omega), e10 j (by omega), e9 j (by omega), e8 j (by omega), e7 j (by omega), e6 j (by omega), e5 j (by omega), e4 j (by omega), e3 j (by omega), e2 j (by omega), e1 j (by omega)]) ⟨rfl, rfl, rfl, rfl, rfl⟩ ⟨by decide, by decide⟩
