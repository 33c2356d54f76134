theorem am_hd13 : (1 : Nat) = 1 := rfl  -- methods with loops, and those that call them, as functions with fuel
def GDN : Nat := 40
noncomputable def L_X2_find_47 (n0 : Nat) (hd : Nat) (I : am_I) (G : am_G) (v1 : Int64) (v3 : Int32) : Option (Int32 × am_I × am_G) := match n0 with
  | 0 => none
  | n + 1 => match hd with
    | _ => (if (I 47 1) ≤ v3 then some ((-1 : Int32), I, G) else (if (Int32.ofNat 4) ≤ v3 then some ((-1 : Int32), I, G) else rg (vp_in v3 4) ((if (lg_cmp (G 48 v3.toNatClampNeg) v1) = 0 then some (v3, I, G) else L_X2_find_47 n 0 I G v1 (v3 + (1 : Int32))))))
theorem L_X2_find_47_0 (n : Nat) (I : am_I) (G : am_G) (v1 : Int64) (v3 : Int32) : L_X2_find_47 (n + 1) 0 I G v1 v3 = (if (I 47 1) ≤ v3 then some ((-1 : Int32), I, G) else (if (Int32.ofNat 4) ≤ v3 then some ((-1 : Int32), I, G) else rg (vp_in v3 4) ((if (lg_cmp (G 48 v3.toNatClampNeg) v1) = 0 then some (v3, I, G) else L_X2_find_47 n 0 I G v1 (v3 + (1 : Int32)))))) := rfl
theorem L_X2_find_47_z (h : Nat) (I : am_I) (G : am_G) (v1 : Int64) (v3 : Int32) : L_X2_find_47 0 h I G v1 v3 = none := rfl
noncomputable def R_X2_find_47 (I : am_I) (G : am_G) (x1 : Int64) : Option (Int32 × am_I × am_G) := L_X2_find_47 FU 0 I G x1 (0 : Int32)
set_option maxRecDepth 20000 in
set_option maxHeartbeats 4000000 in
theorem l_X2_find_47 (rd : Nat) {X : am_X} {ad : Nat → Nat} (hX : am_okz X ad) (hi : am_info X 2 cX2_find 4 false (Option.some Jvm.ClassFile.FieldType.int) 1) (n : Nat) : (∀ (I : am_I) (G : am_G) (v1 : Int64) (v3 : Int32) (out : Int32 × am_I × am_G), L_X2_find_47 n 0 I G v1 v3 = some out → am_V X 0 0 (am_Rt X gS ad (pI out.1 out.2.1 out.2.2 (gP rd))) gS ad (2, [(0, .ref 47), (1, .long v1), (3, .int v3)], [], I, G, (gP rd))) := by
  induction n with
  | zero => exact fun I G v1 v3 out h => by rw [L_X2_find_47_z] at h; cases h
  | succ n ih =>
    · intro I G v1 v3 out h
      rw [L_X2_find_47_0] at h
      refine am_blk 2 [(.iload_n 3, 1, 3, 0, .null), (.aload_n 0, 1, 0, 0, .null), (.getfield 19, 3, 2, 1, .null)] (7, [(0, .ref 47), (1, .long v1), (3, .int v3)], [.int (I 47 1), .int v3], I, G, (gP rd)) (True) hX hi (by decide +kernel) rfl trivial ?_
      refine am_icmp_ge (tgt := 38) hX hi (off := (31)) (by decide +kernel) (by decide) (fun c7 => ?_) (fun c7 => ?_)
      · rw [if_pos c7] at h
        refine am_blk 38 [(.iconst (-1), 1, 0, 0, .int (-1 : Int32))] (39, [(0, .ref 47), (1, .long v1), (3, .int v3)], [.int (-1 : Int32)], I, G, (gP rd)) (True) hX hi (by decide +kernel) rfl trivial ?_
        cases h
        refine am_iret hX hi rfl rfl (by decide +kernel) ?_
        exact ⟨rfl, rfl, rfl, rfl⟩
      · rw [if_neg c7] at h
        refine am_blk 10 [(.iload_n 3, 1, 3, 0, .null), (.aload_n 0, 1, 0, 0, .null), (.getfield 13, 3, 2, 0, .null), (.arraylength, 1, 0, 0, .null)] (16, [(0, .ref 47), (1, .long v1), (3, .int v3)], [.int (Int32.ofNat 4), .int v3], I, G, (gP rd)) (True) hX hi (by decide +kernel) rfl trivial ?_
        refine am_icmp_ge (tgt := 38) hX hi (off := (22)) (by decide +kernel) (by decide) (fun c16 => ?_) (fun c16 => ?_)
        · rw [if_pos c16] at h
          refine am_blk 38 [(.iconst (-1), 1, 0, 0, .int (-1 : Int32))] (39, [(0, .ref 47), (1, .long v1), (3, .int v3)], [.int (-1 : Int32)], I, G, (gP rd)) (True) hX hi (by decide +kernel) rfl trivial ?_
          cases h
          refine am_iret hX hi rfl rfl (by decide +kernel) ?_
          exact ⟨rfl, rfl, rfl, rfl⟩
        · rw [if_neg c16] at h
          obtain ⟨g0, h⟩ := rg_some h
          refine am_blk 19 [(.aload_n 0, 1, 0, 0, .null), (.getfield 13, 3, 2, 0, .null), (.iload_n 3, 1, 3, 0, .null), (.laload, 1, 0, 0, .null), (.lload_n 1, 1, 1, 0, .null), (.lcmp, 1, 0, 0, .null)] (27, [(0, .ref 47), (1, .long v1), (3, .int v3)], [.int (lg_cmp (G 48 v3.toNatClampNeg) v1)], I, G, (gP rd)) (vp_in v3 4 ∧ True) hX hi (by decide +kernel) rfl ⟨g0, trivial⟩ ?_
          refine am_if_ne (tgt := 32) hX hi (off := (5)) (by decide +kernel) (by decide) (fun c27 => ?_) (fun c27 => ?_)
          · rw [if_neg c27] at h
            refine am_blk 32 [(.iinc 3 (1), 3, 3, 0, .int (1 : Int32)), (.goto (-33), 3, 0, 2, .null)] (2, [(0, .ref 47), (1, .long v1), (3, .int (v3 + (1 : Int32)))], [], I, G, (gP rd)) (True) hX hi (by decide +kernel) rfl trivial ?_
            exact ih _ _ _ _ _ h
          · rw [if_pos c27] at h
            refine am_blk 30 [(.iload_n 3, 1, 3, 0, .null)] (31, [(0, .ref 47), (1, .long v1), (3, .int v3)], [.int v3], I, G, (gP rd)) (True) hX hi (by decide +kernel) rfl trivial ?_
            cases h
            refine am_iret hX hi rfl rfl (by decide +kernel) ?_
            exact ⟨rfl, rfl, rfl, rfl⟩
set_option maxRecDepth 20000 in
set_option maxHeartbeats 4000000 in
theorem c_X2_find_47 (rd : Nat) (I : am_I) (G : am_G) (x1 : Int64) {out : Int32 × am_I × am_G} (h : R_X2_find_47 I G x1 = some out) : am_Ct mX2_find 1 gS [.ref 47, .long x1] I G (gP rd) (pI out.1 out.2.1 out.2.2 (gP rd)) := by
  refine am_ofF (by decide +kernel) rfl (by decide) (by omega) (Nat.le_of_ble_eq_true rfl) (fun X ad hX hi => ?_)
  have hi : am_info X 2 cX2_find 4 false (Option.some Jvm.ClassFile.FieldType.int) 1 := hi
  show am_V X 0 0 _ _ ad (0, [(0, .ref 47), (1, .long x1)], [], I, G, (gP rd))
  unfold R_X2_find_47 at h
  refine am_blk 0 [(.iconst (0), 1, 0, 0, .int (0 : Int32)), (.istore_n 3, 1, 3, 0, .null)] (2, [(0, .ref 47), (1, .long x1), (3, .int (0 : Int32))], [], I, G, (gP rd)) (True) hX hi (by decide +kernel) rfl trivial ?_
  exact (l_X2_find_47 rd hX hi FU) _ _ _ _ _ h
noncomputable def L_X2_find_49 (n0 : Nat) (hd : Nat) (I : am_I) (G : am_G) (v1 : Int64) (v3 : Int32) : Option (Int32 × am_I × am_G) := match n0 with
  | 0 => none
  | n + 1 => match hd with
    | _ => (if (I 49 1) ≤ v3 then some ((-1 : Int32), I, G) else (if (Int32.ofNat 4) ≤ v3 then some ((-1 : Int32), I, G) else rg (vp_in v3 4) ((if (lg_cmp (G 50 v3.toNatClampNeg) v1) = 0 then some (v3, I, G) else L_X2_find_49 n 0 I G v1 (v3 + (1 : Int32))))))
theorem L_X2_find_49_0 (n : Nat) (I : am_I) (G : am_G) (v1 : Int64) (v3 : Int32) : L_X2_find_49 (n + 1) 0 I G v1 v3 = (if (I 49 1) ≤ v3 then some ((-1 : Int32), I, G) else (if (Int32.ofNat 4) ≤ v3 then some ((-1 : Int32), I, G) else rg (vp_in v3 4) ((if (lg_cmp (G 50 v3.toNatClampNeg) v1) = 0 then some (v3, I, G) else L_X2_find_49 n 0 I G v1 (v3 + (1 : Int32)))))) := rfl
theorem L_X2_find_49_z (h : Nat) (I : am_I) (G : am_G) (v1 : Int64) (v3 : Int32) : L_X2_find_49 0 h I G v1 v3 = none := rfl
noncomputable def R_X2_find_49 (I : am_I) (G : am_G) (x1 : Int64) : Option (Int32 × am_I × am_G) := L_X2_find_49 FU 0 I G x1 (0 : Int32)
set_option maxRecDepth 20000 in
set_option maxHeartbeats 4000000 in
theorem l_X2_find_49 (rd : Nat) {X : am_X} {ad : Nat → Nat} (hX : am_okz X ad) (hi : am_info X 2 cX2_find 4 false (Option.some Jvm.ClassFile.FieldType.int) 1) (n : Nat) : (∀ (I : am_I) (G : am_G) (v1 : Int64) (v3 : Int32) (out : Int32 × am_I × am_G), L_X2_find_49 n 0 I G v1 v3 = some out → am_V X 0 0 (am_Rt X gS ad (pI out.1 out.2.1 out.2.2 (gP rd))) gS ad (2, [(0, .ref 49), (1, .long v1), (3, .int v3)], [], I, G, (gP rd))) := by
  induction n with
  | zero => exact fun I G v1 v3 out h => by rw [L_X2_find_49_z] at h; cases h
  | succ n ih =>
    · intro I G v1 v3 out h
      rw [L_X2_find_49_0] at h
      refine am_blk 2 [(.iload_n 3, 1, 3, 0, .null), (.aload_n 0, 1, 0, 0, .null), (.getfield 19, 3, 2, 1, .null)] (7, [(0, .ref 49), (1, .long v1), (3, .int v3)], [.int (I 49 1), .int v3], I, G, (gP rd)) (True) hX hi (by decide +kernel) rfl trivial ?_
      refine am_icmp_ge (tgt := 38) hX hi (off := (31)) (by decide +kernel) (by decide) (fun c7 => ?_) (fun c7 => ?_)
      · rw [if_pos c7] at h
        refine am_blk 38 [(.iconst (-1), 1, 0, 0, .int (-1 : Int32))] (39, [(0, .ref 49), (1, .long v1), (3, .int v3)], [.int (-1 : Int32)], I, G, (gP rd)) (True) hX hi (by decide +kernel) rfl trivial ?_
        cases h
        refine am_iret hX hi rfl rfl (by decide +kernel) ?_
        exact ⟨rfl, rfl, rfl, rfl⟩
      · rw [if_neg c7] at h
        refine am_blk 10 [(.iload_n 3, 1, 3, 0, .null), (.aload_n 0, 1, 0, 0, .null), (.getfield 13, 3, 2, 0, .null), (.arraylength, 1, 0, 0, .null)] (16, [(0, .ref 49), (1, .long v1), (3, .int v3)], [.int (Int32.ofNat 4), .int v3], I, G, (gP rd)) (True) hX hi (by decide +kernel) rfl trivial ?_
        refine am_icmp_ge (tgt := 38) hX hi (off := (22)) (by decide +kernel) (by decide) (fun c16 => ?_) (fun c16 => ?_)
        · rw [if_pos c16] at h
          refine am_blk 38 [(.iconst (-1), 1, 0, 0, .int (-1 : Int32))] (39, [(0, .ref 49), (1, .long v1), (3, .int v3)], [.int (-1 : Int32)], I, G, (gP rd)) (True) hX hi (by decide +kernel) rfl trivial ?_
          cases h
          refine am_iret hX hi rfl rfl (by decide +kernel) ?_
          exact ⟨rfl, rfl, rfl, rfl⟩
        · rw [if_neg c16] at h
          obtain ⟨g0, h⟩ := rg_some h
          refine am_blk 19 [(.aload_n 0, 1, 0, 0, .null), (.getfield 13, 3, 2, 0, .null), (.iload_n 3, 1, 3, 0, .null), (.laload, 1, 0, 0, .null), (.lload_n 1, 1, 1, 0, .null), (.lcmp, 1, 0, 0, .null)] (27, [(0, .ref 49), (1, .long v1), (3, .int v3)], [.int (lg_cmp (G 50 v3.toNatClampNeg) v1)], I, G, (gP rd)) (vp_in v3 4 ∧ True) hX hi (by decide +kernel) rfl ⟨g0, trivial⟩ ?_
          refine am_if_ne (tgt := 32) hX hi (off := (5)) (by decide +kernel) (by decide) (fun c27 => ?_) (fun c27 => ?_)
          · rw [if_neg c27] at h
            refine am_blk 32 [(.iinc 3 (1), 3, 3, 0, .int (1 : Int32)), (.goto (-33), 3, 0, 2, .null)] (2, [(0, .ref 49), (1, .long v1), (3, .int (v3 + (1 : Int32)))], [], I, G, (gP rd)) (True) hX hi (by decide +kernel) rfl trivial ?_
            exact ih _ _ _ _ _ h
          · rw [if_pos c27] at h
            refine am_blk 30 [(.iload_n 3, 1, 3, 0, .null)] (31, [(0, .ref 49), (1, .long v1), (3, .int v3)], [.int v3], I, G, (gP rd)) (True) hX hi (by decide +kernel) rfl trivial ?_
            cases h
            refine am_iret hX hi rfl rfl (by decide +kernel) ?_
            exact ⟨rfl, rfl, rfl, rfl⟩
set_option maxRecDepth 20000 in
set_option maxHeartbeats 4000000 in
theorem c_X2_find_49 (rd : Nat) (I : am_I) (G : am_G) (x1 : Int64) {out : Int32 × am_I × am_G} (h : R_X2_find_49 I G x1 = some out) : am_Ct mX2_find 1 gS [.ref 49, .long x1] I G (gP rd) (pI out.1 out.2.1 out.2.2 (gP rd)) := by
  refine am_ofF (by decide +kernel) rfl (by decide) (by omega) (Nat.le_of_ble_eq_true rfl) (fun X ad hX hi => ?_)
  have hi : am_info X 2 cX2_find 4 false (Option.some Jvm.ClassFile.FieldType.int) 1 := hi
  show am_V X 0 0 _ _ ad (0, [(0, .ref 49), (1, .long x1)], [], I, G, (gP rd))
  unfold R_X2_find_49 at h
  refine am_blk 0 [(.iconst (0), 1, 0, 0, .int (0 : Int32)), (.istore_n 3, 1, 3, 0, .null)] (2, [(0, .ref 49), (1, .long x1), (3, .int (0 : Int32))], [], I, G, (gP rd)) (True) hX hi (by decide +kernel) rfl trivial ?_
  exact (l_X2_find_49 rd hX hi FU) _ _ _ _ _ h
noncomputable def L_X2_find_51 (n0 : Nat) (hd : Nat) (I : am_I) (G : am_G) (v1 : Int64) (v3 : Int32) : Option (Int32 × am_I × am_G) := match n0 with
  | 0 => none
  | n + 1 => match hd with
    | _ => (if (I 51 1) ≤ v3 then some ((-1 : Int32), I, G) else (if (Int32.ofNat 5) ≤ v3 then some ((-1 : Int32), I, G) else rg (vp_in v3 5) ((if (lg_cmp (G 52 v3.toNatClampNeg) v1) = 0 then some (v3, I, G) else L_X2_find_51 n 0 I G v1 (v3 + (1 : Int32))))))
theorem L_X2_find_51_0 (n : Nat) (I : am_I) (G : am_G) (v1 : Int64) (v3 : Int32) : L_X2_find_51 (n + 1) 0 I G v1 v3 = (if (I 51 1) ≤ v3 then some ((-1 : Int32), I, G) else (if (Int32.ofNat 5) ≤ v3 then some ((-1 : Int32), I, G) else rg (vp_in v3 5) ((if (lg_cmp (G 52 v3.toNatClampNeg) v1) = 0 then some (v3, I, G) else L_X2_find_51 n 0 I G v1 (v3 + (1 : Int32)))))) := rfl
theorem L_X2_find_51_z (h : Nat) (I : am_I) (G : am_G) (v1 : Int64) (v3 : Int32) : L_X2_find_51 0 h I G v1 v3 = none := rfl
noncomputable def R_X2_find_51 (I : am_I) (G : am_G) (x1 : Int64) : Option (Int32 × am_I × am_G) := L_X2_find_51 FU 0 I G x1 (0 : Int32)
set_option maxRecDepth 20000 in
set_option maxHeartbeats 4000000 in
theorem l_X2_find_51 (rd : Nat) {X : am_X} {ad : Nat → Nat} (hX : am_okz X ad) (hi : am_info X 2 cX2_find 4 false (Option.some Jvm.ClassFile.FieldType.int) 1) (n : Nat) : (∀ (I : am_I) (G : am_G) (v1 : Int64) (v3 : Int32) (out : Int32 × am_I × am_G), L_X2_find_51 n 0 I G v1 v3 = some out → am_V X 0 0 (am_Rt X gS ad (pI out.1 out.2.1 out.2.2 (gP rd))) gS ad (2, [(0, .ref 51), (1, .long v1), (3, .int v3)], [], I, G, (gP rd))) := by
  induction n with
  | zero => exact fun I G v1 v3 out h => by rw [L_X2_find_51_z] at h; cases h
  | succ n ih =>
    · intro I G v1 v3 out h
      rw [L_X2_find_51_0] at h
      refine am_blk 2 [(.iload_n 3, 1, 3, 0, .null), (.aload_n 0, 1, 0, 0, .null), (.getfield 19, 3, 2, 1, .null)] (7, [(0, .ref 51), (1, .long v1), (3, .int v3)], [.int (I 51 1), .int v3], I, G, (gP rd)) (True) hX hi (by decide +kernel) rfl trivial ?_
      refine am_icmp_ge (tgt := 38) hX hi (off := (31)) (by decide +kernel) (by decide) (fun c7 => ?_) (fun c7 => ?_)
      · rw [if_pos c7] at h
        refine am_blk 38 [(.iconst (-1), 1, 0, 0, .int (-1 : Int32))] (39, [(0, .ref 51), (1, .long v1), (3, .int v3)], [.int (-1 : Int32)], I, G, (gP rd)) (True) hX hi (by decide +kernel) rfl trivial ?_
        cases h
        refine am_iret hX hi rfl rfl (by decide +kernel) ?_
        exact ⟨rfl, rfl, rfl, rfl⟩
      · rw [if_neg c7] at h
        refine am_blk 10 [(.iload_n 3, 1, 3, 0, .null), (.aload_n 0, 1, 0, 0, .null), (.getfield 13, 3, 2, 0, .null), (.arraylength, 1, 0, 0, .null)] (16, [(0, .ref 51), (1, .long v1), (3, .int v3)], [.int (Int32.ofNat 5), .int v3], I, G, (gP rd)) (True) hX hi (by decide +kernel) rfl trivial ?_
        refine am_icmp_ge (tgt := 38) hX hi (off := (22)) (by decide +kernel) (by decide) (fun c16 => ?_) (fun c16 => ?_)
        · rw [if_pos c16] at h
          refine am_blk 38 [(.iconst (-1), 1, 0, 0, .int (-1 : Int32))] (39, [(0, .ref 51), (1, .long v1), (3, .int v3)], [.int (-1 : Int32)], I, G, (gP rd)) (True) hX hi (by decide +kernel) rfl trivial ?_
          cases h
          refine am_iret hX hi rfl rfl (by decide +kernel) ?_
          exact ⟨rfl, rfl, rfl, rfl⟩
        · rw [if_neg c16] at h
          obtain ⟨g0, h⟩ := rg_some h
          refine am_blk 19 [(.aload_n 0, 1, 0, 0, .null), (.getfield 13, 3, 2, 0, .null), (.iload_n 3, 1, 3, 0, .null), (.laload, 1, 0, 0, .null), (.lload_n 1, 1, 1, 0, .null), (.lcmp, 1, 0, 0, .null)] (27, [(0, .ref 51), (1, .long v1), (3, .int v3)], [.int (lg_cmp (G 52 v3.toNatClampNeg) v1)], I, G, (gP rd)) (vp_in v3 5 ∧ True) hX hi (by decide +kernel) rfl ⟨g0, trivial⟩ ?_
          refine am_if_ne (tgt := 32) hX hi (off := (5)) (by decide +kernel) (by decide) (fun c27 => ?_) (fun c27 => ?_)
          · rw [if_neg c27] at h
            refine am_blk 32 [(.iinc 3 (1), 3, 3, 0, .int (1 : Int32)), (.goto (-33), 3, 0, 2, .null)] (2, [(0, .ref 51), (1, .long v1), (3, .int (v3 + (1 : Int32)))], [], I, G, (gP rd)) (True) hX hi (by decide +kernel) rfl trivial ?_
            exact ih _ _ _ _ _ h
          · rw [if_pos c27] at h
            refine am_blk 30 [(.iload_n 3, 1, 3, 0, .null)] (31, [(0, .ref 51), (1, .long v1), (3, .int v3)], [.int v3], I, G, (gP rd)) (True) hX hi (by decide +kernel) rfl trivial ?_
            cases h
            refine am_iret hX hi rfl rfl (by decide +kernel) ?_
            exact ⟨rfl, rfl, rfl, rfl⟩
set_option maxRecDepth 20000 in
set_option maxHeartbeats 4000000 in
theorem c_X2_find_51 (rd : Nat) (I : am_I) (G : am_G) (x1 : Int64) {out : Int32 × am_I × am_G} (h : R_X2_find_51 I G x1 = some out) : am_Ct mX2_find 1 gS [.ref 51, .long x1] I G (gP rd) (pI out.1 out.2.1 out.2.2 (gP rd)) := by
  refine am_ofF (by decide +kernel) rfl (by decide) (by omega) (Nat.le_of_ble_eq_true rfl) (fun X ad hX hi => ?_)
  have hi : am_info X 2 cX2_find 4 false (Option.some Jvm.ClassFile.FieldType.int) 1 := hi
  show am_V X 0 0 _ _ ad (0, [(0, .ref 51), (1, .long x1)], [], I, G, (gP rd))
  unfold R_X2_find_51 at h
  refine am_blk 0 [(.iconst (0), 1, 0, 0, .int (0 : Int32)), (.istore_n 3, 1, 3, 0, .null)] (2, [(0, .ref 51), (1, .long x1), (3, .int (0 : Int32))], [], I, G, (gP rd)) (True) hX hi (by decide +kernel) rfl trivial ?_
  exact (l_X2_find_51 rd hX hi FU) _ _ _ _ _ h
noncomputable def R_X3_take_16_38 (I : am_I) (G : am_G)  : Option (Unit × am_I × am_G) := some ((), (am_cp (am_cp (am_cp (am_cp (am_cp (am_cp (am_cp (am_cp (am_up (am_up I 16 8 (I 38 8)) 16 9 (I 38 9)) 39 17 20) 40 18 20) 41 19 20) 42 20 20) 43 21 20) 44 22 20) 45 23 400) 46 24 400), G)
set_option maxRecDepth 20000 in
set_option maxHeartbeats 4000000 in
theorem c_X3_take_16_38 (rd : Nat) (I : am_I) (G : am_G)  {out : Unit × am_I × am_G} (h : R_X3_take_16_38 I G  = some out) : am_Ct mX3_take 3 gS [.ref 16, .ref 38] I G (gP rd) (pV out.2.1 out.2.2 (gP rd)) := by
  refine am_ofF (by decide +kernel) rfl (by decide) (by omega) (Nat.le_of_ble_eq_true rfl) (fun X ad hX hi => ?_)
  have hi : am_info X 3 cX3_take 2 false none 3 := hi
  show am_V X 0 0 _ _ ad (0, [(0, .ref 16), (1, .ref 38)], [], I, G, (gP rd))
  unfold R_X3_take_16_38 at h
  refine am_blk 0 [(.aload_n 0, 1, 0, 0, .null), (.aload_n 1, 1, 1, 0, .null), (.getfield 36, 3, 3, 8, .null), (.putfield 36, 3, 3, 8, .null), (.aload_n 0, 1, 0, 0, .null), (.aload_n 1, 1, 1, 0, .null), (.getfield 40, 3, 3, 9, .null), (.putfield 40, 3, 3, 9, .null), (.aload_n 1, 1, 1, 0, .null), (.getfield 9, 3, 3, 0, .null), (.aload_n 0, 1, 0, 0, .null), (.getfield 9, 3, 3, 0, .null)] (24, [(0, .ref 16), (1, .ref 38)], [.ref 17, .ref 39], (am_up (am_up I 16 8 (I 38 8)) 16 9 (I 38 9)), G, (gP rd)) (True) hX hi (by decide +kernel) rfl trivial ?_
  refine am_callS hX hi (M := mX0_copy) (idx := 61) (d' := 2) (As := [.ref 39, .ref 17]) (rest := []) mkX0_copy msX0_copy (by decide +kernel) (by decide +kernel) rfl ⟨by omega, by decide, Nat.le_of_ble_eq_true rfl⟩ rfl (c_copy rfl rfl (by decide)) ?_
  rintro r9 I9 G9 P9 ⟨e0, e1, e2, e3⟩
  rw [e0, e1, e2, e3]
  show am_V X 0 0 _ _ ad (27, [(0, .ref 16), (1, .ref 38)], [], (am_cp (am_up (am_up I 16 8 (I 38 8)) 16 9 (I 38 9)) 39 17 20), G, (gP rd))
  refine am_blk 27 [(.aload_n 1, 1, 1, 0, .null), (.getfield 15, 3, 3, 1, .null), (.aload_n 0, 1, 0, 0, .null), (.getfield 15, 3, 3, 1, .null)] (35, [(0, .ref 16), (1, .ref 38)], [.ref 18, .ref 40], (am_cp (am_up (am_up I 16 8 (I 38 8)) 16 9 (I 38 9)) 39 17 20), G, (gP rd)) (True) hX hi (by decide +kernel) rfl trivial ?_
  refine am_callS hX hi (M := mX0_copy) (idx := 61) (d' := 2) (As := [.ref 40, .ref 18]) (rest := []) mkX0_copy msX0_copy (by decide +kernel) (by decide +kernel) rfl ⟨by omega, by decide, Nat.le_of_ble_eq_true rfl⟩ rfl (c_copy rfl rfl (by decide)) ?_
  rintro r9 I9 G9 P9 ⟨e0, e1, e2, e3⟩
  rw [e0, e1, e2, e3]
  show am_V X 0 0 _ _ ad (38, [(0, .ref 16), (1, .ref 38)], [], (am_cp (am_cp (am_up (am_up I 16 8 (I 38 8)) 16 9 (I 38 9)) 39 17 20) 40 18 20), G, (gP rd))
  refine am_blk 38 [(.aload_n 1, 1, 1, 0, .null), (.getfield 18, 3, 3, 2, .null), (.aload_n 0, 1, 0, 0, .null), (.getfield 18, 3, 3, 2, .null)] (46, [(0, .ref 16), (1, .ref 38)], [.ref 19, .ref 41], (am_cp (am_cp (am_up (am_up I 16 8 (I 38 8)) 16 9 (I 38 9)) 39 17 20) 40 18 20), G, (gP rd)) (True) hX hi (by decide +kernel) rfl trivial ?_
  refine am_callS hX hi (M := mX0_copy) (idx := 61) (d' := 2) (As := [.ref 41, .ref 19]) (rest := []) mkX0_copy msX0_copy (by decide +kernel) (by decide +kernel) rfl ⟨by omega, by decide, Nat.le_of_ble_eq_true rfl⟩ rfl (c_copy rfl rfl (by decide)) ?_
  rintro r9 I9 G9 P9 ⟨e0, e1, e2, e3⟩
  rw [e0, e1, e2, e3]
  show am_V X 0 0 _ _ ad (49, [(0, .ref 16), (1, .ref 38)], [], (am_cp (am_cp (am_cp (am_up (am_up I 16 8 (I 38 8)) 16 9 (I 38 9)) 39 17 20) 40 18 20) 41 19 20), G, (gP rd))
  refine am_blk 49 [(.aload_n 1, 1, 1, 0, .null), (.getfield 21, 3, 3, 3, .null), (.aload_n 0, 1, 0, 0, .null), (.getfield 21, 3, 3, 3, .null)] (57, [(0, .ref 16), (1, .ref 38)], [.ref 20, .ref 42], (am_cp (am_cp (am_cp (am_up (am_up I 16 8 (I 38 8)) 16 9 (I 38 9)) 39 17 20) 40 18 20) 41 19 20), G, (gP rd)) (True) hX hi (by decide +kernel) rfl trivial ?_
  refine am_callS hX hi (M := mX0_copy) (idx := 61) (d' := 2) (As := [.ref 42, .ref 20]) (rest := []) mkX0_copy msX0_copy (by decide +kernel) (by decide +kernel) rfl ⟨by omega, by decide, Nat.le_of_ble_eq_true rfl⟩ rfl (c_copy rfl rfl (by decide)) ?_
  rintro r9 I9 G9 P9 ⟨e0, e1, e2, e3⟩
  rw [e0, e1, e2, e3]
  show am_V X 0 0 _ _ ad (60, [(0, .ref 16), (1, .ref 38)], [], (am_cp (am_cp (am_cp (am_cp (am_up (am_up I 16 8 (I 38 8)) 16 9 (I 38 9)) 39 17 20) 40 18 20) 41 19 20) 42 20 20), G, (gP rd))
  refine am_blk 60 [(.aload_n 1, 1, 1, 0, .null), (.getfield 24, 3, 3, 4, .null), (.aload_n 0, 1, 0, 0, .null), (.getfield 24, 3, 3, 4, .null)] (68, [(0, .ref 16), (1, .ref 38)], [.ref 21, .ref 43], (am_cp (am_cp (am_cp (am_cp (am_up (am_up I 16 8 (I 38 8)) 16 9 (I 38 9)) 39 17 20) 40 18 20) 41 19 20) 42 20 20), G, (gP rd)) (True) hX hi (by decide +kernel) rfl trivial ?_
  refine am_callS hX hi (M := mX0_copy) (idx := 61) (d' := 2) (As := [.ref 43, .ref 21]) (rest := []) mkX0_copy msX0_copy (by decide +kernel) (by decide +kernel) rfl ⟨by omega, by decide, Nat.le_of_ble_eq_true rfl⟩ rfl (c_copy rfl rfl (by decide)) ?_
  rintro r9 I9 G9 P9 ⟨e0, e1, e2, e3⟩
  rw [e0, e1, e2, e3]
  show am_V X 0 0 _ _ ad (71, [(0, .ref 16), (1, .ref 38)], [], (am_cp (am_cp (am_cp (am_cp (am_cp (am_up (am_up I 16 8 (I 38 8)) 16 9 (I 38 9)) 39 17 20) 40 18 20) 41 19 20) 42 20 20) 43 21 20), G, (gP rd))
  refine am_blk 71 [(.aload_n 1, 1, 1, 0, .null), (.getfield 27, 3, 3, 5, .null), (.aload_n 0, 1, 0, 0, .null), (.getfield 27, 3, 3, 5, .null)] (79, [(0, .ref 16), (1, .ref 38)], [.ref 22, .ref 44], (am_cp (am_cp (am_cp (am_cp (am_cp (am_up (am_up I 16 8 (I 38 8)) 16 9 (I 38 9)) 39 17 20) 40 18 20) 41 19 20) 42 20 20) 43 21 20), G, (gP rd)) (True) hX hi (by decide +kernel) rfl trivial ?_
  refine am_callS hX hi (M := mX0_copy) (idx := 61) (d' := 2) (As := [.ref 44, .ref 22]) (rest := []) mkX0_copy msX0_copy (by decide +kernel) (by decide +kernel) rfl ⟨by omega, by decide, Nat.le_of_ble_eq_true rfl⟩ rfl (c_copy rfl rfl (by decide)) ?_
  rintro r9 I9 G9 P9 ⟨e0, e1, e2, e3⟩
  rw [e0, e1, e2, e3]
  show am_V X 0 0 _ _ ad (82, [(0, .ref 16), (1, .ref 38)], [], (am_cp (am_cp (am_cp (am_cp (am_cp (am_cp (am_up (am_up I 16 8 (I 38 8)) 16 9 (I 38 9)) 39 17 20) 40 18 20) 41 19 20) 42 20 20) 43 21 20) 44 22 20), G, (gP rd))
  refine am_blk 82 [(.aload_n 1, 1, 1, 0, .null), (.getfield 30, 3, 3, 6, .null), (.aload_n 0, 1, 0, 0, .null), (.getfield 30, 3, 3, 6, .null)] (90, [(0, .ref 16), (1, .ref 38)], [.ref 23, .ref 45], (am_cp (am_cp (am_cp (am_cp (am_cp (am_cp (am_up (am_up I 16 8 (I 38 8)) 16 9 (I 38 9)) 39 17 20) 40 18 20) 41 19 20) 42 20 20) 43 21 20) 44 22 20), G, (gP rd)) (True) hX hi (by decide +kernel) rfl trivial ?_
  refine am_callS hX hi (M := mX0_copy) (idx := 61) (d' := 2) (As := [.ref 45, .ref 23]) (rest := []) mkX0_copy msX0_copy (by decide +kernel) (by decide +kernel) rfl ⟨by omega, by decide, Nat.le_of_ble_eq_true rfl⟩ rfl (c_copy rfl rfl (by decide)) ?_
  rintro r9 I9 G9 P9 ⟨e0, e1, e2, e3⟩
  rw [e0, e1, e2, e3]
  show am_V X 0 0 _ _ ad (93, [(0, .ref 16), (1, .ref 38)], [], (am_cp (am_cp (am_cp (am_cp (am_cp (am_cp (am_cp (am_up (am_up I 16 8 (I 38 8)) 16 9 (I 38 9)) 39 17 20) 40 18 20) 41 19 20) 42 20 20) 43 21 20) 44 22 20) 45 23 400), G, (gP rd))
  refine am_blk 93 [(.aload_n 1, 1, 1, 0, .null), (.getfield 33, 3, 3, 7, .null), (.aload_n 0, 1, 0, 0, .null), (.getfield 33, 3, 3, 7, .null)] (101, [(0, .ref 16), (1, .ref 38)], [.ref 24, .ref 46], (am_cp (am_cp (am_cp (am_cp (am_cp (am_cp (am_cp (am_up (am_up I 16 8 (I 38 8)) 16 9 (I 38 9)) 39 17 20) 40 18 20) 41 19 20) 42 20 20) 43 21 20) 44 22 20) 45 23 400), G, (gP rd)) (True) hX hi (by decide +kernel) rfl trivial ?_
  refine am_callS hX hi (M := mX0_copy) (idx := 61) (d' := 2) (As := [.ref 46, .ref 24]) (rest := []) mkX0_copy msX0_copy (by decide +kernel) (by decide +kernel) rfl ⟨by omega, by decide, Nat.le_of_ble_eq_true rfl⟩ rfl (c_copy rfl rfl (by decide)) ?_
  rintro r9 I9 G9 P9 ⟨e0, e1, e2, e3⟩
  rw [e0, e1, e2, e3]
  show am_V X 0 0 _ _ ad (104, [(0, .ref 16), (1, .ref 38)], [], (am_cp (am_cp (am_cp (am_cp (am_cp (am_cp (am_cp (am_cp (am_up (am_up I 16 8 (I 38 8)) 16 9 (I 38 9)) 39 17 20) 40 18 20) 41 19 20) 42 20 20) 43 21 20) 44 22 20) 45 23 400) 46 24 400), G, (gP rd))
  cases h
  refine am_vret hX hi rfl (by decide +kernel) ?_
  exact ⟨rfl, rfl, rfl, rfl⟩
noncomputable def L_X4_spread_60_58 (n0 : Nat) (hd : Nat) (I : am_I) (G : am_G) (v2 : Int32) (v3 : Int32) (v4 : Int32) (v5 : Int32) (v6 : Int32) (v7 : Int32) (v8 : Int32) (v9 : Int32) (v10 : Int32) (v11 : Int32) : Option (Unit × am_I × am_G) := match n0 with
  | 0 => none
  | n + 1 => match hd with
    | 0 => (if (I 60 3) ≤ v6 then L_X4_spread_60_58 n 5 I G v2 v3 v4 v5 v6 0 0 0 0 0 else (if (Int32.ofNat 576) ≤ v6 then L_X4_spread_60_58 n 5 I G v2 v3 v4 v5 v6 0 0 0 0 0 else (if (gAt (I 58) 576 (f_X4_leftOf I G (gAt (I 63) 576 v6) v3)) = v5 then L_X4_spread_60_58 n 1 (g_X4_join_60 I G (f_X4_leftOf I G (gAt (I 63) 576 v6) v3) (1 : Int32)) G v2 v3 v4 v5 v6 (gAt (I 63) 576 v6) (f_X4_leftOf I G (gAt (I 63) 576 v6) v3) (f_X4_rightOf I G (gAt (I 63) 576 v6) v3) (f_X4_above I G (gAt (I 63) 576 v6) v3 v4) (f_X4_below I G (gAt (I 63) 576 v6) v3 v4) else L_X4_spread_60_58 n 1 (g_X4_join_60 I G (f_X4_leftOf I G (gAt (I 63) 576 v6) v3) (0 : Int32)) G v2 v3 v4 v5 v6 (gAt (I 63) 576 v6) (f_X4_leftOf I G (gAt (I 63) 576 v6) v3) (f_X4_rightOf I G (gAt (I 63) 576 v6) v3) (f_X4_above I G (gAt (I 63) 576 v6) v3 v4) (f_X4_below I G (gAt (I 63) 576 v6) v3 v4))))
    | 1 => (if (gAt (I 58) 576 v9) = v5 then L_X4_spread_60_58 n 2 (g_X4_join_60 I G v9 (1 : Int32)) G v2 v3 v4 v5 v6 v7 v8 v9 v10 v11 else L_X4_spread_60_58 n 2 (g_X4_join_60 I G v9 (0 : Int32)) G v2 v3 v4 v5 v6 v7 v8 v9 v10 v11)
    | 2 => (if (gAt (I 58) 576 v10) = v5 then L_X4_spread_60_58 n 3 (g_X4_join_60 I G v10 (1 : Int32)) G v2 v3 v4 v5 v6 v7 v8 v9 v10 v11 else L_X4_spread_60_58 n 3 (g_X4_join_60 I G v10 (0 : Int32)) G v2 v3 v4 v5 v6 v7 v8 v9 v10 v11)
    | 3 => (if (gAt (I 58) 576 v11) = v5 then L_X4_spread_60_58 n 4 (g_X4_join_60 I G v11 (1 : Int32)) G v2 v3 v4 v5 v6 v7 v8 v9 v10 v11 else L_X4_spread_60_58 n 4 (g_X4_join_60 I G v11 (0 : Int32)) G v2 v3 v4 v5 v6 v7 v8 v9 v10 v11)
    | 4 => L_X4_spread_60_58 n 0 I G v2 v3 v4 v5 (v6 + (1 : Int32)) 0 0 0 0 0
    | 5 => L_X4_spread_60_58 n 6 (gPut I 62 576 (I 60 4) (I 60 3)) G v2 v3 v4 v5 v6 0 0 0 0 0
    | _ => some ((), (am_up I 60 4 ((I 60 4) + (1 : Int32))), G)
theorem L_X4_spread_60_58_0 (n : Nat) (I : am_I) (G : am_G) (v2 : Int32) (v3 : Int32) (v4 : Int32) (v5 : Int32) (v6 : Int32) (v7 : Int32) (v8 : Int32) (v9 : Int32) (v10 : Int32) (v11 : Int32) : L_X4_spread_60_58 (n + 1) 0 I G v2 v3 v4 v5 v6 v7 v8 v9 v10 v11 = (if (I 60 3) ≤ v6 then L_X4_spread_60_58 n 5 I G v2 v3 v4 v5 v6 0 0 0 0 0 else (if (Int32.ofNat 576) ≤ v6 then L_X4_spread_60_58 n 5 I G v2 v3 v4 v5 v6 0 0 0 0 0 else (if (gAt (I 58) 576 (f_X4_leftOf I G (gAt (I 63) 576 v6) v3)) = v5 then L_X4_spread_60_58 n 1 (g_X4_join_60 I G (f_X4_leftOf I G (gAt (I 63) 576 v6) v3) (1 : Int32)) G v2 v3 v4 v5 v6 (gAt (I 63) 576 v6) (f_X4_leftOf I G (gAt (I 63) 576 v6) v3) (f_X4_rightOf I G (gAt (I 63) 576 v6) v3) (f_X4_above I G (gAt (I 63) 576 v6) v3 v4) (f_X4_below I G (gAt (I 63) 576 v6) v3 v4) else L_X4_spread_60_58 n 1 (g_X4_join_60 I G (f_X4_leftOf I G (gAt (I 63) 576 v6) v3) (0 : Int32)) G v2 v3 v4 v5 v6 (gAt (I 63) 576 v6) (f_X4_leftOf I G (gAt (I 63) 576 v6) v3) (f_X4_rightOf I G (gAt (I 63) 576 v6) v3) (f_X4_above I G (gAt (I 63) 576 v6) v3 v4) (f_X4_below I G (gAt (I 63) 576 v6) v3 v4)))) := rfl
theorem L_X4_spread_60_58_1 (n : Nat) (I : am_I) (G : am_G) (v2 : Int32) (v3 : Int32) (v4 : Int32) (v5 : Int32) (v6 : Int32) (v7 : Int32) (v8 : Int32) (v9 : Int32) (v10 : Int32) (v11 : Int32) : L_X4_spread_60_58 (n + 1) 1 I G v2 v3 v4 v5 v6 v7 v8 v9 v10 v11 = (if (gAt (I 58) 576 v9) = v5 then L_X4_spread_60_58 n 2 (g_X4_join_60 I G v9 (1 : Int32)) G v2 v3 v4 v5 v6 v7 v8 v9 v10 v11 else L_X4_spread_60_58 n 2 (g_X4_join_60 I G v9 (0 : Int32)) G v2 v3 v4 v5 v6 v7 v8 v9 v10 v11) := rfl
theorem L_X4_spread_60_58_2 (n : Nat) (I : am_I) (G : am_G) (v2 : Int32) (v3 : Int32) (v4 : Int32) (v5 : Int32) (v6 : Int32) (v7 : Int32) (v8 : Int32) (v9 : Int32) (v10 : Int32) (v11 : Int32) : L_X4_spread_60_58 (n + 1) 2 I G v2 v3 v4 v5 v6 v7 v8 v9 v10 v11 = (if (gAt (I 58) 576 v10) = v5 then L_X4_spread_60_58 n 3 (g_X4_join_60 I G v10 (1 : Int32)) G v2 v3 v4 v5 v6 v7 v8 v9 v10 v11 else L_X4_spread_60_58 n 3 (g_X4_join_60 I G v10 (0 : Int32)) G v2 v3 v4 v5 v6 v7 v8 v9 v10 v11) := rfl
theorem L_X4_spread_60_58_3 (n : Nat) (I : am_I) (G : am_G) (v2 : Int32) (v3 : Int32) (v4 : Int32) (v5 : Int32) (v6 : Int32) (v7 : Int32) (v8 : Int32) (v9 : Int32) (v10 : Int32) (v11 : Int32) : L_X4_spread_60_58 (n + 1) 3 I G v2 v3 v4 v5 v6 v7 v8 v9 v10 v11 = (if (gAt (I 58) 576 v11) = v5 then L_X4_spread_60_58 n 4 (g_X4_join_60 I G v11 (1 : Int32)) G v2 v3 v4 v5 v6 v7 v8 v9 v10 v11 else L_X4_spread_60_58 n 4 (g_X4_join_60 I G v11 (0 : Int32)) G v2 v3 v4 v5 v6 v7 v8 v9 v10 v11) := rfl
theorem L_X4_spread_60_58_4 (n : Nat) (I : am_I) (G : am_G) (v2 : Int32) (v3 : Int32) (v4 : Int32) (v5 : Int32) (v6 : Int32) (v7 : Int32) (v8 : Int32) (v9 : Int32) (v10 : Int32) (v11 : Int32) : L_X4_spread_60_58 (n + 1) 4 I G v2 v3 v4 v5 v6 v7 v8 v9 v10 v11 = L_X4_spread_60_58 n 0 I G v2 v3 v4 v5 (v6 + (1 : Int32)) 0 0 0 0 0 := rfl
theorem L_X4_spread_60_58_5 (n : Nat) (I : am_I) (G : am_G) (v2 : Int32) (v3 : Int32) (v4 : Int32) (v5 : Int32) (v6 : Int32) (v7 : Int32) (v8 : Int32) (v9 : Int32) (v10 : Int32) (v11 : Int32) : L_X4_spread_60_58 (n + 1) 5 I G v2 v3 v4 v5 v6 v7 v8 v9 v10 v11 = L_X4_spread_60_58 n 6 (gPut I 62 576 (I 60 4) (I 60 3)) G v2 v3 v4 v5 v6 0 0 0 0 0 := rfl
theorem L_X4_spread_60_58_6 (n : Nat) (I : am_I) (G : am_G) (v2 : Int32) (v3 : Int32) (v4 : Int32) (v5 : Int32) (v6 : Int32) (v7 : Int32) (v8 : Int32) (v9 : Int32) (v10 : Int32) (v11 : Int32) : L_X4_spread_60_58 (n + 1) 6 I G v2 v3 v4 v5 v6 v7 v8 v9 v10 v11 = some ((), (am_up I 60 4 ((I 60 4) + (1 : Int32))), G) := rfl
theorem L_X4_spread_60_58_z (h : Nat) (I : am_I) (G : am_G) (v2 : Int32) (v3 : Int32) (v4 : Int32) (v5 : Int32) (v6 : Int32) (v7 : Int32) (v8 : Int32) (v9 : Int32) (v10 : Int32) (v11 : Int32) : L_X4_spread_60_58 0 h I G v2 v3 v4 v5 v6 v7 v8 v9 v10 v11 = none := rfl
noncomputable def R_X4_spread_60_58 (I : am_I) (G : am_G) (x1 : Int32) (x2 : Int32) (x3 : Int32) : Option (Unit × am_I × am_G) := L_X4_spread_60_58 FU 0 (g_X4_join_60 (am_up I 60 3 (0 : Int32)) G x1 (1 : Int32)) G x1 x2 x3 (gAt (I 58) 576 x1) (0 : Int32) 0 0 0 0 0
set_option maxRecDepth 20000 in
set_option maxHeartbeats 4000000 in
theorem l_X4_spread_60_58 (rd : Nat) {X : am_X} {ad : Nat → Nat} (hX : am_okz X ad) (hi : am_info X 4 cX4_spread 12 false none 3) (n : Nat) : (∀ (I : am_I) (G : am_G) (v2 : Int32) (v3 : Int32) (v4 : Int32) (v5 : Int32) (v6 : Int32) (v7 : Int32) (v8 : Int32) (v9 : Int32) (v10 : Int32) (v11 : Int32) (out : Unit × am_I × am_G), L_X4_spread_60_58 n 0 I G v2 v3 v4 v5 v6 v7 v8 v9 v10 v11 = some out → am_V X 0 0 (am_Rt X gS ad (pV out.2.1 out.2.2 (gP rd))) gS ad (21, [(0, .ref 60), (1, .ref 58), (2, .int v2), (3, .int v3), (4, .int v4), (5, .int v5), (6, .int v6)], [], I, G, (gP rd))) ∧ (∀ (I : am_I) (G : am_G) (v2 : Int32) (v3 : Int32) (v4 : Int32) (v5 : Int32) (v6 : Int32) (v7 : Int32) (v8 : Int32) (v9 : Int32) (v10 : Int32) (v11 : Int32) (out : Unit × am_I × am_G), L_X4_spread_60_58 n 1 I G v2 v3 v4 v5 v6 v7 v8 v9 v10 v11 = some out → am_V X 0 0 (am_Rt X gS ad (pV out.2.1 out.2.2 (gP rd))) gS ad (109, [(0, .ref 60), (1, .ref 58), (2, .int v2), (3, .int v3), (4, .int v4), (5, .int v5), (6, .int v6), (7, .int v7), (8, .int v8), (9, .int v9), (10, .int v10), (11, .int v11)], [], I, G, (gP rd))) ∧ (∀ (I : am_I) (G : am_G) (v2 : Int32) (v3 : Int32) (v4 : Int32) (v5 : Int32) (v6 : Int32) (v7 : Int32) (v8 : Int32) (v9 : Int32) (v10 : Int32) (v11 : Int32) (out : Unit × am_I × am_G), L_X4_spread_60_58 n 2 I G v2 v3 v4 v5 v6 v7 v8 v9 v10 v11 = some out → am_V X 0 0 (am_Rt X gS ad (pV out.2.1 out.2.2 (gP rd))) gS ad (131, [(0, .ref 60), (1, .ref 58), (2, .int v2), (3, .int v3), (4, .int v4), (5, .int v5), (6, .int v6), (7, .int v7), (8, .int v8), (9, .int v9), (10, .int v10), (11, .int v11)], [], I, G, (gP rd))) ∧ (∀ (I : am_I) (G : am_G) (v2 : Int32) (v3 : Int32) (v4 : Int32) (v5 : Int32) (v6 : Int32) (v7 : Int32) (v8 : Int32) (v9 : Int32) (v10 : Int32) (v11 : Int32) (out : Unit × am_I × am_G), L_X4_spread_60_58 n 3 I G v2 v3 v4 v5 v6 v7 v8 v9 v10 v11 = some out → am_V X 0 0 (am_Rt X gS ad (pV out.2.1 out.2.2 (gP rd))) gS ad (153, [(0, .ref 60), (1, .ref 58), (2, .int v2), (3, .int v3), (4, .int v4), (5, .int v5), (6, .int v6), (7, .int v7), (8, .int v8), (9, .int v9), (10, .int v10), (11, .int v11)], [], I, G, (gP rd))) ∧ (∀ (I : am_I) (G : am_G) (v2 : Int32) (v3 : Int32) (v4 : Int32) (v5 : Int32) (v6 : Int32) (v7 : Int32) (v8 : Int32) (v9 : Int32) (v10 : Int32) (v11 : Int32) (out : Unit × am_I × am_G), L_X4_spread_60_58 n 4 I G v2 v3 v4 v5 v6 v7 v8 v9 v10 v11 = some out → am_V X 0 0 (am_Rt X gS ad (pV out.2.1 out.2.2 (gP rd))) gS ad (175, [(0, .ref 60), (1, .ref 58), (2, .int v2), (3, .int v3), (4, .int v4), (5, .int v5), (6, .int v6), (7, .int v7), (8, .int v8), (9, .int v9), (10, .int v10), (11, .int v11)], [], I, G, (gP rd))) ∧ (∀ (I : am_I) (G : am_G) (v2 : Int32) (v3 : Int32) (v4 : Int32) (v5 : Int32) (v6 : Int32) (v7 : Int32) (v8 : Int32) (v9 : Int32) (v10 : Int32) (v11 : Int32) (out : Unit × am_I × am_G), L_X4_spread_60_58 n 5 I G v2 v3 v4 v5 v6 v7 v8 v9 v10 v11 = some out → am_V X 0 0 (am_Rt X gS ad (pV out.2.1 out.2.2 (gP rd))) gS ad (181, [(0, .ref 60), (1, .ref 58), (2, .int v2), (3, .int v3), (4, .int v4), (5, .int v5), (6, .int v6)], [], I, G, (gP rd))) ∧ (∀ (I : am_I) (G : am_G) (v2 : Int32) (v3 : Int32) (v4 : Int32) (v5 : Int32) (v6 : Int32) (v7 : Int32) (v8 : Int32) (v9 : Int32) (v10 : Int32) (v11 : Int32) (out : Unit × am_I × am_G), L_X4_spread_60_58 n 6 I G v2 v3 v4 v5 v6 v7 v8 v9 v10 v11 = some out → am_V X 0 0 (am_Rt X gS ad (pV out.2.1 out.2.2 (gP rd))) gS ad (196, [(0, .ref 60), (1, .ref 58), (2, .int v2), (3, .int v3), (4, .int v4), (5, .int v5), (6, .int v6)], [], I, G, (gP rd))) := by
  induction n with
  | zero => exact ⟨(fun I G v2 v3 v4 v5 v6 v7 v8 v9 v10 v11 out h => by rw [L_X4_spread_60_58_z] at h; cases h), (fun I G v2 v3 v4 v5 v6 v7 v8 v9 v10 v11 out h => by rw [L_X4_spread_60_58_z] at h; cases h), (fun I G v2 v3 v4 v5 v6 v7 v8 v9 v10 v11 out h => by rw [L_X4_spread_60_58_z] at h; cases h), (fun I G v2 v3 v4 v5 v6 v7 v8 v9 v10 v11 out h => by rw [L_X4_spread_60_58_z] at h; cases h), (fun I G v2 v3 v4 v5 v6 v7 v8 v9 v10 v11 out h => by rw [L_X4_spread_60_58_z] at h; cases h), (fun I G v2 v3 v4 v5 v6 v7 v8 v9 v10 v11 out h => by rw [L_X4_spread_60_58_z] at h; cases h), (fun I G v2 v3 v4 v5 v6 v7 v8 v9 v10 v11 out h => by rw [L_X4_spread_60_58_z] at h; cases h)⟩
  | succ n ih =>
    refine ⟨?_, ?_, ?_, ?_, ?_, ?_, ?_⟩
    · intro I G v2 v3 v4 v5 v6 v7 v8 v9 v10 v11 out h
      rw [L_X4_spread_60_58_0] at h
      refine am_blk 21 [(.iload 6, 2, 6, 0, .null), (.aload_n 0, 1, 0, 0, .null), (.getfield 50, 3, 4, 3, .null)] (27, [(0, .ref 60), (1, .ref 58), (2, .int v2), (3, .int v3), (4, .int v4), (5, .int v5), (6, .int v6)], [.int (I 60 3), .int v6], I, G, (gP rd)) (True) hX hi (by decide +kernel) rfl trivial ?_
      refine am_icmp_ge (tgt := 181) hX hi (off := (154)) (by decide +kernel) (by decide) (fun c27 => ?_) (fun c27 => ?_)
      · rw [if_pos c27] at h
        exact ih.2.2.2.2.2.1 _ _ _ _ _ _ _ _ _ _ _ _ _ h
      · rw [if_neg c27] at h
        refine am_blk 30 [(.iload 6, 2, 6, 0, .null), (.aload_n 0, 1, 0, 0, .null), (.getfield 18, 3, 4, 2, .null), (.arraylength, 1, 0, 0, .null)] (37, [(0, .ref 60), (1, .ref 58), (2, .int v2), (3, .int v3), (4, .int v4), (5, .int v5), (6, .int v6)], [.int (Int32.ofNat 576), .int v6], I, G, (gP rd)) (True) hX hi (by decide +kernel) rfl trivial ?_
        refine am_icmp_ge (tgt := 181) hX hi (off := (144)) (by decide +kernel) (by decide) (fun c37 => ?_) (fun c37 => ?_)
        · rw [if_pos c37] at h
          exact ih.2.2.2.2.2.1 _ _ _ _ _ _ _ _ _ _ _ _ _ h
        · rw [if_neg c37] at h
          refine am_blk 40 [(.aload_n 0, 1, 0, 0, .null), (.getfield 18, 3, 4, 2, .null), (.iload 6, 2, 6, 0, .null)] (46, [(0, .ref 60), (1, .ref 58), (2, .int v2), (3, .int v3), (4, .int v4), (5, .int v5), (6, .int v6)], [.int v6, .ref 63], I, G, (gP rd)) (True) hX hi (by decide +kernel) rfl trivial ?_
          refine am_callS hX hi (M := mX0_at) (idx := 34) (d' := 1) (As := [.ref 63, .int v6]) (rest := []) mkX0_at msX0_at (by decide +kernel) (by decide +kernel) rfl ⟨by omega, by decide, Nat.le_of_ble_eq_true rfl⟩ rfl (c_at rfl (by decide) v6) ?_
          rintro r9 I9 G9 P9 ⟨e0, e1, e2, e3⟩
          rw [e0, e1, e2, e3]
          show am_V X 0 0 _ _ ad (49, [(0, .ref 60), (1, .ref 58), (2, .int v2), (3, .int v3), (4, .int v4), (5, .int v5), (6, .int v6)], [.int (gAt (I 63) 576 v6)], I, G, (gP rd))
          refine am_blk 49 [(.istore 7, 2, 7, 0, .null), (.iload 7, 2, 7, 0, .null), (.iload_n 3, 1, 3, 0, .null)] (54, [(0, .ref 60), (1, .ref 58), (2, .int v2), (3, .int v3), (4, .int v4), (5, .int v5), (6, .int v6), (7, .int (gAt (I 63) 576 v6))], [.int v3, .int (gAt (I 63) 576 v6)], I, G, (gP rd)) (True) hX hi (by decide +kernel) rfl trivial ?_
          refine am_callS hX hi (M := mX4_leftOf) (idx := 57) (d' := 1) (As := [.int (gAt (I 63) 576 v6), .int v3]) (rest := []) mkX4_leftOf msX4_leftOf (by decide +kernel) (by decide +kernel) rfl ⟨by omega, by decide, Nat.le_of_ble_eq_true rfl⟩ rfl (c_X4_leftOf I G (gAt (I 63) 576 v6) v3) ?_
          rintro r9 I9 G9 P9 ⟨e0, e1, e2, e3⟩
          rw [e0, e1, e2, e3]
          show am_V X 0 0 _ _ ad (57, [(0, .ref 60), (1, .ref 58), (2, .int v2), (3, .int v3), (4, .int v4), (5, .int v5), (6, .int v6), (7, .int (gAt (I 63) 576 v6))], [.int (f_X4_leftOf I G (gAt (I 63) 576 v6) v3)], I, G, (gP rd))
          refine am_blk 57 [(.istore 8, 2, 8, 0, .null), (.iload 7, 2, 7, 0, .null), (.iload_n 3, 1, 3, 0, .null)] (62, [(0, .ref 60), (1, .ref 58), (2, .int v2), (3, .int v3), (4, .int v4), (5, .int v5), (6, .int v6), (7, .int (gAt (I 63) 576 v6)), (8, .int (f_X4_leftOf I G (gAt (I 63) 576 v6) v3))], [.int v3, .int (gAt (I 63) 576 v6)], I, G, (gP rd)) (True) hX hi (by decide +kernel) rfl trivial ?_
          refine am_callS hX hi (M := mX4_rightOf) (idx := 38) (d' := 1) (As := [.int (gAt (I 63) 576 v6), .int v3]) (rest := []) mkX4_rightOf msX4_rightOf (by decide +kernel) (by decide +kernel) rfl ⟨by omega, by decide, Nat.le_of_ble_eq_true rfl⟩ rfl (c_X4_rightOf I G (gAt (I 63) 576 v6) v3) ?_
          rintro r9 I9 G9 P9 ⟨e0, e1, e2, e3⟩
          rw [e0, e1, e2, e3]
          show am_V X 0 0 _ _ ad (65, [(0, .ref 60), (1, .ref 58), (2, .int v2), (3, .int v3), (4, .int v4), (5, .int v5), (6, .int v6), (7, .int (gAt (I 63) 576 v6)), (8, .int (f_X4_leftOf I G (gAt (I 63) 576 v6) v3))], [.int (f_X4_rightOf I G (gAt (I 63) 576 v6) v3)], I, G, (gP rd))
          refine am_blk 65 [(.istore 9, 2, 9, 0, .null), (.iload 7, 2, 7, 0, .null), (.iload_n 3, 1, 3, 0, .null), (.iload 4, 2, 4, 0, .null)] (72, [(0, .ref 60), (1, .ref 58), (2, .int v2), (3, .int v3), (4, .int v4), (5, .int v5), (6, .int v6), (7, .int (gAt (I 63) 576 v6)), (8, .int (f_X4_leftOf I G (gAt (I 63) 576 v6) v3)), (9, .int (f_X4_rightOf I G (gAt (I 63) 576 v6) v3))], [.int v4, .int v3, .int (gAt (I 63) 576 v6)], I, G, (gP rd)) (True) hX hi (by decide +kernel) rfl trivial ?_
          refine am_callS hX hi (M := mX4_above) (idx := 60) (d' := 1) (As := [.int (gAt (I 63) 576 v6), .int v3, .int v4]) (rest := []) mkX4_above msX4_above (by decide +kernel) (by decide +kernel) rfl ⟨by omega, by decide, Nat.le_of_ble_eq_true rfl⟩ rfl (c_X4_above I G (gAt (I 63) 576 v6) v3 v4) ?_
          rintro r9 I9 G9 P9 ⟨e0, e1, e2, e3⟩
          rw [e0, e1, e2, e3]
          show am_V X 0 0 _ _ ad (75, [(0, .ref 60), (1, .ref 58), (2, .int v2), (3, .int v3), (4, .int v4), (5, .int v5), (6, .int v6), (7, .int (gAt (I 63) 576 v6)), (8, .int (f_X4_leftOf I G (gAt (I 63) 576 v6) v3)), (9, .int (f_X4_rightOf I G (gAt (I 63) 576 v6) v3))], [.int (f_X4_above I G (gAt (I 63) 576 v6) v3 v4)], I, G, (gP rd))
          refine am_blk 75 [(.istore 10, 2, 10, 0, .null), (.iload 7, 2, 7, 0, .null), (.iload_n 3, 1, 3, 0, .null), (.iload 4, 2, 4, 0, .null)] (82, [(0, .ref 60), (1, .ref 58), (2, .int v2), (3, .int v3), (4, .int v4), (5, .int v5), (6, .int v6), (7, .int (gAt (I 63) 576 v6)), (8, .int (f_X4_leftOf I G (gAt (I 63) 576 v6) v3)), (9, .int (f_X4_rightOf I G (gAt (I 63) 576 v6) v3)), (10, .int (f_X4_above I G (gAt (I 63) 576 v6) v3 v4))], [.int v4, .int v3, .int (gAt (I 63) 576 v6)], I, G, (gP rd)) (True) hX hi (by decide +kernel) rfl trivial ?_
          refine am_callS hX hi (M := mX4_below) (idx := 42) (d' := 1) (As := [.int (gAt (I 63) 576 v6), .int v3, .int v4]) (rest := []) mkX4_below msX4_below (by decide +kernel) (by decide +kernel) rfl ⟨by omega, by decide, Nat.le_of_ble_eq_true rfl⟩ rfl (c_X4_below I G (gAt (I 63) 576 v6) v3 v4) ?_
          rintro r9 I9 G9 P9 ⟨e0, e1, e2, e3⟩
          rw [e0, e1, e2, e3]
          show am_V X 0 0 _ _ ad (85, [(0, .ref 60), (1, .ref 58), (2, .int v2), (3, .int v3), (4, .int v4), (5, .int v5), (6, .int v6), (7, .int (gAt (I 63) 576 v6)), (8, .int (f_X4_leftOf I G (gAt (I 63) 576 v6) v3)), (9, .int (f_X4_rightOf I G (gAt (I 63) 576 v6) v3)), (10, .int (f_X4_above I G (gAt (I 63) 576 v6) v3 v4))], [.int (f_X4_below I G (gAt (I 63) 576 v6) v3 v4)], I, G, (gP rd))
          refine am_blk 85 [(.istore 11, 2, 11, 0, .null), (.aload_n 0, 1, 0, 0, .null), (.iload 8, 2, 8, 0, .null), (.aload_n 1, 1, 1, 0, .null), (.iload 8, 2, 8, 0, .null)] (93, [(0, .ref 60), (1, .ref 58), (2, .int v2), (3, .int v3), (4, .int v4), (5, .int v5), (6, .int v6), (7, .int (gAt (I 63) 576 v6)), (8, .int (f_X4_leftOf I G (gAt (I 63) 576 v6) v3)), (9, .int (f_X4_rightOf I G (gAt (I 63) 576 v6) v3)), (10, .int (f_X4_above I G (gAt (I 63) 576 v6) v3 v4)), (11, .int (f_X4_below I G (gAt (I 63) 576 v6) v3 v4))], [.int (f_X4_leftOf I G (gAt (I 63) 576 v6) v3), .ref 58, .int (f_X4_leftOf I G (gAt (I 63) 576 v6) v3), .ref 60], I, G, (gP rd)) (True) hX hi (by decide +kernel) rfl trivial ?_
          refine am_callS hX hi (M := mX0_at) (idx := 34) (d' := 1) (As := [.ref 58, .int (f_X4_leftOf I G (gAt (I 63) 576 v6) v3)]) (rest := [.int (f_X4_leftOf I G (gAt (I 63) 576 v6) v3), .ref 60]) mkX0_at msX0_at (by decide +kernel) (by decide +kernel) rfl ⟨by omega, by decide, Nat.le_of_ble_eq_true rfl⟩ rfl (c_at rfl (by decide) (f_X4_leftOf I G (gAt (I 63) 576 v6) v3)) ?_
          rintro r9 I9 G9 P9 ⟨e0, e1, e2, e3⟩
          rw [e0, e1, e2, e3]
          show am_V X 0 0 _ _ ad (96, [(0, .ref 60), (1, .ref 58), (2, .int v2), (3, .int v3), (4, .int v4), (5, .int v5), (6, .int v6), (7, .int (gAt (I 63) 576 v6)), (8, .int (f_X4_leftOf I G (gAt (I 63) 576 v6) v3)), (9, .int (f_X4_rightOf I G (gAt (I 63) 576 v6) v3)), (10, .int (f_X4_above I G (gAt (I 63) 576 v6) v3 v4)), (11, .int (f_X4_below I G (gAt (I 63) 576 v6) v3 v4))], [.int (gAt (I 58) 576 (f_X4_leftOf I G (gAt (I 63) 576 v6) v3)), .int (f_X4_leftOf I G (gAt (I 63) 576 v6) v3), .ref 60], I, G, (gP rd))
          refine am_blk 96 [(.iload 5, 2, 5, 0, .null)] (98, [(0, .ref 60), (1, .ref 58), (2, .int v2), (3, .int v3), (4, .int v4), (5, .int v5), (6, .int v6), (7, .int (gAt (I 63) 576 v6)), (8, .int (f_X4_leftOf I G (gAt (I 63) 576 v6) v3)), (9, .int (f_X4_rightOf I G (gAt (I 63) 576 v6) v3)), (10, .int (f_X4_above I G (gAt (I 63) 576 v6) v3 v4)), (11, .int (f_X4_below I G (gAt (I 63) 576 v6) v3 v4))], [.int v5, .int (gAt (I 58) 576 (f_X4_leftOf I G (gAt (I 63) 576 v6) v3)), .int (f_X4_leftOf I G (gAt (I 63) 576 v6) v3), .ref 60], I, G, (gP rd)) (True) hX hi (by decide +kernel) rfl trivial ?_
          refine am_icmp_ne (tgt := 105) hX hi (off := (7)) (by decide +kernel) (by decide) (fun c98 => ?_) (fun c98 => ?_)
          · rw [if_neg c98] at h
            refine am_blk 105 [(.iconst (0), 1, 0, 0, .int (0 : Int32))] (106, [(0, .ref 60), (1, .ref 58), (2, .int v2), (3, .int v3), (4, .int v4), (5, .int v5), (6, .int v6), (7, .int (gAt (I 63) 576 v6)), (8, .int (f_X4_leftOf I G (gAt (I 63) 576 v6) v3)), (9, .int (f_X4_rightOf I G (gAt (I 63) 576 v6) v3)), (10, .int (f_X4_above I G (gAt (I 63) 576 v6) v3 v4)), (11, .int (f_X4_below I G (gAt (I 63) 576 v6) v3 v4))], [.int (0 : Int32), .int (f_X4_leftOf I G (gAt (I 63) 576 v6) v3), .ref 60], I, G, (gP rd)) (True) hX hi (by decide +kernel) rfl trivial ?_
            refine am_callV hX hi (M := mX4_join) (idx := 53) (d' := 2) (b := 60) (ci := 4) (As := [.int (f_X4_leftOf I G (gAt (I 63) 576 v6) v3), .int (0 : Int32)]) (rest := []) mkX4_join miX4_join mvX4_join (by decide +kernel) (by decide +kernel) rfl (by decide +kernel) rfl ⟨by omega, by decide, Nat.le_of_ble_eq_true rfl⟩ rfl (c_X4_join_60 _ I G (f_X4_leftOf I G (gAt (I 63) 576 v6) v3) (0 : Int32)) ?_
            rintro r9 I9 G9 P9 ⟨e0, e1, e2, e3⟩
            rw [e0, e1, e2, e3]
            show am_V X 0 0 _ _ ad (109, [(0, .ref 60), (1, .ref 58), (2, .int v2), (3, .int v3), (4, .int v4), (5, .int v5), (6, .int v6), (7, .int (gAt (I 63) 576 v6)), (8, .int (f_X4_leftOf I G (gAt (I 63) 576 v6) v3)), (9, .int (f_X4_rightOf I G (gAt (I 63) 576 v6) v3)), (10, .int (f_X4_above I G (gAt (I 63) 576 v6) v3 v4)), (11, .int (f_X4_below I G (gAt (I 63) 576 v6) v3 v4))], [], (g_X4_join_60 I G (f_X4_leftOf I G (gAt (I 63) 576 v6) v3) (0 : Int32)), G, (gP rd))
            exact ih.2.1 _ _ _ _ _ _ _ _ _ _ _ _ _ h
          · rw [if_pos c98] at h
            refine am_blk 101 [(.iconst (1), 1, 0, 0, .int (1 : Int32)), (.goto (4), 3, 0, 106, .null)] (106, [(0, .ref 60), (1, .ref 58), (2, .int v2), (3, .int v3), (4, .int v4), (5, .int v5), (6, .int v6), (7, .int (gAt (I 63) 576 v6)), (8, .int (f_X4_leftOf I G (gAt (I 63) 576 v6) v3)), (9, .int (f_X4_rightOf I G (gAt (I 63) 576 v6) v3)), (10, .int (f_X4_above I G (gAt (I 63) 576 v6) v3 v4)), (11, .int (f_X4_below I G (gAt (I 63) 576 v6) v3 v4))], [.int (1 : Int32), .int (f_X4_leftOf I G (gAt (I 63) 576 v6) v3), .ref 60], I, G, (gP rd)) (True) hX hi (by decide +kernel) rfl trivial ?_
            refine am_callV hX hi (M := mX4_join) (idx := 53) (d' := 2) (b := 60) (ci := 4) (As := [.int (f_X4_leftOf I G (gAt (I 63) 576 v6) v3), .int (1 : Int32)]) (rest := []) mkX4_join miX4_join mvX4_join (by decide +kernel) (by decide +kernel) rfl (by decide +kernel) rfl ⟨by omega, by decide, Nat.le_of_ble_eq_true rfl⟩ rfl (c_X4_join_60 _ I G (f_X4_leftOf I G (gAt (I 63) 576 v6) v3) (1 : Int32)) ?_
            rintro r9 I9 G9 P9 ⟨e0, e1, e2, e3⟩
            rw [e0, e1, e2, e3]
            show am_V X 0 0 _ _ ad (109, [(0, .ref 60), (1, .ref 58), (2, .int v2), (3, .int v3), (4, .int v4), (5, .int v5), (6, .int v6), (7, .int (gAt (I 63) 576 v6)), (8, .int (f_X4_leftOf I G (gAt (I 63) 576 v6) v3)), (9, .int (f_X4_rightOf I G (gAt (I 63) 576 v6) v3)), (10, .int (f_X4_above I G (gAt (I 63) 576 v6) v3 v4)), (11, .int (f_X4_below I G (gAt (I 63) 576 v6) v3 v4))], [], (g_X4_join_60 I G (f_X4_leftOf I G (gAt (I 63) 576 v6) v3) (1 : Int32)), G, (gP rd))
            exact ih.2.1 _ _ _ _ _ _ _ _ _ _ _ _ _ h
    · intro I G v2 v3 v4 v5 v6 v7 v8 v9 v10 v11 out h
      rw [L_X4_spread_60_58_1] at h
      refine am_blk 109 [(.aload_n 0, 1, 0, 0, .null), (.iload 9, 2, 9, 0, .null), (.aload_n 1, 1, 1, 0, .null), (.iload 9, 2, 9, 0, .null)] (115, [(0, .ref 60), (1, .ref 58), (2, .int v2), (3, .int v3), (4, .int v4), (5, .int v5), (6, .int v6), (7, .int v7), (8, .int v8), (9, .int v9), (10, .int v10), (11, .int v11)], [.int v9, .ref 58, .int v9, .ref 60], I, G, (gP rd)) (True) hX hi (by decide +kernel) rfl trivial ?_
      refine am_callS hX hi (M := mX0_at) (idx := 34) (d' := 1) (As := [.ref 58, .int v9]) (rest := [.int v9, .ref 60]) mkX0_at msX0_at (by decide +kernel) (by decide +kernel) rfl ⟨by omega, by decide, Nat.le_of_ble_eq_true rfl⟩ rfl (c_at rfl (by decide) v9) ?_
      rintro r9 I9 G9 P9 ⟨e0, e1, e2, e3⟩
      rw [e0, e1, e2, e3]
      show am_V X 0 0 _ _ ad (118, [(0, .ref 60), (1, .ref 58), (2, .int v2), (3, .int v3), (4, .int v4), (5, .int v5), (6, .int v6), (7, .int v7), (8, .int v8), (9, .int v9), (10, .int v10), (11, .int v11)], [.int (gAt (I 58) 576 v9), .int v9, .ref 60], I, G, (gP rd))
      refine am_blk 118 [(.iload 5, 2, 5, 0, .null)] (120, [(0, .ref 60), (1, .ref 58), (2, .int v2), (3, .int v3), (4, .int v4), (5, .int v5), (6, .int v6), (7, .int v7), (8, .int v8), (9, .int v9), (10, .int v10), (11, .int v11)], [.int v5, .int (gAt (I 58) 576 v9), .int v9, .ref 60], I, G, (gP rd)) (True) hX hi (by decide +kernel) rfl trivial ?_
      refine am_icmp_ne (tgt := 127) hX hi (off := (7)) (by decide +kernel) (by decide) (fun c120 => ?_) (fun c120 => ?_)
      · rw [if_neg c120] at h
        refine am_blk 127 [(.iconst (0), 1, 0, 0, .int (0 : Int32))] (128, [(0, .ref 60), (1, .ref 58), (2, .int v2), (3, .int v3), (4, .int v4), (5, .int v5), (6, .int v6), (7, .int v7), (8, .int v8), (9, .int v9), (10, .int v10), (11, .int v11)], [.int (0 : Int32), .int v9, .ref 60], I, G, (gP rd)) (True) hX hi (by decide +kernel) rfl trivial ?_
        refine am_callV hX hi (M := mX4_join) (idx := 53) (d' := 2) (b := 60) (ci := 4) (As := [.int v9, .int (0 : Int32)]) (rest := []) mkX4_join miX4_join mvX4_join (by decide +kernel) (by decide +kernel) rfl (by decide +kernel) rfl ⟨by omega, by decide, Nat.le_of_ble_eq_true rfl⟩ rfl (c_X4_join_60 _ I G v9 (0 : Int32)) ?_
        rintro r9 I9 G9 P9 ⟨e0, e1, e2, e3⟩
        rw [e0, e1, e2, e3]
        show am_V X 0 0 _ _ ad (131, [(0, .ref 60), (1, .ref 58), (2, .int v2), (3, .int v3), (4, .int v4), (5, .int v5), (6, .int v6), (7, .int v7), (8, .int v8), (9, .int v9), (10, .int v10), (11, .int v11)], [], (g_X4_join_60 I G v9 (0 : Int32)), G, (gP rd))
        exact ih.2.2.1 _ _ _ _ _ _ _ _ _ _ _ _ _ h
      · rw [if_pos c120] at h
        refine am_blk 123 [(.iconst (1), 1, 0, 0, .int (1 : Int32)), (.goto (4), 3, 0, 128, .null)] (128, [(0, .ref 60), (1, .ref 58), (2, .int v2), (3, .int v3), (4, .int v4), (5, .int v5), (6, .int v6), (7, .int v7), (8, .int v8), (9, .int v9), (10, .int v10), (11, .int v11)], [.int (1 : Int32), .int v9, .ref 60], I, G, (gP rd)) (True) hX hi (by decide +kernel) rfl trivial ?_
        refine am_callV hX hi (M := mX4_join) (idx := 53) (d' := 2) (b := 60) (ci := 4) (As := [.int v9, .int (1 : Int32)]) (rest := []) mkX4_join miX4_join mvX4_join (by decide +kernel) (by decide +kernel) rfl (by decide +kernel) rfl ⟨by omega, by decide, Nat.le_of_ble_eq_true rfl⟩ rfl (c_X4_join_60 _ I G v9 (1 : Int32)) ?_
        rintro r9 I9 G9 P9 ⟨e0, e1, e2, e3⟩
        rw [e0, e1, e2, e3]
        show am_V X 0 0 _ _ ad (131, [(0, .ref 60), (1, .ref 58), (2, .int v2), (3, .int v3), (4, .int v4), (5, .int v5), (6, .int v6), (7, .int v7), (8, .int v8), (9, .int v9), (10, .int v10), (11, .int v11)], [], (g_X4_join_60 I G v9 (1 : Int32)), G, (gP rd))
        exact ih.2.2.1 _ _ _ _ _ _ _ _ _ _ _ _ _ h
    · intro I G v2 v3 v4 v5 v6 v7 v8 v9 v10 v11 out h
      rw [L_X4_spread_60_58_2] at h
      refine am_blk 131 [(.aload_n 0, 1, 0, 0, .null), (.iload 10, 2, 10, 0, .null), (.aload_n 1, 1, 1, 0, .null), (.iload 10, 2, 10, 0, .null)] (137, [(0, .ref 60), (1, .ref 58), (2, .int v2), (3, .int v3), (4, .int v4), (5, .int v5), (6, .int v6), (7, .int v7), (8, .int v8), (9, .int v9), (10, .int v10), (11, .int v11)], [.int v10, .ref 58, .int v10, .ref 60], I, G, (gP rd)) (True) hX hi (by decide +kernel) rfl trivial ?_
      refine am_callS hX hi (M := mX0_at) (idx := 34) (d' := 1) (As := [.ref 58, .int v10]) (rest := [.int v10, .ref 60]) mkX0_at msX0_at (by decide +kernel) (by decide +kernel) rfl ⟨by omega, by decide, Nat.le_of_ble_eq_true rfl⟩ rfl (c_at rfl (by decide) v10) ?_
      rintro r9 I9 G9 P9 ⟨e0, e1, e2, e3⟩
      rw [e0, e1, e2, e3]
      show am_V X 0 0 _ _ ad (140, [(0, .ref 60), (1, .ref 58), (2, .int v2), (3, .int v3), (4, .int v4), (5, .int v5), (6, .int v6), (7, .int v7), (8, .int v8), (9, .int v9), (10, .int v10), (11, .int v11)], [.int (gAt (I 58) 576 v10), .int v10, .ref 60], I, G, (gP rd))
      refine am_blk 140 [(.iload 5, 2, 5, 0, .null)] (142, [(0, .ref 60), (1, .ref 58), (2, .int v2), (3, .int v3), (4, .int v4), (5, .int v5), (6, .int v6), (7, .int v7), (8, .int v8), (9, .int v9), (10, .int v10), (11, .int v11)], [.int v5, .int (gAt (I 58) 576 v10), .int v10, .ref 60], I, G, (gP rd)) (True) hX hi (by decide +kernel) rfl trivial ?_
      refine am_icmp_ne (tgt := 149) hX hi (off := (7)) (by decide +kernel) (by decide) (fun c142 => ?_) (fun c142 => ?_)
      · rw [if_neg c142] at h
        refine am_blk 149 [(.iconst (0), 1, 0, 0, .int (0 : Int32))] (150, [(0, .ref 60), (1, .ref 58), (2, .int v2), (3, .int v3), (4, .int v4), (5, .int v5), (6, .int v6), (7, .int v7), (8, .int v8), (9, .int v9), (10, .int v10), (11, .int v11)], [.int (0 : Int32), .int v10, .ref 60], I, G, (gP rd)) (True) hX hi (by decide +kernel) rfl trivial ?_
        refine am_callV hX hi (M := mX4_join) (idx := 53) (d' := 2) (b := 60) (ci := 4) (As := [.int v10, .int (0 : Int32)]) (rest := []) mkX4_join miX4_join mvX4_join (by decide +kernel) (by decide +kernel) rfl (by decide +kernel) rfl ⟨by omega, by decide, Nat.le_of_ble_eq_true rfl⟩ rfl (c_X4_join_60 _ I G v10 (0 : Int32)) ?_
        rintro r9 I9 G9 P9 ⟨e0, e1, e2, e3⟩
        rw [e0, e1, e2, e3]
        show am_V X 0 0 _ _ ad (153, [(0, .ref 60), (1, .ref 58), (2, .int v2), (3, .int v3), (4, .int v4), (5, .int v5), (6, .int v6), (7, .int v7), (8, .int v8), (9, .int v9), (10, .int v10), (11, .int v11)], [], (g_X4_join_60 I G v10 (0 : Int32)), G, (gP rd))
        exact ih.2.2.2.1 _ _ _ _ _ _ _ _ _ _ _ _ _ h
      · rw [if_pos c142] at h
        refine am_blk 145 [(.iconst (1), 1, 0, 0, .int (1 : Int32)), (.goto (4), 3, 0, 150, .null)] (150, [(0, .ref 60), (1, .ref 58), (2, .int v2), (3, .int v3), (4, .int v4), (5, .int v5), (6, .int v6), (7, .int v7), (8, .int v8), (9, .int v9), (10, .int v10), (11, .int v11)], [.int (1 : Int32), .int v10, .ref 60], I, G, (gP rd)) (True) hX hi (by decide +kernel) rfl trivial ?_
        refine am_callV hX hi (M := mX4_join) (idx := 53) (d' := 2) (b := 60) (ci := 4) (As := [.int v10, .int (1 : Int32)]) (rest := []) mkX4_join miX4_join mvX4_join (by decide +kernel) (by decide +kernel) rfl (by decide +kernel) rfl ⟨by omega, by decide, Nat.le_of_ble_eq_true rfl⟩ rfl (c_X4_join_60 _ I G v10 (1 : Int32)) ?_
        rintro r9 I9 G9 P9 ⟨e0, e1, e2, e3⟩
        rw [e0, e1, e2, e3]
        show am_V X 0 0 _ _ ad (153, [(0, .ref 60), (1, .ref 58), (2, .int v2), (3, .int v3), (4, .int v4), (5, .int v5), (6, .int v6), (7, .int v7), (8, .int v8), (9, .int v9), (10, .int v10), (11, .int v11)], [], (g_X4_join_60 I G v10 (1 : Int32)), G, (gP rd))
        exact ih.2.2.2.1 _ _ _ _ _ _ _ _ _ _ _ _ _ h
    · intro I G v2 v3 v4 v5 v6 v7 v8 v9 v10 v11 out h
      rw [L_X4_spread_60_58_3] at h
      refine am_blk 153 [(.aload_n 0, 1, 0, 0, .null), (.iload 11, 2, 11, 0, .null), (.aload_n 1, 1, 1, 0, .null), (.iload 11, 2, 11, 0, .null)] (159, [(0, .ref 60), (1, .ref 58), (2, .int v2), (3, .int v3), (4, .int v4), (5, .int v5), (6, .int v6), (7, .int v7), (8, .int v8), (9, .int v9), (10, .int v10), (11, .int v11)], [.int v11, .ref 58, .int v11, .ref 60], I, G, (gP rd)) (True) hX hi (by decide +kernel) rfl trivial ?_
      refine am_callS hX hi (M := mX0_at) (idx := 34) (d' := 1) (As := [.ref 58, .int v11]) (rest := [.int v11, .ref 60]) mkX0_at msX0_at (by decide +kernel) (by decide +kernel) rfl ⟨by omega, by decide, Nat.le_of_ble_eq_true rfl⟩ rfl (c_at rfl (by decide) v11) ?_
      rintro r9 I9 G9 P9 ⟨e0, e1, e2, e3⟩
      rw [e0, e1, e2, e3]
      show am_V X 0 0 _ _ ad (162, [(0, .ref 60), (1, .ref 58), (2, .int v2), (3, .int v3), (4, .int v4), (5, .int v5), (6, .int v6), (7, .int v7), (8, .int v8), (9, .int v9), (10, .int v10), (11, .int v11)], [.int (gAt (I 58) 576 v11), .int v11, .ref 60], I, G, (gP rd))
      refine am_blk 162 [(.iload 5, 2, 5, 0, .null)] (164, [(0, .ref 60), (1, .ref 58), (2, .int v2), (3, .int v3), (4, .int v4), (5, .int v5), (6, .int v6), (7, .int v7), (8, .int v8), (9, .int v9), (10, .int v10), (11, .int v11)], [.int v5, .int (gAt (I 58) 576 v11), .int v11, .ref 60], I, G, (gP rd)) (True) hX hi (by decide +kernel) rfl trivial ?_
      refine am_icmp_ne (tgt := 171) hX hi (off := (7)) (by decide +kernel) (by decide) (fun c164 => ?_) (fun c164 => ?_)
      · rw [if_neg c164] at h
        refine am_blk 171 [(.iconst (0), 1, 0, 0, .int (0 : Int32))] (172, [(0, .ref 60), (1, .ref 58), (2, .int v2), (3, .int v3), (4, .int v4), (5, .int v5), (6, .int v6), (7, .int v7), (8, .int v8), (9, .int v9), (10, .int v10), (11, .int v11)], [.int (0 : Int32), .int v11, .ref 60], I, G, (gP rd)) (True) hX hi (by decide +kernel) rfl trivial ?_
        refine am_callV hX hi (M := mX4_join) (idx := 53) (d' := 2) (b := 60) (ci := 4) (As := [.int v11, .int (0 : Int32)]) (rest := []) mkX4_join miX4_join mvX4_join (by decide +kernel) (by decide +kernel) rfl (by decide +kernel) rfl ⟨by omega, by decide, Nat.le_of_ble_eq_true rfl⟩ rfl (c_X4_join_60 _ I G v11 (0 : Int32)) ?_
        rintro r9 I9 G9 P9 ⟨e0, e1, e2, e3⟩
        rw [e0, e1, e2, e3]
        show am_V X 0 0 _ _ ad (175, [(0, .ref 60), (1, .ref 58), (2, .int v2), (3, .int v3), (4, .int v4), (5, .int v5), (6, .int v6), (7, .int v7), (8, .int v8), (9, .int v9), (10, .int v10), (11, .int v11)], [], (g_X4_join_60 I G v11 (0 : Int32)), G, (gP rd))
        exact ih.2.2.2.2.1 _ _ _ _ _ _ _ _ _ _ _ _ _ h
      · rw [if_pos c164] at h
        refine am_blk 167 [(.iconst (1), 1, 0, 0, .int (1 : Int32)), (.goto (4), 3, 0, 172, .null)] (172, [(0, .ref 60), (1, .ref 58), (2, .int v2), (3, .int v3), (4, .int v4), (5, .int v5), (6, .int v6), (7, .int v7), (8, .int v8), (9, .int v9), (10, .int v10), (11, .int v11)], [.int (1 : Int32), .int v11, .ref 60], I, G, (gP rd)) (True) hX hi (by decide +kernel) rfl trivial ?_
        refine am_callV hX hi (M := mX4_join) (idx := 53) (d' := 2) (b := 60) (ci := 4) (As := [.int v11, .int (1 : Int32)]) (rest := []) mkX4_join miX4_join mvX4_join (by decide +kernel) (by decide +kernel) rfl (by decide +kernel) rfl ⟨by omega, by decide, Nat.le_of_ble_eq_true rfl⟩ rfl (c_X4_join_60 _ I G v11 (1 : Int32)) ?_
        rintro r9 I9 G9 P9 ⟨e0, e1, e2, e3⟩
        rw [e0, e1, e2, e3]
        show am_V X 0 0 _ _ ad (175, [(0, .ref 60), (1, .ref 58), (2, .int v2), (3, .int v3), (4, .int v4), (5, .int v5), (6, .int v6), (7, .int v7), (8, .int v8), (9, .int v9), (10, .int v10), (11, .int v11)], [], (g_X4_join_60 I G v11 (1 : Int32)), G, (gP rd))
        exact ih.2.2.2.2.1 _ _ _ _ _ _ _ _ _ _ _ _ _ h
    · intro I G v2 v3 v4 v5 v6 v7 v8 v9 v10 v11 out h
      rw [L_X4_spread_60_58_4] at h
      refine am_blk 175 [(.iinc 6 (1), 3, 6, 0, .int (1 : Int32)), (.goto (-157), 3, 0, 21, .null)] (21, [(0, .ref 60), (1, .ref 58), (2, .int v2), (3, .int v3), (4, .int v4), (5, .int v5), (6, .int (v6 + (1 : Int32))), (7, .int v7), (8, .int v8), (9, .int v9), (10, .int v10), (11, .int v11)], [], I, G, (gP rd)) (True) hX hi (by decide +kernel) rfl trivial ?_
      refine am_sub (L' := [(0, .ref 60), (1, .ref 58), (2, .int v2), (3, .int v3), (4, .int v4), (5, .int v5), (6, .int (v6 + (1 : Int32)))]) (by simp) ?_
      exact ih.1 _ _ _ _ _ _ _ _ _ _ _ _ _ h
    · intro I G v2 v3 v4 v5 v6 v7 v8 v9 v10 v11 out h
      rw [L_X4_spread_60_58_5] at h
      refine am_blk 181 [(.aload_n 0, 1, 0, 0, .null), (.getfield 15, 3, 4, 1, .null), (.aload_n 0, 1, 0, 0, .null), (.getfield 21, 3, 4, 4, .null), (.aload_n 0, 1, 0, 0, .null), (.getfield 50, 3, 4, 3, .null)] (193, [(0, .ref 60), (1, .ref 58), (2, .int v2), (3, .int v3), (4, .int v4), (5, .int v5), (6, .int v6)], [.int (I 60 3), .int (I 60 4), .ref 62], I, G, (gP rd)) (True) hX hi (by decide +kernel) rfl trivial ?_
      refine am_callS hX hi (M := mX0_put) (idx := 28) (d' := 1) (As := [.ref 62, .int (I 60 4), .int (I 60 3)]) (rest := []) mkX0_put msX0_put (by decide +kernel) (by decide +kernel) rfl ⟨by omega, by decide, Nat.le_of_ble_eq_true rfl⟩ rfl (c_put rfl (by decide) (I 60 4) (I 60 3)) ?_
      rintro r9 I9 G9 P9 ⟨e0, e1, e2, e3⟩
      rw [e0, e1, e2, e3]
      show am_V X 0 0 _ _ ad (196, [(0, .ref 60), (1, .ref 58), (2, .int v2), (3, .int v3), (4, .int v4), (5, .int v5), (6, .int v6)], [], (gPut I 62 576 (I 60 4) (I 60 3)), G, (gP rd))
      exact ih.2.2.2.2.2.2 _ _ _ _ _ _ _ _ _ _ _ _ _ h
    · intro I G v2 v3 v4 v5 v6 v7 v8 v9 v10 v11 out h
      rw [L_X4_spread_60_58_6] at h
      refine am_blk 196 [(.aload_n 0, 1, 0, 0, .null), (.dup, 1, 0, 0, .null), (.getfield 21, 3, 4, 4, .null), (.iconst (1), 1, 0, 0, .int (1 : Int32)), (.iadd, 1, 0, 0, .null), (.putfield 21, 3, 4, 4, .null)] (206, [(0, .ref 60), (1, .ref 58), (2, .int v2), (3, .int v3), (4, .int v4), (5, .int v5), (6, .int v6)], [], (am_up I 60 4 ((I 60 4) + (1 : Int32))), G, (gP rd)) (True) hX hi (by decide +kernel) rfl trivial ?_
      cases h
      refine am_vret hX hi rfl (by decide +kernel) ?_
      exact ⟨rfl, rfl, rfl, rfl⟩
set_option maxRecDepth 20000 in
set_option maxHeartbeats 4000000 in
theorem c_X4_spread_60_58 (rd : Nat) (I : am_I) (G : am_G) (x1 : Int32) (x2 : Int32) (x3 : Int32) {out : Unit × am_I × am_G} (h : R_X4_spread_60_58 I G x1 x2 x3 = some out) : am_Ct mX4_spread 3 gS [.ref 60, .ref 58, .int x1, .int x2, .int x3] I G (gP rd) (pV out.2.1 out.2.2 (gP rd)) := by
  refine am_ofF (by decide +kernel) rfl (by decide) (by omega) (Nat.le_of_ble_eq_true rfl) (fun X ad hX hi => ?_)
  have hi : am_info X 4 cX4_spread 12 false none 3 := hi
  show am_V X 0 0 _ _ ad (0, [(0, .ref 60), (1, .ref 58), (2, .int x1), (3, .int x2), (4, .int x3)], [], I, G, (gP rd))
  unfold R_X4_spread_60_58 at h
  refine am_blk 0 [(.aload_n 1, 1, 1, 0, .null), (.iload_n 2, 1, 2, 0, .null)] (2, [(0, .ref 60), (1, .ref 58), (2, .int x1), (3, .int x2), (4, .int x3)], [.int x1, .ref 58], I, G, (gP rd)) (True) hX hi (by decide +kernel) rfl trivial ?_
  refine am_callS hX hi (M := mX0_at) (idx := 34) (d' := 1) (As := [.ref 58, .int x1]) (rest := []) mkX0_at msX0_at (by decide +kernel) (by decide +kernel) rfl ⟨by omega, by decide, Nat.le_of_ble_eq_true rfl⟩ rfl (c_at rfl (by decide) x1) ?_
  rintro r9 I9 G9 P9 ⟨e0, e1, e2, e3⟩
  rw [e0, e1, e2, e3]
  show am_V X 0 0 _ _ ad (5, [(0, .ref 60), (1, .ref 58), (2, .int x1), (3, .int x2), (4, .int x3)], [.int (gAt (I 58) 576 x1)], I, G, (gP rd))
  refine am_blk 5 [(.istore 5, 2, 5, 0, .null), (.aload_n 0, 1, 0, 0, .null), (.iconst (0), 1, 0, 0, .int (0 : Int32)), (.putfield 50, 3, 4, 3, .null), (.aload_n 0, 1, 0, 0, .null), (.iload_n 2, 1, 2, 0, .null), (.iconst (1), 1, 0, 0, .int (1 : Int32))] (15, [(0, .ref 60), (1, .ref 58), (2, .int x1), (3, .int x2), (4, .int x3), (5, .int (gAt (I 58) 576 x1))], [.int (1 : Int32), .int x1, .ref 60], (am_up I 60 3 (0 : Int32)), G, (gP rd)) (True) hX hi (by decide +kernel) rfl trivial ?_
  refine am_callV hX hi (M := mX4_join) (idx := 53) (d' := 2) (b := 60) (ci := 4) (As := [.int x1, .int (1 : Int32)]) (rest := []) mkX4_join miX4_join mvX4_join (by decide +kernel) (by decide +kernel) rfl (by decide +kernel) rfl ⟨by omega, by decide, Nat.le_of_ble_eq_true rfl⟩ rfl (c_X4_join_60 _ (am_up I 60 3 (0 : Int32)) G x1 (1 : Int32)) ?_
  rintro r9 I9 G9 P9 ⟨e0, e1, e2, e3⟩
  rw [e0, e1, e2, e3]
  show am_V X 0 0 _ _ ad (18, [(0, .ref 60), (1, .ref 58), (2, .int x1), (3, .int x2), (4, .int x3), (5, .int (gAt (I 58) 576 x1))], [], (g_X4_join_60 (am_up I 60 3 (0 : Int32)) G x1 (1 : Int32)), G, (gP rd))
  refine am_blk 18 [(.iconst (0), 1, 0, 0, .int (0 : Int32)), (.istore 6, 2, 6, 0, .null)] (21, [(0, .ref 60), (1, .ref 58), (2, .int x1), (3, .int x2), (4, .int x3), (5, .int (gAt (I 58) 576 x1)), (6, .int (0 : Int32))], [], (g_X4_join_60 (am_up I 60 3 (0 : Int32)) G x1 (1 : Int32)), G, (gP rd)) (True) hX hi (by decide +kernel) rfl trivial ?_
  exact (l_X4_spread_60_58 rd hX hi FU).1 _ _ _ _ _ _ _ _ _ _ _ _ _ h
noncomputable def L_X4_spread_73_71 (n0 : Nat) (hd : Nat) (I : am_I) (G : am_G) (v2 : Int32) (v3 : Int32) (v4 : Int32) (v5 : Int32) (v6 : Int32) (v7 : Int32) (v8 : Int32) (v9 : Int32) (v10 : Int32) (v11 : Int32) : Option (Unit × am_I × am_G) := match n0 with
  | 0 => none
  | n + 1 => match hd with
    | 0 => (if (I 73 3) ≤ v6 then L_X4_spread_73_71 n 5 I G v2 v3 v4 v5 v6 0 0 0 0 0 else (if (Int32.ofNat 576) ≤ v6 then L_X4_spread_73_71 n 5 I G v2 v3 v4 v5 v6 0 0 0 0 0 else (if (gAt (I 71) 576 (f_X4_leftOf I G (gAt (I 76) 576 v6) v3)) = v5 then L_X4_spread_73_71 n 1 (g_X4_join_73 I G (f_X4_leftOf I G (gAt (I 76) 576 v6) v3) (1 : Int32)) G v2 v3 v4 v5 v6 (gAt (I 76) 576 v6) (f_X4_leftOf I G (gAt (I 76) 576 v6) v3) (f_X4_rightOf I G (gAt (I 76) 576 v6) v3) (f_X4_above I G (gAt (I 76) 576 v6) v3 v4) (f_X4_below I G (gAt (I 76) 576 v6) v3 v4) else L_X4_spread_73_71 n 1 (g_X4_join_73 I G (f_X4_leftOf I G (gAt (I 76) 576 v6) v3) (0 : Int32)) G v2 v3 v4 v5 v6 (gAt (I 76) 576 v6) (f_X4_leftOf I G (gAt (I 76) 576 v6) v3) (f_X4_rightOf I G (gAt (I 76) 576 v6) v3) (f_X4_above I G (gAt (I 76) 576 v6) v3 v4) (f_X4_below I G (gAt (I 76) 576 v6) v3 v4))))
    | 1 => (if (gAt (I 71) 576 v9) = v5 then L_X4_spread_73_71 n 2 (g_X4_join_73 I G v9 (1 : Int32)) G v2 v3 v4 v5 v6 v7 v8 v9 v10 v11 else L_X4_spread_73_71 n 2 (g_X4_join_73 I G v9 (0 : Int32)) G v2 v3 v4 v5 v6 v7 v8 v9 v10 v11)
    | 2 => (if (gAt (I 71) 576 v10) = v5 then L_X4_spread_73_71 n 3 (g_X4_join_73 I G v10 (1 : Int32)) G v2 v3 v4 v5 v6 v7 v8 v9 v10 v11 else L_X4_spread_73_71 n 3 (g_X4_join_73 I G v10 (0 : Int32)) G v2 v3 v4 v5 v6 v7 v8 v9 v10 v11)
    | 3 => (if (gAt (I 71) 576 v11) = v5 then L_X4_spread_73_71 n 4 (g_X4_join_73 I G v11 (1 : Int32)) G v2 v3 v4 v5 v6 v7 v8 v9 v10 v11 else L_X4_spread_73_71 n 4 (g_X4_join_73 I G v11 (0 : Int32)) G v2 v3 v4 v5 v6 v7 v8 v9 v10 v11)
    | 4 => L_X4_spread_73_71 n 0 I G v2 v3 v4 v5 (v6 + (1 : Int32)) 0 0 0 0 0
    | 5 => L_X4_spread_73_71 n 6 (gPut I 75 576 (I 73 4) (I 73 3)) G v2 v3 v4 v5 v6 0 0 0 0 0
    | _ => some ((), (am_up I 73 4 ((I 73 4) + (1 : Int32))), G)
theorem L_X4_spread_73_71_0 (n : Nat) (I : am_I) (G : am_G) (v2 : Int32) (v3 : Int32) (v4 : Int32) (v5 : Int32) (v6 : Int32) (v7 : Int32) (v8 : Int32) (v9 : Int32) (v10 : Int32) (v11 : Int32) : L_X4_spread_73_71 (n + 1) 0 I G v2 v3 v4 v5 v6 v7 v8 v9 v10 v11 = (if (I 73 3) ≤ v6 then L_X4_spread_73_71 n 5 I G v2 v3 v4 v5 v6 0 0 0 0 0 else (if (Int32.ofNat 576) ≤ v6 then L_X4_spread_73_71 n 5 I G v2 v3 v4 v5 v6 0 0 0 0 0 else (if (gAt (I 71) 576 (f_X4_leftOf I G (gAt (I 76) 576 v6) v3)) = v5 then L_X4_spread_73_71 n 1 (g_X4_join_73 I G (f_X4_leftOf I G (gAt (I 76) 576 v6) v3) (1 : Int32)) G v2 v3 v4 v5 v6 (gAt (I 76) 576 v6) (f_X4_leftOf I G (gAt (I 76) 576 v6) v3) (f_X4_rightOf I G (gAt (I 76) 576 v6) v3) (f_X4_above I G (gAt (I 76) 576 v6) v3 v4) (f_X4_below I G (gAt (I 76) 576 v6) v3 v4) else L_X4_spread_73_71 n 1 (g_X4_join_73 I G (f_X4_leftOf I G (gAt (I 76) 576 v6) v3) (0 : Int32)) G v2 v3 v4 v5 v6 (gAt (I 76) 576 v6) (f_X4_leftOf I G (gAt (I 76) 576 v6) v3) (f_X4_rightOf I G (gAt (I 76) 576 v6) v3) (f_X4_above I G (gAt (I 76) 576 v6) v3 v4) (f_X4_below I G (gAt (I 76) 576 v6) v3 v4)))) := rfl
theorem L_X4_spread_73_71_1 (n : Nat) (I : am_I) (G : am_G) (v2 : Int32) (v3 : Int32) (v4 : Int32) (v5 : Int32) (v6 : Int32) (v7 : Int32) (v8 : Int32) (v9 : Int32) (v10 : Int32) (v11 : Int32) : L_X4_spread_73_71 (n + 1) 1 I G v2 v3 v4 v5 v6 v7 v8 v9 v10 v11 = (if (gAt (I 71) 576 v9) = v5 then L_X4_spread_73_71 n 2 (g_X4_join_73 I G v9 (1 : Int32)) G v2 v3 v4 v5 v6 v7 v8 v9 v10 v11 else L_X4_spread_73_71 n 2 (g_X4_join_73 I G v9 (0 : Int32)) G v2 v3 v4 v5 v6 v7 v8 v9 v10 v11) := rfl
theorem L_X4_spread_73_71_2 (n : Nat) (I : am_I) (G : am_G) (v2 : Int32) (v3 : Int32) (v4 : Int32) (v5 : Int32) (v6 : Int32) (v7 : Int32) (v8 : Int32) (v9 : Int32) (v10 : Int32) (v11 : Int32) : L_X4_spread_73_71 (n + 1) 2 I G v2 v3 v4 v5 v6 v7 v8 v9 v10 v11 = (if (gAt (I 71) 576 v10) = v5 then L_X4_spread_73_71 n 3 (g_X4_join_73 I G v10 (1 : Int32)) G v2 v3 v4 v5 v6 v7 v8 v9 v10 v11 else L_X4_spread_73_71 n 3 (g_X4_join_73 I G v10 (0 : Int32)) G v2 v3 v4 v5 v6 v7 v8 v9 v10 v11) := rfl
theorem L_X4_spread_73_71_3 (n : Nat) (I : am_I) (G : am_G) (v2 : Int32) (v3 : Int32) (v4 : Int32) (v5 : Int32) (v6 : Int32) (v7 : Int32) (v8 : Int32) (v9 : Int32) (v10 : Int32) (v11 : Int32) : L_X4_spread_73_71 (n + 1) 3 I G v2 v3 v4 v5 v6 v7 v8 v9 v10 v11 = (if (gAt (I 71) 576 v11) = v5 then L_X4_spread_73_71 n 4 (g_X4_join_73 I G v11 (1 : Int32)) G v2 v3 v4 v5 v6 v7 v8 v9 v10 v11 else L_X4_spread_73_71 n 4 (g_X4_join_73 I G v11 (0 : Int32)) G v2 v3 v4 v5 v6 v7 v8 v9 v10 v11) := rfl
theorem L_X4_spread_73_71_4 (n : Nat) (I : am_I) (G : am_G) (v2 : Int32) (v3 : Int32) (v4 : Int32) (v5 : Int32) (v6 : Int32) (v7 : Int32) (v8 : Int32) (v9 : Int32) (v10 : Int32) (v11 : Int32) : L_X4_spread_73_71 (n + 1) 4 I G v2 v3 v4 v5 v6 v7 v8 v9 v10 v11 = L_X4_spread_73_71 n 0 I G v2 v3 v4 v5 (v6 + (1 : Int32)) 0 0 0 0 0 := rfl
theorem L_X4_spread_73_71_5 (n : Nat) (I : am_I) (G : am_G) (v2 : Int32) (v3 : Int32) (v4 : Int32) (v5 : Int32) (v6 : Int32) (v7 : Int32) (v8 : Int32) (v9 : Int32) (v10 : Int32) (v11 : Int32) : L_X4_spread_73_71 (n + 1) 5 I G v2 v3 v4 v5 v6 v7 v8 v9 v10 v11 = L_X4_spread_73_71 n 6 (gPut I 75 576 (I 73 4) (I 73 3)) G v2 v3 v4 v5 v6 0 0 0 0 0 := rfl
theorem L_X4_spread_73_71_6 (n : Nat) (I : am_I) (G : am_G) (v2 : Int32) (v3 : Int32) (v4 : Int32) (v5 : Int32) (v6 : Int32) (v7 : Int32) (v8 : Int32) (v9 : Int32) (v10 : Int32) (v11 : Int32) : L_X4_spread_73_71 (n + 1) 6 I G v2 v3 v4 v5 v6 v7 v8 v9 v10 v11 = some ((), (am_up I 73 4 ((I 73 4) + (1 : Int32))), G) := rfl
theorem L_X4_spread_73_71_z (h : Nat) (I : am_I) (G : am_G) (v2 : Int32) (v3 : Int32) (v4 : Int32) (v5 : Int32) (v6 : Int32) (v7 : Int32) (v8 : Int32) (v9 : Int32) (v10 : Int32) (v11 : Int32) : L_X4_spread_73_71 0 h I G v2 v3 v4 v5 v6 v7 v8 v9 v10 v11 = none := rfl
noncomputable def R_X4_spread_73_71 (I : am_I) (G : am_G) (x1 : Int32) (x2 : Int32) (x3 : Int32) : Option (Unit × am_I × am_G) := L_X4_spread_73_71 FU 0 (g_X4_join_73 (am_up I 73 3 (0 : Int32)) G x1 (1 : Int32)) G x1 x2 x3 (gAt (I 71) 576 x1) (0 : Int32) 0 0 0 0 0
set_option maxRecDepth 20000 in
set_option maxHeartbeats 4000000 in
theorem l_X4_spread_73_71 (rd : Nat) {X : am_X} {ad : Nat → Nat} (hX : am_okz X ad) (hi : am_info X 4 cX4_spread 12 false none 3) (n : Nat) : (∀ (I : am_I) (G : am_G) (v2 : Int32) (v3 : Int32) (v4 : Int32) (v5 : Int32) (v6 : Int32) (v7 : Int32) (v8 : Int32) (v9 : Int32) (v10 : Int32) (v11 : Int32) (out : Unit × am_I × am_G), L_X4_spread_73_71 n 0 I G v2 v3 v4 v5 v6 v7 v8 v9 v10 v11 = some out → am_V X 0 0 (am_Rt X gS ad (pV out.2.1 out.2.2 (gP rd))) gS ad (21, [(0, .ref 73), (1, .ref 71), (2, .int v2), (3, .int v3), (4, .int v4), (5, .int v5), (6, .int v6)], [], I, G, (gP rd))) ∧ (∀ (I : am_I) (G : am_G) (v2 : Int32) (v3 : Int32) (v4 : Int32) (v5 : Int32) (v6 : Int32) (v7 : Int32) (v8 : Int32) (v9 : Int32) (v10 : Int32) (v11 : Int32) (out : Unit × am_I × am_G), L_X4_spread_73_71 n 1 I G v2 v3 v4 v5 v6 v7 v8 v9 v10 v11 = some out → am_V X 0 0 (am_Rt X gS ad (pV out.2.1 out.2.2 (gP rd))) gS ad (109, [(0, .ref 73), (1, .ref 71), (2, .int v2), (3, .int v3), (4, .int v4), (5, .int v5), (6, .int v6), (7, .int v7), (8, .int v8), (9, .int v9), (10, .int v10), (11, .int v11)], [], I, G, (gP rd))) ∧ (∀ (I : am_I) (G : am_G) (v2 : Int32) (v3 : Int32) (v4 : Int32) (v5 : Int32) (v6 : Int32) (v7 : Int32) (v8 : Int32) (v9 : Int32) (v10 : Int32) (v11 : Int32) (out : Unit × am_I × am_G), L_X4_spread_73_71 n 2 I G v2 v3 v4 v5 v6 v7 v8 v9 v10 v11 = some out → am_V X 0 0 (am_Rt X gS ad (pV out.2.1 out.2.2 (gP rd))) gS ad (131, [(0, .ref 73), (1, .ref 71), (2, .int v2), (3, .int v3), (4, .int v4), (5, .int v5), (6, .int v6), (7, .int v7), (8, .int v8), (9, .int v9), (10, .int v10), (11, .int v11)], [], I, G, (gP rd))) ∧ (∀ (I : am_I) (G : am_G) (v2 : Int32) (v3 : Int32) (v4 : Int32) (v5 : Int32) (v6 : Int32) (v7 : Int32) (v8 : Int32) (v9 : Int32) (v10 : Int32) (v11 : Int32) (out : Unit × am_I × am_G), L_X4_spread_73_71 n 3 I G v2 v3 v4 v5 v6 v7 v8 v9 v10 v11 = some out → am_V X 0 0 (am_Rt X gS ad (pV out.2.1 out.2.2 (gP rd))) gS ad (153, [(0, .ref 73), (1, .ref 71), (2, .int v2), (3, .int v3), (4, .int v4), (5, .int v5), (6, .int v6), (7, .int v7), (8, .int v8), (9, .int v9), (10, .int v10), (11, .int v11)], [], I, G, (gP rd))) ∧ (∀ (I : am_I) (G : am_G) (v2 : Int32) (v3 : Int32) (v4 : Int32) (v5 : Int32) (v6 : Int32) (v7 : Int32) (v8 : Int32) (v9 : Int32) (v10 : Int32) (v11 : Int32) (out : Unit × am_I × am_G), L_X4_spread_73_71 n 4 I G v2 v3 v4 v5 v6 v7 v8 v9 v10 v11 = some out → am_V X 0 0 (am_Rt X gS ad (pV out.2.1 out.2.2 (gP rd))) gS ad (175, [(0, .ref 73), (1, .ref 71), (2, .int v2), (3, .int v3), (4, .int v4), (5, .int v5), (6, .int v6), (7, .int v7), (8, .int v8), (9, .int v9), (10, .int v10), (11, .int v11)], [], I, G, (gP rd))) ∧ (∀ (I : am_I) (G : am_G) (v2 : Int32) (v3 : Int32) (v4 : Int32) (v5 : Int32) (v6 : Int32) (v7 : Int32) (v8 : Int32) (v9 : Int32) (v10 : Int32) (v11 : Int32) (out : Unit × am_I × am_G), L_X4_spread_73_71 n 5 I G v2 v3 v4 v5 v6 v7 v8 v9 v10 v11 = some out → am_V X 0 0 (am_Rt X gS ad (pV out.2.1 out.2.2 (gP rd))) gS ad (181, [(0, .ref 73), (1, .ref 71), (2, .int v2), (3, .int v3), (4, .int v4), (5, .int v5), (6, .int v6)], [], I, G, (gP rd))) ∧ (∀ (I : am_I) (G : am_G) (v2 : Int32) (v3 : Int32) (v4 : Int32) (v5 : Int32) (v6 : Int32) (v7 : Int32) (v8 : Int32) (v9 : Int32) (v10 : Int32) (v11 : Int32) (out : Unit × am_I × am_G), L_X4_spread_73_71 n 6 I G v2 v3 v4 v5 v6 v7 v8 v9 v10 v11 = some out → am_V X 0 0 (am_Rt X gS ad (pV out.2.1 out.2.2 (gP rd))) gS ad (196, [(0, .ref 73), (1, .ref 71), (2, .int v2), (3, .int v3), (4, .int v4), (5, .int v5), (6, .int v6)], [], I, G, (gP rd))) := by
  induction n with
  | zero => exact ⟨(fun I G v2 v3 v4 v5 v6 v7 v8 v9 v10 v11 out h => by rw [L_X4_spread_73_71_z] at h; cases h), (fun I G v2 v3 v4 v5 v6 v7 v8 v9 v10 v11 out h => by rw [L_X4_spread_73_71_z] at h; cases h), (fun I G v2 v3 v4 v5 v6 v7 v8 v9 v10 v11 out h => by rw [L_X4_spread_73_71_z] at h; cases h), (fun I G v2 v3 v4 v5 v6 v7 v8 v9 v10 v11 out h => by rw [L_X4_spread_73_71_z] at h; cases h), (fun I G v2 v3 v4 v5 v6 v7 v8 v9 v10 v11 out h => by rw [L_X4_spread_73_71_z] at h; cases h), (fun I G v2 v3 v4 v5 v6 v7 v8 v9 v10 v11 out h => by rw [L_X4_spread_73_71_z] at h; cases h), (fun I G v2 v3 v4 v5 v6 v7 v8 v9 v10 v11 out h => by rw [L_X4_spread_73_71_z] at h; cases h)⟩
  | succ n ih =>
    refine ⟨?_, ?_, ?_, ?_, ?_, ?_, ?_⟩
    · intro I G v2 v3 v4 v5 v6 v7 v8 v9 v10 v11 out h
      rw [L_X4_spread_73_71_0] at h
      refine am_blk 21 [(.iload 6, 2, 6, 0, .null), (.aload_n 0, 1, 0, 0, .null), (.getfield 50, 3, 4, 3, .null)] (27, [(0, .ref 73), (1, .ref 71), (2, .int v2), (3, .int v3), (4, .int v4), (5, .int v5), (6, .int v6)], [.int (I 73 3), .int v6], I, G, (gP rd)) (True) hX hi (by decide +kernel) rfl trivial ?_
      refine am_icmp_ge (tgt := 181) hX hi (off := (154)) (by decide +kernel) (by decide) (fun c27 => ?_) (fun c27 => ?_)
      · rw [if_pos c27] at h
        exact ih.2.2.2.2.2.1 _ _ _ _ _ _ _ _ _ _ _ _ _ h
      · rw [if_neg c27] at h
        refine am_blk 30 [(.iload 6, 2, 6, 0, .null), (.aload_n 0, 1, 0, 0, .null), (.getfield 18, 3, 4, 2, .null), (.arraylength, 1, 0, 0, .null)] (37, [(0, .ref 73), (1, .ref 71), (2, .int v2), (3, .int v3), (4, .int v4), (5, .int v5), (6, .int v6)], [.int (Int32.ofNat 576), .int v6], I, G, (gP rd)) (True) hX hi (by decide +kernel) rfl trivial ?_
        refine am_icmp_ge (tgt := 181) hX hi (off := (144)) (by decide +kernel) (by decide) (fun c37 => ?_) (fun c37 => ?_)
        · rw [if_pos c37] at h
          exact ih.2.2.2.2.2.1 _ _ _ _ _ _ _ _ _ _ _ _ _ h
        · rw [if_neg c37] at h
          refine am_blk 40 [(.aload_n 0, 1, 0, 0, .null), (.getfield 18, 3, 4, 2, .null), (.iload 6, 2, 6, 0, .null)] (46, [(0, .ref 73), (1, .ref 71), (2, .int v2), (3, .int v3), (4, .int v4), (5, .int v5), (6, .int v6)], [.int v6, .ref 76], I, G, (gP rd)) (True) hX hi (by decide +kernel) rfl trivial ?_
          refine am_callS hX hi (M := mX0_at) (idx := 34) (d' := 1) (As := [.ref 76, .int v6]) (rest := []) mkX0_at msX0_at (by decide +kernel) (by decide +kernel) rfl ⟨by omega, by decide, Nat.le_of_ble_eq_true rfl⟩ rfl (c_at rfl (by decide) v6) ?_
          rintro r9 I9 G9 P9 ⟨e0, e1, e2, e3⟩
          rw [e0, e1, e2, e3]
          show am_V X 0 0 _ _ ad (49, [(0, .ref 73), (1, .ref 71), (2, .int v2), (3, .int v3), (4, .int v4), (5, .int v5), (6, .int v6)], [.int (gAt (I 76) 576 v6)], I, G, (gP rd))
          refine am_blk 49 [(.istore 7, 2, 7, 0, .null), (.iload 7, 2, 7, 0, .null), (.iload_n 3, 1, 3, 0, .null)] (54, [(0, .ref 73), (1, .ref 71), (2, .int v2), (3, .int v3), (4, .int v4), (5, .int v5), (6, .int v6), (7, .int (gAt (I 76) 576 v6))], [.int v3, .int (gAt (I 76) 576 v6)], I, G, (gP rd)) (True) hX hi (by decide +kernel) rfl trivial ?_
          refine am_callS hX hi (M := mX4_leftOf) (idx := 57) (d' := 1) (As := [.int (gAt (I 76) 576 v6), .int v3]) (rest := []) mkX4_leftOf msX4_leftOf (by decide +kernel) (by decide +kernel) rfl ⟨by omega, by decide, Nat.le_of_ble_eq_true rfl⟩ rfl (c_X4_leftOf I G (gAt (I 76) 576 v6) v3) ?_
          rintro r9 I9 G9 P9 ⟨e0, e1, e2, e3⟩
          rw [e0, e1, e2, e3]
          show am_V X 0 0 _ _ ad (57, [(0, .ref 73), (1, .ref 71), (2, .int v2), (3, .int v3), (4, .int v4), (5, .int v5), (6, .int v6), (7, .int (gAt (I 76) 576 v6))], [.int (f_X4_leftOf I G (gAt (I 76) 576 v6) v3)], I, G, (gP rd))
          refine am_blk 57 [(.istore 8, 2, 8, 0, .null), (.iload 7, 2, 7, 0, .null), (.iload_n 3, 1, 3, 0, .null)] (62, [(0, .ref 73), (1, .ref 71), (2, .int v2), (3, .int v3), (4, .int v4), (5, .int v5), (6, .int v6), (7, .int (gAt (I 76) 576 v6)), (8, .int (f_X4_leftOf I G (gAt (I 76) 576 v6) v3))], [.int v3, .int (gAt (I 76) 576 v6)], I, G, (gP rd)) (True) hX hi (by decide +kernel) rfl trivial ?_
          refine am_callS hX hi (M := mX4_rightOf) (idx := 38) (d' := 1) (As := [.int (gAt (I 76) 576 v6), .int v3]) (rest := []) mkX4_rightOf msX4_rightOf (by decide +kernel) (by decide +kernel) rfl ⟨by omega, by decide, Nat.le_of_ble_eq_true rfl⟩ rfl (c_X4_rightOf I G (gAt (I 76) 576 v6) v3) ?_
          rintro r9 I9 G9 P9 ⟨e0, e1, e2, e3⟩
          rw [e0, e1, e2, e3]
          show am_V X 0 0 _ _ ad (65, [(0, .ref 73), (1, .ref 71), (2, .int v2), (3, .int v3), (4, .int v4), (5, .int v5), (6, .int v6), (7, .int (gAt (I 76) 576 v6)), (8, .int (f_X4_leftOf I G (gAt (I 76) 576 v6) v3))], [.int (f_X4_rightOf I G (gAt (I 76) 576 v6) v3)], I, G, (gP rd))
          refine am_blk 65 [(.istore 9, 2, 9, 0, .null), (.iload 7, 2, 7, 0, .null), (.iload_n 3, 1, 3, 0, .null), (.iload 4, 2, 4, 0, .null)] (72, [(0, .ref 73), (1, .ref 71), (2, .int v2), (3, .int v3), (4, .int v4), (5, .int v5), (6, .int v6), (7, .int (gAt (I 76) 576 v6)), (8, .int (f_X4_leftOf I G (gAt (I 76) 576 v6) v3)), (9, .int (f_X4_rightOf I G (gAt (I 76) 576 v6) v3))], [.int v4, .int v3, .int (gAt (I 76) 576 v6)], I, G, (gP rd)) (True) hX hi (by decide +kernel) rfl trivial ?_
          refine am_callS hX hi (M := mX4_above) (idx := 60) (d' := 1) (As := [.int (gAt (I 76) 576 v6), .int v3, .int v4]) (rest := []) mkX4_above msX4_above (by decide +kernel) (by decide +kernel) rfl ⟨by omega, by decide, Nat.le_of_ble_eq_true rfl⟩ rfl (c_X4_above I G (gAt (I 76) 576 v6) v3 v4) ?_
          rintro r9 I9 G9 P9 ⟨e0, e1, e2, e3⟩
          rw [e0, e1, e2, e3]
          show am_V X 0 0 _ _ ad (75, [(0, .ref 73), (1, .ref 71), (2, .int v2), (3, .int v3), (4, .int v4), (5, .int v5), (6, .int v6), (7, .int (gAt (I 76) 576 v6)), (8, .int (f_X4_leftOf I G (gAt (I 76) 576 v6) v3)), (9, .int (f_X4_rightOf I G (gAt (I 76) 576 v6) v3))], [.int (f_X4_above I G (gAt (I 76) 576 v6) v3 v4)], I, G, (gP rd))
          refine am_blk 75 [(.istore 10, 2, 10, 0, .null), (.iload 7, 2, 7, 0, .null), (.iload_n 3, 1, 3, 0, .null), (.iload 4, 2, 4, 0, .null)] (82, [(0, .ref 73), (1, .ref 71), (2, .int v2), (3, .int v3), (4, .int v4), (5, .int v5), (6, .int v6), (7, .int (gAt (I 76) 576 v6)), (8, .int (f_X4_leftOf I G (gAt (I 76) 576 v6) v3)), (9, .int (f_X4_rightOf I G (gAt (I 76) 576 v6) v3)), (10, .int (f_X4_above I G (gAt (I 76) 576 v6) v3 v4))], [.int v4, .int v3, .int (gAt (I 76) 576 v6)], I, G, (gP rd)) (True) hX hi (by decide +kernel) rfl trivial ?_
          refine am_callS hX hi (M := mX4_below) (idx := 42) (d' := 1) (As := [.int (gAt (I 76) 576 v6), .int v3, .int v4]) (rest := []) mkX4_below msX4_below (by decide +kernel) (by decide +kernel) rfl ⟨by omega, by decide, Nat.le_of_ble_eq_true rfl⟩ rfl (c_X4_below I G (gAt (I 76) 576 v6) v3 v4) ?_
          rintro r9 I9 G9 P9 ⟨e0, e1, e2, e3⟩
          rw [e0, e1, e2, e3]
          show am_V X 0 0 _ _ ad (85, [(0, .ref 73), (1, .ref 71), (2, .int v2), (3, .int v3), (4, .int v4), (5, .int v5), (6, .int v6), (7, .int (gAt (I 76) 576 v6)), (8, .int (f_X4_leftOf I G (gAt (I 76) 576 v6) v3)), (9, .int (f_X4_rightOf I G (gAt (I 76) 576 v6) v3)), (10, .int (f_X4_above I G (gAt (I 76) 576 v6) v3 v4))], [.int (f_X4_below I G (gAt (I 76) 576 v6) v3 v4)], I, G, (gP rd))
          refine am_blk 85 [(.istore 11, 2, 11, 0, .null), (.aload_n 0, 1, 0, 0, .null), (.iload 8, 2, 8, 0, .null), (.aload_n 1, 1, 1, 0, .null), (.iload 8, 2, 8, 0, .null)] (93, [(0, .ref 73), (1, .ref 71), (2, .int v2), (3, .int v3), (4, .int v4), (5, .int v5), (6, .int v6), (7, .int (gAt (I 76) 576 v6)), (8, .int (f_X4_leftOf I G (gAt (I 76) 576 v6) v3)), (9, .int (f_X4_rightOf I G (gAt (I 76) 576 v6) v3)), (10, .int (f_X4_above I G (gAt (I 76) 576 v6) v3 v4)), (11, .int (f_X4_below I G (gAt (I 76) 576 v6) v3 v4))], [.int (f_X4_leftOf I G (gAt (I 76) 576 v6) v3), .ref 71, .int (f_X4_leftOf I G (gAt (I 76) 576 v6) v3), .ref 73], I, G, (gP rd)) (True) hX hi (by decide +kernel) rfl trivial ?_
          refine am_callS hX hi (M := mX0_at) (idx := 34) (d' := 1) (As := [.ref 71, .int (f_X4_leftOf I G (gAt (I 76) 576 v6) v3)]) (rest := [.int (f_X4_leftOf I G (gAt (I 76) 576 v6) v3), .ref 73]) mkX0_at msX0_at (by decide +kernel) (by decide +kernel) rfl ⟨by omega, by decide, Nat.le_of_ble_eq_true rfl⟩ rfl (c_at rfl (by decide) (f_X4_leftOf I G (gAt (I 76) 576 v6) v3)) ?_
          rintro r9 I9 G9 P9 ⟨e0, e1, e2, e3⟩
          rw [e0, e1, e2, e3]
          show am_V X 0 0 _ _ ad (96, [(0, .ref 73), (1, .ref 71), (2, .int v2), (3, .int v3), (4, .int v4), (5, .int v5), (6, .int v6), (7, .int (gAt (I 76) 576 v6)), (8, .int (f_X4_leftOf I G (gAt (I 76) 576 v6) v3)), (9, .int (f_X4_rightOf I G (gAt (I 76) 576 v6) v3)), (10, .int (f_X4_above I G (gAt (I 76) 576 v6) v3 v4)), (11, .int (f_X4_below I G (gAt (I 76) 576 v6) v3 v4))], [.int (gAt (I 71) 576 (f_X4_leftOf I G (gAt (I 76) 576 v6) v3)), .int (f_X4_leftOf I G (gAt (I 76) 576 v6) v3), .ref 73], I, G, (gP rd))
          refine am_blk 96 [(.iload 5, 2, 5, 0, .null)] (98, [(0, .ref 73), (1, .ref 71), (2, .int v2), (3, .int v3), (4, .int v4), (5, .int v5), (6, .int v6), (7, .int (gAt (I 76) 576 v6)), (8, .int (f_X4_leftOf I G (gAt (I 76) 576 v6) v3)), (9, .int (f_X4_rightOf I G (gAt (I 76) 576 v6) v3)), (10, .int (f_X4_above I G (gAt (I 76) 576 v6) v3 v4)), (11, .int (f_X4_below I G (gAt (I 76) 576 v6) v3 v4))], [.int v5, .int (gAt (I 71) 576 (f_X4_leftOf I G (gAt (I 76) 576 v6) v3)), .int (f_X4_leftOf I G (gAt (I 76) 576 v6) v3), .ref 73], I, G, (gP rd)) (True) hX hi (by decide +kernel) rfl trivial ?_
          refine am_icmp_ne (tgt := 105) hX hi (off := (7)) (by decide +kernel) (by decide) (fun c98 => ?_) (fun c98 => ?_)
          · rw [if_neg c98] at h
            refine am_blk 105 [(.iconst (0), 1, 0, 0, .int (0 : Int32))] (106, [(0, .ref 73), (1, .ref 71), (2, .int v2), (3, .int v3), (4, .int v4), (5, .int v5), (6, .int v6), (7, .int (gAt (I 76) 576 v6)), (8, .int (f_X4_leftOf I G (gAt (I 76) 576 v6) v3)), (9, .int (f_X4_rightOf I G (gAt (I 76) 576 v6) v3)), (10, .int (f_X4_above I G (gAt (I 76) 576 v6) v3 v4)), (11, .int (f_X4_below I G (gAt (I 76) 576 v6) v3 v4))], [.int (0 : Int32), .int (f_X4_leftOf I G (gAt (I 76) 576 v6) v3), .ref 73], I, G, (gP rd)) (True) hX hi (by decide +kernel) rfl trivial ?_
            refine am_callV hX hi (M := mX4_join) (idx := 53) (d' := 2) (b := 73) (ci := 4) (As := [.int (f_X4_leftOf I G (gAt (I 76) 576 v6) v3), .int (0 : Int32)]) (rest := []) mkX4_join miX4_join mvX4_join (by decide +kernel) (by decide +kernel) rfl (by decide +kernel) rfl ⟨by omega, by decide, Nat.le_of_ble_eq_true rfl⟩ rfl (c_X4_join_73 _ I G (f_X4_leftOf I G (gAt (I 76) 576 v6) v3) (0 : Int32)) ?_
            rintro r9 I9 G9 P9 ⟨e0, e1, e2, e3⟩
            rw [e0, e1, e2, e3]
            show am_V X 0 0 _ _ ad (109, [(0, .ref 73), (1, .ref 71), (2, .int v2), (3, .int v3), (4, .int v4), (5, .int v5), (6, .int v6), (7, .int (gAt (I 76) 576 v6)), (8, .int (f_X4_leftOf I G (gAt (I 76) 576 v6) v3)), (9, .int (f_X4_rightOf I G (gAt (I 76) 576 v6) v3)), (10, .int (f_X4_above I G (gAt (I 76) 576 v6) v3 v4)), (11, .int (f_X4_below I G (gAt (I 76) 576 v6) v3 v4))], [], (g_X4_join_73 I G (f_X4_leftOf I G (gAt (I 76) 576 v6) v3) (0 : Int32)), G, (gP rd))
            exact ih.2.1 _ _ _ _ _ _ _ _ _ _ _ _ _ h
          · rw [if_pos c98] at h
            refine am_blk 101 [(.iconst (1), 1, 0, 0, .int (1 : Int32)), (.goto (4), 3, 0, 106, .null)] (106, [(0, .ref 73), (1, .ref 71), (2, .int v2), (3, .int v3), (4, .int v4), (5, .int v5), (6, .int v6), (7, .int (gAt (I 76) 576 v6)), (8, .int (f_X4_leftOf I G (gAt (I 76) 576 v6) v3)), (9, .int (f_X4_rightOf I G (gAt (I 76) 576 v6) v3)), (10, .int (f_X4_above I G (gAt (I 76) 576 v6) v3 v4)), (11, .int (f_X4_below I G (gAt (I 76) 576 v6) v3 v4))], [.int (1 : Int32), .int (f_X4_leftOf I G (gAt (I 76) 576 v6) v3), .ref 73], I, G, (gP rd)) (True) hX hi (by decide +kernel) rfl trivial ?_
            refine am_callV hX hi (M := mX4_join) (idx := 53) (d' := 2) (b := 73) (ci := 4) (As := [.int (f_X4_leftOf I G (gAt (I 76) 576 v6) v3), .int (1 : Int32)]) (rest := []) mkX4_join miX4_join mvX4_join (by decide +kernel) (by decide +kernel) rfl (by decide +kernel) rfl ⟨by omega, by decide, Nat.le_of_ble_eq_true rfl⟩ rfl (c_X4_join_73 _ I G (f_X4_leftOf I G (gAt (I 76) 576 v6) v3) (1 : Int32)) ?_
            rintro r9 I9 G9 P9 ⟨e0, e1, e2, e3⟩
            rw [e0, e1, e2, e3]
            show am_V X 0 0 _ _ ad (109, [(0, .ref 73), (1, .ref 71), (2, .int v2), (3, .int v3), (4, .int v4), (5, .int v5), (6, .int v6), (7, .int (gAt (I 76) 576 v6)), (8, .int (f_X4_leftOf I G (gAt (I 76) 576 v6) v3)), (9, .int (f_X4_rightOf I G (gAt (I 76) 576 v6) v3)), (10, .int (f_X4_above I G (gAt (I 76) 576 v6) v3 v4)), (11, .int (f_X4_below I G (gAt (I 76) 576 v6) v3 v4))], [], (g_X4_join_73 I G (f_X4_leftOf I G (gAt (I 76) 576 v6) v3) (1 : Int32)), G, (gP rd))
            exact ih.2.1 _ _ _ _ _ _ _ _ _ _ _ _ _ h
    · intro I G v2 v3 v4 v5 v6 v7 v8 v9 v10 v11 out h
      rw [L_X4_spread_73_71_1] at h
      refine am_blk 109 [(.aload_n 0, 1, 0, 0, .null), (.iload 9, 2, 9, 0, .null), (.aload_n 1, 1, 1, 0, .null), (.iload 9, 2, 9, 0, .null)] (115, [(0, .ref 73), (1, .ref 71), (2, .int v2), (3, .int v3), (4, .int v4), (5, .int v5), (6, .int v6), (7, .int v7), (8, .int v8), (9, .int v9), (10, .int v10), (11, .int v11)], [.int v9, .ref 71, .int v9, .ref 73], I, G, (gP rd)) (True) hX hi (by decide +kernel) rfl trivial ?_
      refine am_callS hX hi (M := mX0_at) (idx := 34) (d' := 1) (As := [.ref 71, .int v9]) (rest := [.int v9, .ref 73]) mkX0_at msX0_at (by decide +kernel) (by decide +kernel) rfl ⟨by omega, by decide, Nat.le_of_ble_eq_true rfl⟩ rfl (c_at rfl (by decide) v9) ?_
      rintro r9 I9 G9 P9 ⟨e0, e1, e2, e3⟩
      rw [e0, e1, e2, e3]
      show am_V X 0 0 _ _ ad (118, [(0, .ref 73), (1, .ref 71), (2, .int v2), (3, .int v3), (4, .int v4), (5, .int v5), (6, .int v6), (7, .int v7), (8, .int v8), (9, .int v9), (10, .int v10), (11, .int v11)], [.int (gAt (I 71) 576 v9), .int v9, .ref 73], I, G, (gP rd))
      refine am_blk 118 [(.iload 5, 2, 5, 0, .null)] (120, [(0, .ref 73), (1, .ref 71), (2, .int v2), (3, .int v3), (4, .int v4), (5, .int v5), (6, .int v6), (7, .int v7), (8, .int v8), (9, .int v9), (10, .int v10), (11, .int v11)], [.int v5, .int (gAt (I 71) 576 v9), .int v9, .ref 73], I, G, (gP rd)) (True) hX hi (by decide +kernel) rfl trivial ?_
      refine am_icmp_ne (tgt := 127) hX hi (off := (7)) (by decide +kernel) (by decide) (fun c120 => ?_) (fun c120 => ?_)
      · rw [if_neg c120] at h
        refine am_blk 127 [(.iconst (0), 1, 0, 0, .int (0 : Int32))] (128, [(0, .ref 73), (1, .ref 71), (2, .int v2), (3, .int v3), (4, .int v4), (5, .int v5), (6, .int v6), (7, .int v7), (8, .int v8), (9, .int v9), (10, .int v10), (11, .int v11)], [.int (0 : Int32), .int v9, .ref 73], I, G, (gP rd)) (True) hX hi (by decide +kernel) rfl trivial ?_
        refine am_callV hX hi (M := mX4_join) (idx := 53) (d' := 2) (b := 73) (ci := 4) (As := [.int v9, .int (0 : Int32)]) (rest := []) mkX4_join miX4_join mvX4_join (by decide +kernel) (by decide +kernel) rfl (by decide +kernel) rfl ⟨by omega, by decide, Nat.le_of_ble_eq_true rfl⟩ rfl (c_X4_join_73 _ I G v9 (0 : Int32)) ?_
        rintro r9 I9 G9 P9 ⟨e0, e1, e2, e3⟩
        rw [e0, e1, e2, e3]
        show am_V X 0 0 _ _ ad (131, [(0, .ref 73), (1, .ref 71), (2, .int v2), (3, .int v3), (4, .int v4), (5, .int v5), (6, .int v6), (7, .int v7), (8, .int v8), (9, .int v9), (10, .int v10), (11, .int v11)], [], (g_X4_join_73 I G v9 (0 : Int32)), G, (gP rd))
        exact ih.2.2.1 _ _ _ _ _ _ _ _ _ _ _ _ _ h
      · rw [if_pos c120] at h
        refine am_blk 123 [(.iconst (1), 1, 0, 0, .int (1 : Int32)), (.goto (4), 3, 0, 128, .null)] (128, [(0, .ref 73), (1, .ref 71), (2, .int v2), (3, .int v3), (4, .int v4), (5, .int v5), (6, .int v6), (7, .int v7), (8, .int v8), (9, .int v9), (10, .int v10), (11, .int v11)], [.int (1 : Int32), .int v9, .ref 73], I, G, (gP rd)) (True) hX hi (by decide +kernel) rfl trivial ?_
        refine am_callV hX hi (M := mX4_join) (idx := 53) (d' := 2) (b := 73) (ci := 4) (As := [.int v9, .int (1 : Int32)]) (rest := []) mkX4_join miX4_join mvX4_join (by decide +kernel) (by decide +kernel) rfl (by decide +kernel) rfl ⟨by omega, by decide, Nat.le_of_ble_eq_true rfl⟩ rfl (c_X4_join_73 _ I G v9 (1 : Int32)) ?_
        rintro r9 I9 G9 P9 ⟨e0, e1, e2, e3⟩
        rw [e0, e1, e2, e3]
        show am_V X 0 0 _ _ ad (131, [(0, .ref 73), (1, .ref 71), (2, .int v2), (3, .int v3), (4, .int v4), (5, .int v5), (6, .int v6), (7, .int v7), (8, .int v8), (9, .int v9), (10, .int v10), (11, .int v11)], [], (g_X4_join_73 I G v9 (1 : Int32)), G, (gP rd))
        exact ih.2.2.1 _ _ _ _ _ _ _ _ _ _ _ _ _ h
    · intro I G v2 v3 v4 v5 v6 v7 v8 v9 v10 v11 out h
      rw [L_X4_spread_73_71_2] at h
      refine am_blk 131 [(.aload_n 0, 1, 0, 0, .null), (.iload 10, 2, 10, 0, .null), (.aload_n 1, 1, 1, 0, .null), (.iload 10, 2, 10, 0, .null)] (137, [(0, .ref 73), (1, .ref 71), (2, .int v2), (3, .int v3), (4, .int v4), (5, .int v5), (6, .int v6), (7, .int v7), (8, .int v8), (9, .int v9), (10, .int v10), (11, .int v11)], [.int v10, .ref 71, .int v10, .ref 73], I, G, (gP rd)) (True) hX hi (by decide +kernel) rfl trivial ?_
      refine am_callS hX hi (M := mX0_at) (idx := 34) (d' := 1) (As := [.ref 71, .int v10]) (rest := [.int v10, .ref 73]) mkX0_at msX0_at (by decide +kernel) (by decide +kernel) rfl ⟨by omega, by decide, Nat.le_of_ble_eq_true rfl⟩ rfl (c_at rfl (by decide) v10) ?_
      rintro r9 I9 G9 P9 ⟨e0, e1, e2, e3⟩
      rw [e0, e1, e2, e3]
      show am_V X 0 0 _ _ ad (140, [(0, .ref 73), (1, .ref 71), (2, .int v2), (3, .int v3), (4, .int v4), (5, .int v5), (6, .int v6), (7, .int v7), (8, .int v8), (9, .int v9), (10, .int v10), (11, .int v11)], [.int (gAt (I 71) 576 v10), .int v10, .ref 73], I, G, (gP rd))
      refine am_blk 140 [(.iload 5, 2, 5, 0, .null)] (142, [(0, .ref 73), (1, .ref 71), (2, .int v2), (3, .int v3), (4, .int v4), (5, .int v5), (6, .int v6), (7, .int v7), (8, .int v8), (9, .int v9), (10, .int v10), (11, .int v11)], [.int v5, .int (gAt (I 71) 576 v10), .int v10, .ref 73], I, G, (gP rd)) (True) hX hi (by decide +kernel) rfl trivial ?_
      refine am_icmp_ne (tgt := 149) hX hi (off := (7)) (by decide +kernel) (by decide) (fun c142 => ?_) (fun c142 => ?_)
      · rw [if_neg c142] at h
        refine am_blk 149 [(.iconst (0), 1, 0, 0, .int (0 : Int32))] (150, [(0, .ref 73), (1, .ref 71), (2, .int v2), (3, .int v3), (4, .int v4), (5, .int v5), (6, .int v6), (7, .int v7), (8, .int v8), (9, .int v9), (10, .int v10), (11, .int v11)], [.int (0 : Int32), .int v10, .ref 73], I, G, (gP rd)) (True) hX hi (by decide +kernel) rfl trivial ?_
        refine am_callV hX hi (M := mX4_join) (idx := 53) (d' := 2) (b := 73) (ci := 4) (As := [.int v10, .int (0 : Int32)]) (rest := []) mkX4_join miX4_join mvX4_join (by decide +kernel) (by decide +kernel) rfl (by decide +kernel) rfl ⟨by omega, by decide, Nat.le_of_ble_eq_true rfl⟩ rfl (c_X4_join_73 _ I G v10 (0 : Int32)) ?_
        rintro r9 I9 G9 P9 ⟨e0, e1, e2, e3⟩
        rw [e0, e1, e2, e3]
        show am_V X 0 0 _ _ ad (153, [(0, .ref 73), (1, .ref 71), (2, .int v2), (3, .int v3), (4, .int v4), (5, .int v5), (6, .int v6), (7, .int v7), (8, .int v8), (9, .int v9), (10, .int v10), (11, .int v11)], [], (g_X4_join_73 I G v10 (0 : Int32)), G, (gP rd))
        exact ih.2.2.2.1 _ _ _ _ _ _ _ _ _ _ _ _ _ h
      · rw [if_pos c142] at h
        refine am_blk 145 [(.iconst (1), 1, 0, 0, .int (1 : Int32)), (.goto (4), 3, 0, 150, .null)] (150, [(0, .ref 73), (1, .ref 71), (2, .int v2), (3, .int v3), (4, .int v4), (5, .int v5), (6, .int v6), (7, .int v7), (8, .int v8), (9, .int v9), (10, .int v10), (11, .int v11)], [.int (1 : Int32), .int v10, .ref 73], I, G, (gP rd)) (True) hX hi (by decide +kernel) rfl trivial ?_
        refine am_callV hX hi (M := mX4_join) (idx := 53) (d' := 2) (b := 73) (ci := 4) (As := [.int v10, .int (1 : Int32)]) (rest := []) mkX4_join miX4_join mvX4_join (by decide +kernel) (by decide +kernel) rfl (by decide +kernel) rfl ⟨by omega, by decide, Nat.le_of_ble_eq_true rfl⟩ rfl (c_X4_join_73 _ I G v10 (1 : Int32)) ?_
        rintro r9 I9 G9 P9 ⟨e0, e1, e2, e3⟩
        rw [e0, e1, e2, e3]
        show am_V X 0 0 _ _ ad (153, [(0, .ref 73), (1, .ref 71), (2, .int v2), (3, .int v3), (4, .int v4), (5, .int v5), (6, .int v6), (7, .int v7), (8, .int v8), (9, .int v9), (10, .int v10), (11, .int v11)], [], (g_X4_join_73 I G v10 (1 : Int32)), G, (gP rd))
        exact ih.2.2.2.1 _ _ _ _ _ _ _ _ _ _ _ _ _ h
    · intro I G v2 v3 v4 v5 v6 v7 v8 v9 v10 v11 out h
      rw [L_X4_spread_73_71_3] at h
      refine am_blk 153 [(.aload_n 0, 1, 0, 0, .null), (.iload 11, 2, 11, 0, .null), (.aload_n 1, 1, 1, 0, .null), (.iload 11, 2, 11, 0, .null)] (159, [(0, .ref 73), (1, .ref 71), (2, .int v2), (3, .int v3), (4, .int v4), (5, .int v5), (6, .int v6), (7, .int v7), (8, .int v8), (9, .int v9), (10, .int v10), (11, .int v11)], [.int v11, .ref 71, .int v11, .ref 73], I, G, (gP rd)) (True) hX hi (by decide +kernel) rfl trivial ?_
      refine am_callS hX hi (M := mX0_at) (idx := 34) (d' := 1) (As := [.ref 71, .int v11]) (rest := [.int v11, .ref 73]) mkX0_at msX0_at (by decide +kernel) (by decide +kernel) rfl ⟨by omega, by decide, Nat.le_of_ble_eq_true rfl⟩ rfl (c_at rfl (by decide) v11) ?_
      rintro r9 I9 G9 P9 ⟨e0, e1, e2, e3⟩
      rw [e0, e1, e2, e3]
      show am_V X 0 0 _ _ ad (162, [(0, .ref 73), (1, .ref 71), (2, .int v2), (3, .int v3), (4, .int v4), (5, .int v5), (6, .int v6), (7, .int v7), (8, .int v8), (9, .int v9), (10, .int v10), (11, .int v11)], [.int (gAt (I 71) 576 v11), .int v11, .ref 73], I, G, (gP rd))
      refine am_blk 162 [(.iload 5, 2, 5, 0, .null)] (164, [(0, .ref 73), (1, .ref 71), (2, .int v2), (3, .int v3), (4, .int v4), (5, .int v5), (6, .int v6), (7, .int v7), (8, .int v8), (9, .int v9), (10, .int v10), (11, .int v11)], [.int v5, .int (gAt (I 71) 576 v11), .int v11, .ref 73], I, G, (gP rd)) (True) hX hi (by decide +kernel) rfl trivial ?_
      refine am_icmp_ne (tgt := 171) hX hi (off := (7)) (by decide +kernel) (by decide) (fun c164 => ?_) (fun c164 => ?_)
      · rw [if_neg c164] at h
        refine am_blk 171 [(.iconst (0), 1, 0, 0, .int (0 : Int32))] (172, [(0, .ref 73), (1, .ref 71), (2, .int v2), (3, .int v3), (4, .int v4), (5, .int v5), (6, .int v6), (7, .int v7), (8, .int v8), (9, .int v9), (10, .int v10), (11, .int v11)], [.int (0 : Int32), .int v11, .ref 73], I, G, (gP rd)) (True) hX hi (by decide +kernel) rfl trivial ?_
        refine am_callV hX hi (M := mX4_join) (idx := 53) (d' := 2) (b := 73) (ci := 4) (As := [.int v11, .int (0 : Int32)]) (rest := []) mkX4_join miX4_join mvX4_join (by decide +kernel) (by decide +kernel) rfl (by decide +kernel) rfl ⟨by omega, by decide, Nat.le_of_ble_eq_true rfl⟩ rfl (c_X4_join_73 _ I G v11 (0 : Int32)) ?_
        rintro r9 I9 G9 P9 ⟨e0, e1, e2, e3⟩
        rw [e0, e1, e2, e3]
        show am_V X 0 0 _ _ ad (175, [(0, .ref 73), (1, .ref 71), (2, .int v2), (3, .int v3), (4, .int v4), (5, .int v5), (6, .int v6), (7, .int v7), (8, .int v8), (9, .int v9), (10, .int v10), (11, .int v11)], [], (g_X4_join_73 I G v11 (0 : Int32)), G, (gP rd))
        exact ih.2.2.2.2.1 _ _ _ _ _ _ _ _ _ _ _ _ _ h
      · rw [if_pos c164] at h
        refine am_blk 167 [(.iconst (1), 1, 0, 0, .int (1 : Int32)), (.goto (4), 3, 0, 172, .null)] (172, [(0, .ref 73), (1, .ref 71), (2, .int v2), (3, .int v3), (4, .int v4), (5, .int v5), (6, .int v6), (7, .int v7), (8, .int v8), (9, .int v9), (10, .int v10), (11, .int v11)], [.int (1 : Int32), .int v11, .ref 73], I, G, (gP rd)) (True) hX hi (by decide +kernel) rfl trivial ?_
        refine am_callV hX hi (M := mX4_join) (idx := 53) (d' := 2) (b := 73) (ci := 4) (As := [.int v11, .int (1 : Int32)]) (rest := []) mkX4_join miX4_join mvX4_join (by decide +kernel) (by decide +kernel) rfl (by decide +kernel) rfl ⟨by omega, by decide, Nat.le_of_ble_eq_true rfl⟩ rfl (c_X4_join_73 _ I G v11 (1 : Int32)) ?_
        rintro r9 I9 G9 P9 ⟨e0, e1, e2, e3⟩
        rw [e0, e1, e2, e3]
        show am_V X 0 0 _ _ ad (175, [(0, .ref 73), (1, .ref 71), (2, .int v2), (3, .int v3), (4, .int v4), (5, .int v5), (6, .int v6), (7, .int v7), (8, .int v8), (9, .int v9), (10, .int v10), (11, .int v11)], [], (g_X4_join_73 I G v11 (1 : Int32)), G, (gP rd))
        exact ih.2.2.2.2.1 _ _ _ _ _ _ _ _ _ _ _ _ _ h
    · intro I G v2 v3 v4 v5 v6 v7 v8 v9 v10 v11 out h
      rw [L_X4_spread_73_71_4] at h
      refine am_blk 175 [(.iinc 6 (1), 3, 6, 0, .int (1 : Int32)), (.goto (-157), 3, 0, 21, .null)] (21, [(0, .ref 73), (1, .ref 71), (2, .int v2), (3, .int v3), (4, .int v4), (5, .int v5), (6, .int (v6 + (1 : Int32))), (7, .int v7), (8, .int v8), (9, .int v9), (10, .int v10), (11, .int v11)], [], I, G, (gP rd)) (True) hX hi (by decide +kernel) rfl trivial ?_
      refine am_sub (L' := [(0, .ref 73), (1, .ref 71), (2, .int v2), (3, .int v3), (4, .int v4), (5, .int v5), (6, .int (v6 + (1 : Int32)))]) (by simp) ?_
      exact ih.1 _ _ _ _ _ _ _ _ _ _ _ _ _ h
    · intro I G v2 v3 v4 v5 v6 v7 v8 v9 v10 v11 out h
      rw [L_X4_spread_73_71_5] at h
      refine am_blk 181 [(.aload_n 0, 1, 0, 0, .null), (.getfield 15, 3, 4, 1, .null), (.aload_n 0, 1, 0, 0, .null), (.getfield 21, 3, 4, 4, .null), (.aload_n 0, 1, 0, 0, .null), (.getfield 50, 3, 4, 3, .null)] (193, [(0, .ref 73), (1, .ref 71), (2, .int v2), (3, .int v3), (4, .int v4), (5, .int v5), (6, .int v6)], [.int (I 73 3), .int (I 73 4), .ref 75], I, G, (gP rd)) (True) hX hi (by decide +kernel) rfl trivial ?_
      refine am_callS hX hi (M := mX0_put) (idx := 28) (d' := 1) (As := [.ref 75, .int (I 73 4), .int (I 73 3)]) (rest := []) mkX0_put msX0_put (by decide +kernel) (by decide +kernel) rfl ⟨by omega, by decide, Nat.le_of_ble_eq_true rfl⟩ rfl (c_put rfl (by decide) (I 73 4) (I 73 3)) ?_
      rintro r9 I9 G9 P9 ⟨e0, e1, e2, e3⟩
      rw [e0, e1, e2, e3]
      show am_V X 0 0 _ _ ad (196, [(0, .ref 73), (1, .ref 71), (2, .int v2), (3, .int v3), (4, .int v4), (5, .int v5), (6, .int v6)], [], (gPut I 75 576 (I 73 4) (I 73 3)), G, (gP rd))
      exact ih.2.2.2.2.2.2 _ _ _ _ _ _ _ _ _ _ _ _ _ h
    · intro I G v2 v3 v4 v5 v6 v7 v8 v9 v10 v11 out h
      rw [L_X4_spread_73_71_6] at h
      refine am_blk 196 [(.aload_n 0, 1, 0, 0, .null), (.dup, 1, 0, 0, .null), (.getfield 21, 3, 4, 4, .null), (.iconst (1), 1, 0, 0, .int (1 : Int32)), (.iadd, 1, 0, 0, .null), (.putfield 21, 3, 4, 4, .null)] (206, [(0, .ref 73), (1, .ref 71), (2, .int v2), (3, .int v3), (4, .int v4), (5, .int v5), (6, .int v6)], [], (am_up I 73 4 ((I 73 4) + (1 : Int32))), G, (gP rd)) (True) hX hi (by decide +kernel) rfl trivial ?_
      cases h
      refine am_vret hX hi rfl (by decide +kernel) ?_
      exact ⟨rfl, rfl, rfl, rfl⟩
set_option maxRecDepth 20000 in
set_option maxHeartbeats 4000000 in
theorem c_X4_spread_73_71 (rd : Nat) (I : am_I) (G : am_G) (x1 : Int32) (x2 : Int32) (x3 : Int32) {out : Unit × am_I × am_G} (h : R_X4_spread_73_71 I G x1 x2 x3 = some out) : am_Ct mX4_spread 3 gS [.ref 73, .ref 71, .int x1, .int x2, .int x3] I G (gP rd) (pV out.2.1 out.2.2 (gP rd)) := by
  refine am_ofF (by decide +kernel) rfl (by decide) (by omega) (Nat.le_of_ble_eq_true rfl) (fun X ad hX hi => ?_)
  have hi : am_info X 4 cX4_spread 12 false none 3 := hi
  show am_V X 0 0 _ _ ad (0, [(0, .ref 73), (1, .ref 71), (2, .int x1), (3, .int x2), (4, .int x3)], [], I, G, (gP rd))
  unfold R_X4_spread_73_71 at h
  refine am_blk 0 [(.aload_n 1, 1, 1, 0, .null), (.iload_n 2, 1, 2, 0, .null)] (2, [(0, .ref 73), (1, .ref 71), (2, .int x1), (3, .int x2), (4, .int x3)], [.int x1, .ref 71], I, G, (gP rd)) (True) hX hi (by decide +kernel) rfl trivial ?_
  refine am_callS hX hi (M := mX0_at) (idx := 34) (d' := 1) (As := [.ref 71, .int x1]) (rest := []) mkX0_at msX0_at (by decide +kernel) (by decide +kernel) rfl ⟨by omega, by decide, Nat.le_of_ble_eq_true rfl⟩ rfl (c_at rfl (by decide) x1) ?_
  rintro r9 I9 G9 P9 ⟨e0, e1, e2, e3⟩
  rw [e0, e1, e2, e3]
  show am_V X 0 0 _ _ ad (5, [(0, .ref 73), (1, .ref 71), (2, .int x1), (3, .int x2), (4, .int x3)], [.int (gAt (I 71) 576 x1)], I, G, (gP rd))
  refine am_blk 5 [(.istore 5, 2, 5, 0, .null), (.aload_n 0, 1, 0, 0, .null), (.iconst (0), 1, 0, 0, .int (0 : Int32)), (.putfield 50, 3, 4, 3, .null), (.aload_n 0, 1, 0, 0, .null), (.iload_n 2, 1, 2, 0, .null), (.iconst (1), 1, 0, 0, .int (1 : Int32))] (15, [(0, .ref 73), (1, .ref 71), (2, .int x1), (3, .int x2), (4, .int x3), (5, .int (gAt (I 71) 576 x1))], [.int (1 : Int32), .int x1, .ref 73], (am_up I 73 3 (0 : Int32)), G, (gP rd)) (True) hX hi (by decide +kernel) rfl trivial ?_
  refine am_callV hX hi (M := mX4_join) (idx := 53) (d' := 2) (b := 73) (ci := 4) (As := [.int x1, .int (1 : Int32)]) (rest := []) mkX4_join miX4_join mvX4_join (by decide +kernel) (by decide +kernel) rfl (by decide +kernel) rfl ⟨by omega, by decide, Nat.le_of_ble_eq_true rfl⟩ rfl (c_X4_join_73 _ (am_up I 73 3 (0 : Int32)) G x1 (1 : Int32)) ?_
  rintro r9 I9 G9 P9 ⟨e0, e1, e2, e3⟩
  rw [e0, e1, e2, e3]
  show am_V X 0 0 _ _ ad (18, [(0, .ref 73), (1, .ref 71), (2, .int x1), (3, .int x2), (4, .int x3), (5, .int (gAt (I 71) 576 x1))], [], (g_X4_join_73 (am_up I 73 3 (0 : Int32)) G x1 (1 : Int32)), G, (gP rd))
  refine am_blk 18 [(.iconst (0), 1, 0, 0, .int (0 : Int32)), (.istore 6, 2, 6, 0, .null)] (21, [(0, .ref 73), (1, .ref 71), (2, .int x1), (3, .int x2), (4, .int x3), (5, .int (gAt (I 71) 576 x1)), (6, .int (0 : Int32))], [], (g_X4_join_73 (am_up I 73 3 (0 : Int32)) G x1 (1 : Int32)), G, (gP rd)) (True) hX hi (by decide +kernel) rfl trivial ?_
  exact (l_X4_spread_73_71 rd hX hi FU).1 _ _ _ _ _ _ _ _ _ _ _ _ _ h
noncomputable def R_X5_take_7_29 (I : am_I) (G : am_G)  : Option (Unit × am_I × am_G) := rb (R_X3_take_16_38 (am_cp (am_cp (am_cp (am_cp (am_cp (am_cp (am_cp (am_cp (am_up (am_up (am_up (am_up (am_up I 7 9 (I 29 9)) 7 10 (I 29 10)) 7 11 (I 29 11)) 7 12 (I 29 12)) 7 13 (I 29 13)) 30 8 4) 31 9 4) 32 10 4) 33 11 4) 34 12 4) 35 13 4) 36 14 4) 37 15 5) G ) (fun r1 I1 G1 => some ((), I1, G1))
set_option maxRecDepth 20000 in
set_option maxHeartbeats 4000000 in
theorem c_X5_take_7_29 (rd : Nat) (I : am_I) (G : am_G)  {out : Unit × am_I × am_G} (h : R_X5_take_7_29 I G  = some out) : am_Ct mX5_take 4 gS [.ref 7, .ref 29] I G (gP rd) (pV out.2.1 out.2.2 (gP rd)) := by
  refine am_ofF (by decide +kernel) rfl (by decide) (by omega) (Nat.le_of_ble_eq_true rfl) (fun X ad hX hi => ?_)
  have hi : am_info X 5 cX5_take 2 false none 4 := hi
  show am_V X 0 0 _ _ ad (0, [(0, .ref 7), (1, .ref 29)], [], I, G, (gP rd))
  unfold R_X5_take_7_29 at h
  refine am_blk 0 [(.aload_n 0, 1, 0, 0, .null), (.aload_n 1, 1, 1, 0, .null), (.getfield 43, 3, 5, 9, .null), (.putfield 43, 3, 5, 9, .null), (.aload_n 0, 1, 0, 0, .null), (.aload_n 1, 1, 1, 0, .null), (.getfield 47, 3, 5, 10, .null), (.putfield 47, 3, 5, 10, .null), (.aload_n 0, 1, 0, 0, .null), (.aload_n 1, 1, 1, 0, .null), (.getfield 50, 3, 5, 11, .null), (.putfield 50, 3, 5, 11, .null), (.aload_n 0, 1, 0, 0, .null), (.aload_n 1, 1, 1, 0, .null), (.getfield 53, 3, 5, 12, .null), (.putfield 53, 3, 5, 12, .null), (.aload_n 0, 1, 0, 0, .null), (.aload_n 1, 1, 1, 0, .null), (.getfield 56, 3, 5, 13, .null), (.putfield 56, 3, 5, 13, .null), (.aload_n 1, 1, 1, 0, .null), (.getfield 9, 3, 5, 0, .null), (.aload_n 0, 1, 0, 0, .null), (.getfield 9, 3, 5, 0, .null)] (48, [(0, .ref 7), (1, .ref 29)], [.ref 8, .ref 30], (am_up (am_up (am_up (am_up (am_up I 7 9 (I 29 9)) 7 10 (I 29 10)) 7 11 (I 29 11)) 7 12 (I 29 12)) 7 13 (I 29 13)), G, (gP rd)) (True) hX hi (by decide +kernel) rfl trivial ?_
  refine am_callS hX hi (M := mX0_copy) (idx := 78) (d' := 2) (As := [.ref 30, .ref 8]) (rest := []) mkX0_copy msX0_copy (by decide +kernel) (by decide +kernel) rfl ⟨by omega, by decide, Nat.le_of_ble_eq_true rfl⟩ rfl (c_copy rfl rfl (by decide)) ?_
  rintro r9 I9 G9 P9 ⟨e0, e1, e2, e3⟩
  rw [e0, e1, e2, e3]
  show am_V X 0 0 _ _ ad (51, [(0, .ref 7), (1, .ref 29)], [], (am_cp (am_up (am_up (am_up (am_up (am_up I 7 9 (I 29 9)) 7 10 (I 29 10)) 7 11 (I 29 11)) 7 12 (I 29 12)) 7 13 (I 29 13)) 30 8 4), G, (gP rd))
  refine am_blk 51 [(.aload_n 1, 1, 1, 0, .null), (.getfield 15, 3, 5, 1, .null), (.aload_n 0, 1, 0, 0, .null), (.getfield 15, 3, 5, 1, .null)] (59, [(0, .ref 7), (1, .ref 29)], [.ref 9, .ref 31], (am_cp (am_up (am_up (am_up (am_up (am_up I 7 9 (I 29 9)) 7 10 (I 29 10)) 7 11 (I 29 11)) 7 12 (I 29 12)) 7 13 (I 29 13)) 30 8 4), G, (gP rd)) (True) hX hi (by decide +kernel) rfl trivial ?_
  refine am_callS hX hi (M := mX0_copy) (idx := 78) (d' := 2) (As := [.ref 31, .ref 9]) (rest := []) mkX0_copy msX0_copy (by decide +kernel) (by decide +kernel) rfl ⟨by omega, by decide, Nat.le_of_ble_eq_true rfl⟩ rfl (c_copy rfl rfl (by decide)) ?_
  rintro r9 I9 G9 P9 ⟨e0, e1, e2, e3⟩
  rw [e0, e1, e2, e3]
  show am_V X 0 0 _ _ ad (62, [(0, .ref 7), (1, .ref 29)], [], (am_cp (am_cp (am_up (am_up (am_up (am_up (am_up I 7 9 (I 29 9)) 7 10 (I 29 10)) 7 11 (I 29 11)) 7 12 (I 29 12)) 7 13 (I 29 13)) 30 8 4) 31 9 4), G, (gP rd))
  refine am_blk 62 [(.aload_n 1, 1, 1, 0, .null), (.getfield 18, 3, 5, 2, .null), (.aload_n 0, 1, 0, 0, .null), (.getfield 18, 3, 5, 2, .null)] (70, [(0, .ref 7), (1, .ref 29)], [.ref 10, .ref 32], (am_cp (am_cp (am_up (am_up (am_up (am_up (am_up I 7 9 (I 29 9)) 7 10 (I 29 10)) 7 11 (I 29 11)) 7 12 (I 29 12)) 7 13 (I 29 13)) 30 8 4) 31 9 4), G, (gP rd)) (True) hX hi (by decide +kernel) rfl trivial ?_
  refine am_callS hX hi (M := mX0_copy) (idx := 78) (d' := 2) (As := [.ref 32, .ref 10]) (rest := []) mkX0_copy msX0_copy (by decide +kernel) (by decide +kernel) rfl ⟨by omega, by decide, Nat.le_of_ble_eq_true rfl⟩ rfl (c_copy rfl rfl (by decide)) ?_
  rintro r9 I9 G9 P9 ⟨e0, e1, e2, e3⟩
  rw [e0, e1, e2, e3]
  show am_V X 0 0 _ _ ad (73, [(0, .ref 7), (1, .ref 29)], [], (am_cp (am_cp (am_cp (am_up (am_up (am_up (am_up (am_up I 7 9 (I 29 9)) 7 10 (I 29 10)) 7 11 (I 29 11)) 7 12 (I 29 12)) 7 13 (I 29 13)) 30 8 4) 31 9 4) 32 10 4), G, (gP rd))
  refine am_blk 73 [(.aload_n 1, 1, 1, 0, .null), (.getfield 21, 3, 5, 3, .null), (.aload_n 0, 1, 0, 0, .null), (.getfield 21, 3, 5, 3, .null)] (81, [(0, .ref 7), (1, .ref 29)], [.ref 11, .ref 33], (am_cp (am_cp (am_cp (am_up (am_up (am_up (am_up (am_up I 7 9 (I 29 9)) 7 10 (I 29 10)) 7 11 (I 29 11)) 7 12 (I 29 12)) 7 13 (I 29 13)) 30 8 4) 31 9 4) 32 10 4), G, (gP rd)) (True) hX hi (by decide +kernel) rfl trivial ?_
  refine am_callS hX hi (M := mX0_copy) (idx := 78) (d' := 2) (As := [.ref 33, .ref 11]) (rest := []) mkX0_copy msX0_copy (by decide +kernel) (by decide +kernel) rfl ⟨by omega, by decide, Nat.le_of_ble_eq_true rfl⟩ rfl (c_copy rfl rfl (by decide)) ?_
  rintro r9 I9 G9 P9 ⟨e0, e1, e2, e3⟩
  rw [e0, e1, e2, e3]
  show am_V X 0 0 _ _ ad (84, [(0, .ref 7), (1, .ref 29)], [], (am_cp (am_cp (am_cp (am_cp (am_up (am_up (am_up (am_up (am_up I 7 9 (I 29 9)) 7 10 (I 29 10)) 7 11 (I 29 11)) 7 12 (I 29 12)) 7 13 (I 29 13)) 30 8 4) 31 9 4) 32 10 4) 33 11 4), G, (gP rd))
  refine am_blk 84 [(.aload_n 1, 1, 1, 0, .null), (.getfield 24, 3, 5, 4, .null), (.aload_n 0, 1, 0, 0, .null), (.getfield 24, 3, 5, 4, .null)] (92, [(0, .ref 7), (1, .ref 29)], [.ref 12, .ref 34], (am_cp (am_cp (am_cp (am_cp (am_up (am_up (am_up (am_up (am_up I 7 9 (I 29 9)) 7 10 (I 29 10)) 7 11 (I 29 11)) 7 12 (I 29 12)) 7 13 (I 29 13)) 30 8 4) 31 9 4) 32 10 4) 33 11 4), G, (gP rd)) (True) hX hi (by decide +kernel) rfl trivial ?_
  refine am_callS hX hi (M := mX0_copy) (idx := 78) (d' := 2) (As := [.ref 34, .ref 12]) (rest := []) mkX0_copy msX0_copy (by decide +kernel) (by decide +kernel) rfl ⟨by omega, by decide, Nat.le_of_ble_eq_true rfl⟩ rfl (c_copy rfl rfl (by decide)) ?_
  rintro r9 I9 G9 P9 ⟨e0, e1, e2, e3⟩
  rw [e0, e1, e2, e3]
  show am_V X 0 0 _ _ ad (95, [(0, .ref 7), (1, .ref 29)], [], (am_cp (am_cp (am_cp (am_cp (am_cp (am_up (am_up (am_up (am_up (am_up I 7 9 (I 29 9)) 7 10 (I 29 10)) 7 11 (I 29 11)) 7 12 (I 29 12)) 7 13 (I 29 13)) 30 8 4) 31 9 4) 32 10 4) 33 11 4) 34 12 4), G, (gP rd))
  refine am_blk 95 [(.aload_n 1, 1, 1, 0, .null), (.getfield 27, 3, 5, 5, .null), (.aload_n 0, 1, 0, 0, .null), (.getfield 27, 3, 5, 5, .null)] (103, [(0, .ref 7), (1, .ref 29)], [.ref 13, .ref 35], (am_cp (am_cp (am_cp (am_cp (am_cp (am_up (am_up (am_up (am_up (am_up I 7 9 (I 29 9)) 7 10 (I 29 10)) 7 11 (I 29 11)) 7 12 (I 29 12)) 7 13 (I 29 13)) 30 8 4) 31 9 4) 32 10 4) 33 11 4) 34 12 4), G, (gP rd)) (True) hX hi (by decide +kernel) rfl trivial ?_
  refine am_callS hX hi (M := mX0_copy) (idx := 78) (d' := 2) (As := [.ref 35, .ref 13]) (rest := []) mkX0_copy msX0_copy (by decide +kernel) (by decide +kernel) rfl ⟨by omega, by decide, Nat.le_of_ble_eq_true rfl⟩ rfl (c_copy rfl rfl (by decide)) ?_
  rintro r9 I9 G9 P9 ⟨e0, e1, e2, e3⟩
  rw [e0, e1, e2, e3]
  show am_V X 0 0 _ _ ad (106, [(0, .ref 7), (1, .ref 29)], [], (am_cp (am_cp (am_cp (am_cp (am_cp (am_cp (am_up (am_up (am_up (am_up (am_up I 7 9 (I 29 9)) 7 10 (I 29 10)) 7 11 (I 29 11)) 7 12 (I 29 12)) 7 13 (I 29 13)) 30 8 4) 31 9 4) 32 10 4) 33 11 4) 34 12 4) 35 13 4), G, (gP rd))
  refine am_blk 106 [(.aload_n 1, 1, 1, 0, .null), (.getfield 30, 3, 5, 6, .null), (.aload_n 0, 1, 0, 0, .null), (.getfield 30, 3, 5, 6, .null)] (114, [(0, .ref 7), (1, .ref 29)], [.ref 14, .ref 36], (am_cp (am_cp (am_cp (am_cp (am_cp (am_cp (am_up (am_up (am_up (am_up (am_up I 7 9 (I 29 9)) 7 10 (I 29 10)) 7 11 (I 29 11)) 7 12 (I 29 12)) 7 13 (I 29 13)) 30 8 4) 31 9 4) 32 10 4) 33 11 4) 34 12 4) 35 13 4), G, (gP rd)) (True) hX hi (by decide +kernel) rfl trivial ?_
  refine am_callS hX hi (M := mX0_copy) (idx := 78) (d' := 2) (As := [.ref 36, .ref 14]) (rest := []) mkX0_copy msX0_copy (by decide +kernel) (by decide +kernel) rfl ⟨by omega, by decide, Nat.le_of_ble_eq_true rfl⟩ rfl (c_copy rfl rfl (by decide)) ?_
  rintro r9 I9 G9 P9 ⟨e0, e1, e2, e3⟩
  rw [e0, e1, e2, e3]
  show am_V X 0 0 _ _ ad (117, [(0, .ref 7), (1, .ref 29)], [], (am_cp (am_cp (am_cp (am_cp (am_cp (am_cp (am_cp (am_up (am_up (am_up (am_up (am_up I 7 9 (I 29 9)) 7 10 (I 29 10)) 7 11 (I 29 11)) 7 12 (I 29 12)) 7 13 (I 29 13)) 30 8 4) 31 9 4) 32 10 4) 33 11 4) 34 12 4) 35 13 4) 36 14 4), G, (gP rd))
  refine am_blk 117 [(.aload_n 1, 1, 1, 0, .null), (.getfield 33, 3, 5, 7, .null), (.aload_n 0, 1, 0, 0, .null), (.getfield 33, 3, 5, 7, .null)] (125, [(0, .ref 7), (1, .ref 29)], [.ref 15, .ref 37], (am_cp (am_cp (am_cp (am_cp (am_cp (am_cp (am_cp (am_up (am_up (am_up (am_up (am_up I 7 9 (I 29 9)) 7 10 (I 29 10)) 7 11 (I 29 11)) 7 12 (I 29 12)) 7 13 (I 29 13)) 30 8 4) 31 9 4) 32 10 4) 33 11 4) 34 12 4) 35 13 4) 36 14 4), G, (gP rd)) (True) hX hi (by decide +kernel) rfl trivial ?_
  refine am_callS hX hi (M := mX0_copy) (idx := 78) (d' := 2) (As := [.ref 37, .ref 15]) (rest := []) mkX0_copy msX0_copy (by decide +kernel) (by decide +kernel) rfl ⟨by omega, by decide, Nat.le_of_ble_eq_true rfl⟩ rfl (c_copy rfl rfl (by decide)) ?_
  rintro r9 I9 G9 P9 ⟨e0, e1, e2, e3⟩
  rw [e0, e1, e2, e3]
  show am_V X 0 0 _ _ ad (128, [(0, .ref 7), (1, .ref 29)], [], (am_cp (am_cp (am_cp (am_cp (am_cp (am_cp (am_cp (am_cp (am_up (am_up (am_up (am_up (am_up I 7 9 (I 29 9)) 7 10 (I 29 10)) 7 11 (I 29 11)) 7 12 (I 29 12)) 7 13 (I 29 13)) 30 8 4) 31 9 4) 32 10 4) 33 11 4) 34 12 4) 35 13 4) 36 14 4) 37 15 5), G, (gP rd))
  refine am_blk 128 [(.aload_n 0, 1, 0, 0, .null), (.getfield 39, 3, 5, 8, .null), (.aload_n 1, 1, 1, 0, .null), (.getfield 39, 3, 5, 8, .null)] (136, [(0, .ref 7), (1, .ref 29)], [.ref 38, .ref 16], (am_cp (am_cp (am_cp (am_cp (am_cp (am_cp (am_cp (am_cp (am_up (am_up (am_up (am_up (am_up I 7 9 (I 29 9)) 7 10 (I 29 10)) 7 11 (I 29 11)) 7 12 (I 29 12)) 7 13 (I 29 13)) 30 8 4) 31 9 4) 32 10 4) 33 11 4) 34 12 4) 35 13 4) 36 14 4) 37 15 5), G, (gP rd)) (True) hX hi (by decide +kernel) rfl trivial ?_
  obtain ⟨r1, I1, G1, hc, h⟩ := rb_some h
  refine am_callV hX hi (M := mX3_take) (idx := 82) (d' := 3) (b := 16) (ci := 3) (As := [.ref 38]) (rest := []) mkX3_take miX3_take mvX3_take (by decide +kernel) (by decide +kernel) rfl (by decide +kernel) rfl ⟨by omega, by decide, Nat.le_of_ble_eq_true rfl⟩ rfl (c_X3_take_16_38 _ (am_cp (am_cp (am_cp (am_cp (am_cp (am_cp (am_cp (am_cp (am_up (am_up (am_up (am_up (am_up I 7 9 (I 29 9)) 7 10 (I 29 10)) 7 11 (I 29 11)) 7 12 (I 29 12)) 7 13 (I 29 13)) 30 8 4) 31 9 4) 32 10 4) 33 11 4) 34 12 4) 35 13 4) 36 14 4) 37 15 5) G  hc) ?_
  rintro r9 I9 G9 P9 ⟨e0, e1, e2, e3⟩
  rw [e0, e1, e2, e3]
  show am_V X 0 0 _ _ ad (139, [(0, .ref 7), (1, .ref 29)], [], I1, G1, (gP rd))
  cases h
  refine am_vret hX hi rfl (by decide +kernel) ?_
  exact ⟨rfl, rfl, rfl, rfl⟩
noncomputable def L_X5_inkOf_7 (n0 : Nat) (hd : Nat) (I : am_I) (G : am_G) (v1 : Int32) (v2 : Int32) (v3 : Int32) : Option (Int32 × am_I × am_G) := match n0 with
  | 0 => none
  | n + 1 => match hd with
    | _ => (if (I 7 13) ≤ v3 then some (v2, I, G) else (if v1 < (gAt (I 15) 5 v3) then L_X5_inkOf_7 n 0 I G v1 v2 (v3 + (1 : Int32)) else L_X5_inkOf_7 n 0 I G v1 (v2 + (1 : Int32)) (v3 + (1 : Int32))))
theorem L_X5_inkOf_7_0 (n : Nat) (I : am_I) (G : am_G) (v1 : Int32) (v2 : Int32) (v3 : Int32) : L_X5_inkOf_7 (n + 1) 0 I G v1 v2 v3 = (if (I 7 13) ≤ v3 then some (v2, I, G) else (if v1 < (gAt (I 15) 5 v3) then L_X5_inkOf_7 n 0 I G v1 v2 (v3 + (1 : Int32)) else L_X5_inkOf_7 n 0 I G v1 (v2 + (1 : Int32)) (v3 + (1 : Int32)))) := rfl
theorem L_X5_inkOf_7_z (h : Nat) (I : am_I) (G : am_G) (v1 : Int32) (v2 : Int32) (v3 : Int32) : L_X5_inkOf_7 0 h I G v1 v2 v3 = none := rfl
noncomputable def R_X5_inkOf_7 (I : am_I) (G : am_G) (x1 : Int32) : Option (Int32 × am_I × am_G) := L_X5_inkOf_7 FU 0 I G x1 (0 : Int32) (0 : Int32)
set_option maxRecDepth 20000 in
set_option maxHeartbeats 4000000 in
theorem l_X5_inkOf_7 (rd : Nat) {X : am_X} {ad : Nat → Nat} (hX : am_okz X ad) (hi : am_info X 5 cX5_inkOf 4 false (Option.some Jvm.ClassFile.FieldType.int) 2) (n : Nat) : (∀ (I : am_I) (G : am_G) (v1 : Int32) (v2 : Int32) (v3 : Int32) (out : Int32 × am_I × am_G), L_X5_inkOf_7 n 0 I G v1 v2 v3 = some out → am_V X 0 0 (am_Rt X gS ad (pI out.1 out.2.1 out.2.2 (gP rd))) gS ad (4, [(0, .ref 7), (1, .int v1), (2, .int v2), (3, .int v3)], [], I, G, (gP rd))) := by
  induction n with
  | zero => exact fun I G v1 v2 v3 out h => by rw [L_X5_inkOf_7_z] at h; cases h
  | succ n ih =>
    · intro I G v1 v2 v3 out h
      rw [L_X5_inkOf_7_0] at h
      refine am_blk 4 [(.iload_n 3, 1, 3, 0, .null), (.aload_n 0, 1, 0, 0, .null), (.getfield 56, 3, 5, 13, .null)] (9, [(0, .ref 7), (1, .int v1), (2, .int v2), (3, .int v3)], [.int (I 7 13), .int v3], I, G, (gP rd)) (True) hX hi (by decide +kernel) rfl trivial ?_
      refine am_icmp_ge (tgt := 33) hX hi (off := (24)) (by decide +kernel) (by decide) (fun c9 => ?_) (fun c9 => ?_)
      · rw [if_pos c9] at h
        refine am_blk 33 [(.iload_n 2, 1, 2, 0, .null)] (34, [(0, .ref 7), (1, .int v1), (2, .int v2), (3, .int v3)], [.int v2], I, G, (gP rd)) (True) hX hi (by decide +kernel) rfl trivial ?_
        cases h
        refine am_iret hX hi rfl rfl (by decide +kernel) ?_
        exact ⟨rfl, rfl, rfl, rfl⟩
      · rw [if_neg c9] at h
        refine am_blk 12 [(.aload_n 0, 1, 0, 0, .null), (.getfield 33, 3, 5, 7, .null), (.iload_n 3, 1, 3, 0, .null)] (17, [(0, .ref 7), (1, .int v1), (2, .int v2), (3, .int v3)], [.int v3, .ref 15], I, G, (gP rd)) (True) hX hi (by decide +kernel) rfl trivial ?_
        refine am_callS hX hi (M := mX0_at) (idx := 74) (d' := 1) (As := [.ref 15, .int v3]) (rest := []) mkX0_at msX0_at (by decide +kernel) (by decide +kernel) rfl ⟨by omega, by decide, Nat.le_of_ble_eq_true rfl⟩ rfl (c_at rfl (by decide) v3) ?_
        rintro r9 I9 G9 P9 ⟨e0, e1, e2, e3⟩
        rw [e0, e1, e2, e3]
        show am_V X 0 0 _ _ ad (20, [(0, .ref 7), (1, .int v1), (2, .int v2), (3, .int v3)], [.int (gAt (I 15) 5 v3)], I, G, (gP rd))
        refine am_blk 20 [(.iload_n 1, 1, 1, 0, .null)] (21, [(0, .ref 7), (1, .int v1), (2, .int v2), (3, .int v3)], [.int v1, .int (gAt (I 15) 5 v3)], I, G, (gP rd)) (True) hX hi (by decide +kernel) rfl trivial ?_
        refine am_icmp_gt (tgt := 27) hX hi (off := (6)) (by decide +kernel) (by decide) (fun c21 => ?_) (fun c21 => ?_)
        · rw [if_pos c21] at h
          refine am_blk 27 [(.iinc 3 (1), 3, 3, 0, .int (1 : Int32)), (.goto (-26), 3, 0, 4, .null)] (4, [(0, .ref 7), (1, .int v1), (2, .int v2), (3, .int (v3 + (1 : Int32)))], [], I, G, (gP rd)) (True) hX hi (by decide +kernel) rfl trivial ?_
          exact ih _ _ _ _ _ _ h
        · rw [if_neg c21] at h
          refine am_blk 24 [(.iinc 2 (1), 3, 2, 0, .int (1 : Int32)), (.iinc 3 (1), 3, 3, 0, .int (1 : Int32)), (.goto (-26), 3, 0, 4, .null)] (4, [(0, .ref 7), (1, .int v1), (2, .int (v2 + (1 : Int32))), (3, .int (v3 + (1 : Int32)))], [], I, G, (gP rd)) (True) hX hi (by decide +kernel) rfl trivial ?_
          exact ih _ _ _ _ _ _ h
set_option maxRecDepth 20000 in
set_option maxHeartbeats 4000000 in
theorem c_X5_inkOf_7 (rd : Nat) (I : am_I) (G : am_G) (x1 : Int32) {out : Int32 × am_I × am_G} (h : R_X5_inkOf_7 I G x1 = some out) : am_Ct mX5_inkOf 2 gS [.ref 7, .int x1] I G (gP rd) (pI out.1 out.2.1 out.2.2 (gP rd)) := by
  refine am_ofF (by decide +kernel) rfl (by decide) (by omega) (Nat.le_of_ble_eq_true rfl) (fun X ad hX hi => ?_)
  have hi : am_info X 5 cX5_inkOf 4 false (Option.some Jvm.ClassFile.FieldType.int) 2 := hi
  show am_V X 0 0 _ _ ad (0, [(0, .ref 7), (1, .int x1)], [], I, G, (gP rd))
  unfold R_X5_inkOf_7 at h
  refine am_blk 0 [(.iconst (0), 1, 0, 0, .int (0 : Int32)), (.istore_n 2, 1, 2, 0, .null), (.iconst (0), 1, 0, 0, .int (0 : Int32)), (.istore_n 3, 1, 3, 0, .null)] (4, [(0, .ref 7), (1, .int x1), (2, .int (0 : Int32)), (3, .int (0 : Int32))], [], I, G, (gP rd)) (True) hX hi (by decide +kernel) rfl trivial ?_
  exact (l_X5_inkOf_7 rd hX hi FU) _ _ _ _ _ _ h
noncomputable def L_X5_inkOf_29 (n0 : Nat) (hd : Nat) (I : am_I) (G : am_G) (v1 : Int32) (v2 : Int32) (v3 : Int32) : Option (Int32 × am_I × am_G) := match n0 with
  | 0 => none
  | n + 1 => match hd with
    | _ => (if (I 29 13) ≤ v3 then some (v2, I, G) else (if v1 < (gAt (I 37) 5 v3) then L_X5_inkOf_29 n 0 I G v1 v2 (v3 + (1 : Int32)) else L_X5_inkOf_29 n 0 I G v1 (v2 + (1 : Int32)) (v3 + (1 : Int32))))
theorem L_X5_inkOf_29_0 (n : Nat) (I : am_I) (G : am_G) (v1 : Int32) (v2 : Int32) (v3 : Int32) : L_X5_inkOf_29 (n + 1) 0 I G v1 v2 v3 = (if (I 29 13) ≤ v3 then some (v2, I, G) else (if v1 < (gAt (I 37) 5 v3) then L_X5_inkOf_29 n 0 I G v1 v2 (v3 + (1 : Int32)) else L_X5_inkOf_29 n 0 I G v1 (v2 + (1 : Int32)) (v3 + (1 : Int32)))) := rfl
theorem L_X5_inkOf_29_z (h : Nat) (I : am_I) (G : am_G) (v1 : Int32) (v2 : Int32) (v3 : Int32) : L_X5_inkOf_29 0 h I G v1 v2 v3 = none := rfl
noncomputable def R_X5_inkOf_29 (I : am_I) (G : am_G) (x1 : Int32) : Option (Int32 × am_I × am_G) := L_X5_inkOf_29 FU 0 I G x1 (0 : Int32) (0 : Int32)
set_option maxRecDepth 20000 in
set_option maxHeartbeats 4000000 in
theorem l_X5_inkOf_29 (rd : Nat) {X : am_X} {ad : Nat → Nat} (hX : am_okz X ad) (hi : am_info X 5 cX5_inkOf 4 false (Option.some Jvm.ClassFile.FieldType.int) 2) (n : Nat) : (∀ (I : am_I) (G : am_G) (v1 : Int32) (v2 : Int32) (v3 : Int32) (out : Int32 × am_I × am_G), L_X5_inkOf_29 n 0 I G v1 v2 v3 = some out → am_V X 0 0 (am_Rt X gS ad (pI out.1 out.2.1 out.2.2 (gP rd))) gS ad (4, [(0, .ref 29), (1, .int v1), (2, .int v2), (3, .int v3)], [], I, G, (gP rd))) := by
  induction n with
  | zero => exact fun I G v1 v2 v3 out h => by rw [L_X5_inkOf_29_z] at h; cases h
  | succ n ih =>
    · intro I G v1 v2 v3 out h
      rw [L_X5_inkOf_29_0] at h
      refine am_blk 4 [(.iload_n 3, 1, 3, 0, .null), (.aload_n 0, 1, 0, 0, .null), (.getfield 56, 3, 5, 13, .null)] (9, [(0, .ref 29), (1, .int v1), (2, .int v2), (3, .int v3)], [.int (I 29 13), .int v3], I, G, (gP rd)) (True) hX hi (by decide +kernel) rfl trivial ?_
      refine am_icmp_ge (tgt := 33) hX hi (off := (24)) (by decide +kernel) (by decide) (fun c9 => ?_) (fun c9 => ?_)
      · rw [if_pos c9] at h
        refine am_blk 33 [(.iload_n 2, 1, 2, 0, .null)] (34, [(0, .ref 29), (1, .int v1), (2, .int v2), (3, .int v3)], [.int v2], I, G, (gP rd)) (True) hX hi (by decide +kernel) rfl trivial ?_
        cases h
        refine am_iret hX hi rfl rfl (by decide +kernel) ?_
        exact ⟨rfl, rfl, rfl, rfl⟩
      · rw [if_neg c9] at h
        refine am_blk 12 [(.aload_n 0, 1, 0, 0, .null), (.getfield 33, 3, 5, 7, .null), (.iload_n 3, 1, 3, 0, .null)] (17, [(0, .ref 29), (1, .int v1), (2, .int v2), (3, .int v3)], [.int v3, .ref 37], I, G, (gP rd)) (True) hX hi (by decide +kernel) rfl trivial ?_
        refine am_callS hX hi (M := mX0_at) (idx := 74) (d' := 1) (As := [.ref 37, .int v3]) (rest := []) mkX0_at msX0_at (by decide +kernel) (by decide +kernel) rfl ⟨by omega, by decide, Nat.le_of_ble_eq_true rfl⟩ rfl (c_at rfl (by decide) v3) ?_
        rintro r9 I9 G9 P9 ⟨e0, e1, e2, e3⟩
        rw [e0, e1, e2, e3]
        show am_V X 0 0 _ _ ad (20, [(0, .ref 29), (1, .int v1), (2, .int v2), (3, .int v3)], [.int (gAt (I 37) 5 v3)], I, G, (gP rd))
        refine am_blk 20 [(.iload_n 1, 1, 1, 0, .null)] (21, [(0, .ref 29), (1, .int v1), (2, .int v2), (3, .int v3)], [.int v1, .int (gAt (I 37) 5 v3)], I, G, (gP rd)) (True) hX hi (by decide +kernel) rfl trivial ?_
        refine am_icmp_gt (tgt := 27) hX hi (off := (6)) (by decide +kernel) (by decide) (fun c21 => ?_) (fun c21 => ?_)
        · rw [if_pos c21] at h
          refine am_blk 27 [(.iinc 3 (1), 3, 3, 0, .int (1 : Int32)), (.goto (-26), 3, 0, 4, .null)] (4, [(0, .ref 29), (1, .int v1), (2, .int v2), (3, .int (v3 + (1 : Int32)))], [], I, G, (gP rd)) (True) hX hi (by decide +kernel) rfl trivial ?_
          exact ih _ _ _ _ _ _ h
        · rw [if_neg c21] at h
          refine am_blk 24 [(.iinc 2 (1), 3, 2, 0, .int (1 : Int32)), (.iinc 3 (1), 3, 3, 0, .int (1 : Int32)), (.goto (-26), 3, 0, 4, .null)] (4, [(0, .ref 29), (1, .int v1), (2, .int (v2 + (1 : Int32))), (3, .int (v3 + (1 : Int32)))], [], I, G, (gP rd)) (True) hX hi (by decide +kernel) rfl trivial ?_
          exact ih _ _ _ _ _ _ h
set_option maxRecDepth 20000 in
set_option maxHeartbeats 4000000 in
theorem c_X5_inkOf_29 (rd : Nat) (I : am_I) (G : am_G) (x1 : Int32) {out : Int32 × am_I × am_G} (h : R_X5_inkOf_29 I G x1 = some out) : am_Ct mX5_inkOf 2 gS [.ref 29, .int x1] I G (gP rd) (pI out.1 out.2.1 out.2.2 (gP rd)) := by
  refine am_ofF (by decide +kernel) rfl (by decide) (by omega) (Nat.le_of_ble_eq_true rfl) (fun X ad hX hi => ?_)
  have hi : am_info X 5 cX5_inkOf 4 false (Option.some Jvm.ClassFile.FieldType.int) 2 := hi
  show am_V X 0 0 _ _ ad (0, [(0, .ref 29), (1, .int x1)], [], I, G, (gP rd))
  unfold R_X5_inkOf_29 at h
  refine am_blk 0 [(.iconst (0), 1, 0, 0, .int (0 : Int32)), (.istore_n 2, 1, 2, 0, .null), (.iconst (0), 1, 0, 0, .int (0 : Int32)), (.istore_n 3, 1, 3, 0, .null)] (4, [(0, .ref 29), (1, .int x1), (2, .int (0 : Int32)), (3, .int (0 : Int32))], [], I, G, (gP rd)) (True) hX hi (by decide +kernel) rfl trivial ?_
  exact (l_X5_inkOf_29 rd hX hi FU) _ _ _ _ _ _ h
noncomputable def R_X6_readNewName_28_47 (I : am_I) (G : am_G)  : Option (Unit × am_I × am_G) := (if (I 28 6) = (39 : Int32) then rb (R_X2_find_47 I G (f_X9_contentAt_1 I G (I 28 5))) (fun r1 I1 G1 => (if r1 < 0 then (if (f_X2_isFull_47 I1 G1 ) = 0 then some ((), (g_X6_advance_28 (g_X2_add_47 I1 G1 (f_X9_contentAt_1 I G (I 28 5))) (h_X2_add_47 I1 G1 (f_X9_contentAt_1 I G (I 28 5))) ), (h_X2_add_47 I1 G1 (f_X9_contentAt_1 I G (I 28 5)))) else some ((), (g_X6_advance_28 (g_X2_add_47 (g_X6_fault_28 I1 G1 (4 : Int32)) G1 (f_X9_contentAt_1 I G (I 28 5))) (h_X2_add_47 (g_X6_fault_28 I1 G1 (4 : Int32)) G1 (f_X9_contentAt_1 I G (I 28 5))) ), (h_X2_add_47 (g_X6_fault_28 I1 G1 (4 : Int32)) G1 (f_X9_contentAt_1 I G (I 28 5))))) else some ((), (g_X6_advance_28 (g_X2_add_47 (g_X6_fault_28 I1 G1 (2 : Int32)) G1 (f_X9_contentAt_1 I G (I 28 5))) (h_X2_add_47 (g_X6_fault_28 I1 G1 (2 : Int32)) G1 (f_X9_contentAt_1 I G (I 28 5))) ), (h_X2_add_47 (g_X6_fault_28 I1 G1 (2 : Int32)) G1 (f_X9_contentAt_1 I G (I 28 5)))))) else some ((), (g_X6_refuse_28 I G ), G))
set_option maxRecDepth 20000 in
set_option maxHeartbeats 4000000 in
theorem c_X6_readNewName_28_47 (rd : Nat) (I : am_I) (G : am_G)  {out : Unit × am_I × am_G} (h : R_X6_readNewName_28_47 I G  = some out) : am_Ct mX6_readNewName 3 gS [.ref 28, .ref 47] I G (gP rd) (pV out.2.1 out.2.2 (gP rd)) := by
  refine am_ofF (by decide +kernel) rfl (by decide) (by omega) (Nat.le_of_ble_eq_true rfl) (fun X ad hX hi => ?_)
  have hi : am_info X 6 cX6_readNewName 4 false none 3 := hi
  show am_V X 0 0 _ _ ad (0, [(0, .ref 28), (1, .ref 47)], [], I, G, (gP rd))
  unfold R_X6_readNewName_28_47 at h
  refine am_blk 0 [(.aload_n 0, 1, 0, 0, .null), (.getfield 62, 3, 6, 6, .null), (.bipush (39), 2, 0, 0, .int (39 : Int32))] (6, [(0, .ref 28), (1, .ref 47)], [.int (39 : Int32), .int (I 28 6)], I, G, (gP rd)) (True) hX hi (by decide +kernel) rfl trivial ?_
  refine am_icmp_eq (tgt := 14) hX hi (off := (8)) (by decide +kernel) (by decide) (fun c6 => ?_) (fun c6 => ?_)
  · rw [if_pos c6] at h
    refine am_blk 14 [(.aload_n 0, 1, 0, 0, .null), (.getfield 33, 3, 6, 0, .null), (.aload_n 0, 1, 0, 0, .null), (.getfield 55, 3, 6, 5, .null)] (22, [(0, .ref 28), (1, .ref 47)], [.int (I 28 5), .ref 1], I, G, (gP rd)) (True) hX hi (by decide +kernel) rfl trivial ?_
    refine am_callV hX hi (M := mX9_contentAt) (idx := 176) (d' := 1) (b := 1) (ci := 9) (As := [.int (I 28 5)]) (rest := []) mkX9_contentAt miX9_contentAt mvX9_contentAt (by decide +kernel) (by decide +kernel) rfl (by decide +kernel) rfl ⟨by omega, by decide, Nat.le_of_ble_eq_true rfl⟩ rfl (c_X9_contentAt_1 _ I G (I 28 5)) ?_
    rintro r9 I9 G9 P9 ⟨e0, e1, e2, e3⟩
    rw [e0, e1, e2, e3]
    show am_V X 0 0 _ _ ad (25, [(0, .ref 28), (1, .ref 47)], [.long (f_X9_contentAt_1 I G (I 28 5))], I, G, (gP rd))
    refine am_blk 25 [(.lstore_n 2, 1, 2, 0, .null), (.aload_n 1, 1, 1, 0, .null), (.lload_n 2, 1, 2, 0, .null)] (28, [(0, .ref 28), (1, .ref 47), (2, .long (f_X9_contentAt_1 I G (I 28 5)))], [.long (f_X9_contentAt_1 I G (I 28 5)), .ref 47], I, G, (gP rd)) (True) hX hi (by decide +kernel) rfl trivial ?_
    obtain ⟨r1, I1, G1, hc, h⟩ := rb_some h
    refine am_callV hX hi (M := mX2_find) (idx := 187) (d' := 1) (b := 47) (ci := 2) (As := [.long (f_X9_contentAt_1 I G (I 28 5))]) (rest := []) mkX2_find miX2_find mvX2_find (by decide +kernel) (by decide +kernel) rfl (by decide +kernel) rfl ⟨by omega, by decide, Nat.le_of_ble_eq_true rfl⟩ rfl (c_X2_find_47 _ I G (f_X9_contentAt_1 I G (I 28 5)) hc) ?_
    rintro r9 I9 G9 P9 ⟨e0, e1, e2, e3⟩
    rw [e0, e1, e2, e3]
    show am_V X 0 0 _ _ ad (31, [(0, .ref 28), (1, .ref 47), (2, .long (f_X9_contentAt_1 I G (I 28 5)))], [.int r1], I1, G1, (gP rd))
    refine am_if_lt (tgt := 42) hX hi (off := (11)) (by decide +kernel) (by decide) (fun c31 => ?_) (fun c31 => ?_)
    · rw [if_pos c31] at h
      refine am_blk 42 [(.aload_n 1, 1, 1, 0, .null)] (43, [(0, .ref 28), (1, .ref 47), (2, .long (f_X9_contentAt_1 I G (I 28 5)))], [.ref 47], I1, G1, (gP rd)) (True) hX hi (by decide +kernel) rfl trivial ?_
      refine am_callV hX hi (M := mX2_isFull) (idx := 191) (d' := 1) (b := 47) (ci := 2) (As := []) (rest := []) mkX2_isFull miX2_isFull mvX2_isFull (by decide +kernel) (by decide +kernel) rfl (by decide +kernel) rfl ⟨by omega, by decide, Nat.le_of_ble_eq_true rfl⟩ rfl (c_X2_isFull_47 _ I1 G1 ) ?_
      rintro r9 I9 G9 P9 ⟨e0, e1, e2, e3⟩
      rw [e0, e1, e2, e3]
      show am_V X 0 0 _ _ ad (46, [(0, .ref 28), (1, .ref 47), (2, .long (f_X9_contentAt_1 I G (I 28 5)))], [.int (f_X2_isFull_47 I1 G1 )], I1, G1, (gP rd))
      refine am_if_eq (tgt := 54) hX hi (off := (8)) (by decide +kernel) (by decide) (fun c46 => ?_) (fun c46 => ?_)
      · rw [if_pos c46] at h
        refine am_blk 54 [(.aload_n 1, 1, 1, 0, .null), (.lload_n 2, 1, 2, 0, .null)] (56, [(0, .ref 28), (1, .ref 47), (2, .long (f_X9_contentAt_1 I G (I 28 5)))], [.long (f_X9_contentAt_1 I G (I 28 5)), .ref 47], I1, G1, (gP rd)) (True) hX hi (by decide +kernel) rfl trivial ?_
        refine am_callV hX hi (M := mX2_add) (idx := 195) (d' := 1) (b := 47) (ci := 2) (As := [.long (f_X9_contentAt_1 I G (I 28 5))]) (rest := []) mkX2_add miX2_add mvX2_add (by decide +kernel) (by decide +kernel) rfl (by decide +kernel) rfl ⟨by omega, by decide, Nat.le_of_ble_eq_true rfl⟩ rfl (c_X2_add_47 _ I1 G1 (f_X9_contentAt_1 I G (I 28 5))) ?_
        rintro r9 I9 G9 P9 ⟨e0, e1, e2, e3⟩
        rw [e0, e1, e2, e3]
        show am_V X 0 0 _ _ ad (59, [(0, .ref 28), (1, .ref 47), (2, .long (f_X9_contentAt_1 I G (I 28 5)))], [], (g_X2_add_47 I1 G1 (f_X9_contentAt_1 I G (I 28 5))), (h_X2_add_47 I1 G1 (f_X9_contentAt_1 I G (I 28 5))), (gP rd))
        refine am_blk 59 [(.aload_n 0, 1, 0, 0, .null)] (60, [(0, .ref 28), (1, .ref 47), (2, .long (f_X9_contentAt_1 I G (I 28 5)))], [.ref 28], (g_X2_add_47 I1 G1 (f_X9_contentAt_1 I G (I 28 5))), (h_X2_add_47 I1 G1 (f_X9_contentAt_1 I G (I 28 5))), (gP rd)) (True) hX hi (by decide +kernel) rfl trivial ?_
        refine am_callV hX hi (M := mX6_advance) (idx := 100) (d' := 2) (b := 28) (ci := 6) (As := []) (rest := []) mkX6_advance miX6_advance mvX6_advance (by decide +kernel) (by decide +kernel) rfl (by decide +kernel) rfl ⟨by omega, by decide, Nat.le_of_ble_eq_true rfl⟩ rfl (c_X6_advance_28 _ (g_X2_add_47 I1 G1 (f_X9_contentAt_1 I G (I 28 5))) (h_X2_add_47 I1 G1 (f_X9_contentAt_1 I G (I 28 5))) ) ?_
        rintro r9 I9 G9 P9 ⟨e0, e1, e2, e3⟩
        rw [e0, e1, e2, e3]
        show am_V X 0 0 _ _ ad (63, [(0, .ref 28), (1, .ref 47), (2, .long (f_X9_contentAt_1 I G (I 28 5)))], [], (g_X6_advance_28 (g_X2_add_47 I1 G1 (f_X9_contentAt_1 I G (I 28 5))) (h_X2_add_47 I1 G1 (f_X9_contentAt_1 I G (I 28 5))) ), (h_X2_add_47 I1 G1 (f_X9_contentAt_1 I G (I 28 5))), (gP rd))
        cases h
        refine am_vret hX hi rfl (by decide +kernel) ?_
        exact ⟨rfl, rfl, rfl, rfl⟩
      · rw [if_neg c46] at h
        refine am_blk 49 [(.aload_n 0, 1, 0, 0, .null), (.iconst (4), 1, 0, 0, .int (4 : Int32))] (51, [(0, .ref 28), (1, .ref 47), (2, .long (f_X9_contentAt_1 I G (I 28 5)))], [.int (4 : Int32), .ref 28], I1, G1, (gP rd)) (True) hX hi (by decide +kernel) rfl trivial ?_
        refine am_callV hX hi (M := mX6_fault) (idx := 147) (d' := 2) (b := 28) (ci := 6) (As := [.int (4 : Int32)]) (rest := []) mkX6_fault miX6_fault mvX6_fault (by decide +kernel) (by decide +kernel) rfl (by decide +kernel) rfl ⟨by omega, by decide, Nat.le_of_ble_eq_true rfl⟩ rfl (c_X6_fault_28 _ I1 G1 (4 : Int32)) ?_
        rintro r9 I9 G9 P9 ⟨e0, e1, e2, e3⟩
        rw [e0, e1, e2, e3]
        show am_V X 0 0 _ _ ad (54, [(0, .ref 28), (1, .ref 47), (2, .long (f_X9_contentAt_1 I G (I 28 5)))], [], (g_X6_fault_28 I1 G1 (4 : Int32)), G1, (gP rd))
        refine am_blk 54 [(.aload_n 1, 1, 1, 0, .null), (.lload_n 2, 1, 2, 0, .null)] (56, [(0, .ref 28), (1, .ref 47), (2, .long (f_X9_contentAt_1 I G (I 28 5)))], [.long (f_X9_contentAt_1 I G (I 28 5)), .ref 47], (g_X6_fault_28 I1 G1 (4 : Int32)), G1, (gP rd)) (True) hX hi (by decide +kernel) rfl trivial ?_
        refine am_callV hX hi (M := mX2_add) (idx := 195) (d' := 1) (b := 47) (ci := 2) (As := [.long (f_X9_contentAt_1 I G (I 28 5))]) (rest := []) mkX2_add miX2_add mvX2_add (by decide +kernel) (by decide +kernel) rfl (by decide +kernel) rfl ⟨by omega, by decide, Nat.le_of_ble_eq_true rfl⟩ rfl (c_X2_add_47 _ (g_X6_fault_28 I1 G1 (4 : Int32)) G1 (f_X9_contentAt_1 I G (I 28 5))) ?_
        rintro r9 I9 G9 P9 ⟨e0, e1, e2, e3⟩
        rw [e0, e1, e2, e3]
        show am_V X 0 0 _ _ ad (59, [(0, .ref 28), (1, .ref 47), (2, .long (f_X9_contentAt_1 I G (I 28 5)))], [], (g_X2_add_47 (g_X6_fault_28 I1 G1 (4 : Int32)) G1 (f_X9_contentAt_1 I G (I 28 5))), (h_X2_add_47 (g_X6_fault_28 I1 G1 (4 : Int32)) G1 (f_X9_contentAt_1 I G (I 28 5))), (gP rd))
        refine am_blk 59 [(.aload_n 0, 1, 0, 0, .null)] (60, [(0, .ref 28), (1, .ref 47), (2, .long (f_X9_contentAt_1 I G (I 28 5)))], [.ref 28], (g_X2_add_47 (g_X6_fault_28 I1 G1 (4 : Int32)) G1 (f_X9_contentAt_1 I G (I 28 5))), (h_X2_add_47 (g_X6_fault_28 I1 G1 (4 : Int32)) G1 (f_X9_contentAt_1 I G (I 28 5))), (gP rd)) (True) hX hi (by decide +kernel) rfl trivial ?_
        refine am_callV hX hi (M := mX6_advance) (idx := 100) (d' := 2) (b := 28) (ci := 6) (As := []) (rest := []) mkX6_advance miX6_advance mvX6_advance (by decide +kernel) (by decide +kernel) rfl (by decide +kernel) rfl ⟨by omega, by decide, Nat.le_of_ble_eq_true rfl⟩ rfl (c_X6_advance_28 _ (g_X2_add_47 (g_X6_fault_28 I1 G1 (4 : Int32)) G1 (f_X9_contentAt_1 I G (I 28 5))) (h_X2_add_47 (g_X6_fault_28 I1 G1 (4 : Int32)) G1 (f_X9_contentAt_1 I G (I 28 5))) ) ?_
        rintro r9 I9 G9 P9 ⟨e0, e1, e2, e3⟩
        rw [e0, e1, e2, e3]
        show am_V X 0 0 _ _ ad (63, [(0, .ref 28), (1, .ref 47), (2, .long (f_X9_contentAt_1 I G (I 28 5)))], [], (g_X6_advance_28 (g_X2_add_47 (g_X6_fault_28 I1 G1 (4 : Int32)) G1 (f_X9_contentAt_1 I G (I 28 5))) (h_X2_add_47 (g_X6_fault_28 I1 G1 (4 : Int32)) G1 (f_X9_contentAt_1 I G (I 28 5))) ), (h_X2_add_47 (g_X6_fault_28 I1 G1 (4 : Int32)) G1 (f_X9_contentAt_1 I G (I 28 5))), (gP rd))
        cases h
        refine am_vret hX hi rfl (by decide +kernel) ?_
        exact ⟨rfl, rfl, rfl, rfl⟩
    · rw [if_neg c31] at h
      refine am_blk 34 [(.aload_n 0, 1, 0, 0, .null), (.iconst (2), 1, 0, 0, .int (2 : Int32))] (36, [(0, .ref 28), (1, .ref 47), (2, .long (f_X9_contentAt_1 I G (I 28 5)))], [.int (2 : Int32), .ref 28], I1, G1, (gP rd)) (True) hX hi (by decide +kernel) rfl trivial ?_
      refine am_callV hX hi (M := mX6_fault) (idx := 147) (d' := 2) (b := 28) (ci := 6) (As := [.int (2 : Int32)]) (rest := []) mkX6_fault miX6_fault mvX6_fault (by decide +kernel) (by decide +kernel) rfl (by decide +kernel) rfl ⟨by omega, by decide, Nat.le_of_ble_eq_true rfl⟩ rfl (c_X6_fault_28 _ I1 G1 (2 : Int32)) ?_
      rintro r9 I9 G9 P9 ⟨e0, e1, e2, e3⟩
      rw [e0, e1, e2, e3]
      show am_V X 0 0 _ _ ad (39, [(0, .ref 28), (1, .ref 47), (2, .long (f_X9_contentAt_1 I G (I 28 5)))], [], (g_X6_fault_28 I1 G1 (2 : Int32)), G1, (gP rd))
      refine am_blk 39 [(.goto (15), 3, 0, 54, .null), (.aload_n 1, 1, 1, 0, .null), (.lload_n 2, 1, 2, 0, .null)] (56, [(0, .ref 28), (1, .ref 47), (2, .long (f_X9_contentAt_1 I G (I 28 5)))], [.long (f_X9_contentAt_1 I G (I 28 5)), .ref 47], (g_X6_fault_28 I1 G1 (2 : Int32)), G1, (gP rd)) (True) hX hi (by decide +kernel) rfl trivial ?_
      refine am_callV hX hi (M := mX2_add) (idx := 195) (d' := 1) (b := 47) (ci := 2) (As := [.long (f_X9_contentAt_1 I G (I 28 5))]) (rest := []) mkX2_add miX2_add mvX2_add (by decide +kernel) (by decide +kernel) rfl (by decide +kernel) rfl ⟨by omega, by decide, Nat.le_of_ble_eq_true rfl⟩ rfl (c_X2_add_47 _ (g_X6_fault_28 I1 G1 (2 : Int32)) G1 (f_X9_contentAt_1 I G (I 28 5))) ?_
      rintro r9 I9 G9 P9 ⟨e0, e1, e2, e3⟩
      rw [e0, e1, e2, e3]
      show am_V X 0 0 _ _ ad (59, [(0, .ref 28), (1, .ref 47), (2, .long (f_X9_contentAt_1 I G (I 28 5)))], [], (g_X2_add_47 (g_X6_fault_28 I1 G1 (2 : Int32)) G1 (f_X9_contentAt_1 I G (I 28 5))), (h_X2_add_47 (g_X6_fault_28 I1 G1 (2 : Int32)) G1 (f_X9_contentAt_1 I G (I 28 5))), (gP rd))
      refine am_blk 59 [(.aload_n 0, 1, 0, 0, .null)] (60, [(0, .ref 28), (1, .ref 47), (2, .long (f_X9_contentAt_1 I G (I 28 5)))], [.ref 28], (g_X2_add_47 (g_X6_fault_28 I1 G1 (2 : Int32)) G1 (f_X9_contentAt_1 I G (I 28 5))), (h_X2_add_47 (g_X6_fault_28 I1 G1 (2 : Int32)) G1 (f_X9_contentAt_1 I G (I 28 5))), (gP rd)) (True) hX hi (by decide +kernel) rfl trivial ?_
      refine am_callV hX hi (M := mX6_advance) (idx := 100) (d' := 2) (b := 28) (ci := 6) (As := []) (rest := []) mkX6_advance miX6_advance mvX6_advance (by decide +kernel) (by decide +kernel) rfl (by decide +kernel) rfl ⟨by omega, by decide, Nat.le_of_ble_eq_true rfl⟩ rfl (c_X6_advance_28 _ (g_X2_add_47 (g_X6_fault_28 I1 G1 (2 : Int32)) G1 (f_X9_contentAt_1 I G (I 28 5))) (h_X2_add_47 (g_X6_fault_28 I1 G1 (2 : Int32)) G1 (f_X9_contentAt_1 I G (I 28 5))) ) ?_
      rintro r9 I9 G9 P9 ⟨e0, e1, e2, e3⟩
      rw [e0, e1, e2, e3]
      show am_V X 0 0 _ _ ad (63, [(0, .ref 28), (1, .ref 47), (2, .long (f_X9_contentAt_1 I G (I 28 5)))], [], (g_X6_advance_28 (g_X2_add_47 (g_X6_fault_28 I1 G1 (2 : Int32)) G1 (f_X9_contentAt_1 I G (I 28 5))) (h_X2_add_47 (g_X6_fault_28 I1 G1 (2 : Int32)) G1 (f_X9_contentAt_1 I G (I 28 5))) ), (h_X2_add_47 (g_X6_fault_28 I1 G1 (2 : Int32)) G1 (f_X9_contentAt_1 I G (I 28 5))), (gP rd))
      cases h
      refine am_vret hX hi rfl (by decide +kernel) ?_
      exact ⟨rfl, rfl, rfl, rfl⟩
  · rw [if_neg c6] at h
    refine am_blk 9 [(.aload_n 0, 1, 0, 0, .null)] (10, [(0, .ref 28), (1, .ref 47)], [.ref 28], I, G, (gP rd)) (True) hX hi (by decide +kernel) rfl trivial ?_
    refine am_callV hX hi (M := mX6_refuse) (idx := 70) (d' := 2) (b := 28) (ci := 6) (As := []) (rest := []) mkX6_refuse miX6_refuse mvX6_refuse (by decide +kernel) (by decide +kernel) rfl (by decide +kernel) rfl ⟨by omega, by decide, Nat.le_of_ble_eq_true rfl⟩ rfl (c_X6_refuse_28 _ I G ) ?_
    rintro r9 I9 G9 P9 ⟨e0, e1, e2, e3⟩
    rw [e0, e1, e2, e3]
    show am_V X 0 0 _ _ ad (13, [(0, .ref 28), (1, .ref 47)], [], (g_X6_refuse_28 I G ), G, (gP rd))
    cases h
    refine am_vret hX hi rfl (by decide +kernel) ?_
    exact ⟨rfl, rfl, rfl, rfl⟩
noncomputable def R_X6_readNewName_28_49 (I : am_I) (G : am_G)  : Option (Unit × am_I × am_G) := (if (I 28 6) = (39 : Int32) then rb (R_X2_find_49 I G (f_X9_contentAt_1 I G (I 28 5))) (fun r1 I1 G1 => (if r1 < 0 then (if (f_X2_isFull_49 I1 G1 ) = 0 then some ((), (g_X6_advance_28 (g_X2_add_49 I1 G1 (f_X9_contentAt_1 I G (I 28 5))) (h_X2_add_49 I1 G1 (f_X9_contentAt_1 I G (I 28 5))) ), (h_X2_add_49 I1 G1 (f_X9_contentAt_1 I G (I 28 5)))) else some ((), (g_X6_advance_28 (g_X2_add_49 (g_X6_fault_28 I1 G1 (4 : Int32)) G1 (f_X9_contentAt_1 I G (I 28 5))) (h_X2_add_49 (g_X6_fault_28 I1 G1 (4 : Int32)) G1 (f_X9_contentAt_1 I G (I 28 5))) ), (h_X2_add_49 (g_X6_fault_28 I1 G1 (4 : Int32)) G1 (f_X9_contentAt_1 I G (I 28 5))))) else some ((), (g_X6_advance_28 (g_X2_add_49 (g_X6_fault_28 I1 G1 (2 : Int32)) G1 (f_X9_contentAt_1 I G (I 28 5))) (h_X2_add_49 (g_X6_fault_28 I1 G1 (2 : Int32)) G1 (f_X9_contentAt_1 I G (I 28 5))) ), (h_X2_add_49 (g_X6_fault_28 I1 G1 (2 : Int32)) G1 (f_X9_contentAt_1 I G (I 28 5)))))) else some ((), (g_X6_refuse_28 I G ), G))
set_option maxRecDepth 20000 in
set_option maxHeartbeats 4000000 in
theorem c_X6_readNewName_28_49 (rd : Nat) (I : am_I) (G : am_G)  {out : Unit × am_I × am_G} (h : R_X6_readNewName_28_49 I G  = some out) : am_Ct mX6_readNewName 3 gS [.ref 28, .ref 49] I G (gP rd) (pV out.2.1 out.2.2 (gP rd)) := by
  refine am_ofF (by decide +kernel) rfl (by decide) (by omega) (Nat.le_of_ble_eq_true rfl) (fun X ad hX hi => ?_)
  have hi : am_info X 6 cX6_readNewName 4 false none 3 := hi
  show am_V X 0 0 _ _ ad (0, [(0, .ref 28), (1, .ref 49)], [], I, G, (gP rd))
  unfold R_X6_readNewName_28_49 at h
  refine am_blk 0 [(.aload_n 0, 1, 0, 0, .null), (.getfield 62, 3, 6, 6, .null), (.bipush (39), 2, 0, 0, .int (39 : Int32))] (6, [(0, .ref 28), (1, .ref 49)], [.int (39 : Int32), .int (I 28 6)], I, G, (gP rd)) (True) hX hi (by decide +kernel) rfl trivial ?_
  refine am_icmp_eq (tgt := 14) hX hi (off := (8)) (by decide +kernel) (by decide) (fun c6 => ?_) (fun c6 => ?_)
  · rw [if_pos c6] at h
    refine am_blk 14 [(.aload_n 0, 1, 0, 0, .null), (.getfield 33, 3, 6, 0, .null), (.aload_n 0, 1, 0, 0, .null), (.getfield 55, 3, 6, 5, .null)] (22, [(0, .ref 28), (1, .ref 49)], [.int (I 28 5), .ref 1], I, G, (gP rd)) (True) hX hi (by decide +kernel) rfl trivial ?_
    refine am_callV hX hi (M := mX9_contentAt) (idx := 176) (d' := 1) (b := 1) (ci := 9) (As := [.int (I 28 5)]) (rest := []) mkX9_contentAt miX9_contentAt mvX9_contentAt (by decide +kernel) (by decide +kernel) rfl (by decide +kernel) rfl ⟨by omega, by decide, Nat.le_of_ble_eq_true rfl⟩ rfl (c_X9_contentAt_1 _ I G (I 28 5)) ?_
    rintro r9 I9 G9 P9 ⟨e0, e1, e2, e3⟩
    rw [e0, e1, e2, e3]
    show am_V X 0 0 _ _ ad (25, [(0, .ref 28), (1, .ref 49)], [.long (f_X9_contentAt_1 I G (I 28 5))], I, G, (gP rd))
    refine am_blk 25 [(.lstore_n 2, 1, 2, 0, .null), (.aload_n 1, 1, 1, 0, .null), (.lload_n 2, 1, 2, 0, .null)] (28, [(0, .ref 28), (1, .ref 49), (2, .long (f_X9_contentAt_1 I G (I 28 5)))], [.long (f_X9_contentAt_1 I G (I 28 5)), .ref 49], I, G, (gP rd)) (True) hX hi (by decide +kernel) rfl trivial ?_
    obtain ⟨r1, I1, G1, hc, h⟩ := rb_some h
    refine am_callV hX hi (M := mX2_find) (idx := 187) (d' := 1) (b := 49) (ci := 2) (As := [.long (f_X9_contentAt_1 I G (I 28 5))]) (rest := []) mkX2_find miX2_find mvX2_find (by decide +kernel) (by decide +kernel) rfl (by decide +kernel) rfl ⟨by omega, by decide, Nat.le_of_ble_eq_true rfl⟩ rfl (c_X2_find_49 _ I G (f_X9_contentAt_1 I G (I 28 5)) hc) ?_
    rintro r9 I9 G9 P9 ⟨e0, e1, e2, e3⟩
    rw [e0, e1, e2, e3]
    show am_V X 0 0 _ _ ad (31, [(0, .ref 28), (1, .ref 49), (2, .long (f_X9_contentAt_1 I G (I 28 5)))], [.int r1], I1, G1, (gP rd))
    refine am_if_lt (tgt := 42) hX hi (off := (11)) (by decide +kernel) (by decide) (fun c31 => ?_) (fun c31 => ?_)
    · rw [if_pos c31] at h
      refine am_blk 42 [(.aload_n 1, 1, 1, 0, .null)] (43, [(0, .ref 28), (1, .ref 49), (2, .long (f_X9_contentAt_1 I G (I 28 5)))], [.ref 49], I1, G1, (gP rd)) (True) hX hi (by decide +kernel) rfl trivial ?_
      refine am_callV hX hi (M := mX2_isFull) (idx := 191) (d' := 1) (b := 49) (ci := 2) (As := []) (rest := []) mkX2_isFull miX2_isFull mvX2_isFull (by decide +kernel) (by decide +kernel) rfl (by decide +kernel) rfl ⟨by omega, by decide, Nat.le_of_ble_eq_true rfl⟩ rfl (c_X2_isFull_49 _ I1 G1 ) ?_
      rintro r9 I9 G9 P9 ⟨e0, e1, e2, e3⟩
      rw [e0, e1, e2, e3]
      show am_V X 0 0 _ _ ad (46, [(0, .ref 28), (1, .ref 49), (2, .long (f_X9_contentAt_1 I G (I 28 5)))], [.int (f_X2_isFull_49 I1 G1 )], I1, G1, (gP rd))
      refine am_if_eq (tgt := 54) hX hi (off := (8)) (by decide +kernel) (by decide) (fun c46 => ?_) (fun c46 => ?_)
      · rw [if_pos c46] at h
        refine am_blk 54 [(.aload_n 1, 1, 1, 0, .null), (.lload_n 2, 1, 2, 0, .null)] (56, [(0, .ref 28), (1, .ref 49), (2, .long (f_X9_contentAt_1 I G (I 28 5)))], [.long (f_X9_contentAt_1 I G (I 28 5)), .ref 49], I1, G1, (gP rd)) (True) hX hi (by decide +kernel) rfl trivial ?_
        refine am_callV hX hi (M := mX2_add) (idx := 195) (d' := 1) (b := 49) (ci := 2) (As := [.long (f_X9_contentAt_1 I G (I 28 5))]) (rest := []) mkX2_add miX2_add mvX2_add (by decide +kernel) (by decide +kernel) rfl (by decide +kernel) rfl ⟨by omega, by decide, Nat.le_of_ble_eq_true rfl⟩ rfl (c_X2_add_49 _ I1 G1 (f_X9_contentAt_1 I G (I 28 5))) ?_
        rintro r9 I9 G9 P9 ⟨e0, e1, e2, e3⟩
        rw [e0, e1, e2, e3]
        show am_V X 0 0 _ _ ad (59, [(0, .ref 28), (1, .ref 49), (2, .long (f_X9_contentAt_1 I G (I 28 5)))], [], (g_X2_add_49 I1 G1 (f_X9_contentAt_1 I G (I 28 5))), (h_X2_add_49 I1 G1 (f_X9_contentAt_1 I G (I 28 5))), (gP rd))
        refine am_blk 59 [(.aload_n 0, 1, 0, 0, .null)] (60, [(0, .ref 28), (1, .ref 49), (2, .long (f_X9_contentAt_1 I G (I 28 5)))], [.ref 28], (g_X2_add_49 I1 G1 (f_X9_contentAt_1 I G (I 28 5))), (h_X2_add_49 I1 G1 (f_X9_contentAt_1 I G (I 28 5))), (gP rd)) (True) hX hi (by decide +kernel) rfl trivial ?_
        refine am_callV hX hi (M := mX6_advance) (idx := 100) (d' := 2) (b := 28) (ci := 6) (As := []) (rest := []) mkX6_advance miX6_advance mvX6_advance (by decide +kernel) (by decide +kernel) rfl (by decide +kernel) rfl ⟨by omega, by decide, Nat.le_of_ble_eq_true rfl⟩ rfl (c_X6_advance_28 _ (g_X2_add_49 I1 G1 (f_X9_contentAt_1 I G (I 28 5))) (h_X2_add_49 I1 G1 (f_X9_contentAt_1 I G (I 28 5))) ) ?_
        rintro r9 I9 G9 P9 ⟨e0, e1, e2, e3⟩
        rw [e0, e1, e2, e3]
        show am_V X 0 0 _ _ ad (63, [(0, .ref 28), (1, .ref 49), (2, .long (f_X9_contentAt_1 I G (I 28 5)))], [], (g_X6_advance_28 (g_X2_add_49 I1 G1 (f_X9_contentAt_1 I G (I 28 5))) (h_X2_add_49 I1 G1 (f_X9_contentAt_1 I G (I 28 5))) ), (h_X2_add_49 I1 G1 (f_X9_contentAt_1 I G (I 28 5))), (gP rd))
        cases h
        refine am_vret hX hi rfl (by decide +kernel) ?_
        exact ⟨rfl, rfl, rfl, rfl⟩
      · rw [if_neg c46] at h
        refine am_blk 49 [(.aload_n 0, 1, 0, 0, .null), (.iconst (4), 1, 0, 0, .int (4 : Int32))] (51, [(0, .ref 28), (1, .ref 49), (2, .long (f_X9_contentAt_1 I G (I 28 5)))], [.int (4 : Int32), .ref 28], I1, G1, (gP rd)) (True) hX hi (by decide +kernel) rfl trivial ?_
        refine am_callV hX hi (M := mX6_fault) (idx := 147) (d' := 2) (b := 28) (ci := 6) (As := [.int (4 : Int32)]) (rest := []) mkX6_fault miX6_fault mvX6_fault (by decide +kernel) (by decide +kernel) rfl (by decide +kernel) rfl ⟨by omega, by decide, Nat.le_of_ble_eq_true rfl⟩ rfl (c_X6_fault_28 _ I1 G1 (4 : Int32)) ?_
        rintro r9 I9 G9 P9 ⟨e0, e1, e2, e3⟩
        rw [e0, e1, e2, e3]
        show am_V X 0 0 _ _ ad (54, [(0, .ref 28), (1, .ref 49), (2, .long (f_X9_contentAt_1 I G (I 28 5)))], [], (g_X6_fault_28 I1 G1 (4 : Int32)), G1, (gP rd))
        refine am_blk 54 [(.aload_n 1, 1, 1, 0, .null), (.lload_n 2, 1, 2, 0, .null)] (56, [(0, .ref 28), (1, .ref 49), (2, .long (f_X9_contentAt_1 I G (I 28 5)))], [.long (f_X9_contentAt_1 I G (I 28 5)), .ref 49], (g_X6_fault_28 I1 G1 (4 : Int32)), G1, (gP rd)) (True) hX hi (by decide +kernel) rfl trivial ?_
        refine am_callV hX hi (M := mX2_add) (idx := 195) (d' := 1) (b := 49) (ci := 2) (As := [.long (f_X9_contentAt_1 I G (I 28 5))]) (rest := []) mkX2_add miX2_add mvX2_add (by decide +kernel) (by decide +kernel) rfl (by decide +kernel) rfl ⟨by omega, by decide, Nat.le_of_ble_eq_true rfl⟩ rfl (c_X2_add_49 _ (g_X6_fault_28 I1 G1 (4 : Int32)) G1 (f_X9_contentAt_1 I G (I 28 5))) ?_
        rintro r9 I9 G9 P9 ⟨e0, e1, e2, e3⟩
        rw [e0, e1, e2, e3]
        show am_V X 0 0 _ _ ad (59, [(0, .ref 28), (1, .ref 49), (2, .long (f_X9_contentAt_1 I G (I 28 5)))], [], (g_X2_add_49 (g_X6_fault_28 I1 G1 (4 : Int32)) G1 (f_X9_contentAt_1 I G (I 28 5))), (h_X2_add_49 (g_X6_fault_28 I1 G1 (4 : Int32)) G1 (f_X9_contentAt_1 I G (I 28 5))), (gP rd))
        refine am_blk 59 [(.aload_n 0, 1, 0, 0, .null)] (60, [(0, .ref 28), (1, .ref 49), (2, .long (f_X9_contentAt_1 I G (I 28 5)))], [.ref 28], (g_X2_add_49 (g_X6_fault_28 I1 G1 (4 : Int32)) G1 (f_X9_contentAt_1 I G (I 28 5))), (h_X2_add_49 (g_X6_fault_28 I1 G1 (4 : Int32)) G1 (f_X9_contentAt_1 I G (I 28 5))), (gP rd)) (True) hX hi (by decide +kernel) rfl trivial ?_
        refine am_callV hX hi (M := mX6_advance) (idx := 100) (d' := 2) (b := 28) (ci := 6) (As := []) (rest := []) mkX6_advance miX6_advance mvX6_advance (by decide +kernel) (by decide +kernel) rfl (by decide +kernel) rfl ⟨by omega, by decide, Nat.le_of_ble_eq_true rfl⟩ rfl (c_X6_advance_28 _ (g_X2_add_49 (g_X6_fault_28 I1 G1 (4 : Int32)) G1 (f_X9_contentAt_1 I G (I 28 5))) (h_X2_add_49 (g_X6_fault_28 I1 G1 (4 : Int32)) G1 (f_X9_contentAt_1 I G (I 28 5))) ) ?_
        rintro r9 I9 G9 P9 ⟨e0, e1, e2, e3⟩
        rw [e0, e1, e2, e3]
        show am_V X 0 0 _ _ ad (63, [(0, .ref 28), (1, .ref 49), (2, .long (f_X9_contentAt_1 I G (I 28 5)))], [], (g_X6_advance_28 (g_X2_add_49 (g_X6_fault_28 I1 G1 (4 : Int32)) G1 (f_X9_contentAt_1 I G (I 28 5))) (h_X2_add_49 (g_X6_fault_28 I1 G1 (4 : Int32)) G1 (f_X9_contentAt_1 I G (I 28 5))) ), (h_X2_add_49 (g_X6_fault_28 I1 G1 (4 : Int32)) G1 (f_X9_contentAt_1 I G (I 28 5))), (gP rd))
        cases h
        refine am_vret hX hi rfl (by decide +kernel) ?_
        exact ⟨rfl, rfl, rfl, rfl⟩
    · rw [if_neg c31] at h
      refine am_blk 34 [(.aload_n 0, 1, 0, 0, .null), (.iconst (2), 1, 0, 0, .int (2 : Int32))] (36, [(0, .ref 28), (1, .ref 49), (2, .long (f_X9_contentAt_1 I G (I 28 5)))], [.int (2 : Int32), .ref 28], I1, G1, (gP rd)) (True) hX hi (by decide +kernel) rfl trivial ?_
      refine am_callV hX hi (M := mX6_fault) (idx := 147) (d' := 2) (b := 28) (ci := 6) (As := [.int (2 : Int32)]) (rest := []) mkX6_fault miX6_fault mvX6_fault (by decide +kernel) (by decide +kernel) rfl (by decide +kernel) rfl ⟨by omega, by decide, Nat.le_of_ble_eq_true rfl⟩ rfl (c_X6_fault_28 _ I1 G1 (2 : Int32)) ?_
      rintro r9 I9 G9 P9 ⟨e0, e1, e2, e3⟩
      rw [e0, e1, e2, e3]
      show am_V X 0 0 _ _ ad (39, [(0, .ref 28), (1, .ref 49), (2, .long (f_X9_contentAt_1 I G (I 28 5)))], [], (g_X6_fault_28 I1 G1 (2 : Int32)), G1, (gP rd))
      refine am_blk 39 [(.goto (15), 3, 0, 54, .null), (.aload_n 1, 1, 1, 0, .null), (.lload_n 2, 1, 2, 0, .null)] (56, [(0, .ref 28), (1, .ref 49), (2, .long (f_X9_contentAt_1 I G (I 28 5)))], [.long (f_X9_contentAt_1 I G (I 28 5)), .ref 49], (g_X6_fault_28 I1 G1 (2 : Int32)), G1, (gP rd)) (True) hX hi (by decide +kernel) rfl trivial ?_
      refine am_callV hX hi (M := mX2_add) (idx := 195) (d' := 1) (b := 49) (ci := 2) (As := [.long (f_X9_contentAt_1 I G (I 28 5))]) (rest := []) mkX2_add miX2_add mvX2_add (by decide +kernel) (by decide +kernel) rfl (by decide +kernel) rfl ⟨by omega, by decide, Nat.le_of_ble_eq_true rfl⟩ rfl (c_X2_add_49 _ (g_X6_fault_28 I1 G1 (2 : Int32)) G1 (f_X9_contentAt_1 I G (I 28 5))) ?_
      rintro r9 I9 G9 P9 ⟨e0, e1, e2, e3⟩
      rw [e0, e1, e2, e3]
      show am_V X 0 0 _ _ ad (59, [(0, .ref 28), (1, .ref 49), (2, .long (f_X9_contentAt_1 I G (I 28 5)))], [], (g_X2_add_49 (g_X6_fault_28 I1 G1 (2 : Int32)) G1 (f_X9_contentAt_1 I G (I 28 5))), (h_X2_add_49 (g_X6_fault_28 I1 G1 (2 : Int32)) G1 (f_X9_contentAt_1 I G (I 28 5))), (gP rd))
      refine am_blk 59 [(.aload_n 0, 1, 0, 0, .null)] (60, [(0, .ref 28), (1, .ref 49), (2, .long (f_X9_contentAt_1 I G (I 28 5)))], [.ref 28], (g_X2_add_49 (g_X6_fault_28 I1 G1 (2 : Int32)) G1 (f_X9_contentAt_1 I G (I 28 5))), (h_X2_add_49 (g_X6_fault_28 I1 G1 (2 : Int32)) G1 (f_X9_contentAt_1 I G (I 28 5))), (gP rd)) (True) hX hi (by decide +kernel) rfl trivial ?_
      refine am_callV hX hi (M := mX6_advance) (idx := 100) (d' := 2) (b := 28) (ci := 6) (As := []) (rest := []) mkX6_advance miX6_advance mvX6_advance (by decide +kernel) (by decide +kernel) rfl (by decide +kernel) rfl ⟨by omega, by decide, Nat.le_of_ble_eq_true rfl⟩ rfl (c_X6_advance_28 _ (g_X2_add_49 (g_X6_fault_28 I1 G1 (2 : Int32)) G1 (f_X9_contentAt_1 I G (I 28 5))) (h_X2_add_49 (g_X6_fault_28 I1 G1 (2 : Int32)) G1 (f_X9_contentAt_1 I G (I 28 5))) ) ?_
      rintro r9 I9 G9 P9 ⟨e0, e1, e2, e3⟩
      rw [e0, e1, e2, e3]
      show am_V X 0 0 _ _ ad (63, [(0, .ref 28), (1, .ref 49), (2, .long (f_X9_contentAt_1 I G (I 28 5)))], [], (g_X6_advance_28 (g_X2_add_49 (g_X6_fault_28 I1 G1 (2 : Int32)) G1 (f_X9_contentAt_1 I G (I 28 5))) (h_X2_add_49 (g_X6_fault_28 I1 G1 (2 : Int32)) G1 (f_X9_contentAt_1 I G (I 28 5))) ), (h_X2_add_49 (g_X6_fault_28 I1 G1 (2 : Int32)) G1 (f_X9_contentAt_1 I G (I 28 5))), (gP rd))
      cases h
      refine am_vret hX hi rfl (by decide +kernel) ?_
      exact ⟨rfl, rfl, rfl, rfl⟩
  · rw [if_neg c6] at h
    refine am_blk 9 [(.aload_n 0, 1, 0, 0, .null)] (10, [(0, .ref 28), (1, .ref 49)], [.ref 28], I, G, (gP rd)) (True) hX hi (by decide +kernel) rfl trivial ?_
    refine am_callV hX hi (M := mX6_refuse) (idx := 70) (d' := 2) (b := 28) (ci := 6) (As := []) (rest := []) mkX6_refuse miX6_refuse mvX6_refuse (by decide +kernel) (by decide +kernel) rfl (by decide +kernel) rfl ⟨by omega, by decide, Nat.le_of_ble_eq_true rfl⟩ rfl (c_X6_refuse_28 _ I G ) ?_
    rintro r9 I9 G9 P9 ⟨e0, e1, e2, e3⟩
    rw [e0, e1, e2, e3]
    show am_V X 0 0 _ _ ad (13, [(0, .ref 28), (1, .ref 49)], [], (g_X6_refuse_28 I G ), G, (gP rd))
    cases h
    refine am_vret hX hi rfl (by decide +kernel) ?_
    exact ⟨rfl, rfl, rfl, rfl⟩
noncomputable def R_X6_readNewName_28_51 (I : am_I) (G : am_G)  : Option (Unit × am_I × am_G) := (if (I 28 6) = (39 : Int32) then rb (R_X2_find_51 I G (f_X9_contentAt_1 I G (I 28 5))) (fun r1 I1 G1 => (if r1 < 0 then (if (f_X2_isFull_51 I1 G1 ) = 0 then some ((), (g_X6_advance_28 (g_X2_add_51 I1 G1 (f_X9_contentAt_1 I G (I 28 5))) (h_X2_add_51 I1 G1 (f_X9_contentAt_1 I G (I 28 5))) ), (h_X2_add_51 I1 G1 (f_X9_contentAt_1 I G (I 28 5)))) else some ((), (g_X6_advance_28 (g_X2_add_51 (g_X6_fault_28 I1 G1 (4 : Int32)) G1 (f_X9_contentAt_1 I G (I 28 5))) (h_X2_add_51 (g_X6_fault_28 I1 G1 (4 : Int32)) G1 (f_X9_contentAt_1 I G (I 28 5))) ), (h_X2_add_51 (g_X6_fault_28 I1 G1 (4 : Int32)) G1 (f_X9_contentAt_1 I G (I 28 5))))) else some ((), (g_X6_advance_28 (g_X2_add_51 (g_X6_fault_28 I1 G1 (2 : Int32)) G1 (f_X9_contentAt_1 I G (I 28 5))) (h_X2_add_51 (g_X6_fault_28 I1 G1 (2 : Int32)) G1 (f_X9_contentAt_1 I G (I 28 5))) ), (h_X2_add_51 (g_X6_fault_28 I1 G1 (2 : Int32)) G1 (f_X9_contentAt_1 I G (I 28 5)))))) else some ((), (g_X6_refuse_28 I G ), G))
set_option maxRecDepth 20000 in
set_option maxHeartbeats 4000000 in
theorem c_X6_readNewName_28_51 (rd : Nat) (I : am_I) (G : am_G)  {out : Unit × am_I × am_G} (h : R_X6_readNewName_28_51 I G  = some out) : am_Ct mX6_readNewName 3 gS [.ref 28, .ref 51] I G (gP rd) (pV out.2.1 out.2.2 (gP rd)) := by
  refine am_ofF (by decide +kernel) rfl (by decide) (by omega) (Nat.le_of_ble_eq_true rfl) (fun X ad hX hi => ?_)
  have hi : am_info X 6 cX6_readNewName 4 false none 3 := hi
  show am_V X 0 0 _ _ ad (0, [(0, .ref 28), (1, .ref 51)], [], I, G, (gP rd))
  unfold R_X6_readNewName_28_51 at h
  refine am_blk 0 [(.aload_n 0, 1, 0, 0, .null), (.getfield 62, 3, 6, 6, .null), (.bipush (39), 2, 0, 0, .int (39 : Int32))] (6, [(0, .ref 28), (1, .ref 51)], [.int (39 : Int32), .int (I 28 6)], I, G, (gP rd)) (True) hX hi (by decide +kernel) rfl trivial ?_
  refine am_icmp_eq (tgt := 14) hX hi (off := (8)) (by decide +kernel) (by decide) (fun c6 => ?_) (fun c6 => ?_)
  · rw [if_pos c6] at h
    refine am_blk 14 [(.aload_n 0, 1, 0, 0, .null), (.getfield 33, 3, 6, 0, .null), (.aload_n 0, 1, 0, 0, .null), (.getfield 55, 3, 6, 5, .null)] (22, [(0, .ref 28), (1, .ref 51)], [.int (I 28 5), .ref 1], I, G, (gP rd)) (True) hX hi (by decide +kernel) rfl trivial ?_
    refine am_callV hX hi (M := mX9_contentAt) (idx := 176) (d' := 1) (b := 1) (ci := 9) (As := [.int (I 28 5)]) (rest := []) mkX9_contentAt miX9_contentAt mvX9_contentAt (by decide +kernel) (by decide +kernel) rfl (by decide +kernel) rfl ⟨by omega, by decide, Nat.le_of_ble_eq_true rfl⟩ rfl (c_X9_contentAt_1 _ I G (I 28 5)) ?_
    rintro r9 I9 G9 P9 ⟨e0, e1, e2, e3⟩
    rw [e0, e1, e2, e3]
    show am_V X 0 0 _ _ ad (25, [(0, .ref 28), (1, .ref 51)], [.long (f_X9_contentAt_1 I G (I 28 5))], I, G, (gP rd))
    refine am_blk 25 [(.lstore_n 2, 1, 2, 0, .null), (.aload_n 1, 1, 1, 0, .null), (.lload_n 2, 1, 2, 0, .null)] (28, [(0, .ref 28), (1, .ref 51), (2, .long (f_X9_contentAt_1 I G (I 28 5)))], [.long (f_X9_contentAt_1 I G (I 28 5)), .ref 51], I, G, (gP rd)) (True) hX hi (by decide +kernel) rfl trivial ?_
    obtain ⟨r1, I1, G1, hc, h⟩ := rb_some h
    refine am_callV hX hi (M := mX2_find) (idx := 187) (d' := 1) (b := 51) (ci := 2) (As := [.long (f_X9_contentAt_1 I G (I 28 5))]) (rest := []) mkX2_find miX2_find mvX2_find (by decide +kernel) (by decide +kernel) rfl (by decide +kernel) rfl ⟨by omega, by decide, Nat.le_of_ble_eq_true rfl⟩ rfl (c_X2_find_51 _ I G (f_X9_contentAt_1 I G (I 28 5)) hc) ?_
    rintro r9 I9 G9 P9 ⟨e0, e1, e2, e3⟩
    rw [e0, e1, e2, e3]
    show am_V X 0 0 _ _ ad (31, [(0, .ref 28), (1, .ref 51), (2, .long (f_X9_contentAt_1 I G (I 28 5)))], [.int r1], I1, G1, (gP rd))
    refine am_if_lt (tgt := 42) hX hi (off := (11)) (by decide +kernel) (by decide) (fun c31 => ?_) (fun c31 => ?_)
    · rw [if_pos c31] at h
      refine am_blk 42 [(.aload_n 1, 1, 1, 0, .null)] (43, [(0, .ref 28), (1, .ref 51), (2, .long (f_X9_contentAt_1 I G (I 28 5)))], [.ref 51], I1, G1, (gP rd)) (True) hX hi (by decide +kernel) rfl trivial ?_
      refine am_callV hX hi (M := mX2_isFull) (idx := 191) (d' := 1) (b := 51) (ci := 2) (As := []) (rest := []) mkX2_isFull miX2_isFull mvX2_isFull (by decide +kernel) (by decide +kernel) rfl (by decide +kernel) rfl ⟨by omega, by decide, Nat.le_of_ble_eq_true rfl⟩ rfl (c_X2_isFull_51 _ I1 G1 ) ?_
      rintro r9 I9 G9 P9 ⟨e0, e1, e2, e3⟩
      rw [e0, e1, e2, e3]
      show am_V X 0 0 _ _ ad (46, [(0, .ref 28), (1, .ref 51), (2, .long (f_X9_contentAt_1 I G (I 28 5)))], [.int (f_X2_isFull_51 I1 G1 )], I1, G1, (gP rd))
      refine am_if_eq (tgt := 54) hX hi (off := (8)) (by decide +kernel) (by decide) (fun c46 => ?_) (fun c46 => ?_)
      · rw [if_pos c46] at h
        refine am_blk 54 [(.aload_n 1, 1, 1, 0, .null), (.lload_n 2, 1, 2, 0, .null)] (56, [(0, .ref 28), (1, .ref 51), (2, .long (f_X9_contentAt_1 I G (I 28 5)))], [.long (f_X9_contentAt_1 I G (I 28 5)), .ref 51], I1, G1, (gP rd)) (True) hX hi (by decide +kernel) rfl trivial ?_
        refine am_callV hX hi (M := mX2_add) (idx := 195) (d' := 1) (b := 51) (ci := 2) (As := [.long (f_X9_contentAt_1 I G (I 28 5))]) (rest := []) mkX2_add miX2_add mvX2_add (by decide +kernel) (by decide +kernel) rfl (by decide +kernel) rfl ⟨by omega, by decide, Nat.le_of_ble_eq_true rfl⟩ rfl (c_X2_add_51 _ I1 G1 (f_X9_contentAt_1 I G (I 28 5))) ?_
        rintro r9 I9 G9 P9 ⟨e0, e1, e2, e3⟩
        rw [e0, e1, e2, e3]
        show am_V X 0 0 _ _ ad (59, [(0, .ref 28), (1, .ref 51), (2, .long (f_X9_contentAt_1 I G (I 28 5)))], [], (g_X2_add_51 I1 G1 (f_X9_contentAt_1 I G (I 28 5))), (h_X2_add_51 I1 G1 (f_X9_contentAt_1 I G (I 28 5))), (gP rd))
        refine am_blk 59 [(.aload_n 0, 1, 0, 0, .null)] (60, [(0, .ref 28), (1, .ref 51), (2, .long (f_X9_contentAt_1 I G (I 28 5)))], [.ref 28], (g_X2_add_51 I1 G1 (f_X9_contentAt_1 I G (I 28 5))), (h_X2_add_51 I1 G1 (f_X9_contentAt_1 I G (I 28 5))), (gP rd)) (True) hX hi (by decide +kernel) rfl trivial ?_
        refine am_callV hX hi (M := mX6_advance) (idx := 100) (d' := 2) (b := 28) (ci := 6) (As := []) (rest := []) mkX6_advance miX6_advance mvX6_advance (by decide +kernel) (by decide +kernel) rfl (by decide +kernel) rfl ⟨by omega, by decide, Nat.le_of_ble_eq_true rfl⟩ rfl (c_X6_advance_28 _ (g_X2_add_51 I1 G1 (f_X9_contentAt_1 I G (I 28 5))) (h_X2_add_51 I1 G1 (f_X9_contentAt_1 I G (I 28 5))) ) ?_
        rintro r9 I9 G9 P9 ⟨e0, e1, e2, e3⟩
        rw [e0, e1, e2, e3]
        show am_V X 0 0 _ _ ad (63, [(0, .ref 28), (1, .ref 51), (2, .long (f_X9_contentAt_1 I G (I 28 5)))], [], (g_X6_advance_28 (g_X2_add_51 I1 G1 (f_X9_contentAt_1 I G (I 28 5))) (h_X2_add_51 I1 G1 (f_X9_contentAt_1 I G (I 28 5))) ), (h_X2_add_51 I1 G1 (f_X9_contentAt_1 I G (I 28 5))), (gP rd))
        cases h
        refine am_vret hX hi rfl (by decide +kernel) ?_
        exact ⟨rfl, rfl, rfl, rfl⟩
      · rw [if_neg c46] at h
        refine am_blk 49 [(.aload_n 0, 1, 0, 0, .null), (.iconst (4), 1, 0, 0, .int (4 : Int32))] (51, [(0, .ref 28), (1, .ref 51), (2, .long (f_X9_contentAt_1 I G (I 28 5)))], [.int (4 : Int32), .ref 28], I1, G1, (gP rd)) (True) hX hi (by decide +kernel) rfl trivial ?_
        refine am_callV hX hi (M := mX6_fault) (idx := 147) (d' := 2) (b := 28) (ci := 6) (As := [.int (4 : Int32)]) (rest := []) mkX6_fault miX6_fault mvX6_fault (by decide +kernel) (by decide +kernel) rfl (by decide +kernel) rfl ⟨by omega, by decide, Nat.le_of_ble_eq_true rfl⟩ rfl (c_X6_fault_28 _ I1 G1 (4 : Int32)) ?_
        rintro r9 I9 G9 P9 ⟨e0, e1, e2, e3⟩
        rw [e0, e1, e2, e3]
        show am_V X 0 0 _ _ ad (54, [(0, .ref 28), (1, .ref 51), (2, .long (f_X9_contentAt_1 I G (I 28 5)))], [], (g_X6_fault_28 I1 G1 (4 : Int32)), G1, (gP rd))
        refine am_blk 54 [(.aload_n 1, 1, 1, 0, .null), (.lload_n 2, 1, 2, 0, .null)] (56, [(0, .ref 28), (1, .ref 51), (2, .long (f_X9_contentAt_1 I G (I 28 5)))], [.long (f_X9_contentAt_1 I G (I 28 5)), .ref 51], (g_X6_fault_28 I1 G1 (4 : Int32)), G1, (gP rd)) (True) hX hi (by decide +kernel) rfl trivial ?_
        refine am_callV hX hi (M := mX2_add) (idx := 195) (d' := 1) (b := 51) (ci := 2) (As := [.long (f_X9_contentAt_1 I G (I 28 5))]) (rest := []) mkX2_add miX2_add mvX2_add (by decide +kernel) (by decide +kernel) rfl (by decide +kernel) rfl ⟨by omega, by decide, Nat.le_of_ble_eq_true rfl⟩ rfl (c_X2_add_51 _ (g_X6_fault_28 I1 G1 (4 : Int32)) G1 (f_X9_contentAt_1 I G (I 28 5))) ?_
        rintro r9 I9 G9 P9 ⟨e0, e1, e2, e3⟩
        rw [e0, e1, e2, e3]
        show am_V X 0 0 _ _ ad (59, [(0, .ref 28), (1, .ref 51), (2, .long (f_X9_contentAt_1 I G (I 28 5)))], [], (g_X2_add_51 (g_X6_fault_28 I1 G1 (4 : Int32)) G1 (f_X9_contentAt_1 I G (I 28 5))), (h_X2_add_51 (g_X6_fault_28 I1 G1 (4 : Int32)) G1 (f_X9_contentAt_1 I G (I 28 5))), (gP rd))
        refine am_blk 59 [(.aload_n 0, 1, 0, 0, .null)] (60, [(0, .ref 28), (1, .ref 51), (2, .long (f_X9_contentAt_1 I G (I 28 5)))], [.ref 28], (g_X2_add_51 (g_X6_fault_28 I1 G1 (4 : Int32)) G1 (f_X9_contentAt_1 I G (I 28 5))), (h_X2_add_51 (g_X6_fault_28 I1 G1 (4 : Int32)) G1 (f_X9_contentAt_1 I G (I 28 5))), (gP rd)) (True) hX hi (by decide +kernel) rfl trivial ?_
        refine am_callV hX hi (M := mX6_advance) (idx := 100) (d' := 2) (b := 28) (ci := 6) (As := []) (rest := []) mkX6_advance miX6_advance mvX6_advance (by decide +kernel) (by decide +kernel) rfl (by decide +kernel) rfl ⟨by omega, by decide, Nat.le_of_ble_eq_true rfl⟩ rfl (c_X6_advance_28 _ (g_X2_add_51 (g_X6_fault_28 I1 G1 (4 : Int32)) G1 (f_X9_contentAt_1 I G (I 28 5))) (h_X2_add_51 (g_X6_fault_28 I1 G1 (4 : Int32)) G1 (f_X9_contentAt_1 I G (I 28 5))) ) ?_
        rintro r9 I9 G9 P9 ⟨e0, e1, e2, e3⟩
        rw [e0, e1, e2, e3]
        show am_V X 0 0 _ _ ad (63, [(0, .ref 28), (1, .ref 51), (2, .long (f_X9_contentAt_1 I G (I 28 5)))], [], (g_X6_advance_28 (g_X2_add_51 (g_X6_fault_28 I1 G1 (4 : Int32)) G1 (f_X9_contentAt_1 I G (I 28 5))) (h_X2_add_51 (g_X6_fault_28 I1 G1 (4 : Int32)) G1 (f_X9_contentAt_1 I G (I 28 5))) ), (h_X2_add_51 (g_X6_fault_28 I1 G1 (4 : Int32)) G1 (f_X9_contentAt_1 I G (I 28 5))), (gP rd))
        cases h
        refine am_vret hX hi rfl (by decide +kernel) ?_
        exact ⟨rfl, rfl, rfl, rfl⟩
    · rw [if_neg c31] at h
      refine am_blk 34 [(.aload_n 0, 1, 0, 0, .null), (.iconst (2), 1, 0, 0, .int (2 : Int32))] (36, [(0, .ref 28), (1, .ref 51), (2, .long (f_X9_contentAt_1 I G (I 28 5)))], [.int (2 : Int32), .ref 28], I1, G1, (gP rd)) (True) hX hi (by decide +kernel) rfl trivial ?_
      refine am_callV hX hi (M := mX6_fault) (idx := 147) (d' := 2) (b := 28) (ci := 6) (As := [.int (2 : Int32)]) (rest := []) mkX6_fault miX6_fault mvX6_fault (by decide +kernel) (by decide +kernel) rfl (by decide +kernel) rfl ⟨by omega, by decide, Nat.le_of_ble_eq_true rfl⟩ rfl (c_X6_fault_28 _ I1 G1 (2 : Int32)) ?_
      rintro r9 I9 G9 P9 ⟨e0, e1, e2, e3⟩
      rw [e0, e1, e2, e3]
      show am_V X 0 0 _ _ ad (39, [(0, .ref 28), (1, .ref 51), (2, .long (f_X9_contentAt_1 I G (I 28 5)))], [], (g_X6_fault_28 I1 G1 (2 : Int32)), G1, (gP rd))
      refine am_blk 39 [(.goto (15), 3, 0, 54, .null), (.aload_n 1, 1, 1, 0, .null), (.lload_n 2, 1, 2, 0, .null)] (56, [(0, .ref 28), (1, .ref 51), (2, .long (f_X9_contentAt_1 I G (I 28 5)))], [.long (f_X9_contentAt_1 I G (I 28 5)), .ref 51], (g_X6_fault_28 I1 G1 (2 : Int32)), G1, (gP rd)) (True) hX hi (by decide +kernel) rfl trivial ?_
      refine am_callV hX hi (M := mX2_add) (idx := 195) (d' := 1) (b := 51) (ci := 2) (As := [.long (f_X9_contentAt_1 I G (I 28 5))]) (rest := []) mkX2_add miX2_add mvX2_add (by decide +kernel) (by decide +kernel) rfl (by decide +kernel) rfl ⟨by omega, by decide, Nat.le_of_ble_eq_true rfl⟩ rfl (c_X2_add_51 _ (g_X6_fault_28 I1 G1 (2 : Int32)) G1 (f_X9_contentAt_1 I G (I 28 5))) ?_
      rintro r9 I9 G9 P9 ⟨e0, e1, e2, e3⟩
      rw [e0, e1, e2, e3]
      show am_V X 0 0 _ _ ad (59, [(0, .ref 28), (1, .ref 51), (2, .long (f_X9_contentAt_1 I G (I 28 5)))], [], (g_X2_add_51 (g_X6_fault_28 I1 G1 (2 : Int32)) G1 (f_X9_contentAt_1 I G (I 28 5))), (h_X2_add_51 (g_X6_fault_28 I1 G1 (2 : Int32)) G1 (f_X9_contentAt_1 I G (I 28 5))), (gP rd))
      refine am_blk 59 [(.aload_n 0, 1, 0, 0, .null)] (60, [(0, .ref 28), (1, .ref 51), (2, .long (f_X9_contentAt_1 I G (I 28 5)))], [.ref 28], (g_X2_add_51 (g_X6_fault_28 I1 G1 (2 : Int32)) G1 (f_X9_contentAt_1 I G (I 28 5))), (h_X2_add_51 (g_X6_fault_28 I1 G1 (2 : Int32)) G1 (f_X9_contentAt_1 I G (I 28 5))), (gP rd)) (True) hX hi (by decide +kernel) rfl trivial ?_
      refine am_callV hX hi (M := mX6_advance) (idx := 100) (d' := 2) (b := 28) (ci := 6) (As := []) (rest := []) mkX6_advance miX6_advance mvX6_advance (by decide +kernel) (by decide +kernel) rfl (by decide +kernel) rfl ⟨by omega, by decide, Nat.le_of_ble_eq_true rfl⟩ rfl (c_X6_advance_28 _ (g_X2_add_51 (g_X6_fault_28 I1 G1 (2 : Int32)) G1 (f_X9_contentAt_1 I G (I 28 5))) (h_X2_add_51 (g_X6_fault_28 I1 G1 (2 : Int32)) G1 (f_X9_contentAt_1 I G (I 28 5))) ) ?_
      rintro r9 I9 G9 P9 ⟨e0, e1, e2, e3⟩
      rw [e0, e1, e2, e3]
      show am_V X 0 0 _ _ ad (63, [(0, .ref 28), (1, .ref 51), (2, .long (f_X9_contentAt_1 I G (I 28 5)))], [], (g_X6_advance_28 (g_X2_add_51 (g_X6_fault_28 I1 G1 (2 : Int32)) G1 (f_X9_contentAt_1 I G (I 28 5))) (h_X2_add_51 (g_X6_fault_28 I1 G1 (2 : Int32)) G1 (f_X9_contentAt_1 I G (I 28 5))) ), (h_X2_add_51 (g_X6_fault_28 I1 G1 (2 : Int32)) G1 (f_X9_contentAt_1 I G (I 28 5))), (gP rd))
      cases h
      refine am_vret hX hi rfl (by decide +kernel) ?_
      exact ⟨rfl, rfl, rfl, rfl⟩
  · rw [if_neg c6] at h
    refine am_blk 9 [(.aload_n 0, 1, 0, 0, .null)] (10, [(0, .ref 28), (1, .ref 51)], [.ref 28], I, G, (gP rd)) (True) hX hi (by decide +kernel) rfl trivial ?_
    refine am_callV hX hi (M := mX6_refuse) (idx := 70) (d' := 2) (b := 28) (ci := 6) (As := []) (rest := []) mkX6_refuse miX6_refuse mvX6_refuse (by decide +kernel) (by decide +kernel) rfl (by decide +kernel) rfl ⟨by omega, by decide, Nat.le_of_ble_eq_true rfl⟩ rfl (c_X6_refuse_28 _ I G ) ?_
    rintro r9 I9 G9 P9 ⟨e0, e1, e2, e3⟩
    rw [e0, e1, e2, e3]
    show am_V X 0 0 _ _ ad (13, [(0, .ref 28), (1, .ref 51)], [], (g_X6_refuse_28 I G ), G, (gP rd))
    cases h
    refine am_vret hX hi rfl (by decide +kernel) ?_
    exact ⟨rfl, rfl, rfl, rfl⟩
noncomputable def R_X6_readKnownName_28_47 (I : am_I) (G : am_G)  : Option (Int32 × am_I × am_G) := (if (I 28 6) = (39 : Int32) then rb (R_X2_find_47 I G (f_X9_contentAt_1 I G (I 28 5))) (fun r1 I1 G1 => (if 0 ≤ r1 then some (r1, (g_X6_advance_28 I1 G1 ), G1) else some (r1, (g_X6_advance_28 (g_X6_fault_28 I1 G1 (3 : Int32)) G1 ), G1))) else some ((0 : Int32), (g_X6_refuse_28 I G ), G))
set_option maxRecDepth 20000 in
set_option maxHeartbeats 4000000 in
theorem c_X6_readKnownName_28_47 (rd : Nat) (I : am_I) (G : am_G)  {out : Int32 × am_I × am_G} (h : R_X6_readKnownName_28_47 I G  = some out) : am_Ct mX6_readKnownName 3 gS [.ref 28, .ref 47] I G (gP rd) (pI out.1 out.2.1 out.2.2 (gP rd)) := by
  refine am_ofF (by decide +kernel) rfl (by decide) (by omega) (Nat.le_of_ble_eq_true rfl) (fun X ad hX hi => ?_)
  have hi : am_info X 6 cX6_readKnownName 3 false (Option.some Jvm.ClassFile.FieldType.int) 3 := hi
  show am_V X 0 0 _ _ ad (0, [(0, .ref 28), (1, .ref 47)], [], I, G, (gP rd))
  unfold R_X6_readKnownName_28_47 at h
  refine am_blk 0 [(.aload_n 0, 1, 0, 0, .null), (.getfield 62, 3, 6, 6, .null), (.bipush (39), 2, 0, 0, .int (39 : Int32))] (6, [(0, .ref 28), (1, .ref 47)], [.int (39 : Int32), .int (I 28 6)], I, G, (gP rd)) (True) hX hi (by decide +kernel) rfl trivial ?_
  refine am_icmp_eq (tgt := 15) hX hi (off := (9)) (by decide +kernel) (by decide) (fun c6 => ?_) (fun c6 => ?_)
  · rw [if_pos c6] at h
    refine am_blk 15 [(.aload_n 1, 1, 1, 0, .null), (.aload_n 0, 1, 0, 0, .null), (.getfield 33, 3, 6, 0, .null), (.aload_n 0, 1, 0, 0, .null), (.getfield 55, 3, 6, 5, .null)] (24, [(0, .ref 28), (1, .ref 47)], [.int (I 28 5), .ref 1, .ref 47], I, G, (gP rd)) (True) hX hi (by decide +kernel) rfl trivial ?_
    refine am_callV hX hi (M := mX9_contentAt) (idx := 176) (d' := 1) (b := 1) (ci := 9) (As := [.int (I 28 5)]) (rest := [.ref 47]) mkX9_contentAt miX9_contentAt mvX9_contentAt (by decide +kernel) (by decide +kernel) rfl (by decide +kernel) rfl ⟨by omega, by decide, Nat.le_of_ble_eq_true rfl⟩ rfl (c_X9_contentAt_1 _ I G (I 28 5)) ?_
    rintro r9 I9 G9 P9 ⟨e0, e1, e2, e3⟩
    rw [e0, e1, e2, e3]
    show am_V X 0 0 _ _ ad (27, [(0, .ref 28), (1, .ref 47)], [.long (f_X9_contentAt_1 I G (I 28 5)), .ref 47], I, G, (gP rd))
    obtain ⟨r1, I1, G1, hc, h⟩ := rb_some h
    refine am_callV hX hi (M := mX2_find) (idx := 187) (d' := 1) (b := 47) (ci := 2) (As := [.long (f_X9_contentAt_1 I G (I 28 5))]) (rest := []) mkX2_find miX2_find mvX2_find (by decide +kernel) (by decide +kernel) rfl (by decide +kernel) rfl ⟨by omega, by decide, Nat.le_of_ble_eq_true rfl⟩ rfl (c_X2_find_47 _ I G (f_X9_contentAt_1 I G (I 28 5)) hc) ?_
    rintro r9 I9 G9 P9 ⟨e0, e1, e2, e3⟩
    rw [e0, e1, e2, e3]
    show am_V X 0 0 _ _ ad (30, [(0, .ref 28), (1, .ref 47)], [.int r1], I1, G1, (gP rd))
    refine am_blk 30 [(.istore_n 2, 1, 2, 0, .null), (.iload_n 2, 1, 2, 0, .null)] (32, [(0, .ref 28), (1, .ref 47), (2, .int r1)], [.int r1], I1, G1, (gP rd)) (True) hX hi (by decide +kernel) rfl trivial ?_
    refine am_if_ge (tgt := 40) hX hi (off := (8)) (by decide +kernel) (by decide) (fun c32 => ?_) (fun c32 => ?_)
    · rw [if_pos c32] at h
      refine am_blk 40 [(.aload_n 0, 1, 0, 0, .null)] (41, [(0, .ref 28), (1, .ref 47), (2, .int r1)], [.ref 28], I1, G1, (gP rd)) (True) hX hi (by decide +kernel) rfl trivial ?_
      refine am_callV hX hi (M := mX6_advance) (idx := 100) (d' := 2) (b := 28) (ci := 6) (As := []) (rest := []) mkX6_advance miX6_advance mvX6_advance (by decide +kernel) (by decide +kernel) rfl (by decide +kernel) rfl ⟨by omega, by decide, Nat.le_of_ble_eq_true rfl⟩ rfl (c_X6_advance_28 _ I1 G1 ) ?_
      rintro r9 I9 G9 P9 ⟨e0, e1, e2, e3⟩
      rw [e0, e1, e2, e3]
      show am_V X 0 0 _ _ ad (44, [(0, .ref 28), (1, .ref 47), (2, .int r1)], [], (g_X6_advance_28 I1 G1 ), G1, (gP rd))
      refine am_blk 44 [(.iload_n 2, 1, 2, 0, .null)] (45, [(0, .ref 28), (1, .ref 47), (2, .int r1)], [.int r1], (g_X6_advance_28 I1 G1 ), G1, (gP rd)) (True) hX hi (by decide +kernel) rfl trivial ?_
      cases h
      refine am_iret hX hi rfl rfl (by decide +kernel) ?_
      exact ⟨rfl, rfl, rfl, rfl⟩
    · rw [if_neg c32] at h
      refine am_blk 35 [(.aload_n 0, 1, 0, 0, .null), (.iconst (3), 1, 0, 0, .int (3 : Int32))] (37, [(0, .ref 28), (1, .ref 47), (2, .int r1)], [.int (3 : Int32), .ref 28], I1, G1, (gP rd)) (True) hX hi (by decide +kernel) rfl trivial ?_
      refine am_callV hX hi (M := mX6_fault) (idx := 147) (d' := 2) (b := 28) (ci := 6) (As := [.int (3 : Int32)]) (rest := []) mkX6_fault miX6_fault mvX6_fault (by decide +kernel) (by decide +kernel) rfl (by decide +kernel) rfl ⟨by omega, by decide, Nat.le_of_ble_eq_true rfl⟩ rfl (c_X6_fault_28 _ I1 G1 (3 : Int32)) ?_
      rintro r9 I9 G9 P9 ⟨e0, e1, e2, e3⟩
      rw [e0, e1, e2, e3]
      show am_V X 0 0 _ _ ad (40, [(0, .ref 28), (1, .ref 47), (2, .int r1)], [], (g_X6_fault_28 I1 G1 (3 : Int32)), G1, (gP rd))
      refine am_blk 40 [(.aload_n 0, 1, 0, 0, .null)] (41, [(0, .ref 28), (1, .ref 47), (2, .int r1)], [.ref 28], (g_X6_fault_28 I1 G1 (3 : Int32)), G1, (gP rd)) (True) hX hi (by decide +kernel) rfl trivial ?_
      refine am_callV hX hi (M := mX6_advance) (idx := 100) (d' := 2) (b := 28) (ci := 6) (As := []) (rest := []) mkX6_advance miX6_advance mvX6_advance (by decide +kernel) (by decide +kernel) rfl (by decide +kernel) rfl ⟨by omega, by decide, Nat.le_of_ble_eq_true rfl⟩ rfl (c_X6_advance_28 _ (g_X6_fault_28 I1 G1 (3 : Int32)) G1 ) ?_
      rintro r9 I9 G9 P9 ⟨e0, e1, e2, e3⟩
      rw [e0, e1, e2, e3]
      show am_V X 0 0 _ _ ad (44, [(0, .ref 28), (1, .ref 47), (2, .int r1)], [], (g_X6_advance_28 (g_X6_fault_28 I1 G1 (3 : Int32)) G1 ), G1, (gP rd))
      refine am_blk 44 [(.iload_n 2, 1, 2, 0, .null)] (45, [(0, .ref 28), (1, .ref 47), (2, .int r1)], [.int r1], (g_X6_advance_28 (g_X6_fault_28 I1 G1 (3 : Int32)) G1 ), G1, (gP rd)) (True) hX hi (by decide +kernel) rfl trivial ?_
      cases h
      refine am_iret hX hi rfl rfl (by decide +kernel) ?_
      exact ⟨rfl, rfl, rfl, rfl⟩
  · rw [if_neg c6] at h
    refine am_blk 9 [(.aload_n 0, 1, 0, 0, .null)] (10, [(0, .ref 28), (1, .ref 47)], [.ref 28], I, G, (gP rd)) (True) hX hi (by decide +kernel) rfl trivial ?_
    refine am_callV hX hi (M := mX6_refuse) (idx := 70) (d' := 2) (b := 28) (ci := 6) (As := []) (rest := []) mkX6_refuse miX6_refuse mvX6_refuse (by decide +kernel) (by decide +kernel) rfl (by decide +kernel) rfl ⟨by omega, by decide, Nat.le_of_ble_eq_true rfl⟩ rfl (c_X6_refuse_28 _ I G ) ?_
    rintro r9 I9 G9 P9 ⟨e0, e1, e2, e3⟩
    rw [e0, e1, e2, e3]
    show am_V X 0 0 _ _ ad (13, [(0, .ref 28), (1, .ref 47)], [], (g_X6_refuse_28 I G ), G, (gP rd))
    refine am_blk 13 [(.iconst (0), 1, 0, 0, .int (0 : Int32))] (14, [(0, .ref 28), (1, .ref 47)], [.int (0 : Int32)], (g_X6_refuse_28 I G ), G, (gP rd)) (True) hX hi (by decide +kernel) rfl trivial ?_
    cases h
    refine am_iret hX hi rfl rfl (by decide +kernel) ?_
    exact ⟨rfl, rfl, rfl, rfl⟩
noncomputable def R_X6_readKnownName_28_49 (I : am_I) (G : am_G)  : Option (Int32 × am_I × am_G) := (if (I 28 6) = (39 : Int32) then rb (R_X2_find_49 I G (f_X9_contentAt_1 I G (I 28 5))) (fun r1 I1 G1 => (if 0 ≤ r1 then some (r1, (g_X6_advance_28 I1 G1 ), G1) else some (r1, (g_X6_advance_28 (g_X6_fault_28 I1 G1 (3 : Int32)) G1 ), G1))) else some ((0 : Int32), (g_X6_refuse_28 I G ), G))
set_option maxRecDepth 20000 in
set_option maxHeartbeats 4000000 in
theorem c_X6_readKnownName_28_49 (rd : Nat) (I : am_I) (G : am_G)  {out : Int32 × am_I × am_G} (h : R_X6_readKnownName_28_49 I G  = some out) : am_Ct mX6_readKnownName 3 gS [.ref 28, .ref 49] I G (gP rd) (pI out.1 out.2.1 out.2.2 (gP rd)) := by
  refine am_ofF (by decide +kernel) rfl (by decide) (by omega) (Nat.le_of_ble_eq_true rfl) (fun X ad hX hi => ?_)
  have hi : am_info X 6 cX6_readKnownName 3 false (Option.some Jvm.ClassFile.FieldType.int) 3 := hi
  show am_V X 0 0 _ _ ad (0, [(0, .ref 28), (1, .ref 49)], [], I, G, (gP rd))
  unfold R_X6_readKnownName_28_49 at h
  refine am_blk 0 [(.aload_n 0, 1, 0, 0, .null), (.getfield 62, 3, 6, 6, .null), (.bipush (39), 2, 0, 0, .int (39 : Int32))] (6, [(0, .ref 28), (1, .ref 49)], [.int (39 : Int32), .int (I 28 6)], I, G, (gP rd)) (True) hX hi (by decide +kernel) rfl trivial ?_
  refine am_icmp_eq (tgt := 15) hX hi (off := (9)) (by decide +kernel) (by decide) (fun c6 => ?_) (fun c6 => ?_)
  · rw [if_pos c6] at h
    refine am_blk 15 [(.aload_n 1, 1, 1, 0, .null), (.aload_n 0, 1, 0, 0, .null), (.getfield 33, 3, 6, 0, .null), (.aload_n 0, 1, 0, 0, .null), (.getfield 55, 3, 6, 5, .null)] (24, [(0, .ref 28), (1, .ref 49)], [.int (I 28 5), .ref 1, .ref 49], I, G, (gP rd)) (True) hX hi (by decide +kernel) rfl trivial ?_
    refine am_callV hX hi (M := mX9_contentAt) (idx := 176) (d' := 1) (b := 1) (ci := 9) (As := [.int (I 28 5)]) (rest := [.ref 49]) mkX9_contentAt miX9_contentAt mvX9_contentAt (by decide +kernel) (by decide +kernel) rfl (by decide +kernel) rfl ⟨by omega, by decide, Nat.le_of_ble_eq_true rfl⟩ rfl (c_X9_contentAt_1 _ I G (I 28 5)) ?_
    rintro r9 I9 G9 P9 ⟨e0, e1, e2, e3⟩
    rw [e0, e1, e2, e3]
    show am_V X 0 0 _ _ ad (27, [(0, .ref 28), (1, .ref 49)], [.long (f_X9_contentAt_1 I G (I 28 5)), .ref 49], I, G, (gP rd))
    obtain ⟨r1, I1, G1, hc, h⟩ := rb_some h
    refine am_callV hX hi (M := mX2_find) (idx := 187) (d' := 1) (b := 49) (ci := 2) (As := [.long (f_X9_contentAt_1 I G (I 28 5))]) (rest := []) mkX2_find miX2_find mvX2_find (by decide +kernel) (by decide +kernel) rfl (by decide +kernel) rfl ⟨by omega, by decide, Nat.le_of_ble_eq_true rfl⟩ rfl (c_X2_find_49 _ I G (f_X9_contentAt_1 I G (I 28 5)) hc) ?_
    rintro r9 I9 G9 P9 ⟨e0, e1, e2, e3⟩
    rw [e0, e1, e2, e3]
    show am_V X 0 0 _ _ ad (30, [(0, .ref 28), (1, .ref 49)], [.int r1], I1, G1, (gP rd))
    refine am_blk 30 [(.istore_n 2, 1, 2, 0, .null), (.iload_n 2, 1, 2, 0, .null)] (32, [(0, .ref 28), (1, .ref 49), (2, .int r1)], [.int r1], I1, G1, (gP rd)) (True) hX hi (by decide +kernel) rfl trivial ?_
    refine am_if_ge (tgt := 40) hX hi (off := (8)) (by decide +kernel) (by decide) (fun c32 => ?_) (fun c32 => ?_)
    · rw [if_pos c32] at h
      refine am_blk 40 [(.aload_n 0, 1, 0, 0, .null)] (41, [(0, .ref 28), (1, .ref 49), (2, .int r1)], [.ref 28], I1, G1, (gP rd)) (True) hX hi (by decide +kernel) rfl trivial ?_
      refine am_callV hX hi (M := mX6_advance) (idx := 100) (d' := 2) (b := 28) (ci := 6) (As := []) (rest := []) mkX6_advance miX6_advance mvX6_advance (by decide +kernel) (by decide +kernel) rfl (by decide +kernel) rfl ⟨by omega, by decide, Nat.le_of_ble_eq_true rfl⟩ rfl (c_X6_advance_28 _ I1 G1 ) ?_
      rintro r9 I9 G9 P9 ⟨e0, e1, e2, e3⟩
      rw [e0, e1, e2, e3]
      show am_V X 0 0 _ _ ad (44, [(0, .ref 28), (1, .ref 49), (2, .int r1)], [], (g_X6_advance_28 I1 G1 ), G1, (gP rd))
      refine am_blk 44 [(.iload_n 2, 1, 2, 0, .null)] (45, [(0, .ref 28), (1, .ref 49), (2, .int r1)], [.int r1], (g_X6_advance_28 I1 G1 ), G1, (gP rd)) (True) hX hi (by decide +kernel) rfl trivial ?_
      cases h
      refine am_iret hX hi rfl rfl (by decide +kernel) ?_
      exact ⟨rfl, rfl, rfl, rfl⟩
    · rw [if_neg c32] at h
      refine am_blk 35 [(.aload_n 0, 1, 0, 0, .null), (.iconst (3), 1, 0, 0, .int (3 : Int32))] (37, [(0, .ref 28), (1, .ref 49), (2, .int r1)], [.int (3 : Int32), .ref 28], I1, G1, (gP rd)) (True) hX hi (by decide +kernel) rfl trivial ?_
      refine am_callV hX hi (M := mX6_fault) (idx := 147) (d' := 2) (b := 28) (ci := 6) (As := [.int (3 : Int32)]) (rest := []) mkX6_fault miX6_fault mvX6_fault (by decide +kernel) (by decide +kernel) rfl (by decide +kernel) rfl ⟨by omega, by decide, Nat.le_of_ble_eq_true rfl⟩ rfl (c_X6_fault_28 _ I1 G1 (3 : Int32)) ?_
      rintro r9 I9 G9 P9 ⟨e0, e1, e2, e3⟩
      rw [e0, e1, e2, e3]
      show am_V X 0 0 _ _ ad (40, [(0, .ref 28), (1, .ref 49), (2, .int r1)], [], (g_X6_fault_28 I1 G1 (3 : Int32)), G1, (gP rd))
      refine am_blk 40 [(.aload_n 0, 1, 0, 0, .null)] (41, [(0, .ref 28), (1, .ref 49), (2, .int r1)], [.ref 28], (g_X6_fault_28 I1 G1 (3 : Int32)), G1, (gP rd)) (True) hX hi (by decide +kernel) rfl trivial ?_
      refine am_callV hX hi (M := mX6_advance) (idx := 100) (d' := 2) (b := 28) (ci := 6) (As := []) (rest := []) mkX6_advance miX6_advance mvX6_advance (by decide +kernel) (by decide +kernel) rfl (by decide +kernel) rfl ⟨by omega, by decide, Nat.le_of_ble_eq_true rfl⟩ rfl (c_X6_advance_28 _ (g_X6_fault_28 I1 G1 (3 : Int32)) G1 ) ?_
      rintro r9 I9 G9 P9 ⟨e0, e1, e2, e3⟩
      rw [e0, e1, e2, e3]
      show am_V X 0 0 _ _ ad (44, [(0, .ref 28), (1, .ref 49), (2, .int r1)], [], (g_X6_advance_28 (g_X6_fault_28 I1 G1 (3 : Int32)) G1 ), G1, (gP rd))
      refine am_blk 44 [(.iload_n 2, 1, 2, 0, .null)] (45, [(0, .ref 28), (1, .ref 49), (2, .int r1)], [.int r1], (g_X6_advance_28 (g_X6_fault_28 I1 G1 (3 : Int32)) G1 ), G1, (gP rd)) (True) hX hi (by decide +kernel) rfl trivial ?_
      cases h
      refine am_iret hX hi rfl rfl (by decide +kernel) ?_
      exact ⟨rfl, rfl, rfl, rfl⟩
  · rw [if_neg c6] at h
    refine am_blk 9 [(.aload_n 0, 1, 0, 0, .null)] (10, [(0, .ref 28), (1, .ref 49)], [.ref 28], I, G, (gP rd)) (True) hX hi (by decide +kernel) rfl trivial ?_
    refine am_callV hX hi (M := mX6_refuse) (idx := 70) (d' := 2) (b := 28) (ci := 6) (As := []) (rest := []) mkX6_refuse miX6_refuse mvX6_refuse (by decide +kernel) (by decide +kernel) rfl (by decide +kernel) rfl ⟨by omega, by decide, Nat.le_of_ble_eq_true rfl⟩ rfl (c_X6_refuse_28 _ I G ) ?_
    rintro r9 I9 G9 P9 ⟨e0, e1, e2, e3⟩
    rw [e0, e1, e2, e3]
    show am_V X 0 0 _ _ ad (13, [(0, .ref 28), (1, .ref 49)], [], (g_X6_refuse_28 I G ), G, (gP rd))
    refine am_blk 13 [(.iconst (0), 1, 0, 0, .int (0 : Int32))] (14, [(0, .ref 28), (1, .ref 49)], [.int (0 : Int32)], (g_X6_refuse_28 I G ), G, (gP rd)) (True) hX hi (by decide +kernel) rfl trivial ?_
    cases h
    refine am_iret hX hi rfl rfl (by decide +kernel) ?_
    exact ⟨rfl, rfl, rfl, rfl⟩
noncomputable def R_X6_readKnownName_28_51 (I : am_I) (G : am_G)  : Option (Int32 × am_I × am_G) := (if (I 28 6) = (39 : Int32) then rb (R_X2_find_51 I G (f_X9_contentAt_1 I G (I 28 5))) (fun r1 I1 G1 => (if 0 ≤ r1 then some (r1, (g_X6_advance_28 I1 G1 ), G1) else some (r1, (g_X6_advance_28 (g_X6_fault_28 I1 G1 (3 : Int32)) G1 ), G1))) else some ((0 : Int32), (g_X6_refuse_28 I G ), G))
set_option maxRecDepth 20000 in
set_option maxHeartbeats 4000000 in
theorem c_X6_readKnownName_28_51 (rd : Nat) (I : am_I) (G : am_G)  {out : Int32 × am_I × am_G} (h : R_X6_readKnownName_28_51 I G  = some out) : am_Ct mX6_readKnownName 3 gS [.ref 28, .ref 51] I G (gP rd) (pI out.1 out.2.1 out.2.2 (gP rd)) := by
  refine am_ofF (by decide +kernel) rfl (by decide) (by omega) (Nat.le_of_ble_eq_true rfl) (fun X ad hX hi => ?_)
  have hi : am_info X 6 cX6_readKnownName 3 false (Option.some Jvm.ClassFile.FieldType.int) 3 := hi
  show am_V X 0 0 _ _ ad (0, [(0, .ref 28), (1, .ref 51)], [], I, G, (gP rd))
  unfold R_X6_readKnownName_28_51 at h
  refine am_blk 0 [(.aload_n 0, 1, 0, 0, .null), (.getfield 62, 3, 6, 6, .null), (.bipush (39), 2, 0, 0, .int (39 : Int32))] (6, [(0, .ref 28), (1, .ref 51)], [.int (39 : Int32), .int (I 28 6)], I, G, (gP rd)) (True) hX hi (by decide +kernel) rfl trivial ?_
  refine am_icmp_eq (tgt := 15) hX hi (off := (9)) (by decide +kernel) (by decide) (fun c6 => ?_) (fun c6 => ?_)
  · rw [if_pos c6] at h
    refine am_blk 15 [(.aload_n 1, 1, 1, 0, .null), (.aload_n 0, 1, 0, 0, .null), (.getfield 33, 3, 6, 0, .null), (.aload_n 0, 1, 0, 0, .null), (.getfield 55, 3, 6, 5, .null)] (24, [(0, .ref 28), (1, .ref 51)], [.int (I 28 5), .ref 1, .ref 51], I, G, (gP rd)) (True) hX hi (by decide +kernel) rfl trivial ?_
    refine am_callV hX hi (M := mX9_contentAt) (idx := 176) (d' := 1) (b := 1) (ci := 9) (As := [.int (I 28 5)]) (rest := [.ref 51]) mkX9_contentAt miX9_contentAt mvX9_contentAt (by decide +kernel) (by decide +kernel) rfl (by decide +kernel) rfl ⟨by omega, by decide, Nat.le_of_ble_eq_true rfl⟩ rfl (c_X9_contentAt_1 _ I G (I 28 5)) ?_
    rintro r9 I9 G9 P9 ⟨e0, e1, e2, e3⟩
    rw [e0, e1, e2, e3]
    show am_V X 0 0 _ _ ad (27, [(0, .ref 28), (1, .ref 51)], [.long (f_X9_contentAt_1 I G (I 28 5)), .ref 51], I, G, (gP rd))
    obtain ⟨r1, I1, G1, hc, h⟩ := rb_some h
    refine am_callV hX hi (M := mX2_find) (idx := 187) (d' := 1) (b := 51) (ci := 2) (As := [.long (f_X9_contentAt_1 I G (I 28 5))]) (rest := []) mkX2_find miX2_find mvX2_find (by decide +kernel) (by decide +kernel) rfl (by decide +kernel) rfl ⟨by omega, by decide, Nat.le_of_ble_eq_true rfl⟩ rfl (c_X2_find_51 _ I G (f_X9_contentAt_1 I G (I 28 5)) hc) ?_
    rintro r9 I9 G9 P9 ⟨e0, e1, e2, e3⟩
    rw [e0, e1, e2, e3]
    show am_V X 0 0 _ _ ad (30, [(0, .ref 28), (1, .ref 51)], [.int r1], I1, G1, (gP rd))
    refine am_blk 30 [(.istore_n 2, 1, 2, 0, .null), (.iload_n 2, 1, 2, 0, .null)] (32, [(0, .ref 28), (1, .ref 51), (2, .int r1)], [.int r1], I1, G1, (gP rd)) (True) hX hi (by decide +kernel) rfl trivial ?_
    refine am_if_ge (tgt := 40) hX hi (off := (8)) (by decide +kernel) (by decide) (fun c32 => ?_) (fun c32 => ?_)
    · rw [if_pos c32] at h
      refine am_blk 40 [(.aload_n 0, 1, 0, 0, .null)] (41, [(0, .ref 28), (1, .ref 51), (2, .int r1)], [.ref 28], I1, G1, (gP rd)) (True) hX hi (by decide +kernel) rfl trivial ?_
      refine am_callV hX hi (M := mX6_advance) (idx := 100) (d' := 2) (b := 28) (ci := 6) (As := []) (rest := []) mkX6_advance miX6_advance mvX6_advance (by decide +kernel) (by decide +kernel) rfl (by decide +kernel) rfl ⟨by omega, by decide, Nat.le_of_ble_eq_true rfl⟩ rfl (c_X6_advance_28 _ I1 G1 ) ?_
      rintro r9 I9 G9 P9 ⟨e0, e1, e2, e3⟩
      rw [e0, e1, e2, e3]
      show am_V X 0 0 _ _ ad (44, [(0, .ref 28), (1, .ref 51), (2, .int r1)], [], (g_X6_advance_28 I1 G1 ), G1, (gP rd))
      refine am_blk 44 [(.iload_n 2, 1, 2, 0, .null)] (45, [(0, .ref 28), (1, .ref 51), (2, .int r1)], [.int r1], (g_X6_advance_28 I1 G1 ), G1, (gP rd)) (True) hX hi (by decide +kernel) rfl trivial ?_
      cases h
      refine am_iret hX hi rfl rfl (by decide +kernel) ?_
      exact ⟨rfl, rfl, rfl, rfl⟩
    · rw [if_neg c32] at h
      refine am_blk 35 [(.aload_n 0, 1, 0, 0, .null), (.iconst (3), 1, 0, 0, .int (3 : Int32))] (37, [(0, .ref 28), (1, .ref 51), (2, .int r1)], [.int (3 : Int32), .ref 28], I1, G1, (gP rd)) (True) hX hi (by decide +kernel) rfl trivial ?_
      refine am_callV hX hi (M := mX6_fault) (idx := 147) (d' := 2) (b := 28) (ci := 6) (As := [.int (3 : Int32)]) (rest := []) mkX6_fault miX6_fault mvX6_fault (by decide +kernel) (by decide +kernel) rfl (by decide +kernel) rfl ⟨by omega, by decide, Nat.le_of_ble_eq_true rfl⟩ rfl (c_X6_fault_28 _ I1 G1 (3 : Int32)) ?_
      rintro r9 I9 G9 P9 ⟨e0, e1, e2, e3⟩
      rw [e0, e1, e2, e3]
      show am_V X 0 0 _ _ ad (40, [(0, .ref 28), (1, .ref 51), (2, .int r1)], [], (g_X6_fault_28 I1 G1 (3 : Int32)), G1, (gP rd))
      refine am_blk 40 [(.aload_n 0, 1, 0, 0, .null)] (41, [(0, .ref 28), (1, .ref 51), (2, .int r1)], [.ref 28], (g_X6_fault_28 I1 G1 (3 : Int32)), G1, (gP rd)) (True) hX hi (by decide +kernel) rfl trivial ?_
      refine am_callV hX hi (M := mX6_advance) (idx := 100) (d' := 2) (b := 28) (ci := 6) (As := []) (rest := []) mkX6_advance miX6_advance mvX6_advance (by decide +kernel) (by decide +kernel) rfl (by decide +kernel) rfl ⟨by omega, by decide, Nat.le_of_ble_eq_true rfl⟩ rfl (c_X6_advance_28 _ (g_X6_fault_28 I1 G1 (3 : Int32)) G1 ) ?_
      rintro r9 I9 G9 P9 ⟨e0, e1, e2, e3⟩
      rw [e0, e1, e2, e3]
      show am_V X 0 0 _ _ ad (44, [(0, .ref 28), (1, .ref 51), (2, .int r1)], [], (g_X6_advance_28 (g_X6_fault_28 I1 G1 (3 : Int32)) G1 ), G1, (gP rd))
      refine am_blk 44 [(.iload_n 2, 1, 2, 0, .null)] (45, [(0, .ref 28), (1, .ref 51), (2, .int r1)], [.int r1], (g_X6_advance_28 (g_X6_fault_28 I1 G1 (3 : Int32)) G1 ), G1, (gP rd)) (True) hX hi (by decide +kernel) rfl trivial ?_
      cases h
      refine am_iret hX hi rfl rfl (by decide +kernel) ?_
      exact ⟨rfl, rfl, rfl, rfl⟩
  · rw [if_neg c6] at h
    refine am_blk 9 [(.aload_n 0, 1, 0, 0, .null)] (10, [(0, .ref 28), (1, .ref 51)], [.ref 28], I, G, (gP rd)) (True) hX hi (by decide +kernel) rfl trivial ?_
    refine am_callV hX hi (M := mX6_refuse) (idx := 70) (d' := 2) (b := 28) (ci := 6) (As := []) (rest := []) mkX6_refuse miX6_refuse mvX6_refuse (by decide +kernel) (by decide +kernel) rfl (by decide +kernel) rfl ⟨by omega, by decide, Nat.le_of_ble_eq_true rfl⟩ rfl (c_X6_refuse_28 _ I G ) ?_
    rintro r9 I9 G9 P9 ⟨e0, e1, e2, e3⟩
    rw [e0, e1, e2, e3]
    show am_V X 0 0 _ _ ad (13, [(0, .ref 28), (1, .ref 51)], [], (g_X6_refuse_28 I G ), G, (gP rd))
    refine am_blk 13 [(.iconst (0), 1, 0, 0, .int (0 : Int32))] (14, [(0, .ref 28), (1, .ref 51)], [.int (0 : Int32)], (g_X6_refuse_28 I G ), G, (gP rd)) (True) hX hi (by decide +kernel) rfl trivial ?_
    cases h
    refine am_iret hX hi rfl rfl (by decide +kernel) ?_
    exact ⟨rfl, rfl, rfl, rfl⟩
noncomputable def L_X7_isAtEdge_53 (n0 : Nat) (hd : Nat) (I : am_I) (G : am_G) (v1 : Int32) (v2 : Int32) : Option (Int32 × am_I × am_G) := match n0 with
  | 0 => none
  | n + 1 => match hd with
    | _ => (if (I 7 10) ≤ v2 then some ((0 : Int32), I, G) else (if (gAt (I 58) 576 (v2 * (I 7 9))) = v1 then some ((1 : Int32), I, G) else L_X7_isAtEdge_53 n 0 I G v1 (v2 + (1 : Int32))))
theorem L_X7_isAtEdge_53_0 (n : Nat) (I : am_I) (G : am_G) (v1 : Int32) (v2 : Int32) : L_X7_isAtEdge_53 (n + 1) 0 I G v1 v2 = (if (I 7 10) ≤ v2 then some ((0 : Int32), I, G) else (if (gAt (I 58) 576 (v2 * (I 7 9))) = v1 then some ((1 : Int32), I, G) else L_X7_isAtEdge_53 n 0 I G v1 (v2 + (1 : Int32)))) := rfl
theorem L_X7_isAtEdge_53_z (h : Nat) (I : am_I) (G : am_G) (v1 : Int32) (v2 : Int32) : L_X7_isAtEdge_53 0 h I G v1 v2 = none := rfl
noncomputable def R_X7_isAtEdge_53 (I : am_I) (G : am_G) (x1 : Int32) : Option (Int32 × am_I × am_G) := L_X7_isAtEdge_53 FU 0 I G x1 (0 : Int32)
set_option maxRecDepth 20000 in
set_option maxHeartbeats 4000000 in
theorem l_X7_isAtEdge_53 (rd : Nat) {X : am_X} {ad : Nat → Nat} (hX : am_okz X ad) (hi : am_info X 7 cX7_isAtEdge 3 false (Option.some Jvm.ClassFile.FieldType.boolean) 2) (n : Nat) : (∀ (I : am_I) (G : am_G) (v1 : Int32) (v2 : Int32) (out : Int32 × am_I × am_G), L_X7_isAtEdge_53 n 0 I G v1 v2 = some out → am_V X 0 0 (am_Rt X gS ad (pI out.1 out.2.1 out.2.2 (gP rd))) gS ad (2, [(0, .ref 53), (1, .int v1), (2, .int v2)], [], I, G, (gP rd))) := by
  induction n with
  | zero => exact fun I G v1 v2 out h => by rw [L_X7_isAtEdge_53_z] at h; cases h
  | succ n ih =>
    · intro I G v1 v2 out h
      rw [L_X7_isAtEdge_53_0] at h
      refine am_blk 2 [(.iload_n 2, 1, 2, 0, .null), (.aload_n 0, 1, 0, 0, .null), (.getfield 44, 3, 7, 0, .null), (.getfield 111, 3, 5, 10, .null)] (10, [(0, .ref 53), (1, .int v1), (2, .int v2)], [.int (I 7 10), .int v2], I, G, (gP rd)) (True) hX hi (by decide +kernel) rfl trivial ?_
      refine am_icmp_ge (tgt := 41) hX hi (off := (31)) (by decide +kernel) (by decide) (fun c10 => ?_) (fun c10 => ?_)
      · rw [if_pos c10] at h
        refine am_blk 41 [(.iconst (0), 1, 0, 0, .int (0 : Int32))] (42, [(0, .ref 53), (1, .int v1), (2, .int v2)], [.int (0 : Int32)], I, G, (gP rd)) (True) hX hi (by decide +kernel) rfl trivial ?_
        cases h
        refine am_iret hX hi rfl (by first | rfl | decide | (simp [narrow]; done)) (by decide +kernel) ?_
        exact ⟨rfl, rfl, rfl, rfl⟩
      · rw [if_neg c10] at h
        refine am_blk 13 [(.aload_n 0, 1, 0, 0, .null), (.getfield 24, 3, 7, 6, .null), (.iload_n 2, 1, 2, 0, .null), (.aload_n 0, 1, 0, 0, .null), (.getfield 44, 3, 7, 0, .null), (.getfield 104, 3, 5, 9, .null), (.imul, 1, 0, 0, .null)] (26, [(0, .ref 53), (1, .int v1), (2, .int v2)], [.int (v2 * (I 7 9)), .ref 58], I, G, (gP rd)) (True) hX hi (by decide +kernel) rfl trivial ?_
        refine am_callS hX hi (M := mX0_at) (idx := 85) (d' := 1) (As := [.ref 58, .int (v2 * (I 7 9))]) (rest := []) mkX0_at msX0_at (by decide +kernel) (by decide +kernel) rfl ⟨by omega, by decide, Nat.le_of_ble_eq_true rfl⟩ rfl (c_at rfl (by decide) (v2 * (I 7 9))) ?_
        rintro r9 I9 G9 P9 ⟨e0, e1, e2, e3⟩
        rw [e0, e1, e2, e3]
        show am_V X 0 0 _ _ ad (29, [(0, .ref 53), (1, .int v1), (2, .int v2)], [.int (gAt (I 58) 576 (v2 * (I 7 9)))], I, G, (gP rd))
        refine am_blk 29 [(.iload_n 1, 1, 1, 0, .null)] (30, [(0, .ref 53), (1, .int v1), (2, .int v2)], [.int v1, .int (gAt (I 58) 576 (v2 * (I 7 9)))], I, G, (gP rd)) (True) hX hi (by decide +kernel) rfl trivial ?_
        refine am_icmp_ne (tgt := 35) hX hi (off := (5)) (by decide +kernel) (by decide) (fun c30 => ?_) (fun c30 => ?_)
        · rw [if_neg c30] at h
          refine am_blk 35 [(.iinc 2 (1), 3, 2, 0, .int (1 : Int32)), (.goto (-36), 3, 0, 2, .null)] (2, [(0, .ref 53), (1, .int v1), (2, .int (v2 + (1 : Int32)))], [], I, G, (gP rd)) (True) hX hi (by decide +kernel) rfl trivial ?_
          exact ih _ _ _ _ _ h
        · rw [if_pos c30] at h
          refine am_blk 33 [(.iconst (1), 1, 0, 0, .int (1 : Int32))] (34, [(0, .ref 53), (1, .int v1), (2, .int v2)], [.int (1 : Int32)], I, G, (gP rd)) (True) hX hi (by decide +kernel) rfl trivial ?_
          cases h
          refine am_iret hX hi rfl (by first | rfl | decide | (simp [narrow]; done)) (by decide +kernel) ?_
          exact ⟨rfl, rfl, rfl, rfl⟩
set_option maxRecDepth 20000 in
set_option maxHeartbeats 4000000 in
theorem c_X7_isAtEdge_53 (rd : Nat) (I : am_I) (G : am_G) (x1 : Int32) {out : Int32 × am_I × am_G} (h : R_X7_isAtEdge_53 I G x1 = some out) : am_Ct mX7_isAtEdge 2 gS [.ref 53, .int x1] I G (gP rd) (pI out.1 out.2.1 out.2.2 (gP rd)) := by
  refine am_ofF (by decide +kernel) rfl (by decide) (by omega) (Nat.le_of_ble_eq_true rfl) (fun X ad hX hi => ?_)
  have hi : am_info X 7 cX7_isAtEdge 3 false (Option.some Jvm.ClassFile.FieldType.boolean) 2 := hi
  show am_V X 0 0 _ _ ad (0, [(0, .ref 53), (1, .int x1)], [], I, G, (gP rd))
  unfold R_X7_isAtEdge_53 at h
  refine am_blk 0 [(.iconst (0), 1, 0, 0, .int (0 : Int32)), (.istore_n 2, 1, 2, 0, .null)] (2, [(0, .ref 53), (1, .int x1), (2, .int (0 : Int32))], [], I, G, (gP rd)) (True) hX hi (by decide +kernel) rfl trivial ?_
  exact (l_X7_isAtEdge_53 rd hX hi FU) _ _ _ _ _ h
noncomputable def L_X7_isAtEdge_66 (n0 : Nat) (hd : Nat) (I : am_I) (G : am_G) (v1 : Int32) (v2 : Int32) : Option (Int32 × am_I × am_G) := match n0 with
  | 0 => none
  | n + 1 => match hd with
    | _ => (if (I 7 10) ≤ v2 then some ((0 : Int32), I, G) else (if (gAt (I 71) 576 (v2 * (I 7 9))) = v1 then some ((1 : Int32), I, G) else L_X7_isAtEdge_66 n 0 I G v1 (v2 + (1 : Int32))))
theorem L_X7_isAtEdge_66_0 (n : Nat) (I : am_I) (G : am_G) (v1 : Int32) (v2 : Int32) : L_X7_isAtEdge_66 (n + 1) 0 I G v1 v2 = (if (I 7 10) ≤ v2 then some ((0 : Int32), I, G) else (if (gAt (I 71) 576 (v2 * (I 7 9))) = v1 then some ((1 : Int32), I, G) else L_X7_isAtEdge_66 n 0 I G v1 (v2 + (1 : Int32)))) := rfl
theorem L_X7_isAtEdge_66_z (h : Nat) (I : am_I) (G : am_G) (v1 : Int32) (v2 : Int32) : L_X7_isAtEdge_66 0 h I G v1 v2 = none := rfl
noncomputable def R_X7_isAtEdge_66 (I : am_I) (G : am_G) (x1 : Int32) : Option (Int32 × am_I × am_G) := L_X7_isAtEdge_66 FU 0 I G x1 (0 : Int32)
set_option maxRecDepth 20000 in
set_option maxHeartbeats 4000000 in
theorem l_X7_isAtEdge_66 (rd : Nat) {X : am_X} {ad : Nat → Nat} (hX : am_okz X ad) (hi : am_info X 7 cX7_isAtEdge 3 false (Option.some Jvm.ClassFile.FieldType.boolean) 2) (n : Nat) : (∀ (I : am_I) (G : am_G) (v1 : Int32) (v2 : Int32) (out : Int32 × am_I × am_G), L_X7_isAtEdge_66 n 0 I G v1 v2 = some out → am_V X 0 0 (am_Rt X gS ad (pI out.1 out.2.1 out.2.2 (gP rd))) gS ad (2, [(0, .ref 66), (1, .int v1), (2, .int v2)], [], I, G, (gP rd))) := by
  induction n with
  | zero => exact fun I G v1 v2 out h => by rw [L_X7_isAtEdge_66_z] at h; cases h
  | succ n ih =>
    · intro I G v1 v2 out h
      rw [L_X7_isAtEdge_66_0] at h
      refine am_blk 2 [(.iload_n 2, 1, 2, 0, .null), (.aload_n 0, 1, 0, 0, .null), (.getfield 44, 3, 7, 0, .null), (.getfield 111, 3, 5, 10, .null)] (10, [(0, .ref 66), (1, .int v1), (2, .int v2)], [.int (I 7 10), .int v2], I, G, (gP rd)) (True) hX hi (by decide +kernel) rfl trivial ?_
      refine am_icmp_ge (tgt := 41) hX hi (off := (31)) (by decide +kernel) (by decide) (fun c10 => ?_) (fun c10 => ?_)
      · rw [if_pos c10] at h
        refine am_blk 41 [(.iconst (0), 1, 0, 0, .int (0 : Int32))] (42, [(0, .ref 66), (1, .int v1), (2, .int v2)], [.int (0 : Int32)], I, G, (gP rd)) (True) hX hi (by decide +kernel) rfl trivial ?_
        cases h
        refine am_iret hX hi rfl (by first | rfl | decide | (simp [narrow]; done)) (by decide +kernel) ?_
        exact ⟨rfl, rfl, rfl, rfl⟩
      · rw [if_neg c10] at h
        refine am_blk 13 [(.aload_n 0, 1, 0, 0, .null), (.getfield 24, 3, 7, 6, .null), (.iload_n 2, 1, 2, 0, .null), (.aload_n 0, 1, 0, 0, .null), (.getfield 44, 3, 7, 0, .null), (.getfield 104, 3, 5, 9, .null), (.imul, 1, 0, 0, .null)] (26, [(0, .ref 66), (1, .int v1), (2, .int v2)], [.int (v2 * (I 7 9)), .ref 71], I, G, (gP rd)) (True) hX hi (by decide +kernel) rfl trivial ?_
        refine am_callS hX hi (M := mX0_at) (idx := 85) (d' := 1) (As := [.ref 71, .int (v2 * (I 7 9))]) (rest := []) mkX0_at msX0_at (by decide +kernel) (by decide +kernel) rfl ⟨by omega, by decide, Nat.le_of_ble_eq_true rfl⟩ rfl (c_at rfl (by decide) (v2 * (I 7 9))) ?_
        rintro r9 I9 G9 P9 ⟨e0, e1, e2, e3⟩
        rw [e0, e1, e2, e3]
        show am_V X 0 0 _ _ ad (29, [(0, .ref 66), (1, .int v1), (2, .int v2)], [.int (gAt (I 71) 576 (v2 * (I 7 9)))], I, G, (gP rd))
        refine am_blk 29 [(.iload_n 1, 1, 1, 0, .null)] (30, [(0, .ref 66), (1, .int v1), (2, .int v2)], [.int v1, .int (gAt (I 71) 576 (v2 * (I 7 9)))], I, G, (gP rd)) (True) hX hi (by decide +kernel) rfl trivial ?_
        refine am_icmp_ne (tgt := 35) hX hi (off := (5)) (by decide +kernel) (by decide) (fun c30 => ?_) (fun c30 => ?_)
        · rw [if_neg c30] at h
          refine am_blk 35 [(.iinc 2 (1), 3, 2, 0, .int (1 : Int32)), (.goto (-36), 3, 0, 2, .null)] (2, [(0, .ref 66), (1, .int v1), (2, .int (v2 + (1 : Int32)))], [], I, G, (gP rd)) (True) hX hi (by decide +kernel) rfl trivial ?_
          exact ih _ _ _ _ _ h
        · rw [if_pos c30] at h
          refine am_blk 33 [(.iconst (1), 1, 0, 0, .int (1 : Int32))] (34, [(0, .ref 66), (1, .int v1), (2, .int v2)], [.int (1 : Int32)], I, G, (gP rd)) (True) hX hi (by decide +kernel) rfl trivial ?_
          cases h
          refine am_iret hX hi rfl (by first | rfl | decide | (simp [narrow]; done)) (by decide +kernel) ?_
          exact ⟨rfl, rfl, rfl, rfl⟩
set_option maxRecDepth 20000 in
set_option maxHeartbeats 4000000 in
theorem c_X7_isAtEdge_66 (rd : Nat) (I : am_I) (G : am_G) (x1 : Int32) {out : Int32 × am_I × am_G} (h : R_X7_isAtEdge_66 I G x1 = some out) : am_Ct mX7_isAtEdge 2 gS [.ref 66, .int x1] I G (gP rd) (pI out.1 out.2.1 out.2.2 (gP rd)) := by
  refine am_ofF (by decide +kernel) rfl (by decide) (by omega) (Nat.le_of_ble_eq_true rfl) (fun X ad hX hi => ?_)
  have hi : am_info X 7 cX7_isAtEdge 3 false (Option.some Jvm.ClassFile.FieldType.boolean) 2 := hi
  show am_V X 0 0 _ _ ad (0, [(0, .ref 66), (1, .int x1)], [], I, G, (gP rd))
  unfold R_X7_isAtEdge_66 at h
  refine am_blk 0 [(.iconst (0), 1, 0, 0, .int (0 : Int32)), (.istore_n 2, 1, 2, 0, .null)] (2, [(0, .ref 66), (1, .int x1), (2, .int (0 : Int32))], [], I, G, (gP rd)) (True) hX hi (by decide +kernel) rfl trivial ?_
  exact (l_X7_isAtEdge_66 rd hX hi FU) _ _ _ _ _ h
noncomputable def L_X7_reckonShifts_53 (n0 : Nat) (hd : Nat) (I : am_I) (G : am_G) (v1 : Int32) (v2 : Int32) (v3 : Int32) (v4 : Int32) (v5 : Int32) : Option (Unit × am_I × am_G) := match n0 with
  | 0 => none
  | n + 1 => match hd with
    | _ => (if v2 ≤ v5 then some ((), I, G) else L_X7_reckonShifts_53 n 0 (gPut I 55 96 ((v1 * (24 : Int32)) + v5) (gQu ((v4 * (2 : Int32)) * (if (v2 - (gWr (v5 * v3).toInt64.toInt v2)) < (gWr (v5 * v3).toInt64.toInt v2) then (v2 - (gWr (v5 * v3).toInt64.toInt v2)) else (gWr (v5 * v3).toInt64.toInt v2))) v2)) G v1 v2 v3 v4 (v5 + (1 : Int32)))
theorem L_X7_reckonShifts_53_0 (n : Nat) (I : am_I) (G : am_G) (v1 : Int32) (v2 : Int32) (v3 : Int32) (v4 : Int32) (v5 : Int32) : L_X7_reckonShifts_53 (n + 1) 0 I G v1 v2 v3 v4 v5 = (if v2 ≤ v5 then some ((), I, G) else L_X7_reckonShifts_53 n 0 (gPut I 55 96 ((v1 * (24 : Int32)) + v5) (gQu ((v4 * (2 : Int32)) * (if (v2 - (gWr (v5 * v3).toInt64.toInt v2)) < (gWr (v5 * v3).toInt64.toInt v2) then (v2 - (gWr (v5 * v3).toInt64.toInt v2)) else (gWr (v5 * v3).toInt64.toInt v2))) v2)) G v1 v2 v3 v4 (v5 + (1 : Int32))) := rfl
theorem L_X7_reckonShifts_53_z (h : Nat) (I : am_I) (G : am_G) (v1 : Int32) (v2 : Int32) (v3 : Int32) (v4 : Int32) (v5 : Int32) : L_X7_reckonShifts_53 0 h I G v1 v2 v3 v4 v5 = none := rfl
noncomputable def R_X7_reckonShifts_53 (I : am_I) (G : am_G) (x1 : Int32) : Option (Unit × am_I × am_G) := L_X7_reckonShifts_53 FU 0 I G x1 (f_X5_linesOf_7 I G x1) (gAt (I 13) 4 x1) (gAt (I 54) 4 x1) (0 : Int32)
set_option maxRecDepth 20000 in
set_option maxHeartbeats 4000000 in
theorem l_X7_reckonShifts_53 (rd : Nat) {X : am_X} {ad : Nat → Nat} (hX : am_okz X ad) (hi : am_info X 7 cX7_reckonShifts 8 false none 3) (n : Nat) : (∀ (I : am_I) (G : am_G) (v1 : Int32) (v2 : Int32) (v3 : Int32) (v4 : Int32) (v5 : Int32) (out : Unit × am_I × am_G), L_X7_reckonShifts_53 n 0 I G v1 v2 v3 v4 v5 = some out → am_V X 0 0 (am_Rt X gS ad (pV out.2.1 out.2.2 (gP rd))) gS ad (34, [(0, .ref 53), (1, .int v1), (2, .int v2), (3, .int v3), (4, .int v4), (5, .int v5)], [], I, G, (gP rd))) := by
  induction n with
  | zero => exact fun I G v1 v2 v3 v4 v5 out h => by rw [L_X7_reckonShifts_53_z] at h; cases h
  | succ n ih =>
    · intro I G v1 v2 v3 v4 v5 out h
      rw [L_X7_reckonShifts_53_0] at h
      refine am_blk 34 [(.iload 5, 2, 5, 0, .null), (.iload_n 2, 1, 2, 0, .null)] (37, [(0, .ref 53), (1, .int v1), (2, .int v2), (3, .int v3), (4, .int v4), (5, .int v5)], [.int v2, .int v5], I, G, (gP rd)) (True) hX hi (by decide +kernel) rfl trivial ?_
      refine am_icmp_ge (tgt := 93) hX hi (off := (56)) (by decide +kernel) (by decide) (fun c37 => ?_) (fun c37 => ?_)
      · rw [if_pos c37] at h
        cases h
        refine am_vret hX hi rfl (by decide +kernel) ?_
        exact ⟨rfl, rfl, rfl, rfl⟩
      · rw [if_neg c37] at h
        refine am_blk 40 [(.iload 5, 2, 5, 0, .null), (.iload_n 3, 1, 3, 0, .null), (.imul, 1, 0, 0, .null), (.i2l, 1, 0, 0, .null), (.iload_n 2, 1, 2, 0, .null)] (46, [(0, .ref 53), (1, .int v1), (2, .int v2), (3, .int v3), (4, .int v4), (5, .int v5)], [.int v2, .long (v5 * v3).toInt64], I, G, (gP rd)) (True) hX hi (by decide +kernel) rfl trivial ?_
        refine am_callS hX hi (M := mX0_wrap) (idx := 107) (d' := 2) (As := [.long (v5 * v3).toInt64, .int v2]) (rest := []) mkX0_wrap msX0_wrap (by decide +kernel) (by decide +kernel) rfl ⟨by omega, by decide, Nat.le_of_ble_eq_true rfl⟩ rfl (c_wrap (v5 * v3).toInt64 v2) ?_
        rintro r9 I9 G9 P9 ⟨e0, e1, e2, e3⟩
        rw [e0, e1, e2, e3]
        show am_V X 0 0 _ _ ad (49, [(0, .ref 53), (1, .int v1), (2, .int v2), (3, .int v3), (4, .int v4), (5, .int v5)], [.int (gWr (v5 * v3).toInt64.toInt v2)], I, G, (gP rd))
        refine am_blk 49 [(.istore 6, 2, 6, 0, .null), (.iload 4, 2, 4, 0, .null), (.iconst (2), 1, 0, 0, .int (2 : Int32)), (.imul, 1, 0, 0, .null), (.iload 6, 2, 6, 0, .null), (.iload_n 2, 1, 2, 0, .null), (.iload 6, 2, 6, 0, .null), (.isub, 1, 0, 0, .null), (.invokestatic 204, 3, 1, 0, .null), (.imul, 1, 0, 0, .null), (.iload_n 2, 1, 2, 0, .null)] (66, [(0, .ref 53), (1, .int v1), (2, .int v2), (3, .int v3), (4, .int v4), (5, .int v5), (6, .int (gWr (v5 * v3).toInt64.toInt v2))], [.int v2, .int ((v4 * (2 : Int32)) * (if (v2 - (gWr (v5 * v3).toInt64.toInt v2)) < (gWr (v5 * v3).toInt64.toInt v2) then (v2 - (gWr (v5 * v3).toInt64.toInt v2)) else (gWr (v5 * v3).toInt64.toInt v2)))], I, G, (gP rd)) (True) hX hi (by decide +kernel) rfl trivial ?_
        refine am_callS hX hi (M := mX0_quotient) (idx := 201) (d' := 1) (As := [.int ((v4 * (2 : Int32)) * (if (v2 - (gWr (v5 * v3).toInt64.toInt v2)) < (gWr (v5 * v3).toInt64.toInt v2) then (v2 - (gWr (v5 * v3).toInt64.toInt v2)) else (gWr (v5 * v3).toInt64.toInt v2))), .int v2]) (rest := []) mkX0_quotient msX0_quotient (by decide +kernel) (by decide +kernel) rfl ⟨by omega, by decide, Nat.le_of_ble_eq_true rfl⟩ rfl (c_quot ((v4 * (2 : Int32)) * (if (v2 - (gWr (v5 * v3).toInt64.toInt v2)) < (gWr (v5 * v3).toInt64.toInt v2) then (v2 - (gWr (v5 * v3).toInt64.toInt v2)) else (gWr (v5 * v3).toInt64.toInt v2))) v2) ?_
        rintro r9 I9 G9 P9 ⟨e0, e1, e2, e3⟩
        rw [e0, e1, e2, e3]
        show am_V X 0 0 _ _ ad (69, [(0, .ref 53), (1, .int v1), (2, .int v2), (3, .int v3), (4, .int v4), (5, .int v5), (6, .int (gWr (v5 * v3).toInt64.toInt v2))], [.int (gQu ((v4 * (2 : Int32)) * (if (v2 - (gWr (v5 * v3).toInt64.toInt v2)) < (gWr (v5 * v3).toInt64.toInt v2) then (v2 - (gWr (v5 * v3).toInt64.toInt v2)) else (gWr (v5 * v3).toInt64.toInt v2))) v2)], I, G, (gP rd))
        refine am_blk 69 [(.istore 7, 2, 7, 0, .null), (.aload_n 0, 1, 0, 0, .null), (.getfield 15, 3, 7, 3, .null), (.iload_n 1, 1, 1, 0, .null), (.bipush (24), 2, 0, 0, .int (24 : Int32)), (.imul, 1, 0, 0, .null), (.iload 5, 2, 5, 0, .null), (.iadd, 1, 0, 0, .null), (.iload 7, 2, 7, 0, .null)] (84, [(0, .ref 53), (1, .int v1), (2, .int v2), (3, .int v3), (4, .int v4), (5, .int v5), (6, .int (gWr (v5 * v3).toInt64.toInt v2)), (7, .int (gQu ((v4 * (2 : Int32)) * (if (v2 - (gWr (v5 * v3).toInt64.toInt v2)) < (gWr (v5 * v3).toInt64.toInt v2) then (v2 - (gWr (v5 * v3).toInt64.toInt v2)) else (gWr (v5 * v3).toInt64.toInt v2))) v2))], [.int (gQu ((v4 * (2 : Int32)) * (if (v2 - (gWr (v5 * v3).toInt64.toInt v2)) < (gWr (v5 * v3).toInt64.toInt v2) then (v2 - (gWr (v5 * v3).toInt64.toInt v2)) else (gWr (v5 * v3).toInt64.toInt v2))) v2), .int ((v1 * (24 : Int32)) + v5), .ref 55], I, G, (gP rd)) (True) hX hi (by decide +kernel) rfl trivial ?_
        refine am_callS hX hi (M := mX0_put) (idx := 89) (d' := 1) (As := [.ref 55, .int ((v1 * (24 : Int32)) + v5), .int (gQu ((v4 * (2 : Int32)) * (if (v2 - (gWr (v5 * v3).toInt64.toInt v2)) < (gWr (v5 * v3).toInt64.toInt v2) then (v2 - (gWr (v5 * v3).toInt64.toInt v2)) else (gWr (v5 * v3).toInt64.toInt v2))) v2)]) (rest := []) mkX0_put msX0_put (by decide +kernel) (by decide +kernel) rfl ⟨by omega, by decide, Nat.le_of_ble_eq_true rfl⟩ rfl (c_put rfl (by decide) ((v1 * (24 : Int32)) + v5) (gQu ((v4 * (2 : Int32)) * (if (v2 - (gWr (v5 * v3).toInt64.toInt v2)) < (gWr (v5 * v3).toInt64.toInt v2) then (v2 - (gWr (v5 * v3).toInt64.toInt v2)) else (gWr (v5 * v3).toInt64.toInt v2))) v2)) ?_
        rintro r9 I9 G9 P9 ⟨e0, e1, e2, e3⟩
        rw [e0, e1, e2, e3]
        show am_V X 0 0 _ _ ad (87, [(0, .ref 53), (1, .int v1), (2, .int v2), (3, .int v3), (4, .int v4), (5, .int v5), (6, .int (gWr (v5 * v3).toInt64.toInt v2)), (7, .int (gQu ((v4 * (2 : Int32)) * (if (v2 - (gWr (v5 * v3).toInt64.toInt v2)) < (gWr (v5 * v3).toInt64.toInt v2) then (v2 - (gWr (v5 * v3).toInt64.toInt v2)) else (gWr (v5 * v3).toInt64.toInt v2))) v2))], [], (gPut I 55 96 ((v1 * (24 : Int32)) + v5) (gQu ((v4 * (2 : Int32)) * (if (v2 - (gWr (v5 * v3).toInt64.toInt v2)) < (gWr (v5 * v3).toInt64.toInt v2) then (v2 - (gWr (v5 * v3).toInt64.toInt v2)) else (gWr (v5 * v3).toInt64.toInt v2))) v2)), G, (gP rd))
        refine am_blk 87 [(.iinc 5 (1), 3, 5, 0, .int (1 : Int32)), (.goto (-56), 3, 0, 34, .null)] (34, [(0, .ref 53), (1, .int v1), (2, .int v2), (3, .int v3), (4, .int v4), (5, .int (v5 + (1 : Int32))), (6, .int (gWr (v5 * v3).toInt64.toInt v2)), (7, .int (gQu ((v4 * (2 : Int32)) * (if (v2 - (gWr (v5 * v3).toInt64.toInt v2)) < (gWr (v5 * v3).toInt64.toInt v2) then (v2 - (gWr (v5 * v3).toInt64.toInt v2)) else (gWr (v5 * v3).toInt64.toInt v2))) v2))], [], (gPut I 55 96 ((v1 * (24 : Int32)) + v5) (gQu ((v4 * (2 : Int32)) * (if (v2 - (gWr (v5 * v3).toInt64.toInt v2)) < (gWr (v5 * v3).toInt64.toInt v2) then (v2 - (gWr (v5 * v3).toInt64.toInt v2)) else (gWr (v5 * v3).toInt64.toInt v2))) v2)), G, (gP rd)) (True) hX hi (by decide +kernel) rfl trivial ?_
        refine am_sub (L' := [(0, .ref 53), (1, .int v1), (2, .int v2), (3, .int v3), (4, .int v4), (5, .int (v5 + (1 : Int32)))]) (by simp) ?_
        exact ih _ _ _ _ _ _ _ _ h
set_option maxRecDepth 20000 in
set_option maxHeartbeats 4000000 in
theorem c_X7_reckonShifts_53 (rd : Nat) (I : am_I) (G : am_G) (x1 : Int32) {out : Unit × am_I × am_G} (h : R_X7_reckonShifts_53 I G x1 = some out) : am_Ct mX7_reckonShifts 3 gS [.ref 53, .int x1] I G (gP rd) (pV out.2.1 out.2.2 (gP rd)) := by
  refine am_ofF (by decide +kernel) rfl (by decide) (by omega) (Nat.le_of_ble_eq_true rfl) (fun X ad hX hi => ?_)
  have hi : am_info X 7 cX7_reckonShifts 8 false none 3 := hi
  show am_V X 0 0 _ _ ad (0, [(0, .ref 53), (1, .int x1)], [], I, G, (gP rd))
  unfold R_X7_reckonShifts_53 at h
  refine am_blk 0 [(.aload_n 0, 1, 0, 0, .null), (.getfield 44, 3, 7, 0, .null), (.iload_n 1, 1, 1, 0, .null)] (5, [(0, .ref 53), (1, .int x1)], [.int x1, .ref 7], I, G, (gP rd)) (True) hX hi (by decide +kernel) rfl trivial ?_
  refine am_callV hX hi (M := mX5_linesOf) (idx := 216) (d' := 2) (b := 7) (ci := 5) (As := [.int x1]) (rest := []) mkX5_linesOf miX5_linesOf mvX5_linesOf (by decide +kernel) (by decide +kernel) rfl (by decide +kernel) rfl ⟨by omega, by decide, Nat.le_of_ble_eq_true rfl⟩ rfl (c_X5_linesOf_7 _ I G x1) ?_
  rintro r9 I9 G9 P9 ⟨e0, e1, e2, e3⟩
  rw [e0, e1, e2, e3]
  show am_V X 0 0 _ _ ad (8, [(0, .ref 53), (1, .int x1)], [.int (f_X5_linesOf_7 I G x1)], I, G, (gP rd))
  refine am_blk 8 [(.istore_n 2, 1, 2, 0, .null), (.aload_n 0, 1, 0, 0, .null), (.getfield 44, 3, 7, 0, .null), (.getfield 220, 3, 5, 5, .null), (.iload_n 1, 1, 1, 0, .null)] (17, [(0, .ref 53), (1, .int x1), (2, .int (f_X5_linesOf_7 I G x1))], [.int x1, .ref 13], I, G, (gP rd)) (True) hX hi (by decide +kernel) rfl trivial ?_
  refine am_callS hX hi (M := mX0_at) (idx := 85) (d' := 1) (As := [.ref 13, .int x1]) (rest := []) mkX0_at msX0_at (by decide +kernel) (by decide +kernel) rfl ⟨by omega, by decide, Nat.le_of_ble_eq_true rfl⟩ rfl (c_at rfl (by decide) x1) ?_
  rintro r9 I9 G9 P9 ⟨e0, e1, e2, e3⟩
  rw [e0, e1, e2, e3]
  show am_V X 0 0 _ _ ad (20, [(0, .ref 53), (1, .int x1), (2, .int (f_X5_linesOf_7 I G x1))], [.int (gAt (I 13) 4 x1)], I, G, (gP rd))
  refine am_blk 20 [(.istore_n 3, 1, 3, 0, .null), (.aload_n 0, 1, 0, 0, .null), (.getfield 9, 3, 7, 2, .null), (.iload_n 1, 1, 1, 0, .null)] (26, [(0, .ref 53), (1, .int x1), (2, .int (f_X5_linesOf_7 I G x1)), (3, .int (gAt (I 13) 4 x1))], [.int x1, .ref 54], I, G, (gP rd)) (True) hX hi (by decide +kernel) rfl trivial ?_
  refine am_callS hX hi (M := mX0_at) (idx := 85) (d' := 1) (As := [.ref 54, .int x1]) (rest := []) mkX0_at msX0_at (by decide +kernel) (by decide +kernel) rfl ⟨by omega, by decide, Nat.le_of_ble_eq_true rfl⟩ rfl (c_at rfl (by decide) x1) ?_
  rintro r9 I9 G9 P9 ⟨e0, e1, e2, e3⟩
  rw [e0, e1, e2, e3]
  show am_V X 0 0 _ _ ad (29, [(0, .ref 53), (1, .int x1), (2, .int (f_X5_linesOf_7 I G x1)), (3, .int (gAt (I 13) 4 x1))], [.int (gAt (I 54) 4 x1)], I, G, (gP rd))
  refine am_blk 29 [(.istore 4, 2, 4, 0, .null), (.iconst (0), 1, 0, 0, .int (0 : Int32)), (.istore 5, 2, 5, 0, .null)] (34, [(0, .ref 53), (1, .int x1), (2, .int (f_X5_linesOf_7 I G x1)), (3, .int (gAt (I 13) 4 x1)), (4, .int (gAt (I 54) 4 x1)), (5, .int (0 : Int32))], [], I, G, (gP rd)) (True) hX hi (by decide +kernel) rfl trivial ?_
  exact (l_X7_reckonShifts_53 rd hX hi FU) _ _ _ _ _ _ _ _ h
noncomputable def L_X7_reckonShifts_66 (n0 : Nat) (hd : Nat) (I : am_I) (G : am_G) (v1 : Int32) (v2 : Int32) (v3 : Int32) (v4 : Int32) (v5 : Int32) : Option (Unit × am_I × am_G) := match n0 with
  | 0 => none
  | n + 1 => match hd with
    | _ => (if v2 ≤ v5 then some ((), I, G) else L_X7_reckonShifts_66 n 0 (gPut I 68 96 ((v1 * (24 : Int32)) + v5) (gQu ((v4 * (2 : Int32)) * (if (v2 - (gWr (v5 * v3).toInt64.toInt v2)) < (gWr (v5 * v3).toInt64.toInt v2) then (v2 - (gWr (v5 * v3).toInt64.toInt v2)) else (gWr (v5 * v3).toInt64.toInt v2))) v2)) G v1 v2 v3 v4 (v5 + (1 : Int32)))
theorem L_X7_reckonShifts_66_0 (n : Nat) (I : am_I) (G : am_G) (v1 : Int32) (v2 : Int32) (v3 : Int32) (v4 : Int32) (v5 : Int32) : L_X7_reckonShifts_66 (n + 1) 0 I G v1 v2 v3 v4 v5 = (if v2 ≤ v5 then some ((), I, G) else L_X7_reckonShifts_66 n 0 (gPut I 68 96 ((v1 * (24 : Int32)) + v5) (gQu ((v4 * (2 : Int32)) * (if (v2 - (gWr (v5 * v3).toInt64.toInt v2)) < (gWr (v5 * v3).toInt64.toInt v2) then (v2 - (gWr (v5 * v3).toInt64.toInt v2)) else (gWr (v5 * v3).toInt64.toInt v2))) v2)) G v1 v2 v3 v4 (v5 + (1 : Int32))) := rfl
theorem L_X7_reckonShifts_66_z (h : Nat) (I : am_I) (G : am_G) (v1 : Int32) (v2 : Int32) (v3 : Int32) (v4 : Int32) (v5 : Int32) : L_X7_reckonShifts_66 0 h I G v1 v2 v3 v4 v5 = none := rfl
noncomputable def R_X7_reckonShifts_66 (I : am_I) (G : am_G) (x1 : Int32) : Option (Unit × am_I × am_G) := L_X7_reckonShifts_66 FU 0 I G x1 (f_X5_linesOf_7 I G x1) (gAt (I 13) 4 x1) (gAt (I 67) 4 x1) (0 : Int32)
set_option maxRecDepth 20000 in
set_option maxHeartbeats 4000000 in
theorem l_X7_reckonShifts_66 (rd : Nat) {X : am_X} {ad : Nat → Nat} (hX : am_okz X ad) (hi : am_info X 7 cX7_reckonShifts 8 false none 3) (n : Nat) : (∀ (I : am_I) (G : am_G) (v1 : Int32) (v2 : Int32) (v3 : Int32) (v4 : Int32) (v5 : Int32) (out : Unit × am_I × am_G), L_X7_reckonShifts_66 n 0 I G v1 v2 v3 v4 v5 = some out → am_V X 0 0 (am_Rt X gS ad (pV out.2.1 out.2.2 (gP rd))) gS ad (34, [(0, .ref 66), (1, .int v1), (2, .int v2), (3, .int v3), (4, .int v4), (5, .int v5)], [], I, G, (gP rd))) := by
  induction n with
  | zero => exact fun I G v1 v2 v3 v4 v5 out h => by rw [L_X7_reckonShifts_66_z] at h; cases h
  | succ n ih =>
    · intro I G v1 v2 v3 v4 v5 out h
      rw [L_X7_reckonShifts_66_0] at h
      refine am_blk 34 [(.iload 5, 2, 5, 0, .null), (.iload_n 2, 1, 2, 0, .null)] (37, [(0, .ref 66), (1, .int v1), (2, .int v2), (3, .int v3), (4, .int v4), (5, .int v5)], [.int v2, .int v5], I, G, (gP rd)) (True) hX hi (by decide +kernel) rfl trivial ?_
      refine am_icmp_ge (tgt := 93) hX hi (off := (56)) (by decide +kernel) (by decide) (fun c37 => ?_) (fun c37 => ?_)
      · rw [if_pos c37] at h
        cases h
        refine am_vret hX hi rfl (by decide +kernel) ?_
        exact ⟨rfl, rfl, rfl, rfl⟩
      · rw [if_neg c37] at h
        refine am_blk 40 [(.iload 5, 2, 5, 0, .null), (.iload_n 3, 1, 3, 0, .null), (.imul, 1, 0, 0, .null), (.i2l, 1, 0, 0, .null), (.iload_n 2, 1, 2, 0, .null)] (46, [(0, .ref 66), (1, .int v1), (2, .int v2), (3, .int v3), (4, .int v4), (5, .int v5)], [.int v2, .long (v5 * v3).toInt64], I, G, (gP rd)) (True) hX hi (by decide +kernel) rfl trivial ?_
        refine am_callS hX hi (M := mX0_wrap) (idx := 107) (d' := 2) (As := [.long (v5 * v3).toInt64, .int v2]) (rest := []) mkX0_wrap msX0_wrap (by decide +kernel) (by decide +kernel) rfl ⟨by omega, by decide, Nat.le_of_ble_eq_true rfl⟩ rfl (c_wrap (v5 * v3).toInt64 v2) ?_
        rintro r9 I9 G9 P9 ⟨e0, e1, e2, e3⟩
        rw [e0, e1, e2, e3]
        show am_V X 0 0 _ _ ad (49, [(0, .ref 66), (1, .int v1), (2, .int v2), (3, .int v3), (4, .int v4), (5, .int v5)], [.int (gWr (v5 * v3).toInt64.toInt v2)], I, G, (gP rd))
        refine am_blk 49 [(.istore 6, 2, 6, 0, .null), (.iload 4, 2, 4, 0, .null), (.iconst (2), 1, 0, 0, .int (2 : Int32)), (.imul, 1, 0, 0, .null), (.iload 6, 2, 6, 0, .null), (.iload_n 2, 1, 2, 0, .null), (.iload 6, 2, 6, 0, .null), (.isub, 1, 0, 0, .null), (.invokestatic 204, 3, 1, 0, .null), (.imul, 1, 0, 0, .null), (.iload_n 2, 1, 2, 0, .null)] (66, [(0, .ref 66), (1, .int v1), (2, .int v2), (3, .int v3), (4, .int v4), (5, .int v5), (6, .int (gWr (v5 * v3).toInt64.toInt v2))], [.int v2, .int ((v4 * (2 : Int32)) * (if (v2 - (gWr (v5 * v3).toInt64.toInt v2)) < (gWr (v5 * v3).toInt64.toInt v2) then (v2 - (gWr (v5 * v3).toInt64.toInt v2)) else (gWr (v5 * v3).toInt64.toInt v2)))], I, G, (gP rd)) (True) hX hi (by decide +kernel) rfl trivial ?_
        refine am_callS hX hi (M := mX0_quotient) (idx := 201) (d' := 1) (As := [.int ((v4 * (2 : Int32)) * (if (v2 - (gWr (v5 * v3).toInt64.toInt v2)) < (gWr (v5 * v3).toInt64.toInt v2) then (v2 - (gWr (v5 * v3).toInt64.toInt v2)) else (gWr (v5 * v3).toInt64.toInt v2))), .int v2]) (rest := []) mkX0_quotient msX0_quotient (by decide +kernel) (by decide +kernel) rfl ⟨by omega, by decide, Nat.le_of_ble_eq_true rfl⟩ rfl (c_quot ((v4 * (2 : Int32)) * (if (v2 - (gWr (v5 * v3).toInt64.toInt v2)) < (gWr (v5 * v3).toInt64.toInt v2) then (v2 - (gWr (v5 * v3).toInt64.toInt v2)) else (gWr (v5 * v3).toInt64.toInt v2))) v2) ?_
        rintro r9 I9 G9 P9 ⟨e0, e1, e2, e3⟩
        rw [e0, e1, e2, e3]
        show am_V X 0 0 _ _ ad (69, [(0, .ref 66), (1, .int v1), (2, .int v2), (3, .int v3), (4, .int v4), (5, .int v5), (6, .int (gWr (v5 * v3).toInt64.toInt v2))], [.int (gQu ((v4 * (2 : Int32)) * (if (v2 - (gWr (v5 * v3).toInt64.toInt v2)) < (gWr (v5 * v3).toInt64.toInt v2) then (v2 - (gWr (v5 * v3).toInt64.toInt v2)) else (gWr (v5 * v3).toInt64.toInt v2))) v2)], I, G, (gP rd))
        refine am_blk 69 [(.istore 7, 2, 7, 0, .null), (.aload_n 0, 1, 0, 0, .null), (.getfield 15, 3, 7, 3, .null), (.iload_n 1, 1, 1, 0, .null), (.bipush (24), 2, 0, 0, .int (24 : Int32)), (.imul, 1, 0, 0, .null), (.iload 5, 2, 5, 0, .null), (.iadd, 1, 0, 0, .null), (.iload 7, 2, 7, 0, .null)] (84, [(0, .ref 66), (1, .int v1), (2, .int v2), (3, .int v3), (4, .int v4), (5, .int v5), (6, .int (gWr (v5 * v3).toInt64.toInt v2)), (7, .int (gQu ((v4 * (2 : Int32)) * (if (v2 - (gWr (v5 * v3).toInt64.toInt v2)) < (gWr (v5 * v3).toInt64.toInt v2) then (v2 - (gWr (v5 * v3).toInt64.toInt v2)) else (gWr (v5 * v3).toInt64.toInt v2))) v2))], [.int (gQu ((v4 * (2 : Int32)) * (if (v2 - (gWr (v5 * v3).toInt64.toInt v2)) < (gWr (v5 * v3).toInt64.toInt v2) then (v2 - (gWr (v5 * v3).toInt64.toInt v2)) else (gWr (v5 * v3).toInt64.toInt v2))) v2), .int ((v1 * (24 : Int32)) + v5), .ref 68], I, G, (gP rd)) (True) hX hi (by decide +kernel) rfl trivial ?_
        refine am_callS hX hi (M := mX0_put) (idx := 89) (d' := 1) (As := [.ref 68, .int ((v1 * (24 : Int32)) + v5), .int (gQu ((v4 * (2 : Int32)) * (if (v2 - (gWr (v5 * v3).toInt64.toInt v2)) < (gWr (v5 * v3).toInt64.toInt v2) then (v2 - (gWr (v5 * v3).toInt64.toInt v2)) else (gWr (v5 * v3).toInt64.toInt v2))) v2)]) (rest := []) mkX0_put msX0_put (by decide +kernel) (by decide +kernel) rfl ⟨by omega, by decide, Nat.le_of_ble_eq_true rfl⟩ rfl (c_put rfl (by decide) ((v1 * (24 : Int32)) + v5) (gQu ((v4 * (2 : Int32)) * (if (v2 - (gWr (v5 * v3).toInt64.toInt v2)) < (gWr (v5 * v3).toInt64.toInt v2) then (v2 - (gWr (v5 * v3).toInt64.toInt v2)) else (gWr (v5 * v3).toInt64.toInt v2))) v2)) ?_
        rintro r9 I9 G9 P9 ⟨e0, e1, e2, e3⟩
        rw [e0, e1, e2, e3]
        show am_V X 0 0 _ _ ad (87, [(0, .ref 66), (1, .int v1), (2, .int v2), (3, .int v3), (4, .int v4), (5, .int v5), (6, .int (gWr (v5 * v3).toInt64.toInt v2)), (7, .int (gQu ((v4 * (2 : Int32)) * (if (v2 - (gWr (v5 * v3).toInt64.toInt v2)) < (gWr (v5 * v3).toInt64.toInt v2) then (v2 - (gWr (v5 * v3).toInt64.toInt v2)) else (gWr (v5 * v3).toInt64.toInt v2))) v2))], [], (gPut I 68 96 ((v1 * (24 : Int32)) + v5) (gQu ((v4 * (2 : Int32)) * (if (v2 - (gWr (v5 * v3).toInt64.toInt v2)) < (gWr (v5 * v3).toInt64.toInt v2) then (v2 - (gWr (v5 * v3).toInt64.toInt v2)) else (gWr (v5 * v3).toInt64.toInt v2))) v2)), G, (gP rd))
        refine am_blk 87 [(.iinc 5 (1), 3, 5, 0, .int (1 : Int32)), (.goto (-56), 3, 0, 34, .null)] (34, [(0, .ref 66), (1, .int v1), (2, .int v2), (3, .int v3), (4, .int v4), (5, .int (v5 + (1 : Int32))), (6, .int (gWr (v5 * v3).toInt64.toInt v2)), (7, .int (gQu ((v4 * (2 : Int32)) * (if (v2 - (gWr (v5 * v3).toInt64.toInt v2)) < (gWr (v5 * v3).toInt64.toInt v2) then (v2 - (gWr (v5 * v3).toInt64.toInt v2)) else (gWr (v5 * v3).toInt64.toInt v2))) v2))], [], (gPut I 68 96 ((v1 * (24 : Int32)) + v5) (gQu ((v4 * (2 : Int32)) * (if (v2 - (gWr (v5 * v3).toInt64.toInt v2)) < (gWr (v5 * v3).toInt64.toInt v2) then (v2 - (gWr (v5 * v3).toInt64.toInt v2)) else (gWr (v5 * v3).toInt64.toInt v2))) v2)), G, (gP rd)) (True) hX hi (by decide +kernel) rfl trivial ?_
        refine am_sub (L' := [(0, .ref 66), (1, .int v1), (2, .int v2), (3, .int v3), (4, .int v4), (5, .int (v5 + (1 : Int32)))]) (by simp) ?_
        exact ih _ _ _ _ _ _ _ _ h
set_option maxRecDepth 20000 in
set_option maxHeartbeats 4000000 in
theorem c_X7_reckonShifts_66 (rd : Nat) (I : am_I) (G : am_G) (x1 : Int32) {out : Unit × am_I × am_G} (h : R_X7_reckonShifts_66 I G x1 = some out) : am_Ct mX7_reckonShifts 3 gS [.ref 66, .int x1] I G (gP rd) (pV out.2.1 out.2.2 (gP rd)) := by
  refine am_ofF (by decide +kernel) rfl (by decide) (by omega) (Nat.le_of_ble_eq_true rfl) (fun X ad hX hi => ?_)
  have hi : am_info X 7 cX7_reckonShifts 8 false none 3 := hi
  show am_V X 0 0 _ _ ad (0, [(0, .ref 66), (1, .int x1)], [], I, G, (gP rd))
  unfold R_X7_reckonShifts_66 at h
  refine am_blk 0 [(.aload_n 0, 1, 0, 0, .null), (.getfield 44, 3, 7, 0, .null), (.iload_n 1, 1, 1, 0, .null)] (5, [(0, .ref 66), (1, .int x1)], [.int x1, .ref 7], I, G, (gP rd)) (True) hX hi (by decide +kernel) rfl trivial ?_
  refine am_callV hX hi (M := mX5_linesOf) (idx := 216) (d' := 2) (b := 7) (ci := 5) (As := [.int x1]) (rest := []) mkX5_linesOf miX5_linesOf mvX5_linesOf (by decide +kernel) (by decide +kernel) rfl (by decide +kernel) rfl ⟨by omega, by decide, Nat.le_of_ble_eq_true rfl⟩ rfl (c_X5_linesOf_7 _ I G x1) ?_
  rintro r9 I9 G9 P9 ⟨e0, e1, e2, e3⟩
  rw [e0, e1, e2, e3]
  show am_V X 0 0 _ _ ad (8, [(0, .ref 66), (1, .int x1)], [.int (f_X5_linesOf_7 I G x1)], I, G, (gP rd))
  refine am_blk 8 [(.istore_n 2, 1, 2, 0, .null), (.aload_n 0, 1, 0, 0, .null), (.getfield 44, 3, 7, 0, .null), (.getfield 220, 3, 5, 5, .null), (.iload_n 1, 1, 1, 0, .null)] (17, [(0, .ref 66), (1, .int x1), (2, .int (f_X5_linesOf_7 I G x1))], [.int x1, .ref 13], I, G, (gP rd)) (True) hX hi (by decide +kernel) rfl trivial ?_
  refine am_callS hX hi (M := mX0_at) (idx := 85) (d' := 1) (As := [.ref 13, .int x1]) (rest := []) mkX0_at msX0_at (by decide +kernel) (by decide +kernel) rfl ⟨by omega, by decide, Nat.le_of_ble_eq_true rfl⟩ rfl (c_at rfl (by decide) x1) ?_
  rintro r9 I9 G9 P9 ⟨e0, e1, e2, e3⟩
  rw [e0, e1, e2, e3]
  show am_V X 0 0 _ _ ad (20, [(0, .ref 66), (1, .int x1), (2, .int (f_X5_linesOf_7 I G x1))], [.int (gAt (I 13) 4 x1)], I, G, (gP rd))
  refine am_blk 20 [(.istore_n 3, 1, 3, 0, .null), (.aload_n 0, 1, 0, 0, .null), (.getfield 9, 3, 7, 2, .null), (.iload_n 1, 1, 1, 0, .null)] (26, [(0, .ref 66), (1, .int x1), (2, .int (f_X5_linesOf_7 I G x1)), (3, .int (gAt (I 13) 4 x1))], [.int x1, .ref 67], I, G, (gP rd)) (True) hX hi (by decide +kernel) rfl trivial ?_
  refine am_callS hX hi (M := mX0_at) (idx := 85) (d' := 1) (As := [.ref 67, .int x1]) (rest := []) mkX0_at msX0_at (by decide +kernel) (by decide +kernel) rfl ⟨by omega, by decide, Nat.le_of_ble_eq_true rfl⟩ rfl (c_at rfl (by decide) x1) ?_
  rintro r9 I9 G9 P9 ⟨e0, e1, e2, e3⟩
  rw [e0, e1, e2, e3]
  show am_V X 0 0 _ _ ad (29, [(0, .ref 66), (1, .int x1), (2, .int (f_X5_linesOf_7 I G x1)), (3, .int (gAt (I 13) 4 x1))], [.int (gAt (I 67) 4 x1)], I, G, (gP rd))
  refine am_blk 29 [(.istore 4, 2, 4, 0, .null), (.iconst (0), 1, 0, 0, .int (0 : Int32)), (.istore 5, 2, 5, 0, .null)] (34, [(0, .ref 66), (1, .int x1), (2, .int (f_X5_linesOf_7 I G x1)), (3, .int (gAt (I 13) 4 x1)), (4, .int (gAt (I 67) 4 x1)), (5, .int (0 : Int32))], [], I, G, (gP rd)) (True) hX hi (by decide +kernel) rfl trivial ?_
  exact (l_X7_reckonShifts_66 rd hX hi FU) _ _ _ _ _ _ _ _ h
noncomputable def L_X7_source_53 (n0 : Nat) (hd : Nat) (I : am_I) (G : am_G) (v1 : Int32) (v2 : Int32) (v3 : Int32) (v4 : Int32) (v5 : Int32) : Option (Int32 × am_I × am_G) := match n0 with
  | 0 => none
  | n + 1 => match hd with
    | _ => (if v5 < 0 then some ((f_X5_spot_7 I G (v3 - (I 53 10)) (v4 - (I 53 11))), I, G) else (if (gAt (I 12) 4 v5) = 0 then L_X7_source_53 n 0 I G v1 v2 (gWr (v3 - (f_X7_shiftOf_53 I G v5 v4)).toInt64.toInt (I 7 9)) v4 (v5 + (-1 : Int32)) else L_X7_source_53 n 0 I G v1 v2 v3 (gWr (v4 - (f_X7_shiftOf_53 I G v5 v3)).toInt64.toInt (I 7 10)) (v5 + (-1 : Int32))))
theorem L_X7_source_53_0 (n : Nat) (I : am_I) (G : am_G) (v1 : Int32) (v2 : Int32) (v3 : Int32) (v4 : Int32) (v5 : Int32) : L_X7_source_53 (n + 1) 0 I G v1 v2 v3 v4 v5 = (if v5 < 0 then some ((f_X5_spot_7 I G (v3 - (I 53 10)) (v4 - (I 53 11))), I, G) else (if (gAt (I 12) 4 v5) = 0 then L_X7_source_53 n 0 I G v1 v2 (gWr (v3 - (f_X7_shiftOf_53 I G v5 v4)).toInt64.toInt (I 7 9)) v4 (v5 + (-1 : Int32)) else L_X7_source_53 n 0 I G v1 v2 v3 (gWr (v4 - (f_X7_shiftOf_53 I G v5 v3)).toInt64.toInt (I 7 10)) (v5 + (-1 : Int32)))) := rfl
theorem L_X7_source_53_z (h : Nat) (I : am_I) (G : am_G) (v1 : Int32) (v2 : Int32) (v3 : Int32) (v4 : Int32) (v5 : Int32) : L_X7_source_53 0 h I G v1 v2 v3 v4 v5 = none := rfl
noncomputable def R_X7_source_53 (I : am_I) (G : am_G) (x1 : Int32) (x2 : Int32) : Option (Int32 × am_I × am_G) := L_X7_source_53 FU 0 I G x1 x2 (gWr x1.toInt64.toInt (I 7 9)) (gWr x2.toInt64.toInt (I 7 10)) ((I 7 12) - (1 : Int32))
set_option maxRecDepth 20000 in
set_option maxHeartbeats 4000000 in
theorem l_X7_source_53 (rd : Nat) {X : am_X} {ad : Nat → Nat} (hX : am_okz X ad) (hi : am_info X 7 cX7_source 6 false (Option.some Jvm.ClassFile.FieldType.int) 4) (n : Nat) : (∀ (I : am_I) (G : am_G) (v1 : Int32) (v2 : Int32) (v3 : Int32) (v4 : Int32) (v5 : Int32) (out : Int32 × am_I × am_G), L_X7_source_53 n 0 I G v1 v2 v3 v4 v5 = some out → am_V X 0 0 (am_Rt X gS ad (pI out.1 out.2.1 out.2.2 (gP rd))) gS ad (38, [(0, .ref 53), (1, .int v1), (2, .int v2), (3, .int v3), (4, .int v4), (5, .int v5)], [], I, G, (gP rd))) := by
  induction n with
  | zero => exact fun I G v1 v2 v3 v4 v5 out h => by rw [L_X7_source_53_z] at h; cases h
  | succ n ih =>
    · intro I G v1 v2 v3 v4 v5 out h
      rw [L_X7_source_53_0] at h
      refine am_blk 38 [(.iload 5, 2, 5, 0, .null)] (40, [(0, .ref 53), (1, .int v1), (2, .int v2), (3, .int v3), (4, .int v4), (5, .int v5)], [.int v5], I, G, (gP rd)) (True) hX hi (by decide +kernel) rfl trivial ?_
      refine am_if_lt (tgt := 112) hX hi (off := (72)) (by decide +kernel) (by decide) (fun c40 => ?_) (fun c40 => ?_)
      · rw [if_pos c40] at h
        refine am_blk 112 [(.aload_n 0, 1, 0, 0, .null), (.getfield 44, 3, 7, 0, .null), (.iload_n 3, 1, 3, 0, .null), (.aload_n 0, 1, 0, 0, .null), (.getfield 52, 3, 7, 10, .null), (.isub, 1, 0, 0, .null), (.iload 4, 2, 4, 0, .null), (.aload_n 0, 1, 0, 0, .null), (.getfield 56, 3, 7, 11, .null), (.isub, 1, 0, 0, .null)] (129, [(0, .ref 53), (1, .int v1), (2, .int v2), (3, .int v3), (4, .int v4), (5, .int v5)], [.int (v4 - (I 53 11)), .int (v3 - (I 53 10)), .ref 7], I, G, (gP rd)) (True) hX hi (by decide +kernel) rfl trivial ?_
        refine am_callV hX hi (M := mX5_spot) (idx := 195) (d' := 3) (b := 7) (ci := 5) (As := [.int (v3 - (I 53 10)), .int (v4 - (I 53 11))]) (rest := []) mkX5_spot miX5_spot mvX5_spot (by decide +kernel) (by decide +kernel) rfl (by decide +kernel) rfl ⟨by omega, by decide, Nat.le_of_ble_eq_true rfl⟩ rfl (c_X5_spot_7 _ I G (v3 - (I 53 10)) (v4 - (I 53 11))) ?_
        rintro r9 I9 G9 P9 ⟨e0, e1, e2, e3⟩
        rw [e0, e1, e2, e3]
        show am_V X 0 0 _ _ ad (132, [(0, .ref 53), (1, .int v1), (2, .int v2), (3, .int v3), (4, .int v4), (5, .int v5)], [.int (f_X5_spot_7 I G (v3 - (I 53 10)) (v4 - (I 53 11)))], I, G, (gP rd))
        cases h
        refine am_iret hX hi rfl rfl (by decide +kernel) ?_
        exact ⟨rfl, rfl, rfl, rfl⟩
      · rw [if_neg c40] at h
        refine am_blk 43 [(.aload_n 0, 1, 0, 0, .null), (.getfield 44, 3, 7, 0, .null), (.getfield 223, 3, 5, 4, .null), (.iload 5, 2, 5, 0, .null)] (52, [(0, .ref 53), (1, .int v1), (2, .int v2), (3, .int v3), (4, .int v4), (5, .int v5)], [.int v5, .ref 12], I, G, (gP rd)) (True) hX hi (by decide +kernel) rfl trivial ?_
        refine am_callS hX hi (M := mX0_at) (idx := 85) (d' := 1) (As := [.ref 12, .int v5]) (rest := []) mkX0_at msX0_at (by decide +kernel) (by decide +kernel) rfl ⟨by omega, by decide, Nat.le_of_ble_eq_true rfl⟩ rfl (c_at rfl (by decide) v5) ?_
        rintro r9 I9 G9 P9 ⟨e0, e1, e2, e3⟩
        rw [e0, e1, e2, e3]
        show am_V X 0 0 _ _ ad (55, [(0, .ref 53), (1, .int v1), (2, .int v2), (3, .int v3), (4, .int v4), (5, .int v5)], [.int (gAt (I 12) 4 v5)], I, G, (gP rd))
        refine am_if_ne (tgt := 83) hX hi (off := (28)) (by decide +kernel) (by decide) (fun c55 => ?_) (fun c55 => ?_)
        · rw [if_neg c55] at h
          refine am_blk 83 [(.iload 4, 2, 4, 0, .null), (.aload_n 0, 1, 0, 0, .null), (.iload 5, 2, 5, 0, .null), (.iload_n 3, 1, 3, 0, .null)] (89, [(0, .ref 53), (1, .int v1), (2, .int v2), (3, .int v3), (4, .int v4), (5, .int v5)], [.int v3, .int v5, .ref 53, .int v4], I, G, (gP rd)) (True) hX hi (by decide +kernel) rfl trivial ?_
          refine am_callV hX hi (M := mX7_shiftOf) (idx := 226) (d' := 2) (b := 53) (ci := 7) (As := [.int v5, .int v3]) (rest := [.int v4]) mkX7_shiftOf miX7_shiftOf mvX7_shiftOf (by decide +kernel) (by decide +kernel) rfl (by decide +kernel) rfl ⟨by omega, by decide, Nat.le_of_ble_eq_true rfl⟩ rfl (c_X7_shiftOf_53 _ I G v5 v3) ?_
          rintro r9 I9 G9 P9 ⟨e0, e1, e2, e3⟩
          rw [e0, e1, e2, e3]
          show am_V X 0 0 _ _ ad (92, [(0, .ref 53), (1, .int v1), (2, .int v2), (3, .int v3), (4, .int v4), (5, .int v5)], [.int (f_X7_shiftOf_53 I G v5 v3), .int v4], I, G, (gP rd))
          refine am_blk 92 [(.isub, 1, 0, 0, .null), (.i2l, 1, 0, 0, .null), (.aload_n 0, 1, 0, 0, .null), (.getfield 44, 3, 7, 0, .null), (.getfield 111, 3, 5, 10, .null)] (101, [(0, .ref 53), (1, .int v1), (2, .int v2), (3, .int v3), (4, .int v4), (5, .int v5)], [.int (I 7 10), .long (v4 - (f_X7_shiftOf_53 I G v5 v3)).toInt64], I, G, (gP rd)) (True) hX hi (by decide +kernel) rfl trivial ?_
          refine am_callS hX hi (M := mX0_wrap) (idx := 107) (d' := 2) (As := [.long (v4 - (f_X7_shiftOf_53 I G v5 v3)).toInt64, .int (I 7 10)]) (rest := []) mkX0_wrap msX0_wrap (by decide +kernel) (by decide +kernel) rfl ⟨by omega, by decide, Nat.le_of_ble_eq_true rfl⟩ rfl (c_wrap (v4 - (f_X7_shiftOf_53 I G v5 v3)).toInt64 (I 7 10)) ?_
          rintro r9 I9 G9 P9 ⟨e0, e1, e2, e3⟩
          rw [e0, e1, e2, e3]
          show am_V X 0 0 _ _ ad (104, [(0, .ref 53), (1, .int v1), (2, .int v2), (3, .int v3), (4, .int v4), (5, .int v5)], [.int (gWr (v4 - (f_X7_shiftOf_53 I G v5 v3)).toInt64.toInt (I 7 10))], I, G, (gP rd))
          refine am_blk 104 [(.istore 4, 2, 4, 0, .null), (.iinc 5 (-1), 3, 5, 0, .int (-1 : Int32)), (.goto (-71), 3, 0, 38, .null)] (38, [(0, .ref 53), (1, .int v1), (2, .int v2), (3, .int v3), (4, .int (gWr (v4 - (f_X7_shiftOf_53 I G v5 v3)).toInt64.toInt (I 7 10))), (5, .int (v5 + (-1 : Int32)))], [], I, G, (gP rd)) (True) hX hi (by decide +kernel) rfl trivial ?_
          exact ih _ _ _ _ _ _ _ _ h
        · rw [if_pos c55] at h
          refine am_blk 58 [(.iload_n 3, 1, 3, 0, .null), (.aload_n 0, 1, 0, 0, .null), (.iload 5, 2, 5, 0, .null), (.iload 4, 2, 4, 0, .null)] (64, [(0, .ref 53), (1, .int v1), (2, .int v2), (3, .int v3), (4, .int v4), (5, .int v5)], [.int v4, .int v5, .ref 53, .int v3], I, G, (gP rd)) (True) hX hi (by decide +kernel) rfl trivial ?_
          refine am_callV hX hi (M := mX7_shiftOf) (idx := 226) (d' := 2) (b := 53) (ci := 7) (As := [.int v5, .int v4]) (rest := [.int v3]) mkX7_shiftOf miX7_shiftOf mvX7_shiftOf (by decide +kernel) (by decide +kernel) rfl (by decide +kernel) rfl ⟨by omega, by decide, Nat.le_of_ble_eq_true rfl⟩ rfl (c_X7_shiftOf_53 _ I G v5 v4) ?_
          rintro r9 I9 G9 P9 ⟨e0, e1, e2, e3⟩
          rw [e0, e1, e2, e3]
          show am_V X 0 0 _ _ ad (67, [(0, .ref 53), (1, .int v1), (2, .int v2), (3, .int v3), (4, .int v4), (5, .int v5)], [.int (f_X7_shiftOf_53 I G v5 v4), .int v3], I, G, (gP rd))
          refine am_blk 67 [(.isub, 1, 0, 0, .null), (.i2l, 1, 0, 0, .null), (.aload_n 0, 1, 0, 0, .null), (.getfield 44, 3, 7, 0, .null), (.getfield 104, 3, 5, 9, .null)] (76, [(0, .ref 53), (1, .int v1), (2, .int v2), (3, .int v3), (4, .int v4), (5, .int v5)], [.int (I 7 9), .long (v3 - (f_X7_shiftOf_53 I G v5 v4)).toInt64], I, G, (gP rd)) (True) hX hi (by decide +kernel) rfl trivial ?_
          refine am_callS hX hi (M := mX0_wrap) (idx := 107) (d' := 2) (As := [.long (v3 - (f_X7_shiftOf_53 I G v5 v4)).toInt64, .int (I 7 9)]) (rest := []) mkX0_wrap msX0_wrap (by decide +kernel) (by decide +kernel) rfl ⟨by omega, by decide, Nat.le_of_ble_eq_true rfl⟩ rfl (c_wrap (v3 - (f_X7_shiftOf_53 I G v5 v4)).toInt64 (I 7 9)) ?_
          rintro r9 I9 G9 P9 ⟨e0, e1, e2, e3⟩
          rw [e0, e1, e2, e3]
          show am_V X 0 0 _ _ ad (79, [(0, .ref 53), (1, .int v1), (2, .int v2), (3, .int v3), (4, .int v4), (5, .int v5)], [.int (gWr (v3 - (f_X7_shiftOf_53 I G v5 v4)).toInt64.toInt (I 7 9))], I, G, (gP rd))
          refine am_blk 79 [(.istore_n 3, 1, 3, 0, .null), (.goto (26), 3, 0, 106, .null), (.iinc 5 (-1), 3, 5, 0, .int (-1 : Int32)), (.goto (-71), 3, 0, 38, .null)] (38, [(0, .ref 53), (1, .int v1), (2, .int v2), (3, .int (gWr (v3 - (f_X7_shiftOf_53 I G v5 v4)).toInt64.toInt (I 7 9))), (4, .int v4), (5, .int (v5 + (-1 : Int32)))], [], I, G, (gP rd)) (True) hX hi (by decide +kernel) rfl trivial ?_
          exact ih _ _ _ _ _ _ _ _ h
set_option maxRecDepth 20000 in
set_option maxHeartbeats 4000000 in
theorem c_X7_source_53 (rd : Nat) (I : am_I) (G : am_G) (x1 : Int32) (x2 : Int32) {out : Int32 × am_I × am_G} (h : R_X7_source_53 I G x1 x2 = some out) : am_Ct mX7_source 4 gS [.ref 53, .int x1, .int x2] I G (gP rd) (pI out.1 out.2.1 out.2.2 (gP rd)) := by
  refine am_ofF (by decide +kernel) rfl (by decide) (by omega) (Nat.le_of_ble_eq_true rfl) (fun X ad hX hi => ?_)
  have hi : am_info X 7 cX7_source 6 false (Option.some Jvm.ClassFile.FieldType.int) 4 := hi
  show am_V X 0 0 _ _ ad (0, [(0, .ref 53), (1, .int x1), (2, .int x2)], [], I, G, (gP rd))
  unfold R_X7_source_53 at h
  refine am_blk 0 [(.iload_n 1, 1, 1, 0, .null), (.i2l, 1, 0, 0, .null), (.aload_n 0, 1, 0, 0, .null), (.getfield 44, 3, 7, 0, .null), (.getfield 104, 3, 5, 9, .null)] (9, [(0, .ref 53), (1, .int x1), (2, .int x2)], [.int (I 7 9), .long x1.toInt64], I, G, (gP rd)) (True) hX hi (by decide +kernel) rfl trivial ?_
  refine am_callS hX hi (M := mX0_wrap) (idx := 107) (d' := 2) (As := [.long x1.toInt64, .int (I 7 9)]) (rest := []) mkX0_wrap msX0_wrap (by decide +kernel) (by decide +kernel) rfl ⟨by omega, by decide, Nat.le_of_ble_eq_true rfl⟩ rfl (c_wrap x1.toInt64 (I 7 9)) ?_
  rintro r9 I9 G9 P9 ⟨e0, e1, e2, e3⟩
  rw [e0, e1, e2, e3]
  show am_V X 0 0 _ _ ad (12, [(0, .ref 53), (1, .int x1), (2, .int x2)], [.int (gWr x1.toInt64.toInt (I 7 9))], I, G, (gP rd))
  refine am_blk 12 [(.istore_n 3, 1, 3, 0, .null), (.iload_n 2, 1, 2, 0, .null), (.i2l, 1, 0, 0, .null), (.aload_n 0, 1, 0, 0, .null), (.getfield 44, 3, 7, 0, .null), (.getfield 111, 3, 5, 10, .null)] (22, [(0, .ref 53), (1, .int x1), (2, .int x2), (3, .int (gWr x1.toInt64.toInt (I 7 9)))], [.int (I 7 10), .long x2.toInt64], I, G, (gP rd)) (True) hX hi (by decide +kernel) rfl trivial ?_
  refine am_callS hX hi (M := mX0_wrap) (idx := 107) (d' := 2) (As := [.long x2.toInt64, .int (I 7 10)]) (rest := []) mkX0_wrap msX0_wrap (by decide +kernel) (by decide +kernel) rfl ⟨by omega, by decide, Nat.le_of_ble_eq_true rfl⟩ rfl (c_wrap x2.toInt64 (I 7 10)) ?_
  rintro r9 I9 G9 P9 ⟨e0, e1, e2, e3⟩
  rw [e0, e1, e2, e3]
  show am_V X 0 0 _ _ ad (25, [(0, .ref 53), (1, .int x1), (2, .int x2), (3, .int (gWr x1.toInt64.toInt (I 7 9)))], [.int (gWr x2.toInt64.toInt (I 7 10))], I, G, (gP rd))
  refine am_blk 25 [(.istore 4, 2, 4, 0, .null), (.aload_n 0, 1, 0, 0, .null), (.getfield 44, 3, 7, 0, .null), (.getfield 82, 3, 5, 12, .null), (.iconst (1), 1, 0, 0, .int (1 : Int32)), (.isub, 1, 0, 0, .null), (.istore 5, 2, 5, 0, .null)] (38, [(0, .ref 53), (1, .int x1), (2, .int x2), (3, .int (gWr x1.toInt64.toInt (I 7 9))), (4, .int (gWr x2.toInt64.toInt (I 7 10))), (5, .int ((I 7 12) - (1 : Int32)))], [], I, G, (gP rd)) (True) hX hi (by decide +kernel) rfl trivial ?_
  exact (l_X7_source_53 rd hX hi FU) _ _ _ _ _ _ _ _ h
noncomputable def L_X7_source_66 (n0 : Nat) (hd : Nat) (I : am_I) (G : am_G) (v1 : Int32) (v2 : Int32) (v3 : Int32) (v4 : Int32) (v5 : Int32) : Option (Int32 × am_I × am_G) := match n0 with
  | 0 => none
  | n + 1 => match hd with
    | _ => (if v5 < 0 then some ((f_X5_spot_7 I G (v3 - (I 66 10)) (v4 - (I 66 11))), I, G) else (if (gAt (I 12) 4 v5) = 0 then L_X7_source_66 n 0 I G v1 v2 (gWr (v3 - (f_X7_shiftOf_66 I G v5 v4)).toInt64.toInt (I 7 9)) v4 (v5 + (-1 : Int32)) else L_X7_source_66 n 0 I G v1 v2 v3 (gWr (v4 - (f_X7_shiftOf_66 I G v5 v3)).toInt64.toInt (I 7 10)) (v5 + (-1 : Int32))))
theorem L_X7_source_66_0 (n : Nat) (I : am_I) (G : am_G) (v1 : Int32) (v2 : Int32) (v3 : Int32) (v4 : Int32) (v5 : Int32) : L_X7_source_66 (n + 1) 0 I G v1 v2 v3 v4 v5 = (if v5 < 0 then some ((f_X5_spot_7 I G (v3 - (I 66 10)) (v4 - (I 66 11))), I, G) else (if (gAt (I 12) 4 v5) = 0 then L_X7_source_66 n 0 I G v1 v2 (gWr (v3 - (f_X7_shiftOf_66 I G v5 v4)).toInt64.toInt (I 7 9)) v4 (v5 + (-1 : Int32)) else L_X7_source_66 n 0 I G v1 v2 v3 (gWr (v4 - (f_X7_shiftOf_66 I G v5 v3)).toInt64.toInt (I 7 10)) (v5 + (-1 : Int32)))) := rfl
theorem L_X7_source_66_z (h : Nat) (I : am_I) (G : am_G) (v1 : Int32) (v2 : Int32) (v3 : Int32) (v4 : Int32) (v5 : Int32) : L_X7_source_66 0 h I G v1 v2 v3 v4 v5 = none := rfl
noncomputable def R_X7_source_66 (I : am_I) (G : am_G) (x1 : Int32) (x2 : Int32) : Option (Int32 × am_I × am_G) := L_X7_source_66 FU 0 I G x1 x2 (gWr x1.toInt64.toInt (I 7 9)) (gWr x2.toInt64.toInt (I 7 10)) ((I 7 12) - (1 : Int32))
set_option maxRecDepth 20000 in
set_option maxHeartbeats 4000000 in
theorem l_X7_source_66 (rd : Nat) {X : am_X} {ad : Nat → Nat} (hX : am_okz X ad) (hi : am_info X 7 cX7_source 6 false (Option.some Jvm.ClassFile.FieldType.int) 4) (n : Nat) : (∀ (I : am_I) (G : am_G) (v1 : Int32) (v2 : Int32) (v3 : Int32) (v4 : Int32) (v5 : Int32) (out : Int32 × am_I × am_G), L_X7_source_66 n 0 I G v1 v2 v3 v4 v5 = some out → am_V X 0 0 (am_Rt X gS ad (pI out.1 out.2.1 out.2.2 (gP rd))) gS ad (38, [(0, .ref 66), (1, .int v1), (2, .int v2), (3, .int v3), (4, .int v4), (5, .int v5)], [], I, G, (gP rd))) := by
  induction n with
  | zero => exact fun I G v1 v2 v3 v4 v5 out h => by rw [L_X7_source_66_z] at h; cases h
  | succ n ih =>
    · intro I G v1 v2 v3 v4 v5 out h
      rw [L_X7_source_66_0] at h
      refine am_blk 38 [(.iload 5, 2, 5, 0, .null)] (40, [(0, .ref 66), (1, .int v1), (2, .int v2), (3, .int v3), (4, .int v4), (5, .int v5)], [.int v5], I, G, (gP rd)) (True) hX hi (by decide +kernel) rfl trivial ?_
      refine am_if_lt (tgt := 112) hX hi (off := (72)) (by decide +kernel) (by decide) (fun c40 => ?_) (fun c40 => ?_)
      · rw [if_pos c40] at h
        refine am_blk 112 [(.aload_n 0, 1, 0, 0, .null), (.getfield 44, 3, 7, 0, .null), (.iload_n 3, 1, 3, 0, .null), (.aload_n 0, 1, 0, 0, .null), (.getfield 52, 3, 7, 10, .null), (.isub, 1, 0, 0, .null), (.iload 4, 2, 4, 0, .null), (.aload_n 0, 1, 0, 0, .null), (.getfield 56, 3, 7, 11, .null), (.isub, 1, 0, 0, .null)] (129, [(0, .ref 66), (1, .int v1), (2, .int v2), (3, .int v3), (4, .int v4), (5, .int v5)], [.int (v4 - (I 66 11)), .int (v3 - (I 66 10)), .ref 7], I, G, (gP rd)) (True) hX hi (by decide +kernel) rfl trivial ?_
        refine am_callV hX hi (M := mX5_spot) (idx := 195) (d' := 3) (b := 7) (ci := 5) (As := [.int (v3 - (I 66 10)), .int (v4 - (I 66 11))]) (rest := []) mkX5_spot miX5_spot mvX5_spot (by decide +kernel) (by decide +kernel) rfl (by decide +kernel) rfl ⟨by omega, by decide, Nat.le_of_ble_eq_true rfl⟩ rfl (c_X5_spot_7 _ I G (v3 - (I 66 10)) (v4 - (I 66 11))) ?_
        rintro r9 I9 G9 P9 ⟨e0, e1, e2, e3⟩
        rw [e0, e1, e2, e3]
        show am_V X 0 0 _ _ ad (132, [(0, .ref 66), (1, .int v1), (2, .int v2), (3, .int v3), (4, .int v4), (5, .int v5)], [.int (f_X5_spot_7 I G (v3 - (I 66 10)) (v4 - (I 66 11)))], I, G, (gP rd))
        cases h
        refine am_iret hX hi rfl rfl (by decide +kernel) ?_
        exact ⟨rfl, rfl, rfl, rfl⟩
      · rw [if_neg c40] at h
        refine am_blk 43 [(.aload_n 0, 1, 0, 0, .null), (.getfield 44, 3, 7, 0, .null), (.getfield 223, 3, 5, 4, .null), (.iload 5, 2, 5, 0, .null)] (52, [(0, .ref 66), (1, .int v1), (2, .int v2), (3, .int v3), (4, .int v4), (5, .int v5)], [.int v5, .ref 12], I, G, (gP rd)) (True) hX hi (by decide +kernel) rfl trivial ?_
        refine am_callS hX hi (M := mX0_at) (idx := 85) (d' := 1) (As := [.ref 12, .int v5]) (rest := []) mkX0_at msX0_at (by decide +kernel) (by decide +kernel) rfl ⟨by omega, by decide, Nat.le_of_ble_eq_true rfl⟩ rfl (c_at rfl (by decide) v5) ?_
        rintro r9 I9 G9 P9 ⟨e0, e1, e2, e3⟩
        rw [e0, e1, e2, e3]
        show am_V X 0 0 _ _ ad (55, [(0, .ref 66), (1, .int v1), (2, .int v2), (3, .int v3), (4, .int v4), (5, .int v5)], [.int (gAt (I 12) 4 v5)], I, G, (gP rd))
        refine am_if_ne (tgt := 83) hX hi (off := (28)) (by decide +kernel) (by decide) (fun c55 => ?_) (fun c55 => ?_)
        · rw [if_neg c55] at h
          refine am_blk 83 [(.iload 4, 2, 4, 0, .null), (.aload_n 0, 1, 0, 0, .null), (.iload 5, 2, 5, 0, .null), (.iload_n 3, 1, 3, 0, .null)] (89, [(0, .ref 66), (1, .int v1), (2, .int v2), (3, .int v3), (4, .int v4), (5, .int v5)], [.int v3, .int v5, .ref 66, .int v4], I, G, (gP rd)) (True) hX hi (by decide +kernel) rfl trivial ?_
          refine am_callV hX hi (M := mX7_shiftOf) (idx := 226) (d' := 2) (b := 66) (ci := 7) (As := [.int v5, .int v3]) (rest := [.int v4]) mkX7_shiftOf miX7_shiftOf mvX7_shiftOf (by decide +kernel) (by decide +kernel) rfl (by decide +kernel) rfl ⟨by omega, by decide, Nat.le_of_ble_eq_true rfl⟩ rfl (c_X7_shiftOf_66 _ I G v5 v3) ?_
          rintro r9 I9 G9 P9 ⟨e0, e1, e2, e3⟩
          rw [e0, e1, e2, e3]
          show am_V X 0 0 _ _ ad (92, [(0, .ref 66), (1, .int v1), (2, .int v2), (3, .int v3), (4, .int v4), (5, .int v5)], [.int (f_X7_shiftOf_66 I G v5 v3), .int v4], I, G, (gP rd))
          refine am_blk 92 [(.isub, 1, 0, 0, .null), (.i2l, 1, 0, 0, .null), (.aload_n 0, 1, 0, 0, .null), (.getfield 44, 3, 7, 0, .null), (.getfield 111, 3, 5, 10, .null)] (101, [(0, .ref 66), (1, .int v1), (2, .int v2), (3, .int v3), (4, .int v4), (5, .int v5)], [.int (I 7 10), .long (v4 - (f_X7_shiftOf_66 I G v5 v3)).toInt64], I, G, (gP rd)) (True) hX hi (by decide +kernel) rfl trivial ?_
          refine am_callS hX hi (M := mX0_wrap) (idx := 107) (d' := 2) (As := [.long (v4 - (f_X7_shiftOf_66 I G v5 v3)).toInt64, .int (I 7 10)]) (rest := []) mkX0_wrap msX0_wrap (by decide +kernel) (by decide +kernel) rfl ⟨by omega, by decide, Nat.le_of_ble_eq_true rfl⟩ rfl (c_wrap (v4 - (f_X7_shiftOf_66 I G v5 v3)).toInt64 (I 7 10)) ?_
          rintro r9 I9 G9 P9 ⟨e0, e1, e2, e3⟩
          rw [e0, e1, e2, e3]
          show am_V X 0 0 _ _ ad (104, [(0, .ref 66), (1, .int v1), (2, .int v2), (3, .int v3), (4, .int v4), (5, .int v5)], [.int (gWr (v4 - (f_X7_shiftOf_66 I G v5 v3)).toInt64.toInt (I 7 10))], I, G, (gP rd))
          refine am_blk 104 [(.istore 4, 2, 4, 0, .null), (.iinc 5 (-1), 3, 5, 0, .int (-1 : Int32)), (.goto (-71), 3, 0, 38, .null)] (38, [(0, .ref 66), (1, .int v1), (2, .int v2), (3, .int v3), (4, .int (gWr (v4 - (f_X7_shiftOf_66 I G v5 v3)).toInt64.toInt (I 7 10))), (5, .int (v5 + (-1 : Int32)))], [], I, G, (gP rd)) (True) hX hi (by decide +kernel) rfl trivial ?_
          exact ih _ _ _ _ _ _ _ _ h
        · rw [if_pos c55] at h
          refine am_blk 58 [(.iload_n 3, 1, 3, 0, .null), (.aload_n 0, 1, 0, 0, .null), (.iload 5, 2, 5, 0, .null), (.iload 4, 2, 4, 0, .null)] (64, [(0, .ref 66), (1, .int v1), (2, .int v2), (3, .int v3), (4, .int v4), (5, .int v5)], [.int v4, .int v5, .ref 66, .int v3], I, G, (gP rd)) (True) hX hi (by decide +kernel) rfl trivial ?_
          refine am_callV hX hi (M := mX7_shiftOf) (idx := 226) (d' := 2) (b := 66) (ci := 7) (As := [.int v5, .int v4]) (rest := [.int v3]) mkX7_shiftOf miX7_shiftOf mvX7_shiftOf (by decide +kernel) (by decide +kernel) rfl (by decide +kernel) rfl ⟨by omega, by decide, Nat.le_of_ble_eq_true rfl⟩ rfl (c_X7_shiftOf_66 _ I G v5 v4) ?_
          rintro r9 I9 G9 P9 ⟨e0, e1, e2, e3⟩
          rw [e0, e1, e2, e3]
          show am_V X 0 0 _ _ ad (67, [(0, .ref 66), (1, .int v1), (2, .int v2), (3, .int v3), (4, .int v4), (5, .int v5)], [.int (f_X7_shiftOf_66 I G v5 v4), .int v3], I, G, (gP rd))
          refine am_blk 67 [(.isub, 1, 0, 0, .null), (.i2l, 1, 0, 0, .null), (.aload_n 0, 1, 0, 0, .null), (.getfield 44, 3, 7, 0, .null), (.getfield 104, 3, 5, 9, .null)] (76, [(0, .ref 66), (1, .int v1), (2, .int v2), (3, .int v3), (4, .int v4), (5, .int v5)], [.int (I 7 9), .long (v3 - (f_X7_shiftOf_66 I G v5 v4)).toInt64], I, G, (gP rd)) (True) hX hi (by decide +kernel) rfl trivial ?_
          refine am_callS hX hi (M := mX0_wrap) (idx := 107) (d' := 2) (As := [.long (v3 - (f_X7_shiftOf_66 I G v5 v4)).toInt64, .int (I 7 9)]) (rest := []) mkX0_wrap msX0_wrap (by decide +kernel) (by decide +kernel) rfl ⟨by omega, by decide, Nat.le_of_ble_eq_true rfl⟩ rfl (c_wrap (v3 - (f_X7_shiftOf_66 I G v5 v4)).toInt64 (I 7 9)) ?_
          rintro r9 I9 G9 P9 ⟨e0, e1, e2, e3⟩
          rw [e0, e1, e2, e3]
          show am_V X 0 0 _ _ ad (79, [(0, .ref 66), (1, .int v1), (2, .int v2), (3, .int v3), (4, .int v4), (5, .int v5)], [.int (gWr (v3 - (f_X7_shiftOf_66 I G v5 v4)).toInt64.toInt (I 7 9))], I, G, (gP rd))
          refine am_blk 79 [(.istore_n 3, 1, 3, 0, .null), (.goto (26), 3, 0, 106, .null), (.iinc 5 (-1), 3, 5, 0, .int (-1 : Int32)), (.goto (-71), 3, 0, 38, .null)] (38, [(0, .ref 66), (1, .int v1), (2, .int v2), (3, .int (gWr (v3 - (f_X7_shiftOf_66 I G v5 v4)).toInt64.toInt (I 7 9))), (4, .int v4), (5, .int (v5 + (-1 : Int32)))], [], I, G, (gP rd)) (True) hX hi (by decide +kernel) rfl trivial ?_
          exact ih _ _ _ _ _ _ _ _ h
set_option maxRecDepth 20000 in
set_option maxHeartbeats 4000000 in
theorem c_X7_source_66 (rd : Nat) (I : am_I) (G : am_G) (x1 : Int32) (x2 : Int32) {out : Int32 × am_I × am_G} (h : R_X7_source_66 I G x1 x2 = some out) : am_Ct mX7_source 4 gS [.ref 66, .int x1, .int x2] I G (gP rd) (pI out.1 out.2.1 out.2.2 (gP rd)) := by
  refine am_ofF (by decide +kernel) rfl (by decide) (by omega) (Nat.le_of_ble_eq_true rfl) (fun X ad hX hi => ?_)
  have hi : am_info X 7 cX7_source 6 false (Option.some Jvm.ClassFile.FieldType.int) 4 := hi
  show am_V X 0 0 _ _ ad (0, [(0, .ref 66), (1, .int x1), (2, .int x2)], [], I, G, (gP rd))
  unfold R_X7_source_66 at h
  refine am_blk 0 [(.iload_n 1, 1, 1, 0, .null), (.i2l, 1, 0, 0, .null), (.aload_n 0, 1, 0, 0, .null), (.getfield 44, 3, 7, 0, .null), (.getfield 104, 3, 5, 9, .null)] (9, [(0, .ref 66), (1, .int x1), (2, .int x2)], [.int (I 7 9), .long x1.toInt64], I, G, (gP rd)) (True) hX hi (by decide +kernel) rfl trivial ?_
  refine am_callS hX hi (M := mX0_wrap) (idx := 107) (d' := 2) (As := [.long x1.toInt64, .int (I 7 9)]) (rest := []) mkX0_wrap msX0_wrap (by decide +kernel) (by decide +kernel) rfl ⟨by omega, by decide, Nat.le_of_ble_eq_true rfl⟩ rfl (c_wrap x1.toInt64 (I 7 9)) ?_
  rintro r9 I9 G9 P9 ⟨e0, e1, e2, e3⟩
  rw [e0, e1, e2, e3]
  show am_V X 0 0 _ _ ad (12, [(0, .ref 66), (1, .int x1), (2, .int x2)], [.int (gWr x1.toInt64.toInt (I 7 9))], I, G, (gP rd))
  refine am_blk 12 [(.istore_n 3, 1, 3, 0, .null), (.iload_n 2, 1, 2, 0, .null), (.i2l, 1, 0, 0, .null), (.aload_n 0, 1, 0, 0, .null), (.getfield 44, 3, 7, 0, .null), (.getfield 111, 3, 5, 10, .null)] (22, [(0, .ref 66), (1, .int x1), (2, .int x2), (3, .int (gWr x1.toInt64.toInt (I 7 9)))], [.int (I 7 10), .long x2.toInt64], I, G, (gP rd)) (True) hX hi (by decide +kernel) rfl trivial ?_
  refine am_callS hX hi (M := mX0_wrap) (idx := 107) (d' := 2) (As := [.long x2.toInt64, .int (I 7 10)]) (rest := []) mkX0_wrap msX0_wrap (by decide +kernel) (by decide +kernel) rfl ⟨by omega, by decide, Nat.le_of_ble_eq_true rfl⟩ rfl (c_wrap x2.toInt64 (I 7 10)) ?_
  rintro r9 I9 G9 P9 ⟨e0, e1, e2, e3⟩
  rw [e0, e1, e2, e3]
  show am_V X 0 0 _ _ ad (25, [(0, .ref 66), (1, .int x1), (2, .int x2), (3, .int (gWr x1.toInt64.toInt (I 7 9)))], [.int (gWr x2.toInt64.toInt (I 7 10))], I, G, (gP rd))
  refine am_blk 25 [(.istore 4, 2, 4, 0, .null), (.aload_n 0, 1, 0, 0, .null), (.getfield 44, 3, 7, 0, .null), (.getfield 82, 3, 5, 12, .null), (.iconst (1), 1, 0, 0, .int (1 : Int32)), (.isub, 1, 0, 0, .null), (.istore 5, 2, 5, 0, .null)] (38, [(0, .ref 66), (1, .int x1), (2, .int x2), (3, .int (gWr x1.toInt64.toInt (I 7 9))), (4, .int (gWr x2.toInt64.toInt (I 7 10))), (5, .int ((I 7 12) - (1 : Int32)))], [], I, G, (gP rd)) (True) hX hi (by decide +kernel) rfl trivial ?_
  exact (l_X7_source_66 rd hX hi FU) _ _ _ _ _ _ _ _ h
noncomputable def L_X7_heightFrom_53 (n0 : Nat) (hd : Nat) (I : am_I) (G : am_G) (v1 : Int32) (v2 : Int32) (v3 : Int32) : Option (Int32 × am_I × am_G) := match n0 with
  | 0 => none
  | n + 1 => match hd with
    | _ => (if (I 7 11) ≤ v3 then rg (¬ (16 : Int32) = 0) (some ((gHo ((500 : Int32) + (v2 / (16 : Int32))) (0 : Int32) (999 : Int32)), I, G)) else L_X7_heightFrom_53 n 0 I G v1 (v2 + ((gAt (I 10) 4 v3) * (f_X10_valueKept_25 I G v3 (gAt (I 56) 4 v3) v1))) (v3 + (1 : Int32)))
theorem L_X7_heightFrom_53_0 (n : Nat) (I : am_I) (G : am_G) (v1 : Int32) (v2 : Int32) (v3 : Int32) : L_X7_heightFrom_53 (n + 1) 0 I G v1 v2 v3 = (if (I 7 11) ≤ v3 then rg (¬ (16 : Int32) = 0) (some ((gHo ((500 : Int32) + (v2 / (16 : Int32))) (0 : Int32) (999 : Int32)), I, G)) else L_X7_heightFrom_53 n 0 I G v1 (v2 + ((gAt (I 10) 4 v3) * (f_X10_valueKept_25 I G v3 (gAt (I 56) 4 v3) v1))) (v3 + (1 : Int32))) := rfl
theorem L_X7_heightFrom_53_z (h : Nat) (I : am_I) (G : am_G) (v1 : Int32) (v2 : Int32) (v3 : Int32) : L_X7_heightFrom_53 0 h I G v1 v2 v3 = none := rfl
noncomputable def R_X7_heightFrom_53 (I : am_I) (G : am_G) (x1 : Int32) : Option (Int32 × am_I × am_G) := L_X7_heightFrom_53 FU 0 I G x1 (0 : Int32) (0 : Int32)
set_option maxRecDepth 20000 in
set_option maxHeartbeats 4000000 in
theorem l_X7_heightFrom_53 (rd : Nat) {X : am_X} {ad : Nat → Nat} (hX : am_okz X ad) (hi : am_info X 7 cX7_heightFrom 5 false (Option.some Jvm.ClassFile.FieldType.int) 3) (n : Nat) : (∀ (I : am_I) (G : am_G) (v1 : Int32) (v2 : Int32) (v3 : Int32) (out : Int32 × am_I × am_G), L_X7_heightFrom_53 n 0 I G v1 v2 v3 = some out → am_V X 0 0 (am_Rt X gS ad (pI out.1 out.2.1 out.2.2 (gP rd))) gS ad (4, [(0, .ref 53), (1, .int v1), (2, .int v2), (3, .int v3)], [], I, G, (gP rd))) := by
  induction n with
  | zero => exact fun I G v1 v2 v3 out h => by rw [L_X7_heightFrom_53_z] at h; cases h
  | succ n ih =>
    · intro I G v1 v2 v3 out h
      rw [L_X7_heightFrom_53_0] at h
      refine am_blk 4 [(.iload_n 3, 1, 3, 0, .null), (.aload_n 0, 1, 0, 0, .null), (.getfield 44, 3, 7, 0, .null), (.getfield 229, 3, 5, 11, .null)] (12, [(0, .ref 53), (1, .int v1), (2, .int v2), (3, .int v3)], [.int (I 7 11), .int v3], I, G, (gP rd)) (True) hX hi (by decide +kernel) rfl trivial ?_
      refine am_icmp_ge (tgt := 57) hX hi (off := (45)) (by decide +kernel) (by decide) (fun c12 => ?_) (fun c12 => ?_)
      · rw [if_pos c12] at h
        obtain ⟨g0, h⟩ := rg_some h
        refine am_blk 57 [(.sipush (500), 3, 0, 0, .int (500 : Int32)), (.iload_n 2, 1, 2, 0, .null), (.bipush (16), 2, 0, 0, .int (16 : Int32)), (.idiv, 1, 0, 0, .null), (.iadd, 1, 0, 0, .null), (.iconst (0), 1, 0, 0, .int (0 : Int32)), (.sipush (999), 3, 0, 0, .int (999 : Int32))] (69, [(0, .ref 53), (1, .int v1), (2, .int v2), (3, .int v3)], [.int (999 : Int32), .int (0 : Int32), .int ((500 : Int32) + (v2 / (16 : Int32)))], I, G, (gP rd)) (¬ (16 : Int32) = 0 ∧ True) hX hi (by decide +kernel) rfl ⟨g0, trivial⟩ ?_
        refine am_callS hX hi (M := mX0_hold) (idx := 152) (d' := 1) (As := [.int ((500 : Int32) + (v2 / (16 : Int32))), .int (0 : Int32), .int (999 : Int32)]) (rest := []) mkX0_hold msX0_hold (by decide +kernel) (by decide +kernel) rfl ⟨by omega, by decide, Nat.le_of_ble_eq_true rfl⟩ rfl (c_hold ((500 : Int32) + (v2 / (16 : Int32))) (0 : Int32) (999 : Int32)) ?_
        rintro r9 I9 G9 P9 ⟨e0, e1, e2, e3⟩
        rw [e0, e1, e2, e3]
        show am_V X 0 0 _ _ ad (72, [(0, .ref 53), (1, .int v1), (2, .int v2), (3, .int v3)], [.int (gHo ((500 : Int32) + (v2 / (16 : Int32))) (0 : Int32) (999 : Int32))], I, G, (gP rd))
        cases h
        refine am_iret hX hi rfl rfl (by decide +kernel) ?_
        exact ⟨rfl, rfl, rfl, rfl⟩
      · rw [if_neg c12] at h
        refine am_blk 15 [(.aload_n 0, 1, 0, 0, .null), (.getfield 48, 3, 7, 1, .null), (.iload_n 3, 1, 3, 0, .null), (.aload_n 0, 1, 0, 0, .null), (.getfield 18, 3, 7, 4, .null), (.iload_n 3, 1, 3, 0, .null)] (25, [(0, .ref 53), (1, .int v1), (2, .int v2), (3, .int v3)], [.int v3, .ref 56, .int v3, .ref 25], I, G, (gP rd)) (True) hX hi (by decide +kernel) rfl trivial ?_
        refine am_callS hX hi (M := mX0_at) (idx := 85) (d' := 1) (As := [.ref 56, .int v3]) (rest := [.int v3, .ref 25]) mkX0_at msX0_at (by decide +kernel) (by decide +kernel) rfl ⟨by omega, by decide, Nat.le_of_ble_eq_true rfl⟩ rfl (c_at rfl (by decide) v3) ?_
        rintro r9 I9 G9 P9 ⟨e0, e1, e2, e3⟩
        rw [e0, e1, e2, e3]
        show am_V X 0 0 _ _ ad (28, [(0, .ref 53), (1, .int v1), (2, .int v2), (3, .int v3)], [.int (gAt (I 56) 4 v3), .int v3, .ref 25], I, G, (gP rd))
        refine am_blk 28 [(.iload_n 1, 1, 1, 0, .null)] (29, [(0, .ref 53), (1, .int v1), (2, .int v2), (3, .int v3)], [.int v1, .int (gAt (I 56) 4 v3), .int v3, .ref 25], I, G, (gP rd)) (True) hX hi (by decide +kernel) rfl trivial ?_
        refine am_callV hX hi (M := mX10_valueKept) (idx := 246) (d' := 2) (b := 25) (ci := 10) (As := [.int v3, .int (gAt (I 56) 4 v3), .int v1]) (rest := []) mkX10_valueKept miX10_valueKept mvX10_valueKept (by decide +kernel) (by decide +kernel) rfl (by decide +kernel) rfl ⟨by omega, by decide, Nat.le_of_ble_eq_true rfl⟩ rfl (c_X10_valueKept_25 _ I G v3 (gAt (I 56) 4 v3) v1) ?_
        rintro r9 I9 G9 P9 ⟨e0, e1, e2, e3⟩
        rw [e0, e1, e2, e3]
        show am_V X 0 0 _ _ ad (32, [(0, .ref 53), (1, .int v1), (2, .int v2), (3, .int v3)], [.int (f_X10_valueKept_25 I G v3 (gAt (I 56) 4 v3) v1)], I, G, (gP rd))
        refine am_blk 32 [(.istore 4, 2, 4, 0, .null), (.iload_n 2, 1, 2, 0, .null), (.aload_n 0, 1, 0, 0, .null), (.getfield 44, 3, 7, 0, .null), (.getfield 249, 3, 5, 2, .null), (.iload_n 3, 1, 3, 0, .null)] (43, [(0, .ref 53), (1, .int v1), (2, .int v2), (3, .int v3), (4, .int (f_X10_valueKept_25 I G v3 (gAt (I 56) 4 v3) v1))], [.int v3, .ref 10, .int v2], I, G, (gP rd)) (True) hX hi (by decide +kernel) rfl trivial ?_
        refine am_callS hX hi (M := mX0_at) (idx := 85) (d' := 1) (As := [.ref 10, .int v3]) (rest := [.int v2]) mkX0_at msX0_at (by decide +kernel) (by decide +kernel) rfl ⟨by omega, by decide, Nat.le_of_ble_eq_true rfl⟩ rfl (c_at rfl (by decide) v3) ?_
        rintro r9 I9 G9 P9 ⟨e0, e1, e2, e3⟩
        rw [e0, e1, e2, e3]
        show am_V X 0 0 _ _ ad (46, [(0, .ref 53), (1, .int v1), (2, .int v2), (3, .int v3), (4, .int (f_X10_valueKept_25 I G v3 (gAt (I 56) 4 v3) v1))], [.int (gAt (I 10) 4 v3), .int v2], I, G, (gP rd))
        refine am_blk 46 [(.iload 4, 2, 4, 0, .null), (.imul, 1, 0, 0, .null), (.iadd, 1, 0, 0, .null), (.istore_n 2, 1, 2, 0, .null), (.iinc 3 (1), 3, 3, 0, .int (1 : Int32)), (.goto (-50), 3, 0, 4, .null)] (4, [(0, .ref 53), (1, .int v1), (2, .int (v2 + ((gAt (I 10) 4 v3) * (f_X10_valueKept_25 I G v3 (gAt (I 56) 4 v3) v1)))), (3, .int (v3 + (1 : Int32))), (4, .int (f_X10_valueKept_25 I G v3 (gAt (I 56) 4 v3) v1))], [], I, G, (gP rd)) (True) hX hi (by decide +kernel) rfl trivial ?_
        refine am_sub (L' := [(0, .ref 53), (1, .int v1), (2, .int (v2 + ((gAt (I 10) 4 v3) * (f_X10_valueKept_25 I G v3 (gAt (I 56) 4 v3) v1)))), (3, .int (v3 + (1 : Int32)))]) (by simp) ?_
        exact ih _ _ _ _ _ _ h
set_option maxRecDepth 20000 in
set_option maxHeartbeats 4000000 in
theorem c_X7_heightFrom_53 (rd : Nat) (I : am_I) (G : am_G) (x1 : Int32) {out : Int32 × am_I × am_G} (h : R_X7_heightFrom_53 I G x1 = some out) : am_Ct mX7_heightFrom 3 gS [.ref 53, .int x1] I G (gP rd) (pI out.1 out.2.1 out.2.2 (gP rd)) := by
  refine am_ofF (by decide +kernel) rfl (by decide) (by omega) (Nat.le_of_ble_eq_true rfl) (fun X ad hX hi => ?_)
  have hi : am_info X 7 cX7_heightFrom 5 false (Option.some Jvm.ClassFile.FieldType.int) 3 := hi
  show am_V X 0 0 _ _ ad (0, [(0, .ref 53), (1, .int x1)], [], I, G, (gP rd))
  unfold R_X7_heightFrom_53 at h
  refine am_blk 0 [(.iconst (0), 1, 0, 0, .int (0 : Int32)), (.istore_n 2, 1, 2, 0, .null), (.iconst (0), 1, 0, 0, .int (0 : Int32)), (.istore_n 3, 1, 3, 0, .null)] (4, [(0, .ref 53), (1, .int x1), (2, .int (0 : Int32)), (3, .int (0 : Int32))], [], I, G, (gP rd)) (True) hX hi (by decide +kernel) rfl trivial ?_
  exact (l_X7_heightFrom_53 rd hX hi FU) _ _ _ _ _ _ h
noncomputable def L_X7_heightFrom_66 (n0 : Nat) (hd : Nat) (I : am_I) (G : am_G) (v1 : Int32) (v2 : Int32) (v3 : Int32) : Option (Int32 × am_I × am_G) := match n0 with
  | 0 => none
  | n + 1 => match hd with
    | _ => (if (I 7 11) ≤ v3 then rg (¬ (16 : Int32) = 0) (some ((gHo ((500 : Int32) + (v2 / (16 : Int32))) (0 : Int32) (999 : Int32)), I, G)) else L_X7_heightFrom_66 n 0 I G v1 (v2 + ((gAt (I 10) 4 v3) * (f_X10_valueKept_25 I G v3 (gAt (I 69) 4 v3) v1))) (v3 + (1 : Int32)))
theorem L_X7_heightFrom_66_0 (n : Nat) (I : am_I) (G : am_G) (v1 : Int32) (v2 : Int32) (v3 : Int32) : L_X7_heightFrom_66 (n + 1) 0 I G v1 v2 v3 = (if (I 7 11) ≤ v3 then rg (¬ (16 : Int32) = 0) (some ((gHo ((500 : Int32) + (v2 / (16 : Int32))) (0 : Int32) (999 : Int32)), I, G)) else L_X7_heightFrom_66 n 0 I G v1 (v2 + ((gAt (I 10) 4 v3) * (f_X10_valueKept_25 I G v3 (gAt (I 69) 4 v3) v1))) (v3 + (1 : Int32))) := rfl
theorem L_X7_heightFrom_66_z (h : Nat) (I : am_I) (G : am_G) (v1 : Int32) (v2 : Int32) (v3 : Int32) : L_X7_heightFrom_66 0 h I G v1 v2 v3 = none := rfl
noncomputable def R_X7_heightFrom_66 (I : am_I) (G : am_G) (x1 : Int32) : Option (Int32 × am_I × am_G) := L_X7_heightFrom_66 FU 0 I G x1 (0 : Int32) (0 : Int32)
set_option maxRecDepth 20000 in
set_option maxHeartbeats 4000000 in
theorem l_X7_heightFrom_66 (rd : Nat) {X : am_X} {ad : Nat → Nat} (hX : am_okz X ad) (hi : am_info X 7 cX7_heightFrom 5 false (Option.some Jvm.ClassFile.FieldType.int) 3) (n : Nat) : (∀ (I : am_I) (G : am_G) (v1 : Int32) (v2 : Int32) (v3 : Int32) (out : Int32 × am_I × am_G), L_X7_heightFrom_66 n 0 I G v1 v2 v3 = some out → am_V X 0 0 (am_Rt X gS ad (pI out.1 out.2.1 out.2.2 (gP rd))) gS ad (4, [(0, .ref 66), (1, .int v1), (2, .int v2), (3, .int v3)], [], I, G, (gP rd))) := by
  induction n with
  | zero => exact fun I G v1 v2 v3 out h => by rw [L_X7_heightFrom_66_z] at h; cases h
  | succ n ih =>
    · intro I G v1 v2 v3 out h
      rw [L_X7_heightFrom_66_0] at h
      refine am_blk 4 [(.iload_n 3, 1, 3, 0, .null), (.aload_n 0, 1, 0, 0, .null), (.getfield 44, 3, 7, 0, .null), (.getfield 229, 3, 5, 11, .null)] (12, [(0, .ref 66), (1, .int v1), (2, .int v2), (3, .int v3)], [.int (I 7 11), .int v3], I, G, (gP rd)) (True) hX hi (by decide +kernel) rfl trivial ?_
      refine am_icmp_ge (tgt := 57) hX hi (off := (45)) (by decide +kernel) (by decide) (fun c12 => ?_) (fun c12 => ?_)
      · rw [if_pos c12] at h
        obtain ⟨g0, h⟩ := rg_some h
        refine am_blk 57 [(.sipush (500), 3, 0, 0, .int (500 : Int32)), (.iload_n 2, 1, 2, 0, .null), (.bipush (16), 2, 0, 0, .int (16 : Int32)), (.idiv, 1, 0, 0, .null), (.iadd, 1, 0, 0, .null), (.iconst (0), 1, 0, 0, .int (0 : Int32)), (.sipush (999), 3, 0, 0, .int (999 : Int32))] (69, [(0, .ref 66), (1, .int v1), (2, .int v2), (3, .int v3)], [.int (999 : Int32), .int (0 : Int32), .int ((500 : Int32) + (v2 / (16 : Int32)))], I, G, (gP rd)) (¬ (16 : Int32) = 0 ∧ True) hX hi (by decide +kernel) rfl ⟨g0, trivial⟩ ?_
        refine am_callS hX hi (M := mX0_hold) (idx := 152) (d' := 1) (As := [.int ((500 : Int32) + (v2 / (16 : Int32))), .int (0 : Int32), .int (999 : Int32)]) (rest := []) mkX0_hold msX0_hold (by decide +kernel) (by decide +kernel) rfl ⟨by omega, by decide, Nat.le_of_ble_eq_true rfl⟩ rfl (c_hold ((500 : Int32) + (v2 / (16 : Int32))) (0 : Int32) (999 : Int32)) ?_
        rintro r9 I9 G9 P9 ⟨e0, e1, e2, e3⟩
        rw [e0, e1, e2, e3]
        show am_V X 0 0 _ _ ad (72, [(0, .ref 66), (1, .int v1), (2, .int v2), (3, .int v3)], [.int (gHo ((500 : Int32) + (v2 / (16 : Int32))) (0 : Int32) (999 : Int32))], I, G, (gP rd))
        cases h
        refine am_iret hX hi rfl rfl (by decide +kernel) ?_
        exact ⟨rfl, rfl, rfl, rfl⟩
      · rw [if_neg c12] at h
        refine am_blk 15 [(.aload_n 0, 1, 0, 0, .null), (.getfield 48, 3, 7, 1, .null), (.iload_n 3, 1, 3, 0, .null), (.aload_n 0, 1, 0, 0, .null), (.getfield 18, 3, 7, 4, .null), (.iload_n 3, 1, 3, 0, .null)] (25, [(0, .ref 66), (1, .int v1), (2, .int v2), (3, .int v3)], [.int v3, .ref 69, .int v3, .ref 25], I, G, (gP rd)) (True) hX hi (by decide +kernel) rfl trivial ?_
        refine am_callS hX hi (M := mX0_at) (idx := 85) (d' := 1) (As := [.ref 69, .int v3]) (rest := [.int v3, .ref 25]) mkX0_at msX0_at (by decide +kernel) (by decide +kernel) rfl ⟨by omega, by decide, Nat.le_of_ble_eq_true rfl⟩ rfl (c_at rfl (by decide) v3) ?_
        rintro r9 I9 G9 P9 ⟨e0, e1, e2, e3⟩
        rw [e0, e1, e2, e3]
        show am_V X 0 0 _ _ ad (28, [(0, .ref 66), (1, .int v1), (2, .int v2), (3, .int v3)], [.int (gAt (I 69) 4 v3), .int v3, .ref 25], I, G, (gP rd))
        refine am_blk 28 [(.iload_n 1, 1, 1, 0, .null)] (29, [(0, .ref 66), (1, .int v1), (2, .int v2), (3, .int v3)], [.int v1, .int (gAt (I 69) 4 v3), .int v3, .ref 25], I, G, (gP rd)) (True) hX hi (by decide +kernel) rfl trivial ?_
        refine am_callV hX hi (M := mX10_valueKept) (idx := 246) (d' := 2) (b := 25) (ci := 10) (As := [.int v3, .int (gAt (I 69) 4 v3), .int v1]) (rest := []) mkX10_valueKept miX10_valueKept mvX10_valueKept (by decide +kernel) (by decide +kernel) rfl (by decide +kernel) rfl ⟨by omega, by decide, Nat.le_of_ble_eq_true rfl⟩ rfl (c_X10_valueKept_25 _ I G v3 (gAt (I 69) 4 v3) v1) ?_
        rintro r9 I9 G9 P9 ⟨e0, e1, e2, e3⟩
        rw [e0, e1, e2, e3]
        show am_V X 0 0 _ _ ad (32, [(0, .ref 66), (1, .int v1), (2, .int v2), (3, .int v3)], [.int (f_X10_valueKept_25 I G v3 (gAt (I 69) 4 v3) v1)], I, G, (gP rd))
        refine am_blk 32 [(.istore 4, 2, 4, 0, .null), (.iload_n 2, 1, 2, 0, .null), (.aload_n 0, 1, 0, 0, .null), (.getfield 44, 3, 7, 0, .null), (.getfield 249, 3, 5, 2, .null), (.iload_n 3, 1, 3, 0, .null)] (43, [(0, .ref 66), (1, .int v1), (2, .int v2), (3, .int v3), (4, .int (f_X10_valueKept_25 I G v3 (gAt (I 69) 4 v3) v1))], [.int v3, .ref 10, .int v2], I, G, (gP rd)) (True) hX hi (by decide +kernel) rfl trivial ?_
        refine am_callS hX hi (M := mX0_at) (idx := 85) (d' := 1) (As := [.ref 10, .int v3]) (rest := [.int v2]) mkX0_at msX0_at (by decide +kernel) (by decide +kernel) rfl ⟨by omega, by decide, Nat.le_of_ble_eq_true rfl⟩ rfl (c_at rfl (by decide) v3) ?_
        rintro r9 I9 G9 P9 ⟨e0, e1, e2, e3⟩
        rw [e0, e1, e2, e3]
        show am_V X 0 0 _ _ ad (46, [(0, .ref 66), (1, .int v1), (2, .int v2), (3, .int v3), (4, .int (f_X10_valueKept_25 I G v3 (gAt (I 69) 4 v3) v1))], [.int (gAt (I 10) 4 v3), .int v2], I, G, (gP rd))
        refine am_blk 46 [(.iload 4, 2, 4, 0, .null), (.imul, 1, 0, 0, .null), (.iadd, 1, 0, 0, .null), (.istore_n 2, 1, 2, 0, .null), (.iinc 3 (1), 3, 3, 0, .int (1 : Int32)), (.goto (-50), 3, 0, 4, .null)] (4, [(0, .ref 66), (1, .int v1), (2, .int (v2 + ((gAt (I 10) 4 v3) * (f_X10_valueKept_25 I G v3 (gAt (I 69) 4 v3) v1)))), (3, .int (v3 + (1 : Int32))), (4, .int (f_X10_valueKept_25 I G v3 (gAt (I 69) 4 v3) v1))], [], I, G, (gP rd)) (True) hX hi (by decide +kernel) rfl trivial ?_
        refine am_sub (L' := [(0, .ref 66), (1, .int v1), (2, .int (v2 + ((gAt (I 10) 4 v3) * (f_X10_valueKept_25 I G v3 (gAt (I 69) 4 v3) v1)))), (3, .int (v3 + (1 : Int32)))]) (by simp) ?_
        exact ih _ _ _ _ _ _ h
set_option maxRecDepth 20000 in
set_option maxHeartbeats 4000000 in
theorem c_X7_heightFrom_66 (rd : Nat) (I : am_I) (G : am_G) (x1 : Int32) {out : Int32 × am_I × am_G} (h : R_X7_heightFrom_66 I G x1 = some out) : am_Ct mX7_heightFrom 3 gS [.ref 66, .int x1] I G (gP rd) (pI out.1 out.2.1 out.2.2 (gP rd)) := by
  refine am_ofF (by decide +kernel) rfl (by decide) (by omega) (Nat.le_of_ble_eq_true rfl) (fun X ad hX hi => ?_)
  have hi : am_info X 7 cX7_heightFrom 5 false (Option.some Jvm.ClassFile.FieldType.int) 3 := hi
  show am_V X 0 0 _ _ ad (0, [(0, .ref 66), (1, .int x1)], [], I, G, (gP rd))
  unfold R_X7_heightFrom_66 at h
  refine am_blk 0 [(.iconst (0), 1, 0, 0, .int (0 : Int32)), (.istore_n 2, 1, 2, 0, .null), (.iconst (0), 1, 0, 0, .int (0 : Int32)), (.istore_n 3, 1, 3, 0, .null)] (4, [(0, .ref 66), (1, .int x1), (2, .int (0 : Int32)), (3, .int (0 : Int32))], [], I, G, (gP rd)) (True) hX hi (by decide +kernel) rfl trivial ?_
  exact (l_X7_heightFrom_66 rd hX hi FU) _ _ _ _ _ _ h
noncomputable def L_X7_smallestHeight_53 (n0 : Nat) (hd : Nat) (I : am_I) (G : am_G) (v1 : Int32) (v2 : Int32) : Option (Int32 × am_I × am_G) := match n0 with
  | 0 => none
  | n + 1 => match hd with
    | _ => (if ((I 7 9) * (I 7 10)) ≤ v2 then some (v1, I, G) else L_X7_smallestHeight_53 n 0 I G (if (gAt (I 57) 576 v2) < v1 then (gAt (I 57) 576 v2) else v1) (v2 + (1 : Int32)))
theorem L_X7_smallestHeight_53_0 (n : Nat) (I : am_I) (G : am_G) (v1 : Int32) (v2 : Int32) : L_X7_smallestHeight_53 (n + 1) 0 I G v1 v2 = (if ((I 7 9) * (I 7 10)) ≤ v2 then some (v1, I, G) else L_X7_smallestHeight_53 n 0 I G (if (gAt (I 57) 576 v2) < v1 then (gAt (I 57) 576 v2) else v1) (v2 + (1 : Int32))) := rfl
theorem L_X7_smallestHeight_53_z (h : Nat) (I : am_I) (G : am_G) (v1 : Int32) (v2 : Int32) : L_X7_smallestHeight_53 0 h I G v1 v2 = none := rfl
noncomputable def R_X7_smallestHeight_53 (I : am_I) (G : am_G)  : Option (Int32 × am_I × am_G) := L_X7_smallestHeight_53 FU 0 I G (999 : Int32) (0 : Int32)
set_option maxRecDepth 20000 in
set_option maxHeartbeats 4000000 in
theorem l_X7_smallestHeight_53 (rd : Nat) {X : am_X} {ad : Nat → Nat} (hX : am_okz X ad) (hi : am_info X 7 cX7_smallestHeight 3 false (Option.some Jvm.ClassFile.FieldType.int) 2) (n : Nat) : (∀ (I : am_I) (G : am_G) (v1 : Int32) (v2 : Int32) (out : Int32 × am_I × am_G), L_X7_smallestHeight_53 n 0 I G v1 v2 = some out → am_V X 0 0 (am_Rt X gS ad (pI out.1 out.2.1 out.2.2 (gP rd))) gS ad (6, [(0, .ref 53), (1, .int v1), (2, .int v2)], [], I, G, (gP rd))) := by
  induction n with
  | zero => exact fun I G v1 v2 out h => by rw [L_X7_smallestHeight_53_z] at h; cases h
  | succ n ih =>
    · intro I G v1 v2 out h
      rw [L_X7_smallestHeight_53_0] at h
      refine am_blk 6 [(.iload_n 2, 1, 2, 0, .null), (.aload_n 0, 1, 0, 0, .null), (.getfield 44, 3, 7, 0, .null), (.getfield 104, 3, 5, 9, .null), (.aload_n 0, 1, 0, 0, .null), (.getfield 44, 3, 7, 0, .null), (.getfield 111, 3, 5, 10, .null), (.imul, 1, 0, 0, .null)] (22, [(0, .ref 53), (1, .int v1), (2, .int v2)], [.int ((I 7 9) * (I 7 10)), .int v2], I, G, (gP rd)) (True) hX hi (by decide +kernel) rfl trivial ?_
      refine am_icmp_ge (tgt := 44) hX hi (off := (22)) (by decide +kernel) (by decide) (fun c22 => ?_) (fun c22 => ?_)
      · rw [if_pos c22] at h
        refine am_blk 44 [(.iload_n 1, 1, 1, 0, .null)] (45, [(0, .ref 53), (1, .int v1), (2, .int v2)], [.int v1], I, G, (gP rd)) (True) hX hi (by decide +kernel) rfl trivial ?_
        cases h
        refine am_iret hX hi rfl rfl (by decide +kernel) ?_
        exact ⟨rfl, rfl, rfl, rfl⟩
      · rw [if_neg c22] at h
        refine am_blk 25 [(.iload_n 1, 1, 1, 0, .null), (.aload_n 0, 1, 0, 0, .null), (.getfield 21, 3, 7, 5, .null), (.iload_n 2, 1, 2, 0, .null)] (31, [(0, .ref 53), (1, .int v1), (2, .int v2)], [.int v2, .ref 57, .int v1], I, G, (gP rd)) (True) hX hi (by decide +kernel) rfl trivial ?_
        refine am_callS hX hi (M := mX0_at) (idx := 85) (d' := 1) (As := [.ref 57, .int v2]) (rest := [.int v1]) mkX0_at msX0_at (by decide +kernel) (by decide +kernel) rfl ⟨by omega, by decide, Nat.le_of_ble_eq_true rfl⟩ rfl (c_at rfl (by decide) v2) ?_
        rintro r9 I9 G9 P9 ⟨e0, e1, e2, e3⟩
        rw [e0, e1, e2, e3]
        show am_V X 0 0 _ _ ad (34, [(0, .ref 53), (1, .int v1), (2, .int v2)], [.int (gAt (I 57) 576 v2), .int v1], I, G, (gP rd))
        refine am_blk 34 [(.invokestatic 204, 3, 1, 0, .null), (.istore_n 1, 1, 1, 0, .null), (.iinc 2 (1), 3, 2, 0, .int (1 : Int32)), (.goto (-35), 3, 0, 6, .null)] (6, [(0, .ref 53), (1, .int (if (gAt (I 57) 576 v2) < v1 then (gAt (I 57) 576 v2) else v1)), (2, .int (v2 + (1 : Int32)))], [], I, G, (gP rd)) (True) hX hi (by decide +kernel) rfl trivial ?_
        exact ih _ _ _ _ _ h
set_option maxRecDepth 20000 in
set_option maxHeartbeats 4000000 in
theorem c_X7_smallestHeight_53 (rd : Nat) (I : am_I) (G : am_G)  {out : Int32 × am_I × am_G} (h : R_X7_smallestHeight_53 I G  = some out) : am_Ct mX7_smallestHeight 2 gS [.ref 53] I G (gP rd) (pI out.1 out.2.1 out.2.2 (gP rd)) := by
  refine am_ofF (by decide +kernel) rfl (by decide) (by omega) (Nat.le_of_ble_eq_true rfl) (fun X ad hX hi => ?_)
  have hi : am_info X 7 cX7_smallestHeight 3 false (Option.some Jvm.ClassFile.FieldType.int) 2 := hi
  show am_V X 0 0 _ _ ad (0, [(0, .ref 53)], [], I, G, (gP rd))
  unfold R_X7_smallestHeight_53 at h
  refine am_blk 0 [(.sipush (999), 3, 0, 0, .int (999 : Int32)), (.istore_n 1, 1, 1, 0, .null), (.iconst (0), 1, 0, 0, .int (0 : Int32)), (.istore_n 2, 1, 2, 0, .null)] (6, [(0, .ref 53), (1, .int (999 : Int32)), (2, .int (0 : Int32))], [], I, G, (gP rd)) (True) hX hi (by decide +kernel) rfl trivial ?_
  exact (l_X7_smallestHeight_53 rd hX hi FU) _ _ _ _ _ h
noncomputable def L_X7_smallestHeight_66 (n0 : Nat) (hd : Nat) (I : am_I) (G : am_G) (v1 : Int32) (v2 : Int32) : Option (Int32 × am_I × am_G) := match n0 with
  | 0 => none
  | n + 1 => match hd with
    | _ => (if ((I 7 9) * (I 7 10)) ≤ v2 then some (v1, I, G) else L_X7_smallestHeight_66 n 0 I G (if (gAt (I 70) 576 v2) < v1 then (gAt (I 70) 576 v2) else v1) (v2 + (1 : Int32)))
theorem L_X7_smallestHeight_66_0 (n : Nat) (I : am_I) (G : am_G) (v1 : Int32) (v2 : Int32) : L_X7_smallestHeight_66 (n + 1) 0 I G v1 v2 = (if ((I 7 9) * (I 7 10)) ≤ v2 then some (v1, I, G) else L_X7_smallestHeight_66 n 0 I G (if (gAt (I 70) 576 v2) < v1 then (gAt (I 70) 576 v2) else v1) (v2 + (1 : Int32))) := rfl
theorem L_X7_smallestHeight_66_z (h : Nat) (I : am_I) (G : am_G) (v1 : Int32) (v2 : Int32) : L_X7_smallestHeight_66 0 h I G v1 v2 = none := rfl
noncomputable def R_X7_smallestHeight_66 (I : am_I) (G : am_G)  : Option (Int32 × am_I × am_G) := L_X7_smallestHeight_66 FU 0 I G (999 : Int32) (0 : Int32)
set_option maxRecDepth 20000 in
set_option maxHeartbeats 4000000 in
theorem l_X7_smallestHeight_66 (rd : Nat) {X : am_X} {ad : Nat → Nat} (hX : am_okz X ad) (hi : am_info X 7 cX7_smallestHeight 3 false (Option.some Jvm.ClassFile.FieldType.int) 2) (n : Nat) : (∀ (I : am_I) (G : am_G) (v1 : Int32) (v2 : Int32) (out : Int32 × am_I × am_G), L_X7_smallestHeight_66 n 0 I G v1 v2 = some out → am_V X 0 0 (am_Rt X gS ad (pI out.1 out.2.1 out.2.2 (gP rd))) gS ad (6, [(0, .ref 66), (1, .int v1), (2, .int v2)], [], I, G, (gP rd))) := by
  induction n with
  | zero => exact fun I G v1 v2 out h => by rw [L_X7_smallestHeight_66_z] at h; cases h
  | succ n ih =>
    · intro I G v1 v2 out h
      rw [L_X7_smallestHeight_66_0] at h
      refine am_blk 6 [(.iload_n 2, 1, 2, 0, .null), (.aload_n 0, 1, 0, 0, .null), (.getfield 44, 3, 7, 0, .null), (.getfield 104, 3, 5, 9, .null), (.aload_n 0, 1, 0, 0, .null), (.getfield 44, 3, 7, 0, .null), (.getfield 111, 3, 5, 10, .null), (.imul, 1, 0, 0, .null)] (22, [(0, .ref 66), (1, .int v1), (2, .int v2)], [.int ((I 7 9) * (I 7 10)), .int v2], I, G, (gP rd)) (True) hX hi (by decide +kernel) rfl trivial ?_
      refine am_icmp_ge (tgt := 44) hX hi (off := (22)) (by decide +kernel) (by decide) (fun c22 => ?_) (fun c22 => ?_)
      · rw [if_pos c22] at h
        refine am_blk 44 [(.iload_n 1, 1, 1, 0, .null)] (45, [(0, .ref 66), (1, .int v1), (2, .int v2)], [.int v1], I, G, (gP rd)) (True) hX hi (by decide +kernel) rfl trivial ?_
        cases h
        refine am_iret hX hi rfl rfl (by decide +kernel) ?_
        exact ⟨rfl, rfl, rfl, rfl⟩
      · rw [if_neg c22] at h
        refine am_blk 25 [(.iload_n 1, 1, 1, 0, .null), (.aload_n 0, 1, 0, 0, .null), (.getfield 21, 3, 7, 5, .null), (.iload_n 2, 1, 2, 0, .null)] (31, [(0, .ref 66), (1, .int v1), (2, .int v2)], [.int v2, .ref 70, .int v1], I, G, (gP rd)) (True) hX hi (by decide +kernel) rfl trivial ?_
        refine am_callS hX hi (M := mX0_at) (idx := 85) (d' := 1) (As := [.ref 70, .int v2]) (rest := [.int v1]) mkX0_at msX0_at (by decide +kernel) (by decide +kernel) rfl ⟨by omega, by decide, Nat.le_of_ble_eq_true rfl⟩ rfl (c_at rfl (by decide) v2) ?_
        rintro r9 I9 G9 P9 ⟨e0, e1, e2, e3⟩
        rw [e0, e1, e2, e3]
        show am_V X 0 0 _ _ ad (34, [(0, .ref 66), (1, .int v1), (2, .int v2)], [.int (gAt (I 70) 576 v2), .int v1], I, G, (gP rd))
        refine am_blk 34 [(.invokestatic 204, 3, 1, 0, .null), (.istore_n 1, 1, 1, 0, .null), (.iinc 2 (1), 3, 2, 0, .int (1 : Int32)), (.goto (-35), 3, 0, 6, .null)] (6, [(0, .ref 66), (1, .int (if (gAt (I 70) 576 v2) < v1 then (gAt (I 70) 576 v2) else v1)), (2, .int (v2 + (1 : Int32)))], [], I, G, (gP rd)) (True) hX hi (by decide +kernel) rfl trivial ?_
        exact ih _ _ _ _ _ h
set_option maxRecDepth 20000 in
set_option maxHeartbeats 4000000 in
theorem c_X7_smallestHeight_66 (rd : Nat) (I : am_I) (G : am_G)  {out : Int32 × am_I × am_G} (h : R_X7_smallestHeight_66 I G  = some out) : am_Ct mX7_smallestHeight 2 gS [.ref 66] I G (gP rd) (pI out.1 out.2.1 out.2.2 (gP rd)) := by
  refine am_ofF (by decide +kernel) rfl (by decide) (by omega) (Nat.le_of_ble_eq_true rfl) (fun X ad hX hi => ?_)
  have hi : am_info X 7 cX7_smallestHeight 3 false (Option.some Jvm.ClassFile.FieldType.int) 2 := hi
  show am_V X 0 0 _ _ ad (0, [(0, .ref 66)], [], I, G, (gP rd))
  unfold R_X7_smallestHeight_66 at h
  refine am_blk 0 [(.sipush (999), 3, 0, 0, .int (999 : Int32)), (.istore_n 1, 1, 1, 0, .null), (.iconst (0), 1, 0, 0, .int (0 : Int32)), (.istore_n 2, 1, 2, 0, .null)] (6, [(0, .ref 66), (1, .int (999 : Int32)), (2, .int (0 : Int32))], [], I, G, (gP rd)) (True) hX hi (by decide +kernel) rfl trivial ?_
  exact (l_X7_smallestHeight_66 rd hX hi FU) _ _ _ _ _ h
noncomputable def L_X7_greatestHeight_53 (n0 : Nat) (hd : Nat) (I : am_I) (G : am_G) (v1 : Int32) (v2 : Int32) : Option (Int32 × am_I × am_G) := match n0 with
  | 0 => none
  | n + 1 => match hd with
    | _ => (if ((I 7 9) * (I 7 10)) ≤ v2 then some (v1, I, G) else L_X7_greatestHeight_53 n 0 I G (if v1 < (gAt (I 57) 576 v2) then (gAt (I 57) 576 v2) else v1) (v2 + (1 : Int32)))
theorem L_X7_greatestHeight_53_0 (n : Nat) (I : am_I) (G : am_G) (v1 : Int32) (v2 : Int32) : L_X7_greatestHeight_53 (n + 1) 0 I G v1 v2 = (if ((I 7 9) * (I 7 10)) ≤ v2 then some (v1, I, G) else L_X7_greatestHeight_53 n 0 I G (if v1 < (gAt (I 57) 576 v2) then (gAt (I 57) 576 v2) else v1) (v2 + (1 : Int32))) := rfl
theorem L_X7_greatestHeight_53_z (h : Nat) (I : am_I) (G : am_G) (v1 : Int32) (v2 : Int32) : L_X7_greatestHeight_53 0 h I G v1 v2 = none := rfl
noncomputable def R_X7_greatestHeight_53 (I : am_I) (G : am_G)  : Option (Int32 × am_I × am_G) := L_X7_greatestHeight_53 FU 0 I G (0 : Int32) (0 : Int32)
set_option maxRecDepth 20000 in
set_option maxHeartbeats 4000000 in
theorem l_X7_greatestHeight_53 (rd : Nat) {X : am_X} {ad : Nat → Nat} (hX : am_okz X ad) (hi : am_info X 7 cX7_greatestHeight 3 false (Option.some Jvm.ClassFile.FieldType.int) 2) (n : Nat) : (∀ (I : am_I) (G : am_G) (v1 : Int32) (v2 : Int32) (out : Int32 × am_I × am_G), L_X7_greatestHeight_53 n 0 I G v1 v2 = some out → am_V X 0 0 (am_Rt X gS ad (pI out.1 out.2.1 out.2.2 (gP rd))) gS ad (4, [(0, .ref 53), (1, .int v1), (2, .int v2)], [], I, G, (gP rd))) := by
  induction n with
  | zero => exact fun I G v1 v2 out h => by rw [L_X7_greatestHeight_53_z] at h; cases h
  | succ n ih =>
    · intro I G v1 v2 out h
      rw [L_X7_greatestHeight_53_0] at h
      refine am_blk 4 [(.iload_n 2, 1, 2, 0, .null), (.aload_n 0, 1, 0, 0, .null), (.getfield 44, 3, 7, 0, .null), (.getfield 104, 3, 5, 9, .null), (.aload_n 0, 1, 0, 0, .null), (.getfield 44, 3, 7, 0, .null), (.getfield 111, 3, 5, 10, .null), (.imul, 1, 0, 0, .null)] (20, [(0, .ref 53), (1, .int v1), (2, .int v2)], [.int ((I 7 9) * (I 7 10)), .int v2], I, G, (gP rd)) (True) hX hi (by decide +kernel) rfl trivial ?_
      refine am_icmp_ge (tgt := 42) hX hi (off := (22)) (by decide +kernel) (by decide) (fun c20 => ?_) (fun c20 => ?_)
      · rw [if_pos c20] at h
        refine am_blk 42 [(.iload_n 1, 1, 1, 0, .null)] (43, [(0, .ref 53), (1, .int v1), (2, .int v2)], [.int v1], I, G, (gP rd)) (True) hX hi (by decide +kernel) rfl trivial ?_
        cases h
        refine am_iret hX hi rfl rfl (by decide +kernel) ?_
        exact ⟨rfl, rfl, rfl, rfl⟩
      · rw [if_neg c20] at h
        refine am_blk 23 [(.iload_n 1, 1, 1, 0, .null), (.aload_n 0, 1, 0, 0, .null), (.getfield 21, 3, 7, 5, .null), (.iload_n 2, 1, 2, 0, .null)] (29, [(0, .ref 53), (1, .int v1), (2, .int v2)], [.int v2, .ref 57, .int v1], I, G, (gP rd)) (True) hX hi (by decide +kernel) rfl trivial ?_
        refine am_callS hX hi (M := mX0_at) (idx := 85) (d' := 1) (As := [.ref 57, .int v2]) (rest := [.int v1]) mkX0_at msX0_at (by decide +kernel) (by decide +kernel) rfl ⟨by omega, by decide, Nat.le_of_ble_eq_true rfl⟩ rfl (c_at rfl (by decide) v2) ?_
        rintro r9 I9 G9 P9 ⟨e0, e1, e2, e3⟩
        rw [e0, e1, e2, e3]
        show am_V X 0 0 _ _ ad (32, [(0, .ref 53), (1, .int v1), (2, .int v2)], [.int (gAt (I 57) 576 v2), .int v1], I, G, (gP rd))
        refine am_blk 32 [(.invokestatic 209, 3, 2, 0, .null), (.istore_n 1, 1, 1, 0, .null), (.iinc 2 (1), 3, 2, 0, .int (1 : Int32)), (.goto (-35), 3, 0, 4, .null)] (4, [(0, .ref 53), (1, .int (if v1 < (gAt (I 57) 576 v2) then (gAt (I 57) 576 v2) else v1)), (2, .int (v2 + (1 : Int32)))], [], I, G, (gP rd)) (True) hX hi (by decide +kernel) rfl trivial ?_
        exact ih _ _ _ _ _ h
set_option maxRecDepth 20000 in
set_option maxHeartbeats 4000000 in
theorem c_X7_greatestHeight_53 (rd : Nat) (I : am_I) (G : am_G)  {out : Int32 × am_I × am_G} (h : R_X7_greatestHeight_53 I G  = some out) : am_Ct mX7_greatestHeight 2 gS [.ref 53] I G (gP rd) (pI out.1 out.2.1 out.2.2 (gP rd)) := by
  refine am_ofF (by decide +kernel) rfl (by decide) (by omega) (Nat.le_of_ble_eq_true rfl) (fun X ad hX hi => ?_)
  have hi : am_info X 7 cX7_greatestHeight 3 false (Option.some Jvm.ClassFile.FieldType.int) 2 := hi
  show am_V X 0 0 _ _ ad (0, [(0, .ref 53)], [], I, G, (gP rd))
  unfold R_X7_greatestHeight_53 at h
  refine am_blk 0 [(.iconst (0), 1, 0, 0, .int (0 : Int32)), (.istore_n 1, 1, 1, 0, .null), (.iconst (0), 1, 0, 0, .int (0 : Int32)), (.istore_n 2, 1, 2, 0, .null)] (4, [(0, .ref 53), (1, .int (0 : Int32)), (2, .int (0 : Int32))], [], I, G, (gP rd)) (True) hX hi (by decide +kernel) rfl trivial ?_
  exact (l_X7_greatestHeight_53 rd hX hi FU) _ _ _ _ _ h
noncomputable def L_X7_greatestHeight_66 (n0 : Nat) (hd : Nat) (I : am_I) (G : am_G) (v1 : Int32) (v2 : Int32) : Option (Int32 × am_I × am_G) := match n0 with
  | 0 => none
  | n + 1 => match hd with
    | _ => (if ((I 7 9) * (I 7 10)) ≤ v2 then some (v1, I, G) else L_X7_greatestHeight_66 n 0 I G (if v1 < (gAt (I 70) 576 v2) then (gAt (I 70) 576 v2) else v1) (v2 + (1 : Int32)))
theorem L_X7_greatestHeight_66_0 (n : Nat) (I : am_I) (G : am_G) (v1 : Int32) (v2 : Int32) : L_X7_greatestHeight_66 (n + 1) 0 I G v1 v2 = (if ((I 7 9) * (I 7 10)) ≤ v2 then some (v1, I, G) else L_X7_greatestHeight_66 n 0 I G (if v1 < (gAt (I 70) 576 v2) then (gAt (I 70) 576 v2) else v1) (v2 + (1 : Int32))) := rfl
theorem L_X7_greatestHeight_66_z (h : Nat) (I : am_I) (G : am_G) (v1 : Int32) (v2 : Int32) : L_X7_greatestHeight_66 0 h I G v1 v2 = none := rfl
noncomputable def R_X7_greatestHeight_66 (I : am_I) (G : am_G)  : Option (Int32 × am_I × am_G) := L_X7_greatestHeight_66 FU 0 I G (0 : Int32) (0 : Int32)
set_option maxRecDepth 20000 in
set_option maxHeartbeats 4000000 in
theorem l_X7_greatestHeight_66 (rd : Nat) {X : am_X} {ad : Nat → Nat} (hX : am_okz X ad) (hi : am_info X 7 cX7_greatestHeight 3 false (Option.some Jvm.ClassFile.FieldType.int) 2) (n : Nat) : (∀ (I : am_I) (G : am_G) (v1 : Int32) (v2 : Int32) (out : Int32 × am_I × am_G), L_X7_greatestHeight_66 n 0 I G v1 v2 = some out → am_V X 0 0 (am_Rt X gS ad (pI out.1 out.2.1 out.2.2 (gP rd))) gS ad (4, [(0, .ref 66), (1, .int v1), (2, .int v2)], [], I, G, (gP rd))) := by
  induction n with
  | zero => exact fun I G v1 v2 out h => by rw [L_X7_greatestHeight_66_z] at h; cases h
  | succ n ih =>
    · intro I G v1 v2 out h
      rw [L_X7_greatestHeight_66_0] at h
      refine am_blk 4 [(.iload_n 2, 1, 2, 0, .null), (.aload_n 0, 1, 0, 0, .null), (.getfield 44, 3, 7, 0, .null), (.getfield 104, 3, 5, 9, .null), (.aload_n 0, 1, 0, 0, .null), (.getfield 44, 3, 7, 0, .null), (.getfield 111, 3, 5, 10, .null), (.imul, 1, 0, 0, .null)] (20, [(0, .ref 66), (1, .int v1), (2, .int v2)], [.int ((I 7 9) * (I 7 10)), .int v2], I, G, (gP rd)) (True) hX hi (by decide +kernel) rfl trivial ?_
      refine am_icmp_ge (tgt := 42) hX hi (off := (22)) (by decide +kernel) (by decide) (fun c20 => ?_) (fun c20 => ?_)
      · rw [if_pos c20] at h
        refine am_blk 42 [(.iload_n 1, 1, 1, 0, .null)] (43, [(0, .ref 66), (1, .int v1), (2, .int v2)], [.int v1], I, G, (gP rd)) (True) hX hi (by decide +kernel) rfl trivial ?_
        cases h
        refine am_iret hX hi rfl rfl (by decide +kernel) ?_
        exact ⟨rfl, rfl, rfl, rfl⟩
      · rw [if_neg c20] at h
        refine am_blk 23 [(.iload_n 1, 1, 1, 0, .null), (.aload_n 0, 1, 0, 0, .null), (.getfield 21, 3, 7, 5, .null), (.iload_n 2, 1, 2, 0, .null)] (29, [(0, .ref 66), (1, .int v1), (2, .int v2)], [.int v2, .ref 70, .int v1], I, G, (gP rd)) (True) hX hi (by decide +kernel) rfl trivial ?_
        refine am_callS hX hi (M := mX0_at) (idx := 85) (d' := 1) (As := [.ref 70, .int v2]) (rest := [.int v1]) mkX0_at msX0_at (by decide +kernel) (by decide +kernel) rfl ⟨by omega, by decide, Nat.le_of_ble_eq_true rfl⟩ rfl (c_at rfl (by decide) v2) ?_
        rintro r9 I9 G9 P9 ⟨e0, e1, e2, e3⟩
        rw [e0, e1, e2, e3]
        show am_V X 0 0 _ _ ad (32, [(0, .ref 66), (1, .int v1), (2, .int v2)], [.int (gAt (I 70) 576 v2), .int v1], I, G, (gP rd))
        refine am_blk 32 [(.invokestatic 209, 3, 2, 0, .null), (.istore_n 1, 1, 1, 0, .null), (.iinc 2 (1), 3, 2, 0, .int (1 : Int32)), (.goto (-35), 3, 0, 4, .null)] (4, [(0, .ref 66), (1, .int (if v1 < (gAt (I 70) 576 v2) then (gAt (I 70) 576 v2) else v1)), (2, .int (v2 + (1 : Int32)))], [], I, G, (gP rd)) (True) hX hi (by decide +kernel) rfl trivial ?_
        exact ih _ _ _ _ _ h
set_option maxRecDepth 20000 in
set_option maxHeartbeats 4000000 in
theorem c_X7_greatestHeight_66 (rd : Nat) (I : am_I) (G : am_G)  {out : Int32 × am_I × am_G} (h : R_X7_greatestHeight_66 I G  = some out) : am_Ct mX7_greatestHeight 2 gS [.ref 66] I G (gP rd) (pI out.1 out.2.1 out.2.2 (gP rd)) := by
  refine am_ofF (by decide +kernel) rfl (by decide) (by omega) (Nat.le_of_ble_eq_true rfl) (fun X ad hX hi => ?_)
  have hi : am_info X 7 cX7_greatestHeight 3 false (Option.some Jvm.ClassFile.FieldType.int) 2 := hi
  show am_V X 0 0 _ _ ad (0, [(0, .ref 66)], [], I, G, (gP rd))
  unfold R_X7_greatestHeight_66 at h
  refine am_blk 0 [(.iconst (0), 1, 0, 0, .int (0 : Int32)), (.istore_n 1, 1, 1, 0, .null), (.iconst (0), 1, 0, 0, .int (0 : Int32)), (.istore_n 2, 1, 2, 0, .null)] (4, [(0, .ref 66), (1, .int (0 : Int32)), (2, .int (0 : Int32))], [], I, G, (gP rd)) (True) hX hi (by decide +kernel) rfl trivial ?_
  exact (l_X7_greatestHeight_66 rd hX hi FU) _ _ _ _ _ h
noncomputable def L_X9_append_1 (n0 : Nat) (hd : Nat) (I : am_I) (G : am_G) (v1 : Int32) (v2 : Int32) : Option (Unit × am_I × am_G) := match n0 with
  | 0 => none
  | n + 1 => match hd with
    | _ => (if v2 < 0 then some ((), I, G) else (if (I 1 5) < 0 then L_X9_append_1 n 0 I G v1 (v2 + (-8 : Int32)) else (if (Int32.ofNat 2000) ≤ (I 1 5) then L_X9_append_1 n 0 I G v1 (v2 + (-8 : Int32)) else rg (vp_in (I 1 5) 2000) (L_X9_append_1 n 0 (am_up (am_up I 2 (I 1 5).toNatClampNeg ((v1 >>> (v2 &&& 31)) &&& (255 : Int32))) 1 5 ((I 1 5) + (1 : Int32))) G v1 (v2 + (-8 : Int32))))))
theorem L_X9_append_1_0 (n : Nat) (I : am_I) (G : am_G) (v1 : Int32) (v2 : Int32) : L_X9_append_1 (n + 1) 0 I G v1 v2 = (if v2 < 0 then some ((), I, G) else (if (I 1 5) < 0 then L_X9_append_1 n 0 I G v1 (v2 + (-8 : Int32)) else (if (Int32.ofNat 2000) ≤ (I 1 5) then L_X9_append_1 n 0 I G v1 (v2 + (-8 : Int32)) else rg (vp_in (I 1 5) 2000) (L_X9_append_1 n 0 (am_up (am_up I 2 (I 1 5).toNatClampNeg ((v1 >>> (v2 &&& 31)) &&& (255 : Int32))) 1 5 ((I 1 5) + (1 : Int32))) G v1 (v2 + (-8 : Int32)))))) := rfl
theorem L_X9_append_1_z (h : Nat) (I : am_I) (G : am_G) (v1 : Int32) (v2 : Int32) : L_X9_append_1 0 h I G v1 v2 = none := rfl
noncomputable def R_X9_append_1 (I : am_I) (G : am_G) (x1 : Int32) : Option (Unit × am_I × am_G) := L_X9_append_1 FU 0 I G x1 (24 : Int32)
set_option maxRecDepth 20000 in
set_option maxHeartbeats 4000000 in
theorem l_X9_append_1 (rd : Nat) {X : am_X} {ad : Nat → Nat} (hX : am_okz X ad) (hi : am_info X 9 cX9_append 3 false none 1) (n : Nat) : (∀ (I : am_I) (G : am_G) (v1 : Int32) (v2 : Int32) (out : Unit × am_I × am_G), L_X9_append_1 n 0 I G v1 v2 = some out → am_V X 0 0 (am_Rt X gS ad (pV out.2.1 out.2.2 (gP rd))) gS ad (3, [(0, .ref 1), (1, .int v1), (2, .int v2)], [], I, G, (gP rd))) := by
  induction n with
  | zero => exact fun I G v1 v2 out h => by rw [L_X9_append_1_z] at h; cases h
  | succ n ih =>
    · intro I G v1 v2 out h
      rw [L_X9_append_1_0] at h
      refine am_blk 3 [(.iload_n 2, 1, 2, 0, .null)] (4, [(0, .ref 1), (1, .int v1), (2, .int v2)], [.int v2], I, G, (gP rd)) (True) hX hi (by decide +kernel) rfl trivial ?_
      refine am_if_lt (tgt := 58) hX hi (off := (54)) (by decide +kernel) (by decide) (fun c4 => ?_) (fun c4 => ?_)
      · rw [if_pos c4] at h
        cases h
        refine am_vret hX hi rfl (by decide +kernel) ?_
        exact ⟨rfl, rfl, rfl, rfl⟩
      · rw [if_neg c4] at h
        refine am_blk 7 [(.aload_n 0, 1, 0, 0, .null), (.getfield 44, 3, 9, 5, .null)] (11, [(0, .ref 1), (1, .int v1), (2, .int v2)], [.int (I 1 5)], I, G, (gP rd)) (True) hX hi (by decide +kernel) rfl trivial ?_
        refine am_if_lt (tgt := 52) hX hi (off := (41)) (by decide +kernel) (by decide) (fun c11 => ?_) (fun c11 => ?_)
        · rw [if_pos c11] at h
          refine am_blk 52 [(.iinc 2 (-8), 3, 2, 0, .int (-8 : Int32)), (.goto (-52), 3, 0, 3, .null)] (3, [(0, .ref 1), (1, .int v1), (2, .int (v2 + (-8 : Int32)))], [], I, G, (gP rd)) (True) hX hi (by decide +kernel) rfl trivial ?_
          exact ih _ _ _ _ _ h
        · rw [if_neg c11] at h
          refine am_blk 14 [(.aload_n 0, 1, 0, 0, .null), (.getfield 44, 3, 9, 5, .null), (.aload_n 0, 1, 0, 0, .null), (.getfield 9, 3, 9, 0, .null), (.arraylength, 1, 0, 0, .null)] (23, [(0, .ref 1), (1, .int v1), (2, .int v2)], [.int (Int32.ofNat 2000), .int (I 1 5)], I, G, (gP rd)) (True) hX hi (by decide +kernel) rfl trivial ?_
          refine am_icmp_ge (tgt := 52) hX hi (off := (29)) (by decide +kernel) (by decide) (fun c23 => ?_) (fun c23 => ?_)
          · rw [if_pos c23] at h
            refine am_blk 52 [(.iinc 2 (-8), 3, 2, 0, .int (-8 : Int32)), (.goto (-52), 3, 0, 3, .null)] (3, [(0, .ref 1), (1, .int v1), (2, .int (v2 + (-8 : Int32)))], [], I, G, (gP rd)) (True) hX hi (by decide +kernel) rfl trivial ?_
            exact ih _ _ _ _ _ h
          · rw [if_neg c23] at h
            obtain ⟨g0, h⟩ := rg_some h
            refine am_blk 26 [(.aload_n 0, 1, 0, 0, .null), (.getfield 9, 3, 9, 0, .null), (.aload_n 0, 1, 0, 0, .null), (.getfield 44, 3, 9, 5, .null), (.iload_n 1, 1, 1, 0, .null), (.iload_n 2, 1, 2, 0, .null), (.ishr, 1, 0, 0, .null), (.sipush (255), 3, 0, 0, .int (255 : Int32)), (.iand, 1, 0, 0, .null), (.iastore, 1, 0, 0, .null), (.aload_n 0, 1, 0, 0, .null), (.dup, 1, 0, 0, .null), (.getfield 44, 3, 9, 5, .null), (.iconst (1), 1, 0, 0, .int (1 : Int32)), (.iadd, 1, 0, 0, .null), (.putfield 44, 3, 9, 5, .null), (.iinc 2 (-8), 3, 2, 0, .int (-8 : Int32)), (.goto (-52), 3, 0, 3, .null)] (3, [(0, .ref 1), (1, .int v1), (2, .int (v2 + (-8 : Int32)))], [], (am_up (am_up I 2 (I 1 5).toNatClampNeg ((v1 >>> (v2 &&& 31)) &&& (255 : Int32))) 1 5 ((I 1 5) + (1 : Int32))), G, (gP rd)) (vp_in (I 1 5) 2000 ∧ True) hX hi (by decide +kernel) rfl ⟨g0, trivial⟩ ?_
            exact ih _ _ _ _ _ h
set_option maxRecDepth 20000 in
set_option maxHeartbeats 4000000 in
theorem c_X9_append_1 (rd : Nat) (I : am_I) (G : am_G) (x1 : Int32) {out : Unit × am_I × am_G} (h : R_X9_append_1 I G x1 = some out) : am_Ct mX9_append 1 gS [.ref 1, .int x1] I G (gP rd) (pV out.2.1 out.2.2 (gP rd)) := by
  refine am_ofF (by decide +kernel) rfl (by decide) (by omega) (Nat.le_of_ble_eq_true rfl) (fun X ad hX hi => ?_)
  have hi : am_info X 9 cX9_append 3 false none 1 := hi
  show am_V X 0 0 _ _ ad (0, [(0, .ref 1), (1, .int x1)], [], I, G, (gP rd))
  unfold R_X9_append_1 at h
  refine am_blk 0 [(.bipush (24), 2, 0, 0, .int (24 : Int32)), (.istore_n 2, 1, 2, 0, .null)] (3, [(0, .ref 1), (1, .int x1), (2, .int (24 : Int32))], [], I, G, (gP rd)) (True) hX hi (by decide +kernel) rfl trivial ?_
  exact (l_X9_append_1 rd hX hi FU) _ _ _ _ _ h
noncomputable def L_X9_readWord_1 (n0 : Nat) (hd : Nat) (I : am_I) (G : am_G) (v1 : Int32) (v2 : Int64) (v4 : Int32) : Option (Int32 × am_I × am_G) := match n0 with
  | 0 => none
  | n + 1 => match hd with
    | 0 => (if (I 1 5) ≤ (I 1 7) then (if ((I 1 7) - v1) ≤ (10 : Int32) then L_X9_readWord_1 n 1 I G v1 v2 (0 : Int32) else some ((42 : Int32), I, G)) else (if (f_X9_isLetter I G (f_X9_byteHere_1 I G )) = 0 then (if (f_X9_isDigit I G (f_X9_byteHere_1 I G )) = 0 then (if ((I 1 7) - v1) ≤ (10 : Int32) then L_X9_readWord_1 n 1 I G v1 v2 (0 : Int32) else some ((42 : Int32), I, G)) else (if (f_X9_isLetter I G (f_X9_byteHere_1 I G )) = 0 then L_X9_readWord_1 n 0 (am_up I 1 7 ((I 1 7) + (1 : Int32))) G v1 ((v2 * (37)) + (((f_X9_byteHere_1 I G ) - (48 : Int32)) + (27 : Int32)).toInt64) 0 else L_X9_readWord_1 n 0 (am_up I 1 7 ((I 1 7) + (1 : Int32))) G v1 ((v2 * (37)) + (((f_X9_byteHere_1 I G ) - (97 : Int32)) + (1 : Int32)).toInt64) 0)) else (if (f_X9_isLetter I G (f_X9_byteHere_1 I G )) = 0 then L_X9_readWord_1 n 0 (am_up I 1 7 ((I 1 7) + (1 : Int32))) G v1 ((v2 * (37)) + (((f_X9_byteHere_1 I G ) - (48 : Int32)) + (27 : Int32)).toInt64) 0 else L_X9_readWord_1 n 0 (am_up I 1 7 ((I 1 7) + (1 : Int32))) G v1 ((v2 * (37)) + (((f_X9_byteHere_1 I G ) - (97 : Int32)) + (1 : Int32)).toInt64) 0)))
    | _ => (if (Int32.ofNat 24) ≤ v4 then some ((39 : Int32), I, (am_up G 1 8 v2)) else rg (vp_in v4 24) ((if (lg_cmp (G 3 v4.toNatClampNeg) v2) = 0 then some (v4, I, G) else L_X9_readWord_1 n 1 I G v1 v2 (v4 + (1 : Int32)))))
theorem L_X9_readWord_1_0 (n : Nat) (I : am_I) (G : am_G) (v1 : Int32) (v2 : Int64) (v4 : Int32) : L_X9_readWord_1 (n + 1) 0 I G v1 v2 v4 = (if (I 1 5) ≤ (I 1 7) then (if ((I 1 7) - v1) ≤ (10 : Int32) then L_X9_readWord_1 n 1 I G v1 v2 (0 : Int32) else some ((42 : Int32), I, G)) else (if (f_X9_isLetter I G (f_X9_byteHere_1 I G )) = 0 then (if (f_X9_isDigit I G (f_X9_byteHere_1 I G )) = 0 then (if ((I 1 7) - v1) ≤ (10 : Int32) then L_X9_readWord_1 n 1 I G v1 v2 (0 : Int32) else some ((42 : Int32), I, G)) else (if (f_X9_isLetter I G (f_X9_byteHere_1 I G )) = 0 then L_X9_readWord_1 n 0 (am_up I 1 7 ((I 1 7) + (1 : Int32))) G v1 ((v2 * (37)) + (((f_X9_byteHere_1 I G ) - (48 : Int32)) + (27 : Int32)).toInt64) 0 else L_X9_readWord_1 n 0 (am_up I 1 7 ((I 1 7) + (1 : Int32))) G v1 ((v2 * (37)) + (((f_X9_byteHere_1 I G ) - (97 : Int32)) + (1 : Int32)).toInt64) 0)) else (if (f_X9_isLetter I G (f_X9_byteHere_1 I G )) = 0 then L_X9_readWord_1 n 0 (am_up I 1 7 ((I 1 7) + (1 : Int32))) G v1 ((v2 * (37)) + (((f_X9_byteHere_1 I G ) - (48 : Int32)) + (27 : Int32)).toInt64) 0 else L_X9_readWord_1 n 0 (am_up I 1 7 ((I 1 7) + (1 : Int32))) G v1 ((v2 * (37)) + (((f_X9_byteHere_1 I G ) - (97 : Int32)) + (1 : Int32)).toInt64) 0))) := rfl
theorem L_X9_readWord_1_1 (n : Nat) (I : am_I) (G : am_G) (v1 : Int32) (v2 : Int64) (v4 : Int32) : L_X9_readWord_1 (n + 1) 1 I G v1 v2 v4 = (if (Int32.ofNat 24) ≤ v4 then some ((39 : Int32), I, (am_up G 1 8 v2)) else rg (vp_in v4 24) ((if (lg_cmp (G 3 v4.toNatClampNeg) v2) = 0 then some (v4, I, G) else L_X9_readWord_1 n 1 I G v1 v2 (v4 + (1 : Int32))))) := rfl
theorem L_X9_readWord_1_z (h : Nat) (I : am_I) (G : am_G) (v1 : Int32) (v2 : Int64) (v4 : Int32) : L_X9_readWord_1 0 h I G v1 v2 v4 = none := rfl
noncomputable def R_X9_readWord_1 (I : am_I) (G : am_G)  : Option (Int32 × am_I × am_G) := L_X9_readWord_1 FU 0 I G (I 1 7) (0) 0
set_option maxRecDepth 20000 in
set_option maxHeartbeats 4000000 in
theorem l_X9_readWord_1 (rd : Nat) {X : am_X} {ad : Nat → Nat} (hX : am_okz X ad) (hi : am_info X 9 cX9_readWord 5 false (Option.some Jvm.ClassFile.FieldType.int) 2) (n : Nat) : (∀ (I : am_I) (G : am_G) (v1 : Int32) (v2 : Int64) (v4 : Int32) (out : Int32 × am_I × am_G), L_X9_readWord_1 n 0 I G v1 v2 v4 = some out → am_V X 0 0 (am_Rt X gS ad (pI out.1 out.2.1 out.2.2 (gP rd))) gS ad (7, [(0, .ref 1), (1, .int v1), (2, .long v2)], [], I, G, (gP rd))) ∧ (∀ (I : am_I) (G : am_G) (v1 : Int32) (v2 : Int64) (v4 : Int32) (out : Int32 × am_I × am_G), L_X9_readWord_1 n 1 I G v1 v2 v4 = some out → am_V X 0 0 (am_Rt X gS ad (pI out.1 out.2.1 out.2.2 (gP rd))) gS ad (108, [(0, .ref 1), (1, .int v1), (2, .long v2), (4, .int v4)], [], I, G, (gP rd))) := by
  induction n with
  | zero => exact ⟨(fun I G v1 v2 v4 out h => by rw [L_X9_readWord_1_z] at h; cases h), (fun I G v1 v2 v4 out h => by rw [L_X9_readWord_1_z] at h; cases h)⟩
  | succ n ih =>
    refine ⟨?_, ?_⟩
    · intro I G v1 v2 v4 out h
      rw [L_X9_readWord_1_0] at h
      refine am_blk 7 [(.aload_n 0, 1, 0, 0, .null), (.getfield 47, 3, 9, 7, .null), (.aload_n 0, 1, 0, 0, .null), (.getfield 44, 3, 9, 5, .null)] (15, [(0, .ref 1), (1, .int v1), (2, .long v2)], [.int (I 1 5), .int (I 1 7)], I, G, (gP rd)) (True) hX hi (by decide +kernel) rfl trivial ?_
      refine am_icmp_ge (tgt := 91) hX hi (off := (76)) (by decide +kernel) (by decide) (fun c15 => ?_) (fun c15 => ?_)
      · rw [if_pos c15] at h
        refine am_blk 91 [(.aload_n 0, 1, 0, 0, .null), (.getfield 47, 3, 9, 7, .null), (.iload_n 1, 1, 1, 0, .null), (.isub, 1, 0, 0, .null), (.bipush (10), 2, 0, 0, .int (10 : Int32))] (99, [(0, .ref 1), (1, .int v1), (2, .long v2)], [.int (10 : Int32), .int ((I 1 7) - v1)], I, G, (gP rd)) (True) hX hi (by decide +kernel) rfl trivial ?_
        refine am_icmp_le (tgt := 105) hX hi (off := (6)) (by decide +kernel) (by decide) (fun c99 => ?_) (fun c99 => ?_)
        · rw [if_pos c99] at h
          refine am_blk 105 [(.iconst (0), 1, 0, 0, .int (0 : Int32)), (.istore 4, 2, 4, 0, .null)] (108, [(0, .ref 1), (1, .int v1), (2, .long v2), (4, .int (0 : Int32))], [], I, G, (gP rd)) (True) hX hi (by decide +kernel) rfl trivial ?_
          exact ih.2 _ _ _ _ _ _ h
        · rw [if_neg c99] at h
          refine am_blk 102 [(.bipush (42), 2, 0, 0, .int (42 : Int32))] (104, [(0, .ref 1), (1, .int v1), (2, .long v2)], [.int (42 : Int32)], I, G, (gP rd)) (True) hX hi (by decide +kernel) rfl trivial ?_
          cases h
          refine am_iret hX hi rfl rfl (by decide +kernel) ?_
          exact ⟨rfl, rfl, rfl, rfl⟩
      · rw [if_neg c15] at h
        refine am_blk 18 [(.aload_n 0, 1, 0, 0, .null)] (19, [(0, .ref 1), (1, .int v1), (2, .long v2)], [.ref 1], I, G, (gP rd)) (True) hX hi (by decide +kernel) rfl trivial ?_
        refine am_callV hX hi (M := mX9_byteHere) (idx := 57) (d' := 1) (b := 1) (ci := 9) (As := []) (rest := []) mkX9_byteHere miX9_byteHere mvX9_byteHere (by decide +kernel) (by decide +kernel) rfl (by decide +kernel) rfl ⟨by omega, by decide, Nat.le_of_ble_eq_true rfl⟩ rfl (c_X9_byteHere_1 _ I G ) ?_
        rintro r9 I9 G9 P9 ⟨e0, e1, e2, e3⟩
        rw [e0, e1, e2, e3]
        show am_V X 0 0 _ _ ad (22, [(0, .ref 1), (1, .int v1), (2, .long v2)], [.int (f_X9_byteHere_1 I G )], I, G, (gP rd))
        refine am_callS hX hi (M := mX9_isLetter) (idx := 67) (d' := 1) (As := [.int (f_X9_byteHere_1 I G )]) (rest := []) mkX9_isLetter msX9_isLetter (by decide +kernel) (by decide +kernel) rfl ⟨by omega, by decide, Nat.le_of_ble_eq_true rfl⟩ rfl (c_X9_isLetter I G (f_X9_byteHere_1 I G )) ?_
        rintro r9 I9 G9 P9 ⟨e0, e1, e2, e3⟩
        rw [e0, e1, e2, e3]
        show am_V X 0 0 _ _ ad (25, [(0, .ref 1), (1, .int v1), (2, .long v2)], [.int (f_X9_isLetter I G (f_X9_byteHere_1 I G ))], I, G, (gP rd))
        refine am_if_ne (tgt := 38) hX hi (off := (13)) (by decide +kernel) (by decide) (fun c25 => ?_) (fun c25 => ?_)
        · rw [if_neg c25] at h
          refine am_blk 38 [(.aload_n 0, 1, 0, 0, .null)] (39, [(0, .ref 1), (1, .int v1), (2, .long v2)], [.ref 1], I, G, (gP rd)) (True) hX hi (by decide +kernel) rfl trivial ?_
          refine am_callV hX hi (M := mX9_byteHere) (idx := 57) (d' := 1) (b := 1) (ci := 9) (As := []) (rest := []) mkX9_byteHere miX9_byteHere mvX9_byteHere (by decide +kernel) (by decide +kernel) rfl (by decide +kernel) rfl ⟨by omega, by decide, Nat.le_of_ble_eq_true rfl⟩ rfl (c_X9_byteHere_1 _ I G ) ?_
          rintro r9 I9 G9 P9 ⟨e0, e1, e2, e3⟩
          rw [e0, e1, e2, e3]
          show am_V X 0 0 _ _ ad (42, [(0, .ref 1), (1, .int v1), (2, .long v2)], [.int (f_X9_byteHere_1 I G )], I, G, (gP rd))
          refine am_blk 42 [(.istore 4, 2, 4, 0, .null), (.lload_n 2, 1, 2, 0, .null), (.ldc2_w 42, 3, 0, 0, .long (37)), (.lmul, 1, 0, 0, .null), (.iload 4, 2, 4, 0, .null)] (51, [(0, .ref 1), (1, .int v1), (2, .long v2), (4, .int (f_X9_byteHere_1 I G ))], [.int (f_X9_byteHere_1 I G ), .long (v2 * (37))], I, G, (gP rd)) (True) hX hi (by decide +kernel) rfl trivial ?_
          refine am_callS hX hi (M := mX9_isLetter) (idx := 67) (d' := 1) (As := [.int (f_X9_byteHere_1 I G )]) (rest := [.long (v2 * (37))]) mkX9_isLetter msX9_isLetter (by decide +kernel) (by decide +kernel) rfl ⟨by omega, by decide, Nat.le_of_ble_eq_true rfl⟩ rfl (c_X9_isLetter I G (f_X9_byteHere_1 I G )) ?_
          rintro r9 I9 G9 P9 ⟨e0, e1, e2, e3⟩
          rw [e0, e1, e2, e3]
          show am_V X 0 0 _ _ ad (54, [(0, .ref 1), (1, .int v1), (2, .long v2), (4, .int (f_X9_byteHere_1 I G ))], [.int (f_X9_isLetter I G (f_X9_byteHere_1 I G )), .long (v2 * (37))], I, G, (gP rd))
          refine am_if_eq (tgt := 67) hX hi (off := (13)) (by decide +kernel) (by decide) (fun c54 => ?_) (fun c54 => ?_)
          · rw [if_pos c54] at h
            refine am_blk 67 [(.iload 4, 2, 4, 0, .null), (.bipush (48), 2, 0, 0, .int (48 : Int32)), (.isub, 1, 0, 0, .null), (.bipush (27), 2, 0, 0, .int (27 : Int32)), (.iadd, 1, 0, 0, .null), (.i2l, 1, 0, 0, .null), (.ladd, 1, 0, 0, .null), (.lstore_n 2, 1, 2, 0, .null), (.aload_n 0, 1, 0, 0, .null), (.dup, 1, 0, 0, .null), (.getfield 47, 3, 9, 7, .null), (.iconst (1), 1, 0, 0, .int (1 : Int32)), (.iadd, 1, 0, 0, .null), (.putfield 47, 3, 9, 7, .null), (.goto (-81), 3, 0, 7, .null)] (7, [(0, .ref 1), (1, .int v1), (2, .long ((v2 * (37)) + (((f_X9_byteHere_1 I G ) - (48 : Int32)) + (27 : Int32)).toInt64)), (4, .int (f_X9_byteHere_1 I G ))], [], (am_up I 1 7 ((I 1 7) + (1 : Int32))), G, (gP rd)) (True) hX hi (by decide +kernel) rfl trivial ?_
            refine am_sub (L' := [(0, .ref 1), (1, .int v1), (2, .long ((v2 * (37)) + (((f_X9_byteHere_1 I G ) - (48 : Int32)) + (27 : Int32)).toInt64))]) (by simp) ?_
            exact ih.1 _ _ _ _ _ _ h
          · rw [if_neg c54] at h
            refine am_blk 57 [(.iload 4, 2, 4, 0, .null), (.bipush (97), 2, 0, 0, .int (97 : Int32)), (.isub, 1, 0, 0, .null), (.iconst (1), 1, 0, 0, .int (1 : Int32)), (.iadd, 1, 0, 0, .null), (.goto (11), 3, 0, 75, .null), (.i2l, 1, 0, 0, .null), (.ladd, 1, 0, 0, .null), (.lstore_n 2, 1, 2, 0, .null), (.aload_n 0, 1, 0, 0, .null), (.dup, 1, 0, 0, .null), (.getfield 47, 3, 9, 7, .null), (.iconst (1), 1, 0, 0, .int (1 : Int32)), (.iadd, 1, 0, 0, .null), (.putfield 47, 3, 9, 7, .null), (.goto (-81), 3, 0, 7, .null)] (7, [(0, .ref 1), (1, .int v1), (2, .long ((v2 * (37)) + (((f_X9_byteHere_1 I G ) - (97 : Int32)) + (1 : Int32)).toInt64)), (4, .int (f_X9_byteHere_1 I G ))], [], (am_up I 1 7 ((I 1 7) + (1 : Int32))), G, (gP rd)) (True) hX hi (by decide +kernel) rfl trivial ?_
            refine am_sub (L' := [(0, .ref 1), (1, .int v1), (2, .long ((v2 * (37)) + (((f_X9_byteHere_1 I G ) - (97 : Int32)) + (1 : Int32)).toInt64))]) (by simp) ?_
            exact ih.1 _ _ _ _ _ _ h
        · rw [if_pos c25] at h
          refine am_blk 28 [(.aload_n 0, 1, 0, 0, .null)] (29, [(0, .ref 1), (1, .int v1), (2, .long v2)], [.ref 1], I, G, (gP rd)) (True) hX hi (by decide +kernel) rfl trivial ?_
          refine am_callV hX hi (M := mX9_byteHere) (idx := 57) (d' := 1) (b := 1) (ci := 9) (As := []) (rest := []) mkX9_byteHere miX9_byteHere mvX9_byteHere (by decide +kernel) (by decide +kernel) rfl (by decide +kernel) rfl ⟨by omega, by decide, Nat.le_of_ble_eq_true rfl⟩ rfl (c_X9_byteHere_1 _ I G ) ?_
          rintro r9 I9 G9 P9 ⟨e0, e1, e2, e3⟩
          rw [e0, e1, e2, e3]
          show am_V X 0 0 _ _ ad (32, [(0, .ref 1), (1, .int v1), (2, .long v2)], [.int (f_X9_byteHere_1 I G )], I, G, (gP rd))
          refine am_callS hX hi (M := mX9_isDigit) (idx := 74) (d' := 1) (As := [.int (f_X9_byteHere_1 I G )]) (rest := []) mkX9_isDigit msX9_isDigit (by decide +kernel) (by decide +kernel) rfl ⟨by omega, by decide, Nat.le_of_ble_eq_true rfl⟩ rfl (c_X9_isDigit I G (f_X9_byteHere_1 I G )) ?_
          rintro r9 I9 G9 P9 ⟨e0, e1, e2, e3⟩
          rw [e0, e1, e2, e3]
          show am_V X 0 0 _ _ ad (35, [(0, .ref 1), (1, .int v1), (2, .long v2)], [.int (f_X9_isDigit I G (f_X9_byteHere_1 I G ))], I, G, (gP rd))
          refine am_if_eq (tgt := 91) hX hi (off := (56)) (by decide +kernel) (by decide) (fun c35 => ?_) (fun c35 => ?_)
          · rw [if_pos c35] at h
            refine am_blk 91 [(.aload_n 0, 1, 0, 0, .null), (.getfield 47, 3, 9, 7, .null), (.iload_n 1, 1, 1, 0, .null), (.isub, 1, 0, 0, .null), (.bipush (10), 2, 0, 0, .int (10 : Int32))] (99, [(0, .ref 1), (1, .int v1), (2, .long v2)], [.int (10 : Int32), .int ((I 1 7) - v1)], I, G, (gP rd)) (True) hX hi (by decide +kernel) rfl trivial ?_
            refine am_icmp_le (tgt := 105) hX hi (off := (6)) (by decide +kernel) (by decide) (fun c99 => ?_) (fun c99 => ?_)
            · rw [if_pos c99] at h
              refine am_blk 105 [(.iconst (0), 1, 0, 0, .int (0 : Int32)), (.istore 4, 2, 4, 0, .null)] (108, [(0, .ref 1), (1, .int v1), (2, .long v2), (4, .int (0 : Int32))], [], I, G, (gP rd)) (True) hX hi (by decide +kernel) rfl trivial ?_
              exact ih.2 _ _ _ _ _ _ h
            · rw [if_neg c99] at h
              refine am_blk 102 [(.bipush (42), 2, 0, 0, .int (42 : Int32))] (104, [(0, .ref 1), (1, .int v1), (2, .long v2)], [.int (42 : Int32)], I, G, (gP rd)) (True) hX hi (by decide +kernel) rfl trivial ?_
              cases h
              refine am_iret hX hi rfl rfl (by decide +kernel) ?_
              exact ⟨rfl, rfl, rfl, rfl⟩
          · rw [if_neg c35] at h
            refine am_blk 38 [(.aload_n 0, 1, 0, 0, .null)] (39, [(0, .ref 1), (1, .int v1), (2, .long v2)], [.ref 1], I, G, (gP rd)) (True) hX hi (by decide +kernel) rfl trivial ?_
            refine am_callV hX hi (M := mX9_byteHere) (idx := 57) (d' := 1) (b := 1) (ci := 9) (As := []) (rest := []) mkX9_byteHere miX9_byteHere mvX9_byteHere (by decide +kernel) (by decide +kernel) rfl (by decide +kernel) rfl ⟨by omega, by decide, Nat.le_of_ble_eq_true rfl⟩ rfl (c_X9_byteHere_1 _ I G ) ?_
            rintro r9 I9 G9 P9 ⟨e0, e1, e2, e3⟩
            rw [e0, e1, e2, e3]
            show am_V X 0 0 _ _ ad (42, [(0, .ref 1), (1, .int v1), (2, .long v2)], [.int (f_X9_byteHere_1 I G )], I, G, (gP rd))
            refine am_blk 42 [(.istore 4, 2, 4, 0, .null), (.lload_n 2, 1, 2, 0, .null), (.ldc2_w 42, 3, 0, 0, .long (37)), (.lmul, 1, 0, 0, .null), (.iload 4, 2, 4, 0, .null)] (51, [(0, .ref 1), (1, .int v1), (2, .long v2), (4, .int (f_X9_byteHere_1 I G ))], [.int (f_X9_byteHere_1 I G ), .long (v2 * (37))], I, G, (gP rd)) (True) hX hi (by decide +kernel) rfl trivial ?_
            refine am_callS hX hi (M := mX9_isLetter) (idx := 67) (d' := 1) (As := [.int (f_X9_byteHere_1 I G )]) (rest := [.long (v2 * (37))]) mkX9_isLetter msX9_isLetter (by decide +kernel) (by decide +kernel) rfl ⟨by omega, by decide, Nat.le_of_ble_eq_true rfl⟩ rfl (c_X9_isLetter I G (f_X9_byteHere_1 I G )) ?_
            rintro r9 I9 G9 P9 ⟨e0, e1, e2, e3⟩
            rw [e0, e1, e2, e3]
            show am_V X 0 0 _ _ ad (54, [(0, .ref 1), (1, .int v1), (2, .long v2), (4, .int (f_X9_byteHere_1 I G ))], [.int (f_X9_isLetter I G (f_X9_byteHere_1 I G )), .long (v2 * (37))], I, G, (gP rd))
            refine am_if_eq (tgt := 67) hX hi (off := (13)) (by decide +kernel) (by decide) (fun c54 => ?_) (fun c54 => ?_)
            · rw [if_pos c54] at h
              refine am_blk 67 [(.iload 4, 2, 4, 0, .null), (.bipush (48), 2, 0, 0, .int (48 : Int32)), (.isub, 1, 0, 0, .null), (.bipush (27), 2, 0, 0, .int (27 : Int32)), (.iadd, 1, 0, 0, .null), (.i2l, 1, 0, 0, .null), (.ladd, 1, 0, 0, .null), (.lstore_n 2, 1, 2, 0, .null), (.aload_n 0, 1, 0, 0, .null), (.dup, 1, 0, 0, .null), (.getfield 47, 3, 9, 7, .null), (.iconst (1), 1, 0, 0, .int (1 : Int32)), (.iadd, 1, 0, 0, .null), (.putfield 47, 3, 9, 7, .null), (.goto (-81), 3, 0, 7, .null)] (7, [(0, .ref 1), (1, .int v1), (2, .long ((v2 * (37)) + (((f_X9_byteHere_1 I G ) - (48 : Int32)) + (27 : Int32)).toInt64)), (4, .int (f_X9_byteHere_1 I G ))], [], (am_up I 1 7 ((I 1 7) + (1 : Int32))), G, (gP rd)) (True) hX hi (by decide +kernel) rfl trivial ?_
              refine am_sub (L' := [(0, .ref 1), (1, .int v1), (2, .long ((v2 * (37)) + (((f_X9_byteHere_1 I G ) - (48 : Int32)) + (27 : Int32)).toInt64))]) (by simp) ?_
              exact ih.1 _ _ _ _ _ _ h
            · rw [if_neg c54] at h
              refine am_blk 57 [(.iload 4, 2, 4, 0, .null), (.bipush (97), 2, 0, 0, .int (97 : Int32)), (.isub, 1, 0, 0, .null), (.iconst (1), 1, 0, 0, .int (1 : Int32)), (.iadd, 1, 0, 0, .null), (.goto (11), 3, 0, 75, .null), (.i2l, 1, 0, 0, .null), (.ladd, 1, 0, 0, .null), (.lstore_n 2, 1, 2, 0, .null), (.aload_n 0, 1, 0, 0, .null), (.dup, 1, 0, 0, .null), (.getfield 47, 3, 9, 7, .null), (.iconst (1), 1, 0, 0, .int (1 : Int32)), (.iadd, 1, 0, 0, .null), (.putfield 47, 3, 9, 7, .null), (.goto (-81), 3, 0, 7, .null)] (7, [(0, .ref 1), (1, .int v1), (2, .long ((v2 * (37)) + (((f_X9_byteHere_1 I G ) - (97 : Int32)) + (1 : Int32)).toInt64)), (4, .int (f_X9_byteHere_1 I G ))], [], (am_up I 1 7 ((I 1 7) + (1 : Int32))), G, (gP rd)) (True) hX hi (by decide +kernel) rfl trivial ?_
              refine am_sub (L' := [(0, .ref 1), (1, .int v1), (2, .long ((v2 * (37)) + (((f_X9_byteHere_1 I G ) - (97 : Int32)) + (1 : Int32)).toInt64))]) (by simp) ?_
              exact ih.1 _ _ _ _ _ _ h
    · intro I G v1 v2 v4 out h
      rw [L_X9_readWord_1_1] at h
      refine am_blk 108 [(.iload 4, 2, 4, 0, .null), (.aload_n 0, 1, 0, 0, .null), (.getfield 17, 3, 9, 1, .null), (.arraylength, 1, 0, 0, .null)] (115, [(0, .ref 1), (1, .int v1), (2, .long v2), (4, .int v4)], [.int (Int32.ofNat 24), .int v4], I, G, (gP rd)) (True) hX hi (by decide +kernel) rfl trivial ?_
      refine am_icmp_ge (tgt := 139) hX hi (off := (24)) (by decide +kernel) (by decide) (fun c115 => ?_) (fun c115 => ?_)
      · rw [if_pos c115] at h
        refine am_blk 139 [(.aload_n 0, 1, 0, 0, .null), (.lload_n 2, 1, 2, 0, .null), (.putfield 60, 3, 9, 8, .null), (.bipush (39), 2, 0, 0, .int (39 : Int32))] (146, [(0, .ref 1), (1, .int v1), (2, .long v2), (4, .int v4)], [.int (39 : Int32)], I, (am_up G 1 8 v2), (gP rd)) (True) hX hi (by decide +kernel) rfl trivial ?_
        cases h
        refine am_iret hX hi rfl rfl (by decide +kernel) ?_
        exact ⟨rfl, rfl, rfl, rfl⟩
      · rw [if_neg c115] at h
        obtain ⟨g0, h⟩ := rg_some h
        refine am_blk 118 [(.aload_n 0, 1, 0, 0, .null), (.getfield 17, 3, 9, 1, .null), (.iload 4, 2, 4, 0, .null), (.laload, 1, 0, 0, .null), (.lload_n 2, 1, 2, 0, .null), (.lcmp, 1, 0, 0, .null)] (127, [(0, .ref 1), (1, .int v1), (2, .long v2), (4, .int v4)], [.int (lg_cmp (G 3 v4.toNatClampNeg) v2)], I, G, (gP rd)) (vp_in v4 24 ∧ True) hX hi (by decide +kernel) rfl ⟨g0, trivial⟩ ?_
        refine am_if_ne (tgt := 133) hX hi (off := (6)) (by decide +kernel) (by decide) (fun c127 => ?_) (fun c127 => ?_)
        · rw [if_neg c127] at h
          refine am_blk 133 [(.iinc 4 (1), 3, 4, 0, .int (1 : Int32)), (.goto (-28), 3, 0, 108, .null)] (108, [(0, .ref 1), (1, .int v1), (2, .long v2), (4, .int (v4 + (1 : Int32)))], [], I, G, (gP rd)) (True) hX hi (by decide +kernel) rfl trivial ?_
          exact ih.2 _ _ _ _ _ _ h
        · rw [if_pos c127] at h
          refine am_blk 130 [(.iload 4, 2, 4, 0, .null)] (132, [(0, .ref 1), (1, .int v1), (2, .long v2), (4, .int v4)], [.int v4], I, G, (gP rd)) (True) hX hi (by decide +kernel) rfl trivial ?_
          cases h
          refine am_iret hX hi rfl rfl (by decide +kernel) ?_
          exact ⟨rfl, rfl, rfl, rfl⟩
set_option maxRecDepth 20000 in
set_option maxHeartbeats 4000000 in
theorem c_X9_readWord_1 (rd : Nat) (I : am_I) (G : am_G)  {out : Int32 × am_I × am_G} (h : R_X9_readWord_1 I G  = some out) : am_Ct mX9_readWord 2 gS [.ref 1] I G (gP rd) (pI out.1 out.2.1 out.2.2 (gP rd)) := by
  refine am_ofF (by decide +kernel) rfl (by decide) (by omega) (Nat.le_of_ble_eq_true rfl) (fun X ad hX hi => ?_)
  have hi : am_info X 9 cX9_readWord 5 false (Option.some Jvm.ClassFile.FieldType.int) 2 := hi
  show am_V X 0 0 _ _ ad (0, [(0, .ref 1)], [], I, G, (gP rd))
  unfold R_X9_readWord_1 at h
  refine am_blk 0 [(.aload_n 0, 1, 0, 0, .null), (.getfield 47, 3, 9, 7, .null), (.istore_n 1, 1, 1, 0, .null), (.lconst 0, 1, 0, 0, .long (0)), (.lstore_n 2, 1, 2, 0, .null)] (7, [(0, .ref 1), (1, .int (I 1 7)), (2, .long (0))], [], I, G, (gP rd)) (True) hX hi (by decide +kernel) rfl trivial ?_
  exact (l_X9_readWord_1 rd hX hi FU).1 _ _ _ _ _ _ h
noncomputable def L_X9_readNumber_1 (n0 : Nat) (hd : Nat) (I : am_I) (G : am_G) (v1 : Int32) (v2 : Int64) : Option (Int32 × am_I × am_G) := match n0 with
  | 0 => none
  | n + 1 => match hd with
    | _ => (if (I 1 5) ≤ (I 1 7) then (if ((I 1 7) - v1) ≤ (6 : Int32) then some ((40 : Int32), I, (am_up G 1 8 v2)) else some ((42 : Int32), I, (am_up G 1 8 v2))) else (if (f_X9_isDigit I G (f_X9_byteHere_1 I G )) = 0 then (if ((I 1 7) - v1) ≤ (6 : Int32) then some ((40 : Int32), I, (am_up G 1 8 v2)) else some ((42 : Int32), I, (am_up G 1 8 v2))) else L_X9_readNumber_1 n 0 (am_up I 1 7 ((I 1 7) + (1 : Int32))) G v1 ((v2 * (10)) + ((f_X9_byteHere_1 I G ) - (48 : Int32)).toInt64)))
theorem L_X9_readNumber_1_0 (n : Nat) (I : am_I) (G : am_G) (v1 : Int32) (v2 : Int64) : L_X9_readNumber_1 (n + 1) 0 I G v1 v2 = (if (I 1 5) ≤ (I 1 7) then (if ((I 1 7) - v1) ≤ (6 : Int32) then some ((40 : Int32), I, (am_up G 1 8 v2)) else some ((42 : Int32), I, (am_up G 1 8 v2))) else (if (f_X9_isDigit I G (f_X9_byteHere_1 I G )) = 0 then (if ((I 1 7) - v1) ≤ (6 : Int32) then some ((40 : Int32), I, (am_up G 1 8 v2)) else some ((42 : Int32), I, (am_up G 1 8 v2))) else L_X9_readNumber_1 n 0 (am_up I 1 7 ((I 1 7) + (1 : Int32))) G v1 ((v2 * (10)) + ((f_X9_byteHere_1 I G ) - (48 : Int32)).toInt64))) := rfl
theorem L_X9_readNumber_1_z (h : Nat) (I : am_I) (G : am_G) (v1 : Int32) (v2 : Int64) : L_X9_readNumber_1 0 h I G v1 v2 = none := rfl
noncomputable def R_X9_readNumber_1 (I : am_I) (G : am_G)  : Option (Int32 × am_I × am_G) := L_X9_readNumber_1 FU 0 I G (I 1 7) (0)
set_option maxRecDepth 20000 in
set_option maxHeartbeats 4000000 in
theorem l_X9_readNumber_1 (rd : Nat) {X : am_X} {ad : Nat → Nat} (hX : am_okz X ad) (hi : am_info X 9 cX9_readNumber 4 false (Option.some Jvm.ClassFile.FieldType.int) 2) (n : Nat) : (∀ (I : am_I) (G : am_G) (v1 : Int32) (v2 : Int64) (out : Int32 × am_I × am_G), L_X9_readNumber_1 n 0 I G v1 v2 = some out → am_V X 0 0 (am_Rt X gS ad (pI out.1 out.2.1 out.2.2 (gP rd))) gS ad (7, [(0, .ref 1), (1, .int v1), (2, .long v2)], [], I, G, (gP rd))) := by
  induction n with
  | zero => exact fun I G v1 v2 out h => by rw [L_X9_readNumber_1_z] at h; cases h
  | succ n ih =>
    · intro I G v1 v2 out h
      rw [L_X9_readNumber_1_0] at h
      refine am_blk 7 [(.aload_n 0, 1, 0, 0, .null), (.getfield 47, 3, 9, 7, .null), (.aload_n 0, 1, 0, 0, .null), (.getfield 44, 3, 9, 5, .null)] (15, [(0, .ref 1), (1, .int v1), (2, .long v2)], [.int (I 1 5), .int (I 1 7)], I, G, (gP rd)) (True) hX hi (by decide +kernel) rfl trivial ?_
      refine am_icmp_ge (tgt := 56) hX hi (off := (41)) (by decide +kernel) (by decide) (fun c15 => ?_) (fun c15 => ?_)
      · rw [if_pos c15] at h
        refine am_blk 56 [(.aload_n 0, 1, 0, 0, .null), (.lload_n 2, 1, 2, 0, .null), (.putfield 60, 3, 9, 8, .null), (.aload_n 0, 1, 0, 0, .null), (.getfield 47, 3, 9, 7, .null), (.iload_n 1, 1, 1, 0, .null), (.isub, 1, 0, 0, .null), (.bipush (6), 2, 0, 0, .int (6 : Int32))] (69, [(0, .ref 1), (1, .int v1), (2, .long v2)], [.int (6 : Int32), .int ((I 1 7) - v1)], I, (am_up G 1 8 v2), (gP rd)) (True) hX hi (by decide +kernel) rfl trivial ?_
        refine am_icmp_le (tgt := 77) hX hi (off := (8)) (by decide +kernel) (by decide) (fun c69 => ?_) (fun c69 => ?_)
        · rw [if_pos c69] at h
          refine am_blk 77 [(.bipush (40), 2, 0, 0, .int (40 : Int32))] (79, [(0, .ref 1), (1, .int v1), (2, .long v2)], [.int (40 : Int32)], I, (am_up G 1 8 v2), (gP rd)) (True) hX hi (by decide +kernel) rfl trivial ?_
          cases h
          refine am_iret hX hi rfl rfl (by decide +kernel) ?_
          exact ⟨rfl, rfl, rfl, rfl⟩
        · rw [if_neg c69] at h
          refine am_blk 72 [(.bipush (42), 2, 0, 0, .int (42 : Int32)), (.goto (5), 3, 0, 79, .null)] (79, [(0, .ref 1), (1, .int v1), (2, .long v2)], [.int (42 : Int32)], I, (am_up G 1 8 v2), (gP rd)) (True) hX hi (by decide +kernel) rfl trivial ?_
          cases h
          refine am_iret hX hi rfl rfl (by decide +kernel) ?_
          exact ⟨rfl, rfl, rfl, rfl⟩
      · rw [if_neg c15] at h
        refine am_blk 18 [(.aload_n 0, 1, 0, 0, .null)] (19, [(0, .ref 1), (1, .int v1), (2, .long v2)], [.ref 1], I, G, (gP rd)) (True) hX hi (by decide +kernel) rfl trivial ?_
        refine am_callV hX hi (M := mX9_byteHere) (idx := 57) (d' := 1) (b := 1) (ci := 9) (As := []) (rest := []) mkX9_byteHere miX9_byteHere mvX9_byteHere (by decide +kernel) (by decide +kernel) rfl (by decide +kernel) rfl ⟨by omega, by decide, Nat.le_of_ble_eq_true rfl⟩ rfl (c_X9_byteHere_1 _ I G ) ?_
        rintro r9 I9 G9 P9 ⟨e0, e1, e2, e3⟩
        rw [e0, e1, e2, e3]
        show am_V X 0 0 _ _ ad (22, [(0, .ref 1), (1, .int v1), (2, .long v2)], [.int (f_X9_byteHere_1 I G )], I, G, (gP rd))
        refine am_callS hX hi (M := mX9_isDigit) (idx := 74) (d' := 1) (As := [.int (f_X9_byteHere_1 I G )]) (rest := []) mkX9_isDigit msX9_isDigit (by decide +kernel) (by decide +kernel) rfl ⟨by omega, by decide, Nat.le_of_ble_eq_true rfl⟩ rfl (c_X9_isDigit I G (f_X9_byteHere_1 I G )) ?_
        rintro r9 I9 G9 P9 ⟨e0, e1, e2, e3⟩
        rw [e0, e1, e2, e3]
        show am_V X 0 0 _ _ ad (25, [(0, .ref 1), (1, .int v1), (2, .long v2)], [.int (f_X9_isDigit I G (f_X9_byteHere_1 I G ))], I, G, (gP rd))
        refine am_if_eq (tgt := 56) hX hi (off := (31)) (by decide +kernel) (by decide) (fun c25 => ?_) (fun c25 => ?_)
        · rw [if_pos c25] at h
          refine am_blk 56 [(.aload_n 0, 1, 0, 0, .null), (.lload_n 2, 1, 2, 0, .null), (.putfield 60, 3, 9, 8, .null), (.aload_n 0, 1, 0, 0, .null), (.getfield 47, 3, 9, 7, .null), (.iload_n 1, 1, 1, 0, .null), (.isub, 1, 0, 0, .null), (.bipush (6), 2, 0, 0, .int (6 : Int32))] (69, [(0, .ref 1), (1, .int v1), (2, .long v2)], [.int (6 : Int32), .int ((I 1 7) - v1)], I, (am_up G 1 8 v2), (gP rd)) (True) hX hi (by decide +kernel) rfl trivial ?_
          refine am_icmp_le (tgt := 77) hX hi (off := (8)) (by decide +kernel) (by decide) (fun c69 => ?_) (fun c69 => ?_)
          · rw [if_pos c69] at h
            refine am_blk 77 [(.bipush (40), 2, 0, 0, .int (40 : Int32))] (79, [(0, .ref 1), (1, .int v1), (2, .long v2)], [.int (40 : Int32)], I, (am_up G 1 8 v2), (gP rd)) (True) hX hi (by decide +kernel) rfl trivial ?_
            cases h
            refine am_iret hX hi rfl rfl (by decide +kernel) ?_
            exact ⟨rfl, rfl, rfl, rfl⟩
          · rw [if_neg c69] at h
            refine am_blk 72 [(.bipush (42), 2, 0, 0, .int (42 : Int32)), (.goto (5), 3, 0, 79, .null)] (79, [(0, .ref 1), (1, .int v1), (2, .long v2)], [.int (42 : Int32)], I, (am_up G 1 8 v2), (gP rd)) (True) hX hi (by decide +kernel) rfl trivial ?_
            cases h
            refine am_iret hX hi rfl rfl (by decide +kernel) ?_
            exact ⟨rfl, rfl, rfl, rfl⟩
        · rw [if_neg c25] at h
          refine am_blk 28 [(.lload_n 2, 1, 2, 0, .null), (.ldc2_w 83, 3, 0, 0, .long (10)), (.lmul, 1, 0, 0, .null), (.aload_n 0, 1, 0, 0, .null)] (34, [(0, .ref 1), (1, .int v1), (2, .long v2)], [.ref 1, .long (v2 * (10))], I, G, (gP rd)) (True) hX hi (by decide +kernel) rfl trivial ?_
          refine am_callV hX hi (M := mX9_byteHere) (idx := 57) (d' := 1) (b := 1) (ci := 9) (As := []) (rest := [.long (v2 * (10))]) mkX9_byteHere miX9_byteHere mvX9_byteHere (by decide +kernel) (by decide +kernel) rfl (by decide +kernel) rfl ⟨by omega, by decide, Nat.le_of_ble_eq_true rfl⟩ rfl (c_X9_byteHere_1 _ I G ) ?_
          rintro r9 I9 G9 P9 ⟨e0, e1, e2, e3⟩
          rw [e0, e1, e2, e3]
          show am_V X 0 0 _ _ ad (37, [(0, .ref 1), (1, .int v1), (2, .long v2)], [.int (f_X9_byteHere_1 I G ), .long (v2 * (10))], I, G, (gP rd))
          refine am_blk 37 [(.bipush (48), 2, 0, 0, .int (48 : Int32)), (.isub, 1, 0, 0, .null), (.i2l, 1, 0, 0, .null), (.ladd, 1, 0, 0, .null), (.lstore_n 2, 1, 2, 0, .null), (.aload_n 0, 1, 0, 0, .null), (.dup, 1, 0, 0, .null), (.getfield 47, 3, 9, 7, .null), (.iconst (1), 1, 0, 0, .int (1 : Int32)), (.iadd, 1, 0, 0, .null), (.putfield 47, 3, 9, 7, .null), (.goto (-46), 3, 0, 7, .null)] (7, [(0, .ref 1), (1, .int v1), (2, .long ((v2 * (10)) + ((f_X9_byteHere_1 I G ) - (48 : Int32)).toInt64))], [], (am_up I 1 7 ((I 1 7) + (1 : Int32))), G, (gP rd)) (True) hX hi (by decide +kernel) rfl trivial ?_
          exact ih _ _ _ _ _ h
set_option maxRecDepth 20000 in
set_option maxHeartbeats 4000000 in
theorem c_X9_readNumber_1 (rd : Nat) (I : am_I) (G : am_G)  {out : Int32 × am_I × am_G} (h : R_X9_readNumber_1 I G  = some out) : am_Ct mX9_readNumber 2 gS [.ref 1] I G (gP rd) (pI out.1 out.2.1 out.2.2 (gP rd)) := by
  refine am_ofF (by decide +kernel) rfl (by decide) (by omega) (Nat.le_of_ble_eq_true rfl) (fun X ad hX hi => ?_)
  have hi : am_info X 9 cX9_readNumber 4 false (Option.some Jvm.ClassFile.FieldType.int) 2 := hi
  show am_V X 0 0 _ _ ad (0, [(0, .ref 1)], [], I, G, (gP rd))
  unfold R_X9_readNumber_1 at h
  refine am_blk 0 [(.aload_n 0, 1, 0, 0, .null), (.getfield 47, 3, 9, 7, .null), (.istore_n 1, 1, 1, 0, .null), (.lconst 0, 1, 0, 0, .long (0)), (.lstore_n 2, 1, 2, 0, .null)] (7, [(0, .ref 1), (1, .int (I 1 7)), (2, .long (0))], [], I, G, (gP rd)) (True) hX hi (by decide +kernel) rfl trivial ?_
  exact (l_X9_readNumber_1 rd hX hi FU) _ _ _ _ _ h
noncomputable def L_X10_forget_25 (n0 : Nat) (hd : Nat) (I : am_I) (G : am_G) (v1 : Int32) : Option (Unit × am_I × am_G) := match n0 with
  | 0 => none
  | n + 1 => match hd with
    | _ => (if (Int32.ofNat 32) ≤ v1 then some ((), I, G) else rg (vp_in v1 32) (L_X10_forget_25 n 0 (am_up I 27 v1.toNatClampNeg (0 : Int32)) G (v1 + (1 : Int32))))
theorem L_X10_forget_25_0 (n : Nat) (I : am_I) (G : am_G) (v1 : Int32) : L_X10_forget_25 (n + 1) 0 I G v1 = (if (Int32.ofNat 32) ≤ v1 then some ((), I, G) else rg (vp_in v1 32) (L_X10_forget_25 n 0 (am_up I 27 v1.toNatClampNeg (0 : Int32)) G (v1 + (1 : Int32)))) := rfl
theorem L_X10_forget_25_z (h : Nat) (I : am_I) (G : am_G) (v1 : Int32) : L_X10_forget_25 0 h I G v1 = none := rfl
noncomputable def R_X10_forget_25 (I : am_I) (G : am_G)  : Option (Unit × am_I × am_G) := L_X10_forget_25 FU 0 I G (0 : Int32)
set_option maxRecDepth 20000 in
set_option maxHeartbeats 4000000 in
theorem l_X10_forget_25 (rd : Nat) {X : am_X} {ad : Nat → Nat} (hX : am_okz X ad) (hi : am_info X 10 cX10_forget 2 false none 1) (n : Nat) : (∀ (I : am_I) (G : am_G) (v1 : Int32) (out : Unit × am_I × am_G), L_X10_forget_25 n 0 I G v1 = some out → am_V X 0 0 (am_Rt X gS ad (pV out.2.1 out.2.2 (gP rd))) gS ad (2, [(0, .ref 25), (1, .int v1)], [], I, G, (gP rd))) := by
  induction n with
  | zero => exact fun I G v1 out h => by rw [L_X10_forget_25_z] at h; cases h
  | succ n ih =>
    · intro I G v1 out h
      rw [L_X10_forget_25_0] at h
      refine am_blk 2 [(.iload_n 1, 1, 1, 0, .null), (.aload_n 0, 1, 0, 0, .null), (.getfield 15, 3, 10, 2, .null), (.arraylength, 1, 0, 0, .null)] (8, [(0, .ref 25), (1, .int v1)], [.int (Int32.ofNat 32), .int v1], I, G, (gP rd)) (True) hX hi (by decide +kernel) rfl trivial ?_
      refine am_icmp_ge (tgt := 24) hX hi (off := (16)) (by decide +kernel) (by decide) (fun c8 => ?_) (fun c8 => ?_)
      · rw [if_pos c8] at h
        cases h
        refine am_vret hX hi rfl (by decide +kernel) ?_
        exact ⟨rfl, rfl, rfl, rfl⟩
      · rw [if_neg c8] at h
        obtain ⟨g0, h⟩ := rg_some h
        refine am_blk 11 [(.aload_n 0, 1, 0, 0, .null), (.getfield 15, 3, 10, 2, .null), (.iload_n 1, 1, 1, 0, .null), (.iconst (0), 1, 0, 0, .int (0 : Int32)), (.iastore, 1, 0, 0, .null), (.iinc 1 (1), 3, 1, 0, .int (1 : Int32)), (.goto (-19), 3, 0, 2, .null)] (2, [(0, .ref 25), (1, .int (v1 + (1 : Int32)))], [], (am_up I 27 v1.toNatClampNeg (0 : Int32)), G, (gP rd)) (vp_in v1 32 ∧ True) hX hi (by decide +kernel) rfl ⟨g0, trivial⟩ ?_
        exact ih _ _ _ _ h
set_option maxRecDepth 20000 in
set_option maxHeartbeats 4000000 in
theorem c_X10_forget_25 (rd : Nat) (I : am_I) (G : am_G)  {out : Unit × am_I × am_G} (h : R_X10_forget_25 I G  = some out) : am_Ct mX10_forget 1 gS [.ref 25] I G (gP rd) (pV out.2.1 out.2.2 (gP rd)) := by
  refine am_ofF (by decide +kernel) rfl (by decide) (by omega) (Nat.le_of_ble_eq_true rfl) (fun X ad hX hi => ?_)
  have hi : am_info X 10 cX10_forget 2 false none 1 := hi
  show am_V X 0 0 _ _ ad (0, [(0, .ref 25)], [], I, G, (gP rd))
  unfold R_X10_forget_25 at h
  refine am_blk 0 [(.iconst (0), 1, 0, 0, .int (0 : Int32)), (.istore_n 1, 1, 1, 0, .null)] (2, [(0, .ref 25), (1, .int (0 : Int32))], [], I, G, (gP rd)) (True) hX hi (by decide +kernel) rfl trivial ?_
  exact (l_X10_forget_25 rd hX hi FU) _ _ _ _ h
noncomputable def L_X10_prepare_25 (n0 : Nat) (hd : Nat) (I : am_I) (G : am_G) (v1 : Int32) (v2 : Int32) (v3 : Int32) (v4 : Int32) (v5 : Int32) (v6 : Int32) : Option (Unit × am_I × am_G) := match n0 with
  | 0 => none
  | n + 1 => match hd with
    | 0 => (if (I 7 10) ≤ v5 then some ((), (gPut I 27 32 v3 (1 : Int32)), G) else L_X10_prepare_25 n 1 I G v1 v2 v3 v4 v5 (0 : Int32))
    | _ => (if (I 7 9) ≤ v6 then L_X10_prepare_25 n 0 I G v1 v2 v3 v4 (v5 + (1 : Int32)) 0 else L_X10_prepare_25 n 1 (gPut I 26 18432 v4 (f_X10_valueAt_25 I G v1 v2 v6 v5)) G v1 v2 v3 (v4 + (1 : Int32)) v5 (v6 + (1 : Int32)))
theorem L_X10_prepare_25_0 (n : Nat) (I : am_I) (G : am_G) (v1 : Int32) (v2 : Int32) (v3 : Int32) (v4 : Int32) (v5 : Int32) (v6 : Int32) : L_X10_prepare_25 (n + 1) 0 I G v1 v2 v3 v4 v5 v6 = (if (I 7 10) ≤ v5 then some ((), (gPut I 27 32 v3 (1 : Int32)), G) else L_X10_prepare_25 n 1 I G v1 v2 v3 v4 v5 (0 : Int32)) := rfl
theorem L_X10_prepare_25_1 (n : Nat) (I : am_I) (G : am_G) (v1 : Int32) (v2 : Int32) (v3 : Int32) (v4 : Int32) (v5 : Int32) (v6 : Int32) : L_X10_prepare_25 (n + 1) 1 I G v1 v2 v3 v4 v5 v6 = (if (I 7 9) ≤ v6 then L_X10_prepare_25 n 0 I G v1 v2 v3 v4 (v5 + (1 : Int32)) 0 else L_X10_prepare_25 n 1 (gPut I 26 18432 v4 (f_X10_valueAt_25 I G v1 v2 v6 v5)) G v1 v2 v3 (v4 + (1 : Int32)) v5 (v6 + (1 : Int32))) := rfl
theorem L_X10_prepare_25_z (h : Nat) (I : am_I) (G : am_G) (v1 : Int32) (v2 : Int32) (v3 : Int32) (v4 : Int32) (v5 : Int32) (v6 : Int32) : L_X10_prepare_25 0 h I G v1 v2 v3 v4 v5 v6 = none := rfl
noncomputable def R_X10_prepare_25 (I : am_I) (G : am_G) (x1 : Int32) (x2 : Int32) : Option (Unit × am_I × am_G) := (if (gAt (I 27) 32 (f_X10_sheetOf I G x1 x2)) = 0 then L_X10_prepare_25 FU 0 I G x1 x2 (f_X10_sheetOf I G x1 x2) ((f_X10_sheetOf I G x1 x2) * (576 : Int32)) (0 : Int32) 0 else some ((), I, G))
set_option maxRecDepth 20000 in
set_option maxHeartbeats 4000000 in
theorem l_X10_prepare_25 (rd : Nat) {X : am_X} {ad : Nat → Nat} (hX : am_okz X ad) (hi : am_info X 10 cX10_prepare 7 false none 6) (n : Nat) : (∀ (I : am_I) (G : am_G) (v1 : Int32) (v2 : Int32) (v3 : Int32) (v4 : Int32) (v5 : Int32) (v6 : Int32) (out : Unit × am_I × am_G), L_X10_prepare_25 n 0 I G v1 v2 v3 v4 v5 v6 = some out → am_V X 0 0 (am_Rt X gS ad (pV out.2.1 out.2.2 (gP rd))) gS ad (28, [(0, .ref 25), (1, .int v1), (2, .int v2), (3, .int v3), (4, .int v4), (5, .int v5)], [], I, G, (gP rd))) ∧ (∀ (I : am_I) (G : am_G) (v1 : Int32) (v2 : Int32) (v3 : Int32) (v4 : Int32) (v5 : Int32) (v6 : Int32) (out : Unit × am_I × am_G), L_X10_prepare_25 n 1 I G v1 v2 v3 v4 v5 v6 = some out → am_V X 0 0 (am_Rt X gS ad (pV out.2.1 out.2.2 (gP rd))) gS ad (43, [(0, .ref 25), (1, .int v1), (2, .int v2), (3, .int v3), (4, .int v4), (5, .int v5), (6, .int v6)], [], I, G, (gP rd))) := by
  induction n with
  | zero => exact ⟨(fun I G v1 v2 v3 v4 v5 v6 out h => by rw [L_X10_prepare_25_z] at h; cases h), (fun I G v1 v2 v3 v4 v5 v6 out h => by rw [L_X10_prepare_25_z] at h; cases h)⟩
  | succ n ih =>
    refine ⟨?_, ?_⟩
    · intro I G v1 v2 v3 v4 v5 v6 out h
      rw [L_X10_prepare_25_0] at h
      refine am_blk 28 [(.iload 5, 2, 5, 0, .null), (.aload_n 0, 1, 0, 0, .null), (.getfield 18, 3, 10, 0, .null), (.getfield 32, 3, 5, 10, .null)] (37, [(0, .ref 25), (1, .int v1), (2, .int v2), (3, .int v3), (4, .int v4), (5, .int v5)], [.int (I 7 10), .int v5], I, G, (gP rd)) (True) hX hi (by decide +kernel) rfl trivial ?_
      refine am_icmp_ge (tgt := 89) hX hi (off := (52)) (by decide +kernel) (by decide) (fun c37 => ?_) (fun c37 => ?_)
      · rw [if_pos c37] at h
        refine am_blk 89 [(.aload_n 0, 1, 0, 0, .null), (.getfield 15, 3, 10, 2, .null), (.iload_n 3, 1, 3, 0, .null), (.iconst (1), 1, 0, 0, .int (1 : Int32))] (95, [(0, .ref 25), (1, .int v1), (2, .int v2), (3, .int v3), (4, .int v4), (5, .int v5)], [.int (1 : Int32), .int v3, .ref 27], I, G, (gP rd)) (True) hX hi (by decide +kernel) rfl trivial ?_
        refine am_callS hX hi (M := mX0_put) (idx := 45) (d' := 1) (As := [.ref 27, .int v3, .int (1 : Int32)]) (rest := []) mkX0_put msX0_put (by decide +kernel) (by decide +kernel) rfl ⟨by omega, by decide, Nat.le_of_ble_eq_true rfl⟩ rfl (c_put rfl (by decide) v3 (1 : Int32)) ?_
        rintro r9 I9 G9 P9 ⟨e0, e1, e2, e3⟩
        rw [e0, e1, e2, e3]
        show am_V X 0 0 _ _ ad (98, [(0, .ref 25), (1, .int v1), (2, .int v2), (3, .int v3), (4, .int v4), (5, .int v5)], [], (gPut I 27 32 v3 (1 : Int32)), G, (gP rd))
        cases h
        refine am_vret hX hi rfl (by decide +kernel) ?_
        exact ⟨rfl, rfl, rfl, rfl⟩
      · rw [if_neg c37] at h
        refine am_blk 40 [(.iconst (0), 1, 0, 0, .int (0 : Int32)), (.istore 6, 2, 6, 0, .null)] (43, [(0, .ref 25), (1, .int v1), (2, .int v2), (3, .int v3), (4, .int v4), (5, .int v5), (6, .int (0 : Int32))], [], I, G, (gP rd)) (True) hX hi (by decide +kernel) rfl trivial ?_
        exact ih.2 _ _ _ _ _ _ _ _ _ h
    · intro I G v1 v2 v3 v4 v5 v6 out h
      rw [L_X10_prepare_25_1] at h
      refine am_blk 43 [(.iload 6, 2, 6, 0, .null), (.aload_n 0, 1, 0, 0, .null), (.getfield 18, 3, 10, 0, .null), (.getfield 38, 3, 5, 9, .null)] (52, [(0, .ref 25), (1, .int v1), (2, .int v2), (3, .int v3), (4, .int v4), (5, .int v5), (6, .int v6)], [.int (I 7 9), .int v6], I, G, (gP rd)) (True) hX hi (by decide +kernel) rfl trivial ?_
      refine am_icmp_ge (tgt := 83) hX hi (off := (31)) (by decide +kernel) (by decide) (fun c52 => ?_) (fun c52 => ?_)
      · rw [if_pos c52] at h
        refine am_blk 83 [(.iinc 5 (1), 3, 5, 0, .int (1 : Int32)), (.goto (-58), 3, 0, 28, .null)] (28, [(0, .ref 25), (1, .int v1), (2, .int v2), (3, .int v3), (4, .int v4), (5, .int (v5 + (1 : Int32))), (6, .int v6)], [], I, G, (gP rd)) (True) hX hi (by decide +kernel) rfl trivial ?_
        refine am_sub (L' := [(0, .ref 25), (1, .int v1), (2, .int v2), (3, .int v3), (4, .int v4), (5, .int (v5 + (1 : Int32)))]) (by simp) ?_
        exact ih.1 _ _ _ _ _ _ _ _ _ h
      · rw [if_neg c52] at h
        refine am_blk 55 [(.aload_n 0, 1, 0, 0, .null), (.getfield 9, 3, 10, 1, .null), (.iload 4, 2, 4, 0, .null), (.aload_n 0, 1, 0, 0, .null), (.iload_n 1, 1, 1, 0, .null), (.iload_n 2, 1, 2, 0, .null), (.iload 6, 2, 6, 0, .null), (.iload 5, 2, 5, 0, .null)] (68, [(0, .ref 25), (1, .int v1), (2, .int v2), (3, .int v3), (4, .int v4), (5, .int v5), (6, .int v6)], [.int v5, .int v6, .int v2, .int v1, .ref 25, .int v4, .ref 26], I, G, (gP rd)) (True) hX hi (by decide +kernel) rfl trivial ?_
        refine am_callV2 hX hi (M := mX10_valueAt) (idx := 41) (d' := 4) (b := 25) (ci := 10) (As := [.int v1, .int v2, .int v6, .int v5]) (rest := [.int v4, .ref 26]) mkX10_valueAt miX10_valueAt mvX10_valueAt (by decide +kernel) (by decide +kernel) rfl (by decide +kernel) rfl ⟨by omega, by (show 19 + 14 + 30 * _ ≤ 30 * _; omega), Nat.le_of_ble_eq_true rfl⟩ rfl (c_X10_valueAt_25 _ I G v1 v2 v6 v5) ?_
        rintro r9 I9 G9 P9 ⟨e0, e1, e2, e3⟩
        rw [e0, e1, e2, e3]
        show am_V X 0 0 _ _ ad (71, [(0, .ref 25), (1, .int v1), (2, .int v2), (3, .int v3), (4, .int v4), (5, .int v5), (6, .int v6)], [.int (f_X10_valueAt_25 I G v1 v2 v6 v5), .int v4, .ref 26], I, G, (gP rd))
        refine am_callS hX hi (M := mX0_put) (idx := 45) (d' := 1) (As := [.ref 26, .int v4, .int (f_X10_valueAt_25 I G v1 v2 v6 v5)]) (rest := []) mkX0_put msX0_put (by decide +kernel) (by decide +kernel) rfl ⟨by omega, by decide, Nat.le_of_ble_eq_true rfl⟩ rfl (c_put rfl (by decide) v4 (f_X10_valueAt_25 I G v1 v2 v6 v5)) ?_
        rintro r9 I9 G9 P9 ⟨e0, e1, e2, e3⟩
        rw [e0, e1, e2, e3]
        show am_V X 0 0 _ _ ad (74, [(0, .ref 25), (1, .int v1), (2, .int v2), (3, .int v3), (4, .int v4), (5, .int v5), (6, .int v6)], [], (gPut I 26 18432 v4 (f_X10_valueAt_25 I G v1 v2 v6 v5)), G, (gP rd))
        refine am_blk 74 [(.iinc 4 (1), 3, 4, 0, .int (1 : Int32)), (.iinc 6 (1), 3, 6, 0, .int (1 : Int32)), (.goto (-37), 3, 0, 43, .null)] (43, [(0, .ref 25), (1, .int v1), (2, .int v2), (3, .int v3), (4, .int (v4 + (1 : Int32))), (5, .int v5), (6, .int (v6 + (1 : Int32)))], [], (gPut I 26 18432 v4 (f_X10_valueAt_25 I G v1 v2 v6 v5)), G, (gP rd)) (True) hX hi (by decide +kernel) rfl trivial ?_
        exact ih.2 _ _ _ _ _ _ _ _ _ h
set_option maxRecDepth 20000 in
set_option maxHeartbeats 4000000 in
theorem c_X10_prepare_25 (rd : Nat) (I : am_I) (G : am_G) (x1 : Int32) (x2 : Int32) {out : Unit × am_I × am_G} (h : R_X10_prepare_25 I G x1 x2 = some out) : am_Ct mX10_prepare 6 gS [.ref 25, .int x1, .int x2] I G (gP rd) (pV out.2.1 out.2.2 (gP rd)) := by
  refine am_ofF (by decide +kernel) rfl (by decide) (by omega) (Nat.le_of_ble_eq_true rfl) (fun X ad hX hi => ?_)
  have hi : am_info X 10 cX10_prepare 7 false none 6 := hi
  show am_V X 0 0 _ _ ad (0, [(0, .ref 25), (1, .int x1), (2, .int x2)], [], I, G, (gP rd))
  unfold R_X10_prepare_25 at h
  refine am_blk 0 [(.iload_n 1, 1, 1, 0, .null), (.iload_n 2, 1, 2, 0, .null)] (2, [(0, .ref 25), (1, .int x1), (2, .int x2)], [.int x2, .int x1], I, G, (gP rd)) (True) hX hi (by decide +kernel) rfl trivial ?_
  refine am_callS hX hi (M := mX10_sheetOf) (idx := 22) (d' := 1) (As := [.int x1, .int x2]) (rest := []) mkX10_sheetOf msX10_sheetOf (by decide +kernel) (by decide +kernel) rfl ⟨by omega, by decide, Nat.le_of_ble_eq_true rfl⟩ rfl (c_X10_sheetOf I G x1 x2) ?_
  rintro r9 I9 G9 P9 ⟨e0, e1, e2, e3⟩
  rw [e0, e1, e2, e3]
  show am_V X 0 0 _ _ ad (5, [(0, .ref 25), (1, .int x1), (2, .int x2)], [.int (f_X10_sheetOf I G x1 x2)], I, G, (gP rd))
  refine am_blk 5 [(.istore_n 3, 1, 3, 0, .null), (.aload_n 0, 1, 0, 0, .null), (.getfield 15, 3, 10, 2, .null), (.iload_n 3, 1, 3, 0, .null)] (11, [(0, .ref 25), (1, .int x1), (2, .int x2), (3, .int (f_X10_sheetOf I G x1 x2))], [.int (f_X10_sheetOf I G x1 x2), .ref 27], I, G, (gP rd)) (True) hX hi (by decide +kernel) rfl trivial ?_
  refine am_callS hX hi (M := mX0_at) (idx := 26) (d' := 1) (As := [.ref 27, .int (f_X10_sheetOf I G x1 x2)]) (rest := []) mkX0_at msX0_at (by decide +kernel) (by decide +kernel) rfl ⟨by omega, by decide, Nat.le_of_ble_eq_true rfl⟩ rfl (c_at rfl (by decide) (f_X10_sheetOf I G x1 x2)) ?_
  rintro r9 I9 G9 P9 ⟨e0, e1, e2, e3⟩
  rw [e0, e1, e2, e3]
  show am_V X 0 0 _ _ ad (14, [(0, .ref 25), (1, .int x1), (2, .int x2), (3, .int (f_X10_sheetOf I G x1 x2))], [.int (gAt (I 27) 32 (f_X10_sheetOf I G x1 x2))], I, G, (gP rd))
  refine am_if_eq (tgt := 18) hX hi (off := (4)) (by decide +kernel) (by decide) (fun c14 => ?_) (fun c14 => ?_)
  · rw [if_pos c14] at h
    refine am_blk 18 [(.iload_n 3, 1, 3, 0, .null), (.sipush (576), 3, 0, 0, .int (576 : Int32)), (.imul, 1, 0, 0, .null), (.istore 4, 2, 4, 0, .null), (.iconst (0), 1, 0, 0, .int (0 : Int32)), (.istore 5, 2, 5, 0, .null)] (28, [(0, .ref 25), (1, .int x1), (2, .int x2), (3, .int (f_X10_sheetOf I G x1 x2)), (4, .int ((f_X10_sheetOf I G x1 x2) * (576 : Int32))), (5, .int (0 : Int32))], [], I, G, (gP rd)) (True) hX hi (by decide +kernel) rfl trivial ?_
    exact (l_X10_prepare_25 rd hX hi FU).1 _ _ _ _ _ _ _ _ _ h
  · rw [if_neg c14] at h
    cases h
    refine am_vret hX hi rfl (by decide +kernel) ?_
    exact ⟨rfl, rfl, rfl, rfl⟩
