/-! the mean: a FP.Core.quotient of doubles that is no NaN -/
section MEAN
theorem am_n64 {r : UInt64} (h : FP.Core.val64 r ≠ .nan) : vf_n64 r := by
  have h1 : FP.Core.dIsNaN r = false := (FP.Core.notNaN_iff r).mpr h
  have h2 : ¬ (9218868437227405312 < r.toNat % 2 ^ 63) := fun q => by
    have := (FP.Core.isNaN_bits r).mpr q
    rw [h1] at this; cases this
  show r &&& 0x7fffffffffffffff ≤ 0x7ff0000000000000
  rw [UInt64.le_iff_toNat_le, UInt64.toNat_and]
  have h3 : (0x7fffffffffffffff : UInt64).toNat = 2 ^ 63 - 1 := rfl
  rw [h3, Nat.and_two_pow_sub_one_eq_mod]
  have h4 : (0x7ff0000000000000 : UInt64).toNat = 9218868437227405312 := rfl
  omega
theorem am_i2dN (a : Int32) : FP.Core.val64 (FP.Core.i2d a) ≠ .nan := by
  rw [FP.Core.val64_i2d]
  cases h : FP.Core.ofInt a.toInt with
  | nan => simp [FP.Core.ofInt] at h
  | inf s => simp [FP.Core.ofInt] at h
  | fin s c q => exact FP.Core.roundRatio_ne_nan FP.Core.b64 s c 1 q
def am_pos64 (n : Nat) : Bool := match FP.Core.val64 (FP.Core.i2d (Int32.ofNat n)) with
  | .fin _ d _ => Nat.blt 0 d
  | _ => false
theorem am_pos : (List.range 600).all (fun n => Nat.beq n 0 || am_pos64 n) = true := by decide +kernel
/-- an int through a small positive int is a number -/
theorem am_meanN (a : Int32) {n : Nat} (h0 : 0 < n) (h1 : n < 600) : vf_n64 (FP.ddiv (FP.i2d a) (FP.i2d (Int32.ofNat n))) := by
  refine am_n64 ?_
  have hb := List.all_eq_true.mp am_pos n (List.mem_range.mpr h1)
  have hn : Nat.beq n 0 = false := by rw [am_beq]; simp; omega
  rw [hn, Bool.false_or] at hb
  have ha := am_i2dN a
  show FP.Core.val64 (FP.Core.ddiv (FP.Core.i2d a) (FP.Core.i2d (Int32.ofNat n))) ≠ .nan
  rw [FP.Core.val64_ddiv]
  unfold am_pos64 at hb
  cases hx : FP.Core.val64 (FP.Core.i2d a) with
  | nan => exact absurd hx ha
  | inf s =>
    cases hy : FP.Core.val64 (FP.Core.i2d (Int32.ofNat n)) with
    | nan => rw [hy] at hb; cases hb
    | inf t => rw [hy] at hb; cases hb
    | fin t d r => simp [FP.Core.quotient]
  | fin s c q =>
    cases hy : FP.Core.val64 (FP.Core.i2d (Int32.ofNat n)) with
    | nan => rw [hy] at hb; cases hb
    | inf t => rw [hy] at hb; cases hb
    | fin t d r =>
      rw [hy] at hb
      have hd : d ≠ 0 := by
        have : 0 < d := Nat.blt_eq ▸ hb
        omega
      simp only [FP.Core.quotient, if_neg hd]
      exact FP.Core.roundRatio_ne_nan FP.Core.b64 _ c d _
end MEAN
section AMN
variable {X : am_X} {o : Nat} {cc : ByteArray} {nL : Nat} {ini : Bool} {ret : Option FieldType} {d : Nat}
variable {cells slots : Nat} {Q : State → Prop} {sh : List am_Sh} {ad : Nat → Nat} {pc : Nat} {L : am_L} {st : List Value} {I : am_I} {G : am_G} {P : am_P} {post : am_Po}
theorem am_i2d (hX : am_okz X ad) (hi : am_info X o cc nL ini ret d) {x : Int32} (hd : decode cc pc = .ok (.i2d, 1)) (k : am_V X cells slots Q sh ad (pc + 1, L, .double (FP.i2d x) :: st, I, G, P)) : am_V X cells slots Q sh ad (pc, L, .int x :: st, I, G, P) := by
  obtain ⟨p, l, e, R, s, m, args, below, meth, c, A, D, cys, o', cc', nL', ini'⟩ := X
  obtain ⟨rfl, rfl, rfl, rfl, -, -, -⟩ := hi
  obtain ⟨⟨hx, hb, -⟩, -⟩ := hX
  intro h1 h2 H locs ls hP hD hS hl
  exact lv_i2d hx hb hd (k h1 h2 H locs ls hP hD hS hl)
theorem am_ddiv (hX : am_okz X ad) (hi : am_info X o cc nL ini ret d) {x y : UInt64} (hne : vf_n64 (FP.ddiv x y)) (hd : decode cc pc = .ok (.ddiv, 1)) (k : am_V X cells slots Q sh ad (pc + 1, L, .double (FP.ddiv x y) :: st, I, G, P)) : am_V X cells slots Q sh ad (pc, L, .double y :: .double x :: st, I, G, P) := by
  obtain ⟨p, l, e, R, s, m, args, below, meth, c, A, D, cys, o', cc', nL', ini'⟩ := X
  obtain ⟨rfl, rfl, rfl, rfl, -, -, -⟩ := hi
  obtain ⟨⟨hx, hb, -⟩, -⟩ := hX
  intro h1 h2 H locs ls hP hD hS hl
  exact lv_ddiv hx hb hd hne (k h1 h2 H locs ls hP hD hS hl)
theorem am_dc0 (hX : am_okz X ad) (hi : am_info X o cc nL ini ret d) (hd : decode cc pc = .ok (.dconst 0, 1)) (k : am_V X cells slots Q sh ad (pc + 1, L, .double FP.dconst0 :: st, I, G, P)) : am_V X cells slots Q sh ad (pc, L, st, I, G, P) := by
  obtain ⟨p, l, e, R, s, m, args, below, meth, c, A, D, cys, o', cc', nL', ini'⟩ := X
  obtain ⟨rfl, rfl, rfl, rfl, -, -, -⟩ := hi
  obtain ⟨⟨hx, hb, -⟩, -⟩ := hX
  intro h1 h2 H locs ls hP hD hS hl
  exact lv_dconst0 hx hb hd (k h1 h2 H locs ls hP hD hS hl)
theorem am_dcmp (hX : am_okz X ad) (hi : am_info X o cc nL ini ret d) {x y : UInt64} {op : CmpOp} (hd : decode cc pc = .ok (.dcmp op, 1)) (k : am_V X cells slots Q sh ad (pc + 1, L, .int (Op.cmpValue (FP.dcmp x y) op) :: st, I, G, P)) : am_V X cells slots Q sh ad (pc, L, .double y :: .double x :: st, I, G, P) := by
  obtain ⟨p, l, e, R, s, m, args, below, meth, c, A, D, cys, o', cc', nL', ini'⟩ := X
  obtain ⟨rfl, rfl, rfl, rfl, -, -, -⟩ := hi
  obtain ⟨⟨hx, hb, -⟩, -⟩ := hX
  intro h1 h2 H locs ls hP hD hS hl
  exact lv_dcmp hx hb hd (k h1 h2 H locs ls hP hD hS hl)
theorem am_dret (hX : am_okz X ad) (hi : am_info X o cc nL ini ret d) {v : UInt64} (hr : ret = some .double) (hd : decode cc pc = .ok (.dreturn, 1)) (hp : post (some (.double v)) I G P) : am_V X 0 0 (am_Rt X sh ad post) sh ad (pc, L, [.double v], I, G, P) := by
  obtain ⟨p, l, e, R, s, m, args, below, meth, c, A, D, cys, o', cc', nL', ini'⟩ := X
  obtain ⟨rfl, rfl, rfl, rfl, hret, -, -⟩ := hi
  obtain ⟨⟨hx, hb, -, -, -, hlocks, -⟩, -⟩ := hX
  intro h1 h2 H locs ls hP hD hS hl
  exact W.dret hx hb (hret.trans hr) (fun t ht _ => ⟨⟨_, I, G, P, hp, rfl, by rw [ht]; exact hP⟩, hS.F ht⟩) hS.2.2 hd hlocks
end AMN
def pD (v : UInt64) (I : am_I) (G : am_G) (P : am_P) : am_Po := fun r I' G' P' => r = some (.double v) ∧ I' = I ∧ G' = G ∧ P' = P
noncomputable def L_X11_mean_0 (n0 : Nat) (hd : Nat) (I : am_I) (G : am_G) (v1 : Int32) (v2 : Int32) (v3 : Int32) : Option (UInt64 × am_I × am_G) := match n0 with
  | 0 => none
  | n + 1 => match hd with
    | _ => (if v1 ≤ v3 then (if v1 ≤ 0 then some (FP.dconst0, I, G) else rg (vf_n64 (FP.ddiv (FP.i2d v2) (FP.i2d v1))) (some ((FP.ddiv (FP.i2d v2) (FP.i2d v1)), I, G))) else L_X11_mean_0 n 0 I G v1 (v2 + (gAt (I 57) 576 v3)) (v3 + (1 : Int32)))
theorem L_X11_mean_0_0 (n : Nat) (I : am_I) (G : am_G) (v1 : Int32) (v2 : Int32) (v3 : Int32) : L_X11_mean_0 (n + 1) 0 I G v1 v2 v3 = (if v1 ≤ v3 then (if v1 ≤ 0 then some (FP.dconst0, I, G) else rg (vf_n64 (FP.ddiv (FP.i2d v2) (FP.i2d v1))) (some ((FP.ddiv (FP.i2d v2) (FP.i2d v1)), I, G))) else L_X11_mean_0 n 0 I G v1 (v2 + (gAt (I 57) 576 v3)) (v3 + (1 : Int32))) := rfl
theorem L_X11_mean_0_z (h : Nat) (I : am_I) (G : am_G) (v1 : Int32) (v2 : Int32) (v3 : Int32) : L_X11_mean_0 0 h I G v1 v2 v3 = none := rfl
noncomputable def R_X11_mean_0 (I : am_I) (G : am_G)  : Option (UInt64 × am_I × am_G) := rb (R_X7_refresh_53 I G ) (fun r1 I1 G1 => L_X11_mean_0 FU 0 I1 G1 ((I1 7 9) * (I1 7 10)) (0 : Int32) (0 : Int32))
set_option maxRecDepth 20000 in
set_option maxHeartbeats 4000000 in
theorem l_X11_mean_0 (rd : Nat) {X : am_X} {ad : Nat → Nat} (hX : am_okz X ad) (hi : am_info X 11 cX11_mean 4 false (Option.some Jvm.ClassFile.FieldType.double) 8) (n : Nat) : (∀ (I : am_I) (G : am_G) (v1 : Int32) (v2 : Int32) (v3 : Int32) (out : UInt64 × am_I × am_G), L_X11_mean_0 n 0 I G v1 v2 v3 = some out → am_V X 0 0 (am_Rt X gS ad (pD out.1 out.2.1 out.2.2 (gP rd))) gS ad (27, [(0, .ref 0), (1, .int v1), (2, .int v2), (3, .int v3)], [], I, G, (gP rd))) := by
  induction n with
  | zero => exact fun I G v1 v2 v3 out h => by rw [L_X11_mean_0_z] at h; cases h
  | succ n ih =>
    · intro I G v1 v2 v3 out h
      rw [L_X11_mean_0_0] at h
      refine am_blk 27 [(.iload_n 3, 1, 3, 0, .null), (.iload_n 1, 1, 1, 0, .null)] (29, [(0, .ref 0), (1, .int v1), (2, .int v2), (3, .int v3)], [.int v1, .int v3], I, G, (gP rd)) (True) hX hi (by decide +kernel) rfl trivial ?_
      refine am_icmp_ge (tgt := 52) hX hi (off := (23)) (by decide +kernel) (by decide) (fun c29 => ?_) (fun c29 => ?_)
      · rw [if_pos c29] at h
        refine am_blk 52 [(.iload_n 1, 1, 1, 0, .null)] (53, [(0, .ref 0), (1, .int v1), (2, .int v2), (3, .int v3)], [.int v1], I, G, (gP rd)) (True) hX hi (by decide +kernel) rfl trivial ?_
        refine am_if_le (tgt := 64) hX hi (off := (11)) (by decide +kernel) (by decide) (fun c53 => ?_) (fun c53 => ?_)
        · rw [if_pos c53] at h
          refine am_dc0 hX hi (by decide +kernel) ?_
          show am_V X 0 0 _ _ ad (65, [(0, .ref 0), (1, .int v1), (2, .int v2), (3, .int v3)], [.double FP.dconst0], I, G, (gP rd))
          cases h
          refine am_dret hX hi rfl (by decide +kernel) ?_
          exact ⟨rfl, rfl, rfl, rfl⟩
        · rw [if_neg c53] at h
          refine am_blk 56 [(.iload_n 2, 1, 2, 0, .null)] (57, [(0, .ref 0), (1, .int v1), (2, .int v2), (3, .int v3)], [.int v2], I, G, (gP rd)) (True) hX hi (by decide +kernel) rfl trivial ?_
          refine am_i2d hX hi (by decide +kernel) ?_
          show am_V X 0 0 _ _ ad (58, [(0, .ref 0), (1, .int v1), (2, .int v2), (3, .int v3)], [.double (FP.i2d v2)], I, G, (gP rd))
          refine am_blk 58 [(.iload_n 1, 1, 1, 0, .null)] (59, [(0, .ref 0), (1, .int v1), (2, .int v2), (3, .int v3)], [.int v1, .double (FP.i2d v2)], I, G, (gP rd)) (True) hX hi (by decide +kernel) rfl trivial ?_
          refine am_i2d hX hi (by decide +kernel) ?_
          show am_V X 0 0 _ _ ad (60, [(0, .ref 0), (1, .int v1), (2, .int v2), (3, .int v3)], [.double (FP.i2d v1), .double (FP.i2d v2)], I, G, (gP rd))
          obtain ⟨gd, h⟩ := rg_some h
          refine am_ddiv hX hi gd (by decide +kernel) ?_
          show am_V X 0 0 _ _ ad (61, [(0, .ref 0), (1, .int v1), (2, .int v2), (3, .int v3)], [.double (FP.ddiv (FP.i2d v2) (FP.i2d v1))], I, G, (gP rd))
          refine am_blk 61 [(.goto (4), 3, 0, 65, .null)] (65, [(0, .ref 0), (1, .int v1), (2, .int v2), (3, .int v3)], [.double (FP.ddiv (FP.i2d v2) (FP.i2d v1))], I, G, (gP rd)) (True) hX hi (by decide +kernel) rfl trivial ?_
          cases h
          refine am_dret hX hi rfl (by decide +kernel) ?_
          exact ⟨rfl, rfl, rfl, rfl⟩
      · rw [if_neg c29] at h
        refine am_blk 32 [(.iload_n 2, 1, 2, 0, .null), (.aload_n 0, 1, 0, 0, .null), (.getfield 46, 3, 11, 4, .null), (.getfield 108, 3, 7, 5, .null), (.iload_n 3, 1, 3, 0, .null)] (41, [(0, .ref 0), (1, .int v1), (2, .int v2), (3, .int v3)], [.int v3, .ref 57, .int v2], I, G, (gP rd)) (True) hX hi (by decide +kernel) rfl trivial ?_
        refine am_callS hX hi (M := mX0_at) (idx := 116) (d' := 1) (As := [.ref 57, .int v3]) (rest := [.int v2]) mkX0_at msX0_at (by decide +kernel) (by decide +kernel) rfl ⟨by omega, by decide, Nat.le_of_ble_eq_true rfl⟩ rfl (c_at rfl (by decide) v3) ?_
        rintro r9 I9 G9 P9 ⟨e0, e1, e2, e3⟩
        rw [e0, e1, e2, e3]
        show am_V X 0 0 _ _ ad (44, [(0, .ref 0), (1, .int v1), (2, .int v2), (3, .int v3)], [.int (gAt (I 57) 576 v3), .int v2], I, G, (gP rd))
        refine am_blk 44 [(.iadd, 1, 0, 0, .null), (.istore_n 2, 1, 2, 0, .null), (.iinc 3 (1), 3, 3, 0, .int (1 : Int32)), (.goto (-22), 3, 0, 27, .null)] (27, [(0, .ref 0), (1, .int v1), (2, .int (v2 + (gAt (I 57) 576 v3))), (3, .int (v3 + (1 : Int32)))], [], I, G, (gP rd)) (True) hX hi (by decide +kernel) rfl trivial ?_
        exact ih _ _ _ _ _ _ h
set_option maxRecDepth 20000 in
set_option maxHeartbeats 4000000 in
theorem c_X11_mean_0 (rd : Nat) (I : am_I) (G : am_G)  {out : UInt64 × am_I × am_G} (h : R_X11_mean_0 I G  = some out) : am_Ct mX11_mean 8 gS [.ref 0] I G (gP rd) (pD out.1 out.2.1 out.2.2 (gP rd)) := by
  refine am_ofF (by decide +kernel) rfl (by decide) (by omega) (Nat.le_of_ble_eq_true rfl) (fun X ad hX hi => ?_)
  have hi : am_info X 11 cX11_mean 4 false (Option.some Jvm.ClassFile.FieldType.double) 8 := hi
  show am_V X 0 0 _ _ ad (0, [(0, .ref 0)], [], I, G, (gP rd))
  unfold R_X11_mean_0 at h
  refine am_blk 0 [(.aload_n 0, 1, 0, 0, .null), (.getfield 46, 3, 11, 4, .null)] (4, [(0, .ref 0)], [.ref 53], I, G, (gP rd)) (True) hX hi (by decide +kernel) rfl trivial ?_
  obtain ⟨r1, I1, G1, hc, h⟩ := rb_some h
  refine am_callV hX hi (M := mX7_refresh) (idx := 105) (d' := 7) (b := 53) (ci := 7) (As := []) (rest := []) mkX7_refresh miX7_refresh mvX7_refresh (by decide +kernel) (by decide +kernel) rfl (by decide +kernel) rfl ⟨by omega, by decide, Nat.le_of_ble_eq_true rfl⟩ rfl (c_X7_refresh_53 _ I G  hc) ?_
  rintro r9 I9 G9 P9 ⟨e0, e1, e2, e3⟩
  rw [e0, e1, e2, e3]
  show am_V X 0 0 _ _ ad (7, [(0, .ref 0)], [], I1, G1, (gP rd))
  refine am_blk 7 [(.aload_n 0, 1, 0, 0, .null), (.getfield 33, 3, 11, 2, .null), (.getfield 163, 3, 5, 9, .null), (.aload_n 0, 1, 0, 0, .null), (.getfield 33, 3, 11, 2, .null), (.getfield 170, 3, 5, 10, .null), (.imul, 1, 0, 0, .null), (.istore_n 1, 1, 1, 0, .null), (.iconst (0), 1, 0, 0, .int (0 : Int32)), (.istore_n 2, 1, 2, 0, .null), (.iconst (0), 1, 0, 0, .int (0 : Int32)), (.istore_n 3, 1, 3, 0, .null)] (27, [(0, .ref 0), (1, .int ((I1 7 9) * (I1 7 10))), (2, .int (0 : Int32)), (3, .int (0 : Int32))], [], I1, G1, (gP rd)) (True) hX hi (by decide +kernel) rfl trivial ?_
  exact (l_X11_mean_0 rd hX hi FU) _ _ _ _ _ _ h
