/-! the mean: a FP.Core.quotient of doubles that is no NaN -/
section MEAN
theorem am_n64 {r : UInt64} (h : FP.Core.val64 r ≠ .nan) : vf_n64 r := by
  have h1 : FP.Core.dIsNaN r = false := (FP.Core.notNaN_iff r).mpr h
  have h2 : ¬ (9218868437227405312 < r.toNat % 2 ^ 63) := fun q => by
    have := (FP.Core.isNaN_bits r).mpr q
    rw [h1] at this; cases this
  show r &&& 0x7fffffffffffffff ≤ 0x7ff0000000000000
  rw [UInt64.le_iff_toNat_le, UInt64.toNat_and]
  have h3 : (0x7fffffffffffffff : UInt64).toNat = 2 ^ 63 - 1 := rfl
  rw [h3, Nat.and_two_pow_sub_one_eq_mod]
  have h4 : (0x7ff0000000000000 : UInt64).toNat = 9218868437227405312 := rfl
  omega
theorem am_i2dN (a : Int32) : FP.Core.val64 (FP.Core.i2d a) ≠ .nan := by
  rw [FP.Core.val64_i2d]
  cases h : FP.Core.ofInt a.toInt with
  | nan => simp [FP.Core.ofInt] at h
  | inf s => simp [FP.Core.ofInt] at h
  | fin s c q => exact FP.Core.roundRatio_ne_nan FP.Core.b64 s c 1 q
def am_pos64 (n : Nat) : Bool := match FP.Core.val64 (FP.Core.i2d (Int32.ofNat n)) with
  | .fin _ d _ => Nat.blt 0 d
  | _ => false
theorem am_pos : (List.range 600).all (fun n => Nat.beq n 0 || am_pos64 n) = true := by decide +kernel
/-- an int through a small positive int is a number -/
theorem am_meanN (a : Int32) {n : Nat} (h0 : 0 < n) (h1 : n < 600) : vf_n64 (FP.ddiv (FP.i2d a) (FP.i2d (Int32.ofNat n))) := by
  refine am_n64 ?_
  have hb := List.all_eq_true.mp am_pos n (List.mem_range.mpr h1)
  have hn : Nat.beq n 0 = false := by rw [am_beq]; simp; omega
  rw [hn, Bool.false_or] at hb
  have ha := am_i2dN a
  show FP.Core.val64 (FP.Core.ddiv (FP.Core.i2d a) (FP.Core.i2d (Int32.ofNat n))) ≠ .nan
  rw [FP.Core.val64_ddiv]
  unfold am_pos64 at hb
  cases hx : FP.Core.val64 (FP.Core.i2d a) with
  | nan => exact absurd hx ha
  | inf s =>
    cases hy : FP.Core.val64 (FP.Core.i2d (Int32.ofNat n)) with
    | nan => rw [hy] at hb; cases hb
    | inf t => rw [hy] at hb; cases hb
    | fin t d r => simp [FP.Core.quotient]
  | fin s c q =>
    cases hy : FP.Core.val64 (FP.Core.i2d (Int32.ofNat n)) with
    | nan => rw [hy] at hb; cases hb
    | inf t => rw [hy] at hb; cases hb
    | fin t d r =>
      rw [hy] at hb
      have hd : d ≠ 0 := by
        have : 0 < d := Nat.blt_eq ▸ hb
        omega
      simp only [FP.Core.quotient, if_neg hd]
      exact FP.Core.roundRatio_ne_nan FP.Core.b64 _ c d _
end MEAN
section AMN
variable {X : am_X} {o : Nat} {cc : ByteArray} {nL : Nat} {ini : Bool} {ret : Option FieldType} {d : Nat}
variable {cells slots : Nat} {Q : State → Prop} {sh : List am_Sh} {ad : Nat → Nat} {pc : Nat} {L : am_L} {st : List Value} {I : am_I} {G : am_G} {P : am_P} {post : am_Po}
theorem am_i2d (hX : am_okz X ad) (hi : am_info X o cc nL ini ret d) {x : Int32} (hd : decode cc pc = .ok (.i2d, 1)) (k : am_V X cells slots Q sh ad (pc + 1, L, .double (FP.i2d x) :: st, I, G, P)) : am_V X cells slots Q sh ad (pc, L, .int x :: st, I, G, P) := by
  obtain ⟨p, l, e, R, s, m, args, below, meth, c, A, D, cys, o', cc', nL', ini'⟩ := X
  obtain ⟨rfl, rfl, rfl, rfl, -, -, -⟩ := hi
  obtain ⟨⟨hx, hb, -⟩, -⟩ := hX
  intro h1 h2 H locs ls hP hD hS hl
  exact lv_i2d hx hb hd (k h1 h2 H locs ls hP hD hS hl)
theorem am_ddiv (hX : am_okz X ad) (hi : am_info X o cc nL ini ret d) {x y : UInt64} (hne : vf_n64 (FP.ddiv x y)) (hd : decode cc pc = .ok (.ddiv, 1)) (k : am_V X cells slots Q sh ad (pc + 1, L, .double (FP.ddiv x y) :: st, I, G, P)) : am_V X cells slots Q sh ad (pc, L, .double y :: .double x :: st, I, G, P) := by
  obtain ⟨p, l, e, R, s, m, args, below, meth, c, A, D, cys, o', cc', nL', ini'⟩ := X
  obtain ⟨rfl, rfl, rfl, rfl, -, -, -⟩ := hi
  obtain ⟨⟨hx, hb, -⟩, -⟩ := hX
  intro h1 h2 H locs ls hP hD hS hl
  exact lv_ddiv hx hb hd hne (k h1 h2 H locs ls hP hD hS hl)
theorem am_dc0 (hX : am_okz X ad) (hi : am_info X o cc nL ini ret d) (hd : decode cc pc = .ok (.dconst 0, 1)) (k : am_V X cells slots Q sh ad (pc + 1, L, .double FP.dconst0 :: st, I, G, P)) : am_V X cells slots Q sh ad (pc, L, st, I, G, P) := by
  obtain ⟨p, l, e, R, s, m, args, below, meth, c, A, D, cys, o', cc', nL', ini'⟩ := X
  obtain ⟨rfl, rfl, rfl, rfl, -, -, -⟩ := hi
  obtain ⟨⟨hx, hb, -⟩, -⟩ := hX
  intro h1 h2 H locs ls hP hD hS hl
  exact lv_dconst0 hx hb hd (k h1 h2 H locs ls hP hD hS hl)
theorem am_dcmp (hX : am_okz X ad) (hi : am_info X o cc nL ini ret d) {x y : UInt64} {op : CmpOp} (hd : decode cc pc = .ok (.dcmp op, 1)) (k : am_V X cells slots Q sh ad (pc + 1, L, .int (Op.cmpValue (FP.dcmp x y) op) :: st, I, G, P)) : am_V X cells slots Q sh ad (pc, L, .double y :: .double x :: st, I, G, P) := by
  obtain ⟨p, l, e, R, s, m, args, below, meth, c, A, D, cys, o', cc', nL', ini'⟩ := X
  obtain ⟨rfl, rfl, rfl, rfl, -, -, -⟩ := hi
  obtain ⟨⟨hx, hb, -⟩, -⟩ := hX
  intro h1 h2 H locs ls hP hD hS hl
  exact lv_dcmp hx hb hd (k h1 h2 H locs ls hP hD hS hl)
theorem am_dret (hX : am_okz X ad) (hi : am_info X o cc nL ini ret d) {v : UInt64} (hr : ret = some .double) (hd : decode cc pc = .ok (.dreturn, 1)) (hp : post (some (.double v)) I G P) : am_V X 0 0 (am_Rt X sh ad post) sh ad (pc, L, [.double v], I, G, P) := by
  obtain ⟨p, l, e, R, s, m, args, below, meth, c, A, D, cys, o', cc', nL', ini'⟩ := X
  obtain ⟨rfl, rfl, rfl, rfl, hret, -, -⟩ := hi
  obtain ⟨⟨hx, hb, -, -, -, hlocks, -⟩, -⟩ := hX
  intro h1 h2 H locs ls hP hD hS hl
  exact W.dret hx hb (hret.trans hr) (fun t ht _ => ⟨⟨_, I, G, P, hp, rfl, by rw [ht]; exact hP⟩, hS.F ht⟩) hS.2.2 hd hlocks
end AMN
def pD (v : UInt64) (I : am_I) (G : am_G) (P : am_P) : am_Po := fun r I' G' P' => r = some (.double v) ∧ I' = I ∧ G' = G ∧ P' = P
