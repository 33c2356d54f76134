/-- the cells of the paper and its parts -/
def gS : List am_Sh := [.inl 11, .inl 9, .inr (0, 2000), .inr (2, 24), .inr (0, 401), .inr (0, 401), .inr (2, 401), .inl 5, .inr (0, 4), .inr (0, 4), .inr (0, 4), .inr (0, 4), .inr (0, 4), .inr (0, 4), .inr (0, 4), .inr (0, 5), .inl 3, .inr (0, 20), .inr (0, 20), .inr (0, 20), .inr (0, 20), .inr (0, 20), .inr (0, 20), .inr (0, 400), .inr (0, 400), .inl 10, .inr (0, 18432), .inr (0, 32), .inl 6, .inl 5, .inr (0, 4), .inr (0, 4), .inr (0, 4), .inr (0, 4), .inr (0, 4), .inr (0, 4), .inr (0, 4), .inr (0, 5), .inl 3, .inr (0, 20), .inr (0, 20), .inr (0, 20), .inr (0, 20), .inr (0, 20), .inr (0, 20), .inr (0, 400), .inr (0, 400), .inl 2, .inr (2, 4), .inl 2, .inr (2, 4), .inl 2, .inr (2, 5), .inl 7, .inr (0, 4), .inr (0, 96), .inr (0, 4), .inr (0, 576), .inr (0, 576), .inr (0, 6), .inl 4, .inr (0, 576), .inr (0, 576), .inr (0, 576), .inl 8, .inr (0, 400), .inl 7, .inr (0, 4), .inr (0, 96), .inr (0, 4), .inr (0, 576), .inr (0, 576), .inr (0, 6), .inl 4, .inr (0, 576), .inr (0, 576), .inr (0, 576), .inl 8, .inr (0, 400)]
def gPT : List (List Nat) := [[1, 28, 7, 25, 53, 66, 9999], [2, 3, 4, 5, 6, 9999, 9999, 9999, 9999], [], [], [], [], [], [8, 9, 10, 11, 12, 13, 14, 15, 16, 9999, 9999, 9999, 9999, 9999], [], [], [], [], [], [], [], [], [17, 18, 19, 20, 21, 22, 23, 24, 9999, 9999], [], [], [], [], [], [], [], [], [7, 26, 27], [], [], [1, 29, 47, 49, 51, 9999, 9999, 9999, 9999], [30, 31, 32, 33, 34, 35, 36, 37, 38, 9999, 9999, 9999, 9999, 9999], [], [], [], [], [], [], [], [], [39, 40, 41, 42, 43, 44, 45, 46, 9999, 9999], [], [], [], [], [], [], [], [], [48, 9999], [], [50, 9999], [], [52, 9999], [], [7, 25, 54, 55, 56, 57, 58, 59, 60, 64, 9999, 9999, 9999, 9999, 9999, 9999], [], [], [], [], [], [], [61, 62, 63, 9999, 9999, 9999], [], [], [], [65, 9999], [], [7, 25, 67, 68, 69, 70, 71, 72, 73, 77, 9999, 9999, 9999, 9999, 9999, 9999], [], [], [], [], [], [], [74, 75, 76, 9999, 9999, 9999], [], [], [], [78, 9999], []]
/-- the references, which stay but for what is being read -/
def gP (_ : Nat) : am_P := fun a k => .ref ((gPT.getD a []).getD k 9999)
def pI (v : Int32) (I : am_I) (G : am_G) (P : am_P) : am_Po := fun r I' G' P' => r = some (.int v) ∧ I' = I ∧ G' = G ∧ P' = P
def pL (v : Int64) (I : am_I) (G : am_G) (P : am_P) : am_Po := fun r I' G' P' => r = some (.long v) ∧ I' = I ∧ G' = G ∧ P' = P
def pR (v : Nat) (I : am_I) (G : am_G) (P : am_P) : am_Po := fun r I' G' P' => r = some (.ref v) ∧ I' = I ∧ G' = G ∧ P' = P
def pV (I : am_I) (G : am_G) (P : am_P) : am_Po := fun r I' G' P' => r = none ∧ I' = I ∧ G' = G ∧ P' = P
theorem pI_rf (v : Int32) (I : am_I) (G : am_G) (P : am_P) : pI v I G P (some (.int v)) I G P := ⟨rfl, rfl, rfl, rfl⟩
theorem pL_rf (v : Int64) (I : am_I) (G : am_G) (P : am_P) : pL v I G P (some (.long v)) I G P := ⟨rfl, rfl, rfl, rfl⟩
theorem pV_rf (I : am_I) (G : am_G) (P : am_P) : pV I G P none I G P := ⟨rfl, rfl, rfl, rfl⟩
theorem pI_eq {v w : Int32} {I : am_I} {G : am_G} {P : am_P} (h : w = v) : pI v I G P (some (.int w)) I G P := ⟨by rw [h], rfl, rfl, rfl⟩
theorem pL_eq {v w : Int64} {I : am_I} {G : am_G} {P : am_P} (h : w = v) : pL v I G P (some (.long w)) I G P := ⟨by rw [h], rfl, rfl, rfl⟩
theorem pV_eq {I I' : am_I} {G : am_G} {P : am_P} (h : I' = I) : pV I G P none I' G P := ⟨rfl, h, rfl, rfl⟩
section AMN
variable {X : am_X} {o : Nat} {cc : ByteArray} {nL : Nat} {ini : Bool} {ret : Option FieldType} {d : Nat}
variable {cells slots : Nat} {Q : State → Prop} {sh : List am_Sh} {ad : Nat → Nat} {pc : Nat} {L : am_L} {st : List Value} {I : am_I} {G : am_G} {P : am_P} {post : am_Po}
theorem am_nul (hX : am_okz X ad) (hi : am_info X o cc nL ini ret d) {x : Nat} {off : Int} (hd : decode cc pc = .ok (.ifnull off, 3)) (k : am_V X cells slots Q sh ad (pc + 3, L, st, I, G, P)) : am_V X cells slots Q sh ad (pc, L, .ref x :: st, I, G, P) := by
  obtain ⟨p, l, e, R, s, m, args, below, meth, c, A, D, cys, o', cc', nL', ini'⟩ := X
  obtain ⟨rfl, rfl, rfl, rfl, -, -, -⟩ := hi
  obtain ⟨⟨hx, hb, -⟩, -⟩ := hX
  intro q1 q2 H locs ls hP hD hS hl
  exact lv_ifnull hx hb hd (k q1 q2 H locs ls hP hD hS hl)
theorem am_nnul (hX : am_okz X ad) (hi : am_info X o cc nL ini ret d) {x : Nat} {off : Int} {tgt : Nat} (hd : decode cc pc = .ok (.ifnonnull off, 3)) (ht : (pc : Int) + off = (tgt : Int)) (k : am_V X cells slots Q sh ad (tgt, L, st, I, G, P)) : am_V X cells slots Q sh ad (pc, L, .ref x :: st, I, G, P) := by
  obtain ⟨p, l, e, R, s, m, args, below, meth, c, A, D, cys, o', cc', nL', ini'⟩ := X
  obtain ⟨rfl, rfl, rfl, rfl, -, -, -⟩ := hi
  obtain ⟨⟨hx, hb, -⟩, -⟩ := hX
  intro q1 q2 H locs ls hP hD hS hl
  exact lv_ifnonnull hx hb hd ht (k q1 q2 H locs ls hP hD hS hl)
theorem am_ldci (hX : am_okz X ad) (hi : am_info X o cc nL ini ret d) {idx : Nat} {v : Int32} (hl : Cond.constant (am_own o) idx v ∈ lw_tbl) (hd : decode cc pc = .ok (.ldc idx, 2)) (k : am_V X cells slots Q sh ad (pc + 2, L, .int v :: st, I, G, P)) : am_V X cells slots Q sh ad (pc, L, st, I, G, P) := by
  obtain ⟨p, l, e, R, s, m, args, below, meth, c, A, D, cys, o', cc', nL', ini'⟩ := X
  obtain ⟨rfl, rfl, rfl, rfl, -, -, -⟩ := hi
  obtain ⟨⟨hx, hb, hml, hown, hts, -⟩, -⟩ := hX
  intro q1 q2 H locs ls hP hD hS hlo
  exact lv_ldc hx hb hown (hts _ (am_good hl rfl)) hd (k q1 q2 H locs ls hP hD hS hlo)
theorem am_glen (hX : am_okz X ad) (hi : am_info X o cc nL ini ret d) {i : Nat} {q : String × String × List Int32} (hq : am_sT[i]? = some q) (hd : decode cc pc = .ok (.arraylength, 1)) (k : am_V X cells slots Q sh ad (pc + 1, L, .int (Int32.ofNat q.2.2.length) :: st, I, G, P)) : am_V X cells slots Q sh ad (pc, L, .ref (1000 + i) :: st, I, G, P) := by
  obtain ⟨p, l, e, R, s, m, args, below, meth, c, A, D, cys, o', cc', nL', ini'⟩ := X
  obtain ⟨rfl, rfl, rfl, rfl, -, -, -⟩ := hi
  obtain ⟨⟨hx, hb, hml, hown, hts, -⟩, hZ⟩ := hX
  intro q1 q2 H locs ls hP hD hS hlo
  exact va_tlen hx hb (hZ.1 i q hq).2 hS rfl hd (k q1 q2 H locs ls hP hD hS hlo)
end AMN
/-- a method's contract out of the walk of its body -/
theorem am_ofF {M : am_M} {d : Nat} {sh : List am_Sh} {args : List Value} {I : am_I} {G : am_G} {P : am_P} {post : am_Po} (hy : plainFor M.1 = true) (hcls : M.1.cls = am_own M.2.2.2.2.1) (hini : M.2.2.2.2.2.2 = true → M.1.name = "<init>") (hd : 1 ≤ d) (hargs : (lg_sl args).length ≤ M.2.2.1)
    (body : ∀ (X : am_X) (ad : Nat → Nat), am_okz X ad → am_info X M.2.2.2.2.1 M.2.1 M.2.2.1 M.2.2.2.2.2.2 M.2.2.2.1 d → am_V X 0 0 (am_Rt X sh ad post) sh ad (0, lv_args 0 args, [], I, G, P)) : am_Ct M d sh args I G P post := by
  obtain ⟨y, cc, nL, ret, o, n, ini⟩ := M
  intro l D cys ad sz
  refine va_MetF (cc := cc) (maxL := nL) (ret := ret) hy rfl ?_
  intro p e s m a below meth c s₁ B hml hv
  obtain ⟨rfl, hsz, hP, hK, hD0, hN, hZ⟩ := hv
  have hts : ∀ w ∈ am_wl y cc nL ret, w.before _ s = true := atoms_spec (ws := am_wl y cc nL ret) B.pre
  have hown : s.vm.findClass y.cls = some m.cls := findClass_of_methodNamed B.named
  have hin : meth.name = y.name := (name_of_methodNamed B.named B.method).1
  subst hsz
  have hD := hD0.self (sz := s.heap.size)
  have hb := body (p, l, e, (headSpec (am_wl y cc nL ret) (am_rm d 0 0)).room, s, m, (args.map (am_tv ad)).toArray, below, meth, c, va_A (am_ws cys ad sh I G P) s.heap.size, D, cys, o, cc, nL, ini) ad
    ⟨⟨B.exec, B.bytes, hml, by rw [← hcls]; exact hown, fun w hw => hts w (List.mem_cons_of_mem _ hw), B.notSynchronized, hK, hN, fun q h => Or.inr h, fun h => by rw [hin]; exact hini h, hd, by show 30 ≤ 30 * d; omega⟩, hZ⟩
    ⟨rfl, rfl, rfl, rfl, B.returns, Nat.le_refl _, Nat.le_refl _⟩
  have hl := lv_entry (args.map (am_tv ad)) (n := nL) (by rw [am_sl_len]; exact hargs)
  rw [lg_entry_eq]
  rw [am_args] at hl
  exact hb (Nat.zero_le _) (Nat.zero_le _) s.heap [] _ hP hD va_S.rf hl
theorem am_blk {X : am_X} {o : Nat} {cc : ByteArray} {nL : Nat} {ini : Bool} {ret : Option FieldType} {d cells slots : Nat} {Q : State → Prop} {sh : List am_Sh} {ad : Nat → Nat} {L : am_L} {st : List Value} {I : am_I} {G : am_G} {P : am_P} (pc : Nat) (its : List am_It) (S' : am_S) (g : Prop) (hX : am_okz X ad) (hi : am_info X o cc nL ini ret d) (hat : am_at o cc nL ini pc its = true) (hr : am_run sh its (pc, L, st, I, G, P) = some (S', g)) (hg : g) (k : am_V X cells slots Q sh ad S') : am_V X cells slots Q sh ad (pc, L, st, I, G, P) :=
  am_block hX hi its hat hr hg k
/-! decompiled methods: none where a look isn't within, or the fuel ends -/
noncomputable def rg {α : Type} (p : Prop) (x : Option α) : Option α := @ite _ p (Classical.propDecidable p) x none
theorem rg_some {α : Type} {p : Prop} {x : Option α} {o : α} (h : rg p x = some o) : p ∧ x = some o := by
  unfold rg at h
  by_cases hp : p
  · rw [if_pos hp] at h; exact ⟨hp, h⟩
  · rw [if_neg hp] at h; cases h
theorem rg_pos {α : Type} {p : Prop} {x : Option α} (h : p) : rg p x = x := by unfold rg; rw [if_pos h]
def rb {α β : Type} (x : Option (α × am_I × am_G)) (f : α → am_I → am_G → Option β) : Option β := match x with
  | none => none
  | some (r, I, G) => f r I G
theorem rb_some {α β : Type} {x : Option (α × am_I × am_G)} {f : α → am_I → am_G → Option β} {o : β} (h : rb x f = some o) : ∃ (r : α) (I : am_I) (G : am_G), x = some (r, I, G) ∧ f r I G = some o := by
  match x, h with
  | some (r, I, G), h => exact ⟨r, I, G, rfl, h⟩
theorem rb_go {α β : Type} {r : α} {I : am_I} {G : am_G} {f : α → am_I → am_G → Option β} : rb (some (r, I, G)) f = f r I G := rfl
def FU : Nat := 1000000
/-! numbers -/
theorem i_lt (a b : Int32) : a < b ↔ a.toInt < b.toInt := Int32.lt_iff_toInt_lt
theorem i_le (a b : Int32) : a ≤ b ↔ a.toInt ≤ b.toInt := Int32.le_iff_toInt_le
theorem i_eq (a b : Int32) : a = b ↔ a.toInt = b.toInt := Int32.toInt_inj.symm
theorem i_b (a : Int32) : -2147483648 ≤ a.toInt ∧ a.toInt < 2147483648 := ⟨Int32.le_toInt a, Int32.toInt_lt a⟩
theorem l_lt (a b : Int64) : a < b ↔ a.toInt < b.toInt := Int64.lt_iff_toInt_lt
theorem l_eq (a b : Int64) : a = b ↔ a.toInt = b.toInt := Int64.toInt_inj.symm
theorem l_b (a : Int64) : -9223372036854775808 ≤ a.toInt ∧ a.toInt < 9223372036854775808 := ⟨Int64.le_toInt a, Int64.toInt_lt a⟩
theorem i_cl (a : Int32) : a.toNatClampNeg = a.toInt.toNat := rfl
theorem i_of (n : Nat) (h : n < 2147483648) : (Int32.ofNat n).toInt = (n : Int) := nI_toInt (n := n) h
theorem i_o4 : (Int32.ofNat 4).toInt = 4 := by decide +kernel
theorem i_o5 : (Int32.ofNat 5).toInt = 5 := by decide +kernel
theorem i_o6 : (Int32.ofNat 6).toInt = 6 := by decide +kernel
theorem i_o20 : (Int32.ofNat 20).toInt = 20 := by decide +kernel
theorem i_o21 : (Int32.ofNat 21).toInt = 21 := by decide +kernel
theorem i_o24 : (Int32.ofNat 24).toInt = 24 := by decide +kernel
theorem i_o32 : (Int32.ofNat 32).toInt = 32 := by decide +kernel
theorem i_o96 : (Int32.ofNat 96).toInt = 96 := by decide +kernel
theorem i_o400 : (Int32.ofNat 400).toInt = 400 := by decide +kernel
theorem i_o401 : (Int32.ofNat 401).toInt = 401 := by decide +kernel
theorem i_o576 : (Int32.ofNat 576).toInt = 576 := by decide +kernel
theorem i_o800 : (Int32.ofNat 800).toInt = 800 := by decide +kernel
theorem i_o2000 : (Int32.ofNat 2000).toInt = 2000 := by decide +kernel
theorem i_o2304 : (Int32.ofNat 2304).toInt = 2304 := by decide +kernel
theorem i_o18432 : (Int32.ofNat 18432).toInt = 18432 := by decide +kernel
theorem i_in (a : Int32) (n : Nat) : vp_in a n ↔ 0 ≤ a.toInt ∧ a.toInt < n := vp_in_iff
theorem i_ofi (z : Int) (h : -2147483648 ≤ z ∧ z < 2147483648) : (Int32.ofInt z).toInt = z := Int32.toInt_ofInt_of_le (by omega) (by omega)
theorem i_0 : (0 : Int32).toInt = 0 := rfl
/-- a look that is guarded -/
def gAt (f : Nat → Int32) (n : Nat) (k : Int32) : Int32 := if k.toInt < 0 ∨ (n : Int) ≤ k.toInt then 0 else f k.toInt.toNat
theorem gAt_in {f : Nat → Int32} {n : Nat} {k : Int32} (h0 : 0 ≤ k.toInt) (h1 : k.toInt < n) : gAt f n k = f k.toInt.toNat := by
  unfold gAt; rw [if_neg (by omega)]
theorem gAt_out {f : Nat → Int32} {n : Nat} {k : Int32} (h : k.toInt < 0 ∨ (n : Int) ≤ k.toInt) : gAt f n k = 0 := by
  unfold gAt; rw [if_pos h]
/-- a write that is guarded -/
def gPut (I : am_I) (a n : Nat) (k x : Int32) : am_I := if k.toInt < 0 ∨ (n : Int) ≤ k.toInt then I else am_up I a k.toInt.toNat x
/-- a remainder, 0 or greater -/
def gWr (n : Int) (m : Int32) : Int32 := if 0 < m.toInt then Int32.ofInt (n % m.toInt) else 0
theorem gWr_b {n : Int} {m : Int32} (h : 0 < m.toInt) : (gWr n m).toInt = n % m.toInt := by
  have h1 := i_b m
  have h2 := Int.emod_nonneg n (show m.toInt ≠ 0 by omega)
  have h3 := Int.emod_lt_of_pos n h
  unfold gWr; rw [if_pos h, i_ofi _ (by omega)]
def gQu (a b : Int32) : Int32 := if b = 0 then 0 else a / b
def gMin (a b : Int32) : Int32 := if b < a then b else a
def gMax (a b : Int32) : Int32 := if a < b then b else a
/-- held between -/
def gHo (n least most : Int32) : Int32 := gMax least (gMin n most)
theorem lrem_eq (x y : Int64) : x - (x / y) * y = x % y := by
  apply Int64.toInt_inj.mp
  have h1 := Int64.le_toInt (x % y)
  have h2 := Int64.toInt_lt (x % y)
  rw [Int64.toInt_sub, Int64.toInt_mul, Int64.toInt_div, Int.bmod_mul_bmod, Int.sub_bmod_bmod, Int.mul_comm (x.toInt.tdiv y.toInt), ← Int.tmod_def, ← Int64.toInt_mod]
  exact Int.bmod_eq_of_le_mul_two (by omega) (by omega)
theorem xor_neg32 (x y : Int32) : (x ^^^ y).toInt < 0 ↔ ¬ (x.toInt < 0 ↔ y.toInt < 0) := by
  have key : ∀ a b : BitVec 32, (a ^^^ b).toInt < 0 ↔ ¬ (a.toInt < 0 ↔ b.toInt < 0) := by
    intro a b
    have h := BitVec.msb_xor (x := a) (y := b)
    rw [BitVec.msb_eq_toInt, BitVec.msb_eq_toInt, BitVec.msb_eq_toInt] at h
    generalize (a ^^^ b).toInt = z at h ⊢
    generalize a.toInt = u at h ⊢
    generalize b.toInt = v at h ⊢
    by_cases h1 : z < 0 <;> by_cases h2 : u < 0 <;> by_cases h3 : v < 0 <;> simp [h1, h2, h3] at h ⊢
  exact key x.toBitVec y.toBitVec
theorem xor_neg64 (x y : Int64) : (x ^^^ y).toInt < 0 ↔ ¬ (x.toInt < 0 ↔ y.toInt < 0) := by
  have key : ∀ a b : BitVec 64, (a ^^^ b).toInt < 0 ↔ ¬ (a.toInt < 0 ↔ b.toInt < 0) := by
    intro a b
    have h := BitVec.msb_xor (x := a) (y := b)
    rw [BitVec.msb_eq_toInt, BitVec.msb_eq_toInt, BitVec.msb_eq_toInt] at h
    generalize (a ^^^ b).toInt = z at h ⊢
    generalize a.toInt = u at h ⊢
    generalize b.toInt = v at h ⊢
    by_cases h1 : z < 0 <;> by_cases h2 : u < 0 <;> by_cases h3 : v < 0 <;> simp [h1, h2, h3] at h ⊢
  exact key x.toBitVec y.toBitVec
theorem emod_tmod {a m : Int} (hm : 0 < m) : a % m = if a < 0 ∧ a.tmod m ≠ 0 then a.tmod m + m else a.tmod m := by
  have h1 := Int.emod_nonneg a (show m ≠ 0 by omega)
  have h2 := Int.emod_lt_of_pos a hm
  by_cases ha : 0 ≤ a
  · rw [if_neg (by omega), Int.tmod_eq_emod_of_nonneg ha]
  · have e : a.tmod m = -((-a) % m) := by
      rw [show a = -(-a) by omega, Int.neg_tmod, Int.tmod_eq_emod_of_nonneg (by omega)]
      simp
    have h3 := Int.emod_nonneg (-a) (show m ≠ 0 by omega)
    have h4 := Int.emod_lt_of_pos (-a) hm
    have e2 : (-a) % m = if a % m = 0 then 0 else m - a % m := by
      rw [Int.neg_emod]
      by_cases hd : m ∣ a
      · rw [if_pos hd, if_pos (Int.emod_eq_zero_of_dvd hd)]
      · rw [if_neg hd, if_neg (fun h => hd (Int.dvd_of_emod_eq_zero h))]
        omega
    by_cases hz : a % m = 0
    · rw [if_pos hz] at e2
      rw [if_neg (by omega)]
      omega
    · rw [if_neg hz] at e2
      rw [if_pos (by omega)]
      omega

theorem vp_pop {x : Int32} (c1 : ¬ x ≤ 0) (c2 : ¬ Int32.ofNat 400 < x) : vp_in (x - 1) 400 := by
  rw [i_in]
  rw [i_le] at c1
  rw [i_lt, i_o400] at c2
  have h0 : (0 : Int32).toInt = 0 := rfl
  have h1 : (x - 1).toInt = x.toInt - 1 := by
    rw [Int32.toInt_sub, show (1 : Int32).toInt = 1 from rfl]
    exact Int.bmod_eq_of_le_mul_two (by omega) (by omega)
  omega

