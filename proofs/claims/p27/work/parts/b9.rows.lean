/-! rows of rows: made, written; Sim.with, Sim's constructor -/
set_option maxRecDepth 100000 in
theorem aw_12 : Cond.classLink (am_own 12) 16 "[I" ∈ am_all := am_good (List.mem_of_getElem? (i := 1302) rfl) rfl
set_option maxRecDepth 100000 in
theorem aw_ov0 : Cond.arrayOver (.array .int) ∈ lw_tbl := List.mem_of_getElem? (i := 1303) rfl
theorem aw_nest : am_nestW (Cond.arrayOver (.array .int)) = true := rfl
theorem aw_ov {s : State} {args : Array Value} (hN : ∀ w ∈ lw_tbl, am_nestW w = true → va_Nw w s) : (Cond.arrayOver (.array .int)).before args s = true := hN _ aw_ov0 aw_nest
theorem am_assign (vm : Vm) (c : ClassId) : vm.assignable c c = true := by
  show vm.assignableAux (255 + 1) c c = true
  rw [Vm.assignableAux, beq_self_eq_true, Bool.true_or]
section AMA9
variable {X : am_X} {o : Nat} {cc : ByteArray} {nL : Nat} {ini : Bool} {ret : Option FieldType} {d : Nat}
variable {cells slots mc ms : Nat} {Q : State → Prop} {sh : List am_Sh} {ad : Nat → Nat} {pc : Nat} {L : am_L} {st : List Value} {I : am_I} {G : am_G} {P : am_P}
theorem am_newA (hX : am_okz X ad) (hi : am_info X 12 cc nL ini ret d) (hm : am_mem X mc ms) {N : Nat} {n : Int32} (hd : decode cc pc = .ok (.anewarray 16, 3)) (hn : ¬ n < 0) (hN : n.toNatClampNeg = N) (hsz : N ≤ 1000000) (hroom : cells + 1 ≤ mc ∧ slots + N ≤ ms)
    (hl : sh.length < 1000) (hR : lR sh.length sh P) (hL : am_kqL sh.length L) (hS : am_kqS sh.length st)
    (k : ∀ ad' : Nat → Nat, (∀ j, j < sh.length ∨ 1000 ≤ j → ad' j = ad j) → am_okz X ad' → am_V X (cells + 1) (slots + N) Q (sh ++ [.inr (3, N)]) ad' (pc + 3, L, .ref sh.length :: st, I, G, am_z P sh.length .null)) : am_V X cells slots Q sh ad (pc, L, .int n :: st, I, G, P) := by
  have hX0 := hX
  obtain ⟨p, l, e, R, s, m, args, below, meth, c, A, D, cys, o', cc', nL', ini'⟩ := X
  obtain ⟨rfl, rfl, rfl, rfl, -, hR1, hR2⟩ := hi
  obtain ⟨rfl, rfl⟩ := hm
  obtain ⟨⟨hx, hb, hml, hown, hts, hlk, hK, hN2, hA, -⟩, hZ⟩ := hX
  intro h1 h2 H locs ls hP hD hSS hlo
  subst hN
  refine W.anewA hx hb hown (hts _ aw_12) (aw_ov hN2) rfl hd rfl hn (by omega) hroom.1 hroom.2 fun cA kA comp f1 f2 f3 f4 => ?_
  have hcA : cA = cys.2.2.2.1 := Option.some.inj (f1.symm.trans (hK.2 3 _ rfl).2)
  subst hcA
  generalize hH1 : H.push ({ cls := cys.2.2.2.1, slots := Array.replicate n.toNatClampNeg .null, vm := .none } : Cell) = H1
  have z1 : H1.size = H.size + 1 := by rw [← hH1, Array.size_push]
  have e1 : H1[H.size]? = some (arrV cys.2.2.2.1 n.toNatClampNeg (fun _ => .null)) := by rw [← hH1, Array.getElem?_push_size, ← arrV_new]
  have o1 : ∀ q : Nat, q < H.size → H1[q]? = H[q]? := fun q hq => by rw [← hH1, Array.getElem?_push, if_neg (Nat.ne_of_lt hq)]
  have hk : ∀ (k : Nat) (x : Nat × va_E), (am_ws cys ad sh I G P)[k]? = some x → H1[x.1]? = H[x.1]? := fun k x hx => o1 x.1 ((hP k x hx).lt)
  have ha : ∀ j, j ≠ sh.length → (fun k => if k = sh.length then H.size else ad k) j = ad j := fun j hj => if_neg hj
  have ha2 : ∀ j, j < sh.length ∨ 1000 ≤ j → (fun k => if k = sh.length then H.size else ad k) j = ad j := fun j hj => ha j (by omega)
  obtain ⟨g1, g2⟩ := am_kq_map hL hS ha2
  have e3 : am_ws cys (fun k => if k = sh.length then H.size else ad k) (sh ++ [.inr (3, n.toNatClampNeg)]) I G (am_z P sh.length .null) = am_ws cys ad sh I G P ++ [(H.size, .inl (cys.2.2.2.1, n.toNatClampNeg, .inr (.inr (.inr (.inr (fun _ => none))))))] := by
    rw [am_ws_snoc, am_ws_eq (I' := I) (I := I) (G := G) (P := P) (ad := ad) (fun _ _ => rfl) (fun _ _ => rfl) (fun b hb => am_z_ne _ _ (by omega)) (fun b hb => ha2 b (Or.inl hb)) (fun b c k t hs hk => am_kr_tv (hR.1 b c k hs (am_at_lt2 hk)) ha2) (fun b m j hs hj => am_kr_tv (hR.2 b m j hs hj) ha2)]
    have hfun : am_rw (fun k => if k = sh.length then H.size else ad k) n.toNatClampNeg (am_z P sh.length .null sh.length) = fun _ => none := by
      funext j
      unfold am_rw
      rw [am_z_self]
      cases Nat.blt j n.toNatClampNeg <;> rfl
    simp only [am_E, hfun, if_pos]
  have hP1 : va_P D vwCl (am_ws cys ad sh I G P ++ [(H.size, .inl (cys.2.2.2.1, n.toNatClampNeg, .inr (.inr (.inr (.inr (fun _ => none))))))]) H1 := (hP.kept hk).app (fun k x hx => by
    have hz : k < 1 := (List.getElem?_eq_some_iff.mp hx).1
    rw [show k = 0 by omega] at hx
    cases hx
    show H1[H.size]? = some (vp_cell _ _)
    rw [vp_cell_q]
    exact e1)
  have hD1 : va_D A (am_ws cys ad sh I G P ++ [(H.size, .inl (cys.2.2.2.1, n.toNatClampNeg, .inr (.inr (.inr (.inr (fun _ => none))))))]) := hD.push hP rfl (hA _ hSS.1)
  have hS1 : va_S A s.heap H1 locs := ⟨Nat.le_trans hSS.1 (by omega), fun x h1 h2 => (o1 x (Nat.lt_of_lt_of_le h1 hSS.1)).trans (hSS.2.1 x h1 h2), hSS.2.2⟩
  rw [← e3] at hP1 hD1
  have kk := k (fun k => if k = sh.length then H.size else ad k) ha2 (hX0.adr (fun j hj => ha2 j (Or.inr hj))) hroom.1 hroom.2 H1 locs ls hP1 hD1 hS1 (by rw [g1]; exact hlo)
  have e6 : (Value.ref sh.length :: st).map (am_tv (fun k => if k = sh.length then H.size else ad k)) = .ref H.size :: st.map (am_tv ad) := by
    rw [List.map_cons, g2]
    simp [am_tv]
  rw [e6] at kk
  exact kk
theorem am_astA (hX : am_okz X ad) (hi : am_info X o cc nL ini ret d) {q z n k : Nat} {j : Int32} (hq : sh[q]? = some (.inr (3, n))) (hz : sh[z]? = some (.inr (0, k))) (hj : vp_in j n) (hd : decode cc pc = .ok (.aastore, 1)) (kk : am_V X cells slots Q sh ad (pc + 1, L, st, I, G, am_up P q j.toNatClampNeg (.ref z))) : am_V X cells slots Q sh ad (pc, L, .ref z :: .int j :: .ref q :: st, I, G, P) := by
  obtain ⟨p, l, e, R, s, m, args, below, meth, c, A, D, cys, o', cc', nL', ini'⟩ := X
  obtain ⟨rfl, rfl, rfl, rfl, -, hR1, hR2⟩ := hi
  obtain ⟨⟨hx, hb, hml, hown, hts, hlk, hK, hN2, hA, -⟩, hZ⟩ := hX
  intro h1 h2 H locs ls hP hD hSS hlo
  have hw1 := am_ws_at (cys := cys) (ad := ad) (I := I) (G := G) (P := P) hq
  have hw2 := am_ws_at (cys := cys) (ad := ad) (I := I) (G := G) (P := P) hz
  have hlt : j.toNatClampNeg < n := vp_lt hj
  have h0 : ¬ j < 0 := fun q => hj (Or.inl q)
  obtain ⟨comp, cA, kA, c1, c2, c3, c4, c5⟩ := arrayOverA_spec (aw_ov (args := args) hN2)
  have hcA : cA = cys.2.2.2.1 := Option.some.inj (c5.symm.trans (hK.2 3 _ rfl).2)
  have hc1 : comp = cys.1 := Option.some.inj (c1.symm.trans (hK.2 0 _ rfl).2)
  subst hcA hc1
  obtain ⟨-, kI, hkI, compI, hkindI⟩ := (hK.2 0 _ rfl).1 0 (fun _ => .null)
  have hkI : s.vm.classes[cys.1]? = some kI := hkI
  refine W.aast (t := .array .int) hx hb (hP q _ hw1) (fun q h => by cases h) (fun h => by cases h) c3 c4 rfl hkI ⟨h0, by show _ < (arrV _ _ _).slots.size; rw [arrV_size]; exact hlt⟩ (hP z _ hw2) (fun q h => by cases h) hkI (am_assign _ _) rfl rfl hd fun H1 e z2 oq => ?_
  have hset : (am_ws cys ad sh I G P).set q (ad q, .inl (cys.2.2.2.1, n, .inr (.inr (.inr (.inr (va_up (am_rw ad n (P q)) j.toNatClampNeg (some (ad z)))))))) = am_ws cys ad sh I G (am_up P q j.toNatClampNeg (.ref z)) := by
    refine am_ws_set hq (fun b hb => ⟨rfl, rfl, am_up_rowb _ _ _ hb⟩) ?_
    rw [am_up_row]
    have hfun : am_rw ad n (fun i => if i = j.toNatClampNeg then Value.ref z else P q i) = va_up (am_rw ad n (P q)) j.toNatClampNeg (some (ad z)) := by
      funext i
      by_cases hi9 : i = j.toNatClampNeg
      · subst hi9
        have hb9 : Nat.blt j.toNatClampNeg n = true := by rw [Nat.blt_eq]; exact hlt
        simp [am_rw, va_up, hb9, am_ov]
      · simp [am_rw, va_up, hi9]
    simp only [am_E, hfun]
  have hPn : va_P D vwCl ((am_ws cys ad sh I G P).set q (ad q, .inl (cys.2.2.2.1, n, .inr (.inr (.inr (.inr (va_up (am_rw ad n (P q)) j.toNatClampNeg (some (ad z)))))))) ) H1 := by
    refine hP.set hD hw1 ?_ oq
    show H1[ad q]? = some (vp_cell _ _)
    rw [e]
    show some (Cell.setSlot (vp_cell _ _) _ _) = _
    rw [vp_cell_q, vp_cell_q, arrV_store]
    congr 2
    funext i
    by_cases hi9 : i = j.toNatClampNeg
    · subst hi9
      simp [updV, va_up, va_rf]
    · simp [updV, va_up, hi9]
  have hDn := hD.set (e := (Sum.inl (cys.2.2.2.1, n, .inr (.inr (.inr (.inr (va_up (am_rw ad n (P q)) j.toNatClampNeg (some (ad z))))))) : va_E)) hw1
  rw [hset] at hPn hDn
  exact kk h1 h2 H1 _ ls hPn hDn (hSS.put z2 oq (hD.2 q _ hw1)) hlo
end AMA9
def rowP (P : am_P) (N : Nat) (w : Nat → Value) : am_P := fun b j => if b = N then w j else P b j
theorem rowP_self (P : am_P) (N : Nat) (w : Nat → Value) : rowP P N w N = w := by funext j; simp [rowP]
theorem rowP_ne (P : am_P) {N b : Nat} (w : Nat → Value) (h : b ≠ N) : rowP P N w b = P b := by funext j; simp [rowP, h]
theorem rowP_z (P : am_P) (N : Nat) : am_z P N .null = rowP P N (fun _ => .null) := by
  funext b
  by_cases h : b = N
  · subst h; rw [am_z_self, rowP_self]
  · rw [am_z_ne _ _ h, rowP_ne _ _ h]
theorem rowP_up (P : am_P) (N : Nat) (w : Nat → Value) (k : Nat) (x : Value) : am_up (rowP P N w) N k x = rowP P N (fun j => if j = k then x else w j) := by
  funext b
  by_cases h : b = N
  · subst h; rw [am_up_row, rowP_self, rowP_self]
  · rw [am_up_rowb _ _ _ h, rowP_ne _ _ h, rowP_ne _ _ h]
theorem w_fun {P : am_P} {q k y : Nat} (hy : P q k = .ref y) : (fun j => if j = k then Value.ref y else if j < k then P q j else .null) = (fun j => if j < k + 1 then P q j else .null) := by
  funext j
  by_cases e : j = k
  · subst e; rw [if_pos rfl, if_pos (by omega)]; exact hy.symm
  · rw [if_neg e]
    by_cases e2 : j < k
    · rw [if_pos e2, if_pos (by omega)]
    · rw [if_neg e2, if_neg (by omega)]
section AMW9
variable {sh : List am_Sh} {I : am_I} {G : am_G} {P : am_P} {q z n k : Nat}
/-- a row of rows with one more -/
def pWith (sh : List am_Sh) (q z n : Nat) (I : am_I) (G : am_G) (P : am_P) : am_PoA := fun r sh' I' G' P' => r = some (.ref sh.length) ∧ sh' = sh ++ [.inr (3, n + 1)] ∧ I' = I ∧ G' = G ∧ P' = rowP P sh.length (fun j => if j = n then .ref z else if j < n then P q j else .null)
set_option maxHeartbeats 1000000 in
theorem w_loop {X : am_X} {ad : Nat → Nat} {cells slots : Nat} {Q : State → Prop} (hX : am_okz X ad) (hi : am_info X 12 cX12_with 4 false (some (.array (.array .int))) 1) (hq : sh[q]? = some (.inr (3, n))) (hn : n < 1000) (hrow : ∀ j, j < n → ∃ y k, P q j = .ref y ∧ sh[y]? = some (.inr (0, k)))
    (kk : am_V X cells slots Q (sh ++ [.inr (3, n + 1)]) ad (28, [(0, .ref q), (1, .ref z), (2, .ref sh.length), (3, .int (Int32.ofNat n))], [], I, G, rowP P sh.length (fun j => if j < n then P q j else .null))) : ∀ i k, k + i = n → am_V X cells slots Q (sh ++ [.inr (3, n + 1)]) ad (10, [(0, .ref q), (1, .ref z), (2, .ref sh.length), (3, .int (Int32.ofNat k))], [], I, G, rowP P sh.length (fun j => if j < k then P q j else .null)) := by
  have lq := am_at_lt hq
  intro i
  induction i with
  | zero =>
    intro k hk
    obtain rfl : k = n := by omega
    refine am_blk 10 [(.iload_n 3, 1, 3, 0, .null), (.aload_n 0, 1, 0, 0, .null)] (12, [(0, .ref q), (1, .ref z), (2, .ref sh.length), (3, .int (Int32.ofNat k))], [.ref q, .int (Int32.ofNat k)], I, G, (rowP P sh.length (fun j => if j < k then P q j else .null))) True hX hi (by decide +kernel) rfl trivial ?_
    refine am_lenS hX hi (am_at_app hq) (by decide +kernel) ?_
    refine am_icmp_ge hX hi (off := 15) (tgt := 28) (by decide +kernel) (by decide) (fun _ => ?_) (fun c => absurd (by rw [i_le]; omega) c)
    exact kk
  | succ i ih =>
    intro k hk
    refine am_blk 10 [(.iload_n 3, 1, 3, 0, .null), (.aload_n 0, 1, 0, 0, .null)] (12, [(0, .ref q), (1, .ref z), (2, .ref sh.length), (3, .int (Int32.ofNat k))], [.ref q, .int (Int32.ofNat k)], I, G, (rowP P sh.length (fun j => if j < k then P q j else .null))) True hX hi (by decide +kernel) rfl trivial ?_
    refine am_lenS hX hi (am_at_app hq) (by decide +kernel) ?_
    refine am_icmp_ge hX hi (off := 15) (tgt := 28) (by decide +kernel) (by decide) (fun c => absurd c (by rw [i_le, i_of _ (by omega), i_of _ (by omega)]; omega)) (fun _ => ?_)
    obtain ⟨y, ky, hy1, hy2⟩ := hrow k (by omega)
    have ek : (Int32.ofNat k).toNatClampNeg = k := by rw [i_cl, i_of _ (by omega)]; omega
    refine am_blk 16 [(.aload_n 2, 1, 2, 0, .null), (.iload_n 3, 1, 3, 0, .null), (.aload_n 0, 1, 0, 0, .null), (.iload_n 3, 1, 3, 0, .null)] (20, [(0, .ref q), (1, .ref z), (2, .ref sh.length), (3, .int (Int32.ofNat k))], [.int (Int32.ofNat k), .ref q, .int (Int32.ofNat k), .ref sh.length], I, G, (rowP P sh.length (fun j => if j < k then P q j else .null))) True hX hi (by decide +kernel) rfl trivial ?_
    refine am_aaS hX hi (z := y) (am_at_app hq) ((i_in _ _).mpr ⟨by rw [i_of _ (by omega)]; omega, by rw [i_of _ (by omega)]; omega⟩) (by rw [ek, rowP_ne _ _ (by omega)]; exact hy1) (by decide +kernel) ?_
    refine am_astA hX hi am_at_end (am_at_app hy2) ((i_in _ _).mpr ⟨by rw [i_of _ (by omega)]; omega, by rw [i_of _ (by omega)]; omega⟩) (by decide +kernel) ?_
    rw [ek, rowP_up]
    rw [show (fun j => if j = k then Value.ref y else if j < k then P q j else .null) = (fun j => if j < k + 1 then P q j else .null) from w_fun hy1]
    refine am_blk 22 [(.iinc 3 (1), 3, 3, 0, .int (1 : Int32)), (.goto (-15), 3, 0, 10, .null)] (10, [(0, .ref q), (1, .ref z), (2, .ref sh.length), (3, .int (Int32.ofNat k + (1 : Int32)))], [], I, G, (rowP P sh.length (fun j => if j < k + 1 then P q j else .null))) True hX hi (by decide +kernel) rfl trivial ?_
    rw [show Int32.ofNat k + (1 : Int32) = Int32.ofNat (k + 1) from nI_1 k]
    exact ih (k + 1) (by omega)
set_option maxHeartbeats 1000000 in
theorem k_with (hq : sh[q]? = some (.inr (3, n))) (hz : sh[z]? = some (.inr (0, k))) (hn : n < 1000) (hrow : ∀ j, j < n → ∃ y k, P q j = .ref y ∧ sh[y]? = some (.inr (0, k))) (hl : sh.length < 1000) (hR : lR sh.length sh P) : am_CtA mX12_with 1 1 (n + 1) sh.length sh [.ref q, .ref z] I G P (pWith sh q z n I G P) := by
  have lq := am_at_lt hq
  have lz := am_at_lt hz
  refine am_ofA (by decide +kernel) rfl (by decide) (by decide) (Nat.le_of_ble_eq_true rfl) (fun X ad hX hi hm => ?_)
  have hi : am_info X 12 cX12_with 4 false (some (FieldType.array (FieldType.array FieldType.int))) 1 := hi
  have hm : am_mem X 1 (n + 1) := hm
  show am_V X _ _ _ sh ad (0, [(0, .ref q), (1, .ref z)], [], I, G, P)
  refine am_blk 0 [(.aload_n 0, 1, 0, 0, .null)] (1, [(0, .ref q), (1, .ref z)], [.ref q], I, G, P) True hX hi (by decide +kernel) rfl trivial ?_
  refine am_lenS hX hi hq (by decide +kernel) ?_
  refine am_blk 2 [(.iconst (1), 1, 0, 0, .int (1 : Int32)), (.iadd, 1, 0, 0, .null)] (4, [(0, .ref q), (1, .ref z)], [.int ((Int32.ofNat n) + (1 : Int32))], I, G, P) True hX hi (by decide +kernel) rfl trivial ?_
  rw [show Int32.ofNat n + (1 : Int32) = Int32.ofNat (n + 1) from nI_1 n]
  show am_V X _ _ _ sh ad (4, [(0, .ref q), (1, .ref z)], [.int (Int32.ofNat (n + 1))], I, G, P)
  refine am_newA hX hi hm (N := n + 1) (by decide +kernel) (by rw [i_lt, i_0, i_of _ (by omega)]; omega) (by rw [i_cl, i_of _ (by omega)]; omega) (by omega) ⟨by omega, by omega⟩ hl hR (am_kqL_r (Or.inl lq) (am_kqL_r (Or.inl lz) am_kqL_n)) am_kqS_n (fun ad1 ha1 hX1 => ?_)
  rw [rowP_z]
  show am_V X _ _ _ (sh ++ [.inr (3, n + 1)]) ad1 (7, [(0, .ref q), (1, .ref z)], [.ref sh.length], I, G, (rowP P sh.length (fun _ => .null)))
  refine am_blk 7 [(.astore_n 2, 1, 2, 0, .null), (.iconst (0), 1, 0, 0, .int (0 : Int32)), (.istore_n 3, 1, 3, 0, .null)] (10, [(0, .ref q), (1, .ref z), (2, .ref sh.length), (3, .int (0 : Int32))], [], I, G, (rowP P sh.length (fun _ => .null))) True hX1 hi (by decide +kernel) rfl trivial ?_
  rw [show (fun _ => Value.null) = (fun j => if j < 0 then P q j else .null) from funext fun j => (if_neg (Nat.not_lt_zero j)).symm]
  refine w_loop hX1 hi hq hn hrow ?_ n 0 (by omega)
  refine am_blk 28 [(.aload_n 2, 1, 2, 0, .null), (.aload_n 0, 1, 0, 0, .null)] (30, [(0, .ref q), (1, .ref z), (2, .ref sh.length), (3, .int (Int32.ofNat n))], [.ref q, .ref sh.length], I, G, (rowP P sh.length (fun j => if j < n then P q j else .null))) True hX1 hi (by decide +kernel) rfl trivial ?_
  refine am_lenS hX1 hi (am_at_app hq) (by decide +kernel) ?_
  refine am_blk 31 [(.aload_n 1, 1, 1, 0, .null)] (32, [(0, .ref q), (1, .ref z), (2, .ref sh.length), (3, .int (Int32.ofNat n))], [.ref z, .int (Int32.ofNat n), .ref sh.length], I, G, (rowP P sh.length (fun j => if j < n then P q j else .null))) True hX1 hi (by decide +kernel) rfl trivial ?_
  refine am_astA hX1 hi am_at_end (am_at_app hz) ((i_in _ _).mpr ⟨by rw [i_of _ (by omega)]; omega, by rw [i_of _ (by omega)]; omega⟩) (by decide +kernel) ?_
  rw [show (Int32.ofNat n).toNatClampNeg = n from by rw [i_cl, i_of _ (by omega)]; omega, rowP_up]
  show am_V X _ _ _ (sh ++ [.inr (3, n + 1)]) ad1 (33, [(0, .ref q), (1, .ref z), (2, .ref sh.length), (3, .int (Int32.ofNat n))], [], I, G, (rowP P sh.length (fun j => if j = n then .ref z else if j < n then P q j else .null)))
  refine am_blk 33 [(.aload_n 2, 1, 2, 0, .null)] (34, [(0, .ref q), (1, .ref z), (2, .ref sh.length), (3, .int (Int32.ofNat n))], [.ref sh.length], I, G, (rowP P sh.length (fun j => if j = n then .ref z else if j < n then P q j else .null))) True hX1 hi (by decide +kernel) rfl trivial ?_
  exact am_aretR hX1 hi rfl (by decide +kernel) ha1 ⟨rfl, rfl, rfl, rfl, rfl⟩ ⟨by omega, by omega⟩
set_option maxRecDepth 100000 in
theorem oi_SIM : Cond.methodLink (am_own 12) 1 Lib.objectInit ∈ lw_tbl := List.mem_of_getElem? (i := 1301) rfl
/-- what Sim's constructor leaves: four rows of nothing -/
def pSim (sh : List am_Sh) (s : Nat) (I : am_I) (G : am_G) (P : am_P) : am_PoA := fun r sh' I' G' P' => r = none ∧ sh' = sh ++ [.inr (3, 0), .inr (3, 0), .inr (0, 0), .inr (3, 0)] ∧ G' = G ∧ (∀ k, k < sh.length → k ≠ s → I' k = I k) ∧ (∀ k, k < sh.length → k ≠ s → P' k = P k) ∧ (∀ j, I' s j = if j = 0 then 16 else if j = 1 then 12 else I s j) ∧ (∀ j, P' s j = if j = 2 then .ref sh.length else if j = 3 then .ref (sh.length + 1) else if j = 4 then .ref (sh.length + 2) else if j = 5 then .ref (sh.length + 3) else P s j)
theorem len_a {x : am_Sh} : (sh ++ [x]).length = sh.length + 1 := by rw [List.length_append]; rfl
theorem lR.rowz {n : Nat} (h : lR sh.length sh P) : lR (sh.length + 1) (sh ++ [.inr (3, n)]) (am_z P sh.length .null) := by
  refine ⟨fun b c j h1 h2 => ?_, fun b k j h1 h2 => ?_⟩
  · rcases am_snoc_at h1 with h3 | ⟨-, h3⟩
    · rw [am_z_ne _ _ (by have := am_at_lt h3; omega)]; exact (h.1 b c j h3 h2).le (by omega)
    · cases h3
  · rcases am_snoc_at h1 with h3 | ⟨e, h3⟩
    · rw [am_z_ne _ _ (by have := am_at_lt h3; omega)]; exact (h.2 b k j h3 h2).le (by omega)
    · subst e; rw [am_z_self]; trivial
theorem lR.upo {c b j k : Nat} {N : Nat} (h : lR N sh P) (hk : k < N) : lR N sh (am_up P b j (.ref k)) := by
  have key : ∀ b' j', am_kr N (P b' j') → am_kr N (am_up P b j (.ref k) b' j') := fun b' j' h9 => by
    unfold am_up
    cases (Nat.beq b' b && Nat.beq j' j) with
    | true => exact Or.inl hk
    | false => exact h9
  exact ⟨fun b' c' j' h1 h2 => key _ _ (h.1 b' c' j' h1 h2), fun b' k' j' h1 h2 => key _ _ (h.2 b' k' j' h1 h2)⟩
set_option maxHeartbeats 1000000 in
theorem k_sim {s : Nat} (hs : sh[s]? = some (.inl 12)) (hl : sh.length + 5 < 1000) (hR : lR sh.length sh P) : am_CtA mX12_init 1 4 0 sh.length sh [.ref s] I G P (pSim sh s I G P) := by
  have ls := am_at_lt hs
  refine am_ofA (by decide +kernel) rfl (fun _ => rfl) (by decide) (Nat.le_of_ble_eq_true rfl) (fun X ad hX hi hm => ?_)
  have hi : am_info X 12 cX12_init 1 true none 1 := hi
  have hm : am_mem X 4 0 := hm
  show am_V X _ _ _ sh ad (0, [(0, .ref s)], [], I, G, P)
  refine am_blk 0 [(.aload_n 0, 1, 0, 0, .null)] (1, [(0, .ref s)], [.ref s], I, G, P) True hX hi (by decide +kernel) rfl trivial ?_
  refine am_obj hX hi (idx := 1) oi_SIM (by decide +kernel) (Nat.le_of_ble_eq_true rfl) ?_
  show am_V X _ _ _ sh ad (4, [(0, .ref s)], [], I, G, P)
  refine am_blk 4 [(.aload_n 0, 1, 0, 0, .null), (.bipush (16), 2, 0, 0, .int (16 : Int32))] (7, [(0, .ref s)], [.int (16 : Int32), .ref s], I, G, P) True hX hi (by decide +kernel) rfl trivial ?_
  refine am_pfI hX hi (c := 12) (b := 0) (idx := 7) hs rfl (by decide +kernel) rfl (by decide +kernel) ?_
  show am_V X _ _ _ sh ad (10, [(0, .ref s)], [], (am_up I s 0 16), G, P)
  refine am_blk 10 [(.aload_n 0, 1, 0, 0, .null), (.bipush (12), 2, 0, 0, .int (12 : Int32))] (13, [(0, .ref s)], [.int (12 : Int32), .ref s], (am_up I s 0 16), G, P) True hX hi (by decide +kernel) rfl trivial ?_
  refine am_pfI hX hi (c := 12) (b := 1) (idx := 13) hs rfl (by decide +kernel) rfl (by decide +kernel) ?_
  show am_V X _ _ _ sh ad (16, [(0, .ref s)], [], (am_up (am_up I s 0 16) s 1 12), G, P)
  refine am_blk 16 [(.aload_n 0, 1, 0, 0, .null), (.iconst (0), 1, 0, 0, .int (0 : Int32))] (18, [(0, .ref s)], [.int (0 : Int32), .ref s], (am_up (am_up I s 0 16) s 1 12), G, P) True hX hi (by decide +kernel) rfl trivial ?_
  refine am_newA hX hi hm (N := 0) (by decide +kernel) (by decide) rfl (by omega) ⟨by omega, by omega⟩ (by omega) hR (am_kqL_r (Or.inl (by omega)) am_kqL_n) (am_kqS_r (Or.inl (by omega)) am_kqS_n) (fun ad1 ha1 hX1 => ?_)
  have hR1a := hR.rowz (n := 0)
  show am_V X _ _ _ (sh ++ [(.inr (3, 0) : am_Sh)]) ad1 (21, [(0, .ref s)], [.ref sh.length, .ref s], (am_up (am_up I s 0 16) s 1 12), G, (am_z P sh.length .null))
  refine am_pfP hX1 hi (c := 12) (b := 2) (idx := 18) (am_at_app hs) rfl (by decide +kernel) rfl (by decide +kernel) ?_
  show am_V X _ _ _ (sh ++ [(.inr (3, 0) : am_Sh)]) ad1 (24, [(0, .ref s)], [], (am_up (am_up I s 0 16) s 1 12), G, (am_up (am_z P sh.length .null) s 2 (.ref sh.length)))
  have hR1 := hR1a.upo (c := 0) (b := s) (j := 2) (k := sh.length) (Nat.lt_succ_self _)
  rw [show sh.length + 1 = (sh ++ [(.inr (3, 0) : am_Sh)]).length from len_a.symm] at hR1
  refine am_blk 24 [(.aload_n 0, 1, 0, 0, .null), (.iconst (0), 1, 0, 0, .int (0 : Int32))] (26, [(0, .ref s)], [.int (0 : Int32), .ref s], (am_up (am_up I s 0 16) s 1 12), G, (am_up (am_z P sh.length .null) s 2 (.ref sh.length))) True hX1 hi (by decide +kernel) rfl trivial ?_
  have e1 : (sh ++ [(.inr (3, 0) : am_Sh)]).length = sh.length + 1 := by simp only [List.length_append, List.length_cons, List.length_nil]
  refine am_newA hX1 hi hm (N := 0) (by decide +kernel) (by decide) rfl (by omega) ⟨by omega, by omega⟩ (by rw [e1]; omega) hR1 (am_kqL_r (Or.inl (by rw [e1]; omega)) am_kqL_n) (am_kqS_r (Or.inl (by rw [e1]; omega)) am_kqS_n) (fun ad2 ha2 hX2 => ?_)
  have hR2a := hR1.rowz (n := 0)
  show am_V X _ _ _ ((sh ++ [(.inr (3, 0) : am_Sh)]) ++ [(.inr (3, 0) : am_Sh)]) ad2 (29, [(0, .ref s)], [.ref (sh ++ [(.inr (3, 0) : am_Sh)]).length, .ref s], (am_up (am_up I s 0 16) s 1 12), G, (am_z (am_up (am_z P sh.length .null) s 2 (.ref sh.length)) (sh ++ [(.inr (3, 0) : am_Sh)]).length .null))
  refine am_pfP hX2 hi (c := 12) (b := 3) (idx := 22) (am_at_app (am_at_app hs)) rfl (by decide +kernel) rfl (by decide +kernel) ?_
  show am_V X _ _ _ ((sh ++ [(.inr (3, 0) : am_Sh)]) ++ [(.inr (3, 0) : am_Sh)]) ad2 (32, [(0, .ref s)], [], (am_up (am_up I s 0 16) s 1 12), G, (am_up (am_z (am_up (am_z P sh.length .null) s 2 (.ref sh.length)) (sh ++ [(.inr (3, 0) : am_Sh)]).length .null) s 3 (.ref (sh ++ [(.inr (3, 0) : am_Sh)]).length)))
  have hR2 := hR2a.upo (c := 0) (b := s) (j := 3) (k := (sh ++ [(.inr (3, 0) : am_Sh)]).length) (Nat.lt_succ_self _)
  rw [show (sh ++ [(.inr (3, 0) : am_Sh)]).length + 1 = ((sh ++ [(.inr (3, 0) : am_Sh)]) ++ [(.inr (3, 0) : am_Sh)]).length from len_a.symm] at hR2
  refine am_blk 32 [(.aload_n 0, 1, 0, 0, .null), (.iconst (0), 1, 0, 0, .int (0 : Int32))] (34, [(0, .ref s)], [.int (0 : Int32), .ref s], (am_up (am_up I s 0 16) s 1 12), G, (am_up (am_z (am_up (am_z P sh.length .null) s 2 (.ref sh.length)) (sh ++ [(.inr (3, 0) : am_Sh)]).length .null) s 3 (.ref (sh ++ [(.inr (3, 0) : am_Sh)]).length))) True hX2 hi (by decide +kernel) rfl trivial ?_
  have e2 : ((sh ++ [(.inr (3, 0) : am_Sh)]) ++ [(.inr (3, 0) : am_Sh)]).length = sh.length + 2 := by simp only [List.length_append, List.length_cons, List.length_nil]
  refine am_newS hX2 hi hm (N := 0) (by decide +kernel) (by decide +kernel) (by decide) rfl (by omega) ⟨by omega, by omega⟩ (by rw [e2]; omega) hR2 (am_kqL_r (Or.inl (by rw [e2]; omega)) am_kqL_n) (am_kqS_r (Or.inl (by rw [e2]; omega)) am_kqS_n) (fun ad3 ha3 hX3 => ?_)
  have hR3a := (hR2.le (Nat.le_add_right _ 1)).row (t := 0) (m := 0) (by decide)
  show am_V X _ _ _ (((sh ++ [(.inr (3, 0) : am_Sh)]) ++ [(.inr (3, 0) : am_Sh)]) ++ [(.inr (0, 0) : am_Sh)]) ad3 (36, [(0, .ref s)], [.ref ((sh ++ [(.inr (3, 0) : am_Sh)]) ++ [(.inr (3, 0) : am_Sh)]).length, .ref s], (am_row (am_up (am_up I s 0 16) s 1 12) ((sh ++ [(.inr (3, 0) : am_Sh)]) ++ [(.inr (3, 0) : am_Sh)]).length (fun _ => 0)), G, (am_up (am_z (am_up (am_z P sh.length .null) s 2 (.ref sh.length)) (sh ++ [(.inr (3, 0) : am_Sh)]).length .null) s 3 (.ref (sh ++ [(.inr (3, 0) : am_Sh)]).length)))
  refine am_pfP hX3 hi (c := 12) (b := 4) (idx := 25) (am_at_app (am_at_app (am_at_app hs))) rfl (by decide +kernel) rfl (by decide +kernel) ?_
  show am_V X _ _ _ (((sh ++ [(.inr (3, 0) : am_Sh)]) ++ [(.inr (3, 0) : am_Sh)]) ++ [(.inr (0, 0) : am_Sh)]) ad3 (39, [(0, .ref s)], [], (am_row (am_up (am_up I s 0 16) s 1 12) ((sh ++ [(.inr (3, 0) : am_Sh)]) ++ [(.inr (3, 0) : am_Sh)]).length (fun _ => 0)), G, (am_up (am_up (am_z (am_up (am_z P sh.length .null) s 2 (.ref sh.length)) (sh ++ [(.inr (3, 0) : am_Sh)]).length .null) s 3 (.ref (sh ++ [(.inr (3, 0) : am_Sh)]).length)) s 4 (.ref ((sh ++ [(.inr (3, 0) : am_Sh)]) ++ [(.inr (3, 0) : am_Sh)]).length)))
  have hR3 := hR3a.upo (c := 0) (b := s) (j := 4) (k := ((sh ++ [(.inr (3, 0) : am_Sh)]) ++ [(.inr (3, 0) : am_Sh)]).length) (Nat.lt_succ_self _)
  rw [show ((sh ++ [(.inr (3, 0) : am_Sh)]) ++ [(.inr (3, 0) : am_Sh)]).length + 1 = (((sh ++ [(.inr (3, 0) : am_Sh)]) ++ [(.inr (3, 0) : am_Sh)]) ++ [(.inr (0, 0) : am_Sh)]).length from len_a.symm] at hR3
  refine am_blk 39 [(.aload_n 0, 1, 0, 0, .null), (.iconst (0), 1, 0, 0, .int (0 : Int32))] (41, [(0, .ref s)], [.int (0 : Int32), .ref s], (am_row (am_up (am_up I s 0 16) s 1 12) ((sh ++ [(.inr (3, 0) : am_Sh)]) ++ [(.inr (3, 0) : am_Sh)]).length (fun _ => 0)), G, (am_up (am_up (am_z (am_up (am_z P sh.length .null) s 2 (.ref sh.length)) (sh ++ [(.inr (3, 0) : am_Sh)]).length .null) s 3 (.ref (sh ++ [(.inr (3, 0) : am_Sh)]).length)) s 4 (.ref ((sh ++ [(.inr (3, 0) : am_Sh)]) ++ [(.inr (3, 0) : am_Sh)]).length))) True hX3 hi (by decide +kernel) rfl trivial ?_
  have e3 : (((sh ++ [(.inr (3, 0) : am_Sh)]) ++ [(.inr (3, 0) : am_Sh)]) ++ [(.inr (0, 0) : am_Sh)]).length = sh.length + 3 := by simp only [List.length_append, List.length_cons, List.length_nil]
  refine am_newA hX3 hi hm (N := 0) (by decide +kernel) (by decide) rfl (by omega) ⟨by omega, by omega⟩ (by rw [e3]; omega) hR3 (am_kqL_r (Or.inl (by rw [e3]; omega)) am_kqL_n) (am_kqS_r (Or.inl (by rw [e3]; omega)) am_kqS_n) (fun ad4 ha4 hX4 => ?_)
  have hR4a := hR3.rowz (n := 0)
  show am_V X _ _ _ ((((sh ++ [(.inr (3, 0) : am_Sh)]) ++ [(.inr (3, 0) : am_Sh)]) ++ [(.inr (0, 0) : am_Sh)]) ++ [(.inr (3, 0) : am_Sh)]) ad4 (44, [(0, .ref s)], [.ref (((sh ++ [(.inr (3, 0) : am_Sh)]) ++ [(.inr (3, 0) : am_Sh)]) ++ [(.inr (0, 0) : am_Sh)]).length, .ref s], (am_row (am_up (am_up I s 0 16) s 1 12) ((sh ++ [(.inr (3, 0) : am_Sh)]) ++ [(.inr (3, 0) : am_Sh)]).length (fun _ => 0)), G, (am_z (am_up (am_up (am_z (am_up (am_z P sh.length .null) s 2 (.ref sh.length)) (sh ++ [(.inr (3, 0) : am_Sh)]).length .null) s 3 (.ref (sh ++ [(.inr (3, 0) : am_Sh)]).length)) s 4 (.ref ((sh ++ [(.inr (3, 0) : am_Sh)]) ++ [(.inr (3, 0) : am_Sh)]).length)) (((sh ++ [(.inr (3, 0) : am_Sh)]) ++ [(.inr (3, 0) : am_Sh)]) ++ [(.inr (0, 0) : am_Sh)]).length .null))
  refine am_pfP hX4 hi (c := 12) (b := 5) (idx := 28) (am_at_app (am_at_app (am_at_app (am_at_app hs)))) rfl (by decide +kernel) rfl (by decide +kernel) ?_
  show am_V X _ _ _ ((((sh ++ [(.inr (3, 0) : am_Sh)]) ++ [(.inr (3, 0) : am_Sh)]) ++ [(.inr (0, 0) : am_Sh)]) ++ [(.inr (3, 0) : am_Sh)]) ad4 (47, [(0, .ref s)], [], (am_row (am_up (am_up I s 0 16) s 1 12) ((sh ++ [(.inr (3, 0) : am_Sh)]) ++ [(.inr (3, 0) : am_Sh)]).length (fun _ => 0)), G, (am_up (am_z (am_up (am_up (am_z (am_up (am_z P sh.length .null) s 2 (.ref sh.length)) (sh ++ [(.inr (3, 0) : am_Sh)]).length .null) s 3 (.ref (sh ++ [(.inr (3, 0) : am_Sh)]).length)) s 4 (.ref ((sh ++ [(.inr (3, 0) : am_Sh)]) ++ [(.inr (3, 0) : am_Sh)]).length)) (((sh ++ [(.inr (3, 0) : am_Sh)]) ++ [(.inr (3, 0) : am_Sh)]) ++ [(.inr (0, 0) : am_Sh)]).length .null) s 5 (.ref (((sh ++ [(.inr (3, 0) : am_Sh)]) ++ [(.inr (3, 0) : am_Sh)]) ++ [(.inr (0, 0) : am_Sh)]).length)))
  have hR4 := hR4a.upo (c := 0) (b := s) (j := 5) (k := (((sh ++ [(.inr (3, 0) : am_Sh)]) ++ [(.inr (3, 0) : am_Sh)]) ++ [(.inr (0, 0) : am_Sh)]).length) (Nat.lt_succ_self _)
  rw [show (((sh ++ [(.inr (3, 0) : am_Sh)]) ++ [(.inr (3, 0) : am_Sh)]) ++ [(.inr (0, 0) : am_Sh)]).length + 1 = ((((sh ++ [(.inr (3, 0) : am_Sh)]) ++ [(.inr (3, 0) : am_Sh)]) ++ [(.inr (0, 0) : am_Sh)]) ++ [(.inr (3, 0) : am_Sh)]).length from len_a.symm] at hR4
  simp only [e1, e2, e3]
  refine am_vretA hX4 hi rfl (by decide +kernel) (fun j hj => (ha4 j (by rw [e3]; omega)).trans ((ha3 j (by rw [e2]; omega)).trans ((ha2 j (by rw [e1]; omega)).trans (ha1 j hj)))) ⟨rfl, by simp only [List.append_assoc]; rfl, rfl, fun k hk hks => ?_, fun k hk hks => ?_, fun j => ?_, fun j => ?_⟩ ⟨by omega, by omega⟩
  · rw [am_row_ne _ _ (by omega), am_up_rowb _ _ _ hks, am_up_rowb _ _ _ hks]
  · rw [am_up_rowb _ _ _ hks, am_z_ne _ _ (by omega), am_up_rowb _ _ _ hks, am_up_rowb _ _ _ hks, am_z_ne _ _ (by omega), am_up_rowb _ _ _ hks, am_z_ne _ _ (by omega)]
  · rw [am_row_ne _ _ (by omega), am_up_row, am_up_row]
    show (if j = 1 then (12 : Int32) else if j = 0 then 16 else I s j) = _
    by_cases c1 : j = 1
    · subst c1; rfl
    · by_cases c0 : j = 0
      · subst c0; rfl
      · rw [if_neg c1, if_neg c0, if_neg c0, if_neg c1]
  · have z : s ≠ sh.length ∧ s ≠ sh.length + 1 ∧ s ≠ sh.length + 3 := ⟨by omega, by omega, by omega⟩
    simp only [am_up_row, am_z_ne _ _ z.1, am_z_ne _ _ z.2.1, am_z_ne _ _ z.2.2]
    by_cases c5 : j = 5
    · subst c5; simp
    · by_cases c4 : j = 4
      · subst c4; simp
      · by_cases c3 : j = 3
        · subst c3; simp
        · simp [c5, c4, c3]
end AMW9
