/-! the law from its entry to its loop -/
def gq (a : Nat) : Nat := bif Nat.beq a 999 then 86 else a
def iI0 : am_I := fun _ _ => 0
def iG0 : am_G := fun _ _ => 0
theorem gq_ne {a : Nat} (h : a ≠ 999) : gq a = a := by
  unfold gq
  have h9 : Nat.beq a 999 = false := by rw [am_beq]; exact beq_eq_false_iff_ne.mpr h
  rw [h9]; rfl
/-- the cells as the constructors leave them -/
def k_init (Inv : am_I → am_G → Prop) : Prop := ∃ (I9 : am_I) (G9 : am_G) (I8 : am_I) (G8 : am_G), L_X9_init_1 FU 0 (zI_X9a (am_z iI0 1 0)) (zG_X9a (am_z iG0 1 0)) 0 0 0 = some ((), I9, G9) ∧ R_X13_begin_102k (zI_X14a (am_z (zI_X11_init_0 I9) 79 0)) (zG_X14a (am_z (zG_X11_init_0 G9) 79 0)) = some ((), I8, G8) ∧ Inv (fun a => am_z (zI_X14_init_79 I8) 122 0 (gq a)) (fun a => am_z (zG_X14_init_79 G8) 122 0 (gq a))
theorem am_z0 {α : Type} (z : α) (a : Nat) : am_z (fun _ _ => z) a z = fun _ _ => z := by
  funext b j
  unfold am_z
  cases Nat.beq b a <;> rfl
set_option maxRecDepth 20000 in
set_option maxHeartbeats 4000000 in
theorem law_walk {X : am_X} {ad : Nat → Nat} {hh : am_HH} {N : Nat} {xs : Nat → Int32} {Q : State → Prop} {Inv : am_I → am_G → Prop} (hX0 : am_okz X ad) (hi : am_info X 15 code 9 false ret 60) (hm : am_mem X 601024 7293034) (hh9 : am_xh X hh) (hs : am_scr X ad N xs) (hN : N ≤ 3072) (hK : k_all Inv) (h0 : k_init Inv)
    (hend : ∀ (ad : Nat → Nat) (i : Int32) (I : am_I) (G : am_G), am_okz X ad → am_V X 400000 3000000 Q gS ad (1488, lw_L i, [.int (1 : Int32)], I, G, gP 999)) : am_V X 0 0 Q [] ad (0, [(0, .ref 5000)], [], iI0, iG0, zP_0) := by
  obtain ⟨I9, G9, I8, G8, hc9, hc, hI⟩ := h0
  refine am_new hX0 hi hm (ci := 9) (idx := 8) rfl (by decide +kernel) (by decide +kernel) (by decide +kernel) (by decide +kernel) ⟨Nat.le_of_ble_eq_true rfl, Nat.le_of_ble_eq_true rfl⟩ (by decide +kernel) (by decide +kernel) (fun ad1 e1 => ?_)
  have e1 : ∀ j, j ≠ 0 → ad1 j = ad j := e1
  have hX1 := hX0.adr (fun j hj => e1 j (by omega))
  have hs1 := hs.adr (e1 5000 (by omega))
  show am_V X 1 7 _ (gS.take 1) ad1 (3, [(0, .ref 5000)], [.ref 0], am_z (fun _ _ => (0 : Int32)) 0 0, am_z (fun _ _ => (0 : Int64)) 0 0, am_z (fun _ _ => Value.null) 0 .null)
  rw [am_z0, am_z0, am_z0]
  show am_V X 1 7 _ (gS.take 1) ad1 (3, [(0, .ref 5000)], [.ref 0], iI0, iG0, zP_0)
  refine am_blk 3 [(.dup, 1, 0, 0, .null)] (4, [(0, .ref 5000)], [.ref 0, .ref 0], iI0, iG0, zP_0) (True) hX1 hi (by decide +kernel) rfl trivial ?_
  refine am_callI hX1 hi hm (M := mX11_init) (idx := 67) (d' := 6) (mc := 78) (ms := 30513) (keep := 1) (As := []) (rest := [.ref 0]) mkX11_init miX11_init rfl rfl (by decide +kernel) (by decide +kernel) rfl ⟨by decide, by decide, Nat.le_of_ble_eq_true rfl⟩ rfl ⟨Nat.le_of_ble_eq_true rfl, Nat.le_of_ble_eq_true rfl⟩ (by decide +kernel) (c_X11_init_0 iI0 iG0 hc9) ?_
  rintro r7 sh7 ad2 I7 G7 P7 ⟨q0, q1, q2, q3, q4⟩ e2
  rw [q0, q1, q2, q3, q4]
  have hX2 := hX1.adr (fun j hj => e2 j (Or.inr hj))
  have hs2 := hs1.adr (e2 5000 (Or.inr (by omega)))
  show am_V X 79 30520 _ (gS.take 79) ad2 (7, [(0, .ref 5000)], [.ref 0], (zI_X11_init_0 I9), (zG_X11_init_0 G9), zP_33)
  refine am_blk 7 [(.astore_n 1, 1, 1, 0, .null)] (8, [(0, .ref 5000), (1, .ref 0)], [], (zI_X11_init_0 I9), (zG_X11_init_0 G9), zP_33) (True) hX2 hi (by decide +kernel) rfl trivial ?_
  refine am_new hX2 hi hm (ci := 12) (idx := 68) rfl (by decide +kernel) (by decide +kernel) (by decide +kernel) (by decide +kernel) ⟨Nat.le_of_ble_eq_true rfl, Nat.le_of_ble_eq_true rfl⟩ (by decide +kernel) (by decide +kernel) (fun ad3 e3 => ?_)
  have e3 : ∀ j, j ≠ 79 → ad3 j = ad2 j := e3
  have hX3 := hX2.adr (fun j hj => e3 j (by omega))
  have hs3 := hs2.adr (e3 5000 (by omega))
  show am_V X 80 30535 _ (gS.take 80) ad3 (11, [(0, .ref 5000), (1, .ref 0)], [.ref 79], am_z (zI_X11_init_0 I9) 79 0, am_z (zG_X11_init_0 G9) 79 0, zP_34)
  refine am_blk 11 [(.dup, 1, 0, 0, .null)] (12, [(0, .ref 5000), (1, .ref 0)], [.ref 79, .ref 79], am_z (zI_X11_init_0 I9) 79 0, am_z (zG_X11_init_0 G9) 79 0, zP_34) (True) hX3 hi (by decide +kernel) rfl trivial ?_
  refine am_callI hX3 hi hm (M := mX14_init) (idx := 70) (d' := 2) (mc := 42) (ms := 15435) (keep := 80) (As := []) (rest := [.ref 79]) mkX14_init miX14_init rfl rfl (by decide +kernel) (by decide +kernel) rfl ⟨by decide, by decide, Nat.le_of_ble_eq_true rfl⟩ rfl ⟨Nat.le_of_ble_eq_true rfl, Nat.le_of_ble_eq_true rfl⟩ (by decide +kernel) (c_X14_init_79 (am_z (zI_X11_init_0 I9) 79 0) (am_z (zG_X11_init_0 G9) 79 0) hc) ?_
  rintro r7 sh7 ad4 I7 G7 P7 ⟨q0, q1, q2, q3, q4⟩ e4
  rw [q0, q1, q2, q3, q4]
  have hX4 := hX3.adr (fun j hj => e4 j (Or.inr hj))
  have hs4 := hs3.adr (e4 5000 (Or.inr (by omega)))
  show am_V X 122 45970 _ (gS.take 122) ad4 (15, [(0, .ref 5000), (1, .ref 0)], [.ref 79], (zI_X14_init_79 I8), (zG_X14_init_79 G8), zP_42)
  refine am_blk 15 [(.astore_n 2, 1, 2, 0, .null), (.iconst (1), 1, 0, 0, .int (1 : Int32))] (17, [(0, .ref 5000), (1, .ref 0), (2, .ref 79)], [.int (1 : Int32)], (zI_X14_init_79 I8), (zG_X14_init_79 G8), zP_42) (True) hX4 hi (by decide +kernel) rfl trivial ?_
  refine am_newa hX4 hi hm (t := 2) (N := 1) (n := (1 : Int32)) (at' := .long) (by simp) (by decide +kernel) (by decide +kernel) (by decide) (by decide) (by decide) ⟨Nat.le_of_ble_eq_true rfl, Nat.le_of_ble_eq_true rfl⟩ (by decide +kernel) (by decide +kernel) (fun ad5 e5 => ?_)
  have e5 : ∀ j, j ≠ 122 → ad5 j = ad4 j := e5
  have hX5 := hX4.adr (fun j hj => e5 j (by omega))
  have hs5 := hs4.adr (e5 5000 (by omega))
  show am_V X 123 45971 _ gS ad5 (19, [(0, .ref 5000), (1, .ref 0), (2, .ref 79)], [.ref 122], am_z (zI_X14_init_79 I8) 122 0, am_z (zG_X14_init_79 G8) 122 0, am_z zP_42 122 .null)
  refine am_renV (sh' := gS) (P' := gP 999) gq (fun k hk => by rw [gq_ne (by have : k < 123 := hk; omega)]) (by decide +kernel) (fun i j h1 h2 h => by
    rw [gq_ne (by have : i < 123 := h1; omega), gq_ne (by have : j < 123 := h2; omega)] at h
    exact h) (by decide +kernel) ?_
  have hX6 : am_okz X (fun j => ad5 (gq j)) := hX5.adr (fun j hj => by show ad5 (gq j) = _; rw [gq_ne (by omega)])
  have hs6 : am_scr X (fun j => ad5 (gq j)) N xs := hs5.adr rfl
  generalize (fun j => ad5 (gq j)) = ad6 at hX6 hs6 ⊢
  generalize (fun a => am_z (zI_X14_init_79 I8) 122 0 (gq a)) = I at hI ⊢
  generalize (fun a => am_z (zG_X14_init_79 G8) 122 0 (gq a)) = G at hI ⊢
  refine am_blk 19 [(.astore_n 3, 1, 3, 0, .null), (.iconst (0), 1, 0, 0, .int (0 : Int32)), (.istore 4, 2, 4, 0, .null)] (23, lw_L (Int32.ofNat (6 * 0)), [], I, G, gP 999) (True) hX6 hi (by decide +kernel) rfl trivial ?_
  exact am_wid hm (Nat.le_of_ble_eq_true rfl) (Nat.le_of_ble_eq_true rfl) ⟨Nat.le_of_ble_eq_true rfl, Nat.le_of_ble_eq_true rfl⟩ (law_loop hi hm hh9 hN (Nat.le_of_ble_eq_true rfl) (Nat.le_of_ble_eq_true rfl) hK hend 600 0 ad6 I G (by omega) (by omega) hX6 hs6 hI)
set_option maxHeartbeats 4000000 in
theorem law_start {p : Program} {l : Launch} {e : Env} {s : State} {m : MethodId} {below : List Frame} {meth : Method} {c : Code} {Q : State → Prop} {Inv : am_I → am_G → Prop} (hlt : l.stackTraces = false) {b L : Nat} {xs : Nat → Int32} (hL : L ≤ 3072) (hx : p.tables.exec = Jvm.exec) (hb : c.code = code) (hr : meth.sig.returnType = ret) (hml : c.maxLocals = 9) (hown : s.vm.findClass "MarbledPaperLaw" = some m.cls) (hts : ∀ w ∈ lw_tbl, w.before #[Value.ref b] s = true) (hX : va_X b L xs s s.heap) (hbl : b < s.heap.size) (hlocks : meth.locks = false) (hgv : (Jvm.Cond.and given_1 narrow_1).before #[Value.ref b] s = true) (hK : k_all Inv) (h0 : k_init Inv)
    (hend : ∀ (H : Heap) (ls : Array Slot), W p l e room_1 s m #[Value.ref b] below meth c H [] 601024 7293034 Q (F0 m 1488 ls [.int 1])) : W p l e room_1 s m #[Value.ref b] below meth c s.heap [] 0 0 Q (entryFrame m ([Value.ref b] : List Value).toArray 9) := by
  obtain ⟨D, cys, hKn⟩ := am_K_of hts
  obtain ⟨ad, had, hZ⟩ := am_Zs_of hts hgv b
  obtain ⟨X, hXe⟩ : ∃ X : am_X, X = (p, l, e, room_1, s, m, #[Value.ref b], below, meth, c, (fun q : Nat => s.heap.size ≤ q), D, cys, 15, code, 9, false) := ⟨_, rfl⟩
  have hX0 : am_okz X ad := by
    rw [hXe]
    exact ⟨⟨hx, hb, hml, hown, fun w hw => hts w (List.mem_filter.mp hw).1, hlocks, hKn, am_nst_of hts, fun q h => h, fun h => Bool.noConfusion h, Nat.le_of_ble_eq_true rfl, Nat.le_of_ble_eq_true rfl⟩, hZ⟩
  have hi : am_info X 15 code 9 false ret 60 := by
    rw [hXe]
    exact ⟨rfl, rfl, rfl, rfl, hr, Nat.le_of_ble_eq_true rfl, Nat.le_of_ble_eq_true rfl⟩
  have hm : am_mem X 601024 7293034 := by
    rw [hXe]
    exact ⟨rfl, rfl⟩
  obtain ⟨hh, hh9⟩ := am_xh_of (X := X) (by rw [hXe]; exact ⟨hlt, am_cast_of hts hgv⟩)
  have hs : am_scr X ad L xs := by
    rw [hXe]
    show va_X (ad 5000) L xs s s.heap ∧ ad 5000 < s.heap.size ∧ ¬ (s.heap.size ≤ ad 5000)
    rw [had]
    exact ⟨hX, hbl, Nat.not_le.mpr hbl⟩
  have key : am_V X 0 0 Q [] ad (0, [(0, .ref 5000)], [], iI0, iG0, zP_0) := by
    refine law_walk hX0 hi hm hh9 hs hL hK h0 (fun ad' i I G _ => ?_)
    rw [hXe]
    intro h1 h2 H locs ls hP hD hS hl
    refine va_forget (fun q hq => hS.2.2 q hq) ?_
    exact W.widen (Nat.le_of_ble_eq_true rfl) (Nat.le_of_ble_eq_true rfl) (hend H ls)
  rw [hXe] at key
  have hl := lv_entry ([.ref b]) (n := 9) (Nat.le_of_ble_eq_true rfl)
  rw [lg_entry_eq]
  generalize (lg_sl ([.ref b]) ++ List.replicate (9 - (lg_sl ([.ref b])).length) Slot.unset).toArray = ls at hl ⊢
  have hl : lv_has ls 9 [(0, .ref b)] := hl
  exact key (Nat.zero_le _) (Nat.zero_le _) s.heap [] ls (fun k q h => by simp [am_ws] at h) ⟨fun i j p q h => by simp [am_ws] at h, fun k q h => by simp [am_ws] at h⟩ va_S.rf (by
    show lv_has ls 9 [(0, .ref (ad 5000))]
    rw [had]; exact hl)
