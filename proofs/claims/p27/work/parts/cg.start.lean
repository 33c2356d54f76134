/-! the law's start out of mathematics -/
set_option maxHeartbeats 4000000 in
theorem law_start {p : Program} {l : Launch} {e : Env} {s : State} {m : MethodId} {below : List Frame} {meth : Method} {c : Code} {Q : State → Prop} {KJ : am_I → am_G → Prop} {b L : Nat} {xs : Nat → Int32} (hL : L ≤ 260) (hx : p.tables.exec = Jvm.exec) (hb : c.code = code) (hr : meth.sig.returnType = ret) (hml : c.maxLocals = 25) (hown : s.vm.findClass "MarbledPaperLaw" = some m.cls) (hts : ∀ w ∈ lw_tbl, w.before #[Value.ref b] s = true) (hX : va_X b L xs s s.heap) (hbl : b < s.heap.size) (hlocks : meth.locks = false) (hgv : (Jvm.Cond.and given_1 narrow_1).before #[Value.ref b] s = true) (hM : lw_math L xs KJ)
    (hend : ∀ (H : Heap) (ls : Array Slot) (pc : Nat), decode code pc = .ok (.ireturn, 1) → W p l e room_1 s m #[Value.ref b] below meth c H [] 600086 7301442 Q (F0 m pc ls [.int 1])) : W p l e room_1 s m #[Value.ref b] below meth c s.heap [] 0 0 Q (entryFrame m ([Value.ref b] : List Value).toArray 25) := by
  obtain ⟨D, cys, hKn⟩ := am_K_of hts
  obtain ⟨ad, had, hZ⟩ := am_Zs_of hts hgv b
  obtain ⟨X, hXe⟩ : ∃ X : am_X, X = (p, l, e, room_1, s, m, #[Value.ref b], below, meth, c, (fun q : Nat => s.heap.size ≤ q), D, cys, 15, code, 25, false) := ⟨_, rfl⟩
  have hX0 : am_okz X ad := by
    rw [hXe]
    exact ⟨⟨hx, hb, hml, hown, fun w hw => hts w (List.mem_filter.mp hw).1, hlocks, hKn, am_nst_of hts, fun q h => h, fun h => Bool.noConfusion h, Nat.le_of_ble_eq_true rfl, Nat.le_of_ble_eq_true rfl⟩, hZ⟩
  have hi : am_info X 15 code 25 false ret 60 := by
    rw [hXe]
    exact ⟨rfl, rfl, rfl, rfl, hr, Nat.le_of_ble_eq_true rfl, Nat.le_of_ble_eq_true rfl⟩
  have hm : am_mem X 600086 7301442 := by
    rw [hXe]
    exact ⟨rfl, rfl⟩
  have hs : am_scT X ad L xs := by
    rw [hXe]
    show va_T .int (ad 5000) L (fun j => .int (xs j)) (fun q : Nat => s.heap.size ≤ q) s s.heap
    rw [had]
    obtain ⟨scr, h1, h2, h3, h4, h5⟩ := hX
    exact ⟨scr, h1, h2, h3, by omega, by rw [h4], fun j hj => h5 j hj, Nat.not_le.mpr hbl⟩
  have key : am_V X 0 0 Q [] ad (0, [(0, .ref 5000)], [], iI0, iG0, zP_0) := by
    refine t_front hX0 hi hm hs hL hM (fun ad2 sh ex P L I G k pc _ hk hd => ?_)
    rw [hXe]
    intro h1 h2 H locs ls hP hD hS hl
    refine va_forget (fun q hq => hS.2.2 q hq) ?_
    exact W.widen (by omega) (by omega) (hend H ls pc hd)
  rw [hXe] at key
  have hl := lv_entry ([.ref b]) (n := 25) (Nat.le_of_ble_eq_true rfl)
  rw [lg_entry_eq]
  generalize (lg_sl ([.ref b]) ++ List.replicate (25 - (lg_sl ([.ref b])).length) Slot.unset).toArray = ls at hl ⊢
  have hl : lv_has ls 25 [(0, .ref b)] := hl
  exact key (Nat.zero_le _) (Nat.zero_le _) s.heap [] ls (fun k q h => by simp [am_ws] at h) ⟨fun i j p q h => by simp [am_ws] at h, fun k q h => by simp [am_ws] at h⟩ va_S.rf (by
    show lv_has ls 25 [(0, .ref (ad 5000))]
    rw [had]; exact hl)
