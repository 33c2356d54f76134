/-! appends seen from a caller; strings put together -/
theorem am_kqL_le {n m : Nat} (h : n ≤ m) : ∀ {L : am_L}, am_kqL n L → am_kqL m L
  | [], _ => rfl
  | (i, v) :: r, hL => by
    cases v with
    | ref k => exact ⟨hL.1.imp (fun z => Nat.lt_of_lt_of_le z h) id, am_kqL_le h hL.2⟩
    | _ => exact am_kqL_le (L := r) h hL
theorem am_kqS_le {n m : Nat} (h : n ≤ m) : ∀ {L : List Value}, am_kqS n L → am_kqS m L
  | [], _ => rfl
  | v :: r, hL => by
    cases v with
    | ref k => exact ⟨hL.1.imp (fun z => Nat.lt_of_lt_of_le z h) id, am_kqS_le h hL.2⟩
    | _ => exact am_kqS_le (L := r) h hL
theorem am_kqL_nq {n v : Nat} (h : n ≤ v) (hv : v < 1000) : ∀ {L : am_L}, am_kqL n L → am_nqL v L
  | [], _ => rfl
  | (i, w) :: r, hL => by
    cases w with
    | ref k =>
      have hk : am_nk n k := hL.1
      exact ⟨fun e => by subst e; exact hk.elim (fun z => Nat.lt_irrefl _ (Nat.lt_of_lt_of_le z h)) (fun z => absurd hv (Nat.not_lt.mpr z)), am_kqL_nq h hv hL.2⟩
    | _ => exact am_kqL_nq (L := r) h hv hL
theorem am_kqS_nq {n v : Nat} (h : n ≤ v) (hv : v < 1000) : ∀ {L : List Value}, am_kqS n L → am_nqS v L
  | [], _ => rfl
  | w :: r, hL => by
    cases w with
    | ref k =>
      have hk : am_nk n k := hL.1
      exact ⟨fun e => by subst e; exact hk.elim (fun z => Nat.lt_irrefl _ (Nat.lt_of_lt_of_le z h)) (fun z => absurd hv (Nat.not_lt.mpr z)), am_kqS_nq h hv hL.2⟩
    | _ => exact am_kqS_nq (L := r) h hv hL
theorem set_hat {sh : List am_Sh} {v k : Nat} {x y s : am_Sh} (hv : sh[v]? = some y) (hk : (sh.set v x)[k]? = some s) : (k = v ∧ s = x) ∨ (k ≠ v ∧ sh[k]? = some s) := by
  by_cases e : k = v
  · subst e
    rw [List.getElem?_set_self (am_at_lt hv)] at hk
    exact Or.inl ⟨rfl, (Option.some.inj hk).symm⟩
  · rw [List.getElem?_set_ne (Ne.symm e)] at hk
    exact Or.inr ⟨e, hk⟩
theorem set_ne {sh : List am_Sh} {v k : Nat} {x : am_Sh} (h : k ≠ v) : (sh.set v x)[k]? = sh[k]? := List.getElem?_set_ne (Ne.symm h)
theorem lR.set {n v m m' : Nat} {sh : List am_Sh} {P : am_P} (h : lR n sh P) (hv : sh[v]? = some (.inr (4, m))) : lR n (sh.set v (.inr (4, m'))) P := by
  refine ⟨fun b c j h1 h2 => ?_, fun b k j h1 h2 => ?_⟩
  · rcases set_hat hv h1 with ⟨-, e⟩ | ⟨-, e⟩
    · cases e
    · exact h.1 b c j e h2
  · rcases set_hat hv h1 with ⟨-, e⟩ | ⟨-, e⟩
    · cases e
    · exact h.2 b k j e h2
theorem lV.set {v b m m' : Nat} {sh : List am_Sh} {P : am_P} (h : lV v b sh P) (hv : sh[v]? = some (.inr (4, m))) : lV v b (sh.set v (.inr (4, m'))) P := by
  refine ⟨fun k c j h1 h2 h3 => ?_, fun k c j h1 h2 => ?_⟩
  · rcases set_hat hv h1 with ⟨-, e⟩ | ⟨-, e⟩
    · cases e
    · exact h.1 k c j e h2 h3
  · rcases set_hat hv h1 with ⟨-, e⟩ | ⟨-, e⟩
    · cases e
    · exact h.2 k c j e h2
theorem set_same {sh : List am_Sh} {v : Nat} {x : am_Sh} (hv : sh[v]? = some x) : sh.set v x = sh := by
  apply List.ext_getElem?
  intro k
  by_cases e : k = v
  · subst e; rw [List.getElem?_set_self (am_at_lt hv), hv]
  · rw [List.getElem?_set_ne (Ne.symm e)]
theorem aT_app {T S : List Nat} (h1 : aT T) (h2 : aT S) : aT (T ++ S) := fun j hj => by
  rw [List.length_append] at hj
  by_cases h : j < T.length
  · rw [List.getD_eq_getElem?_getD, List.getElem?_append_left h, ← List.getD_eq_getElem?_getD]; exact h1 j h
  · rw [List.getD_eq_getElem?_getD, List.getElem?_append_right (by omega), ← List.getD_eq_getElem?_getD]; exact h2 _ (by omega)
theorem aT_dT {x : Nat} (h : x < 1000) : aT (dT x) := by
  have : ∀ x, x < 1000 → (dT x).all (fun y => decide (y < 128)) = true := by decide +kernel
  intro j hj
  have h9 := List.all_eq_true.mp (this x h) ((dT x).getD j 0) (by
    rw [List.getD_eq_getElem?_getD, List.getElem?_eq_getElem hj]
    exact List.getElem_mem hj)
  exact of_decide_eq_true h9
theorem sb_capM {n m : Nat} (hn : m < n) (h2 : n ≤ 2000) : n ≤ sb_cap n m ∧ sb_cap n m ≤ 4096 := ⟨(sb_capB hn (by omega)).2.2, (sb_capL hn h2).1⟩
set_option maxRecDepth 100000 in
theorem nw_SB : Cond.instantiable "java/lang/StringBuilder" 4 ∈ lw_tbl ∧ Cond.initialized "java/lang/StringBuilder" ∈ lw_tbl := ⟨List.mem_of_getElem? (i := 1484) rfl, List.mem_of_getElem? (i := 47) rfl⟩
section AMC7
variable {X : am_X} {o : Nat} {cc : ByteArray} {nL : Nat} {ini : Bool} {ret : Option FieldType} {d : Nat}
variable {cells slots MC MS : Nat} {Q : State → Prop} {sh : List am_Sh} {ad : Nat → Nat} {pc : Nat} {L : am_L} {st rest : List Value} {I I0 : am_I} {G G0 : am_G} {P P0 : am_P} {b v m q w x : Nat} {T S : List Nat}
theorem ap_I {f : Nat → Int32} {z : Int32} {k N : Nat} (hk : k < N) (hkv : k ≠ v) : am_up (am_row I v f) b 3 z k = am_up (am_row I N f) b 3 z k := by
  by_cases e : k = b
  · subst e
    rw [am_up_row, am_up_row, am_row_ne _ _ hkv, am_row_ne _ _ (by omega)]
  · rw [am_up_rowb _ _ _ e, am_up_rowb _ _ _ e, am_row_ne _ _ hkv, am_row_ne _ _ (by omega)]
theorem ap_sB {m1 : Nat} {f : Nat → Int32} (hB : sB sh I P b v m T) (hS : aT S) (h1 : (T ++ S).length ≤ m1) (h2 : m1 ≤ 4096) (hf : bT (T ++ S) f) (hf2 : sb_Fit f) : sB (sh.set v (.inr (4, m1))) (am_up (am_row I v f) b 3 (Int32.ofNat (T ++ S).length)) P b v m1 (T ++ S) := by
  obtain ⟨hb, hv, hP, h0, h3, hTm, hm9, haT, hbT, hf9⟩ := hB
  have hbv : b ≠ v := fun e => by subst e; rw [hb] at hv; cases hv
  have e1 : am_up (am_row I v f) b 3 (Int32.ofNat (T ++ S).length) v = f := by rw [am_up_rowb _ _ _ (Ne.symm hbv), am_row_self]
  exact ⟨by rw [set_ne hbv]; exact hb, List.getElem?_set_self (am_at_lt hv), hP, by rw [am_up_k _ _ (by decide), am_row_ne _ _ hbv]; exact h0, am_up_self _ _ _ _, h1, h2, aT_app haT hS, by rw [e1]; exact hf, by rw [e1]; exact hf2⟩
/-- what an append leaves, given to the caller -/
theorem ap_fin (hB : sB sh I P b v m T) (hS : aT S) (hn : T.length + S.length ≤ 2000) (hl : sh.length < 1000) (hR : lR sh.length sh P) (hV : lV v b sh P) (hL : am_kqL sh.length L) (hrest : am_kqS sh.length rest) (hLv : am_nqL v L) (hSv : am_nqS v rest)
    (kk : ∀ (ad1 : Nat → Nat) (m1 : Nat) (f : Nat → Int32), (∀ j, j ≠ v → j < sh.length ∨ 1000 ≤ j → ad1 j = ad j) → am_okz X ad1 → sB (sh.set v (.inr (4, m1))) (am_up (am_row I v f) b 3 (Int32.ofNat (T ++ S).length)) P b v m1 (T ++ S) → am_V X cells slots Q (sh.set v (.inr (4, m1))) ad1 (pc, L, .ref b :: rest, am_up (am_row I v f) b 3 (Int32.ofNat (T ++ S).length), G, P))
    {r9 : Option Value} {sh9 : List am_Sh} {ad9 : Nat → Nat} {I9 : am_I} {G9 : am_G} {P9 : am_P} (hp : pAp sh b v m T S I G P r9 sh9 I9 G9 P9) (ha : ∀ j, j < sh.length ∨ 1000 ≤ j → ad9 j = ad j) (hX1 : am_okz X ad9) : am_V X cells slots Q sh9 ad9 (pc, L, r9.toList ++ rest, I9, G9, P9) := by
  have hB0 := hB
  obtain ⟨hb, hv, hP, -, -, hTm, hm9, -⟩ := hB0
  have hbv : b ≠ v := fun e => by subst e; rw [hb] at hv; cases hv
  have eTS : (T ++ S).length = T.length + S.length := List.length_append
  obtain ⟨rfl, rfl, f, hbT, hf, ⟨c1, rfl, rfl, rfl⟩ | ⟨c1, rfl, rfl, rfl⟩⟩ := hp
  · have h9 := kk ad9 m f (fun j _ hj => ha j hj) hX1 (ap_sB hB hS c1 hm9 hbT hf)
    rw [set_same hv] at h9
    exact h9
  · obtain ⟨g1, g2⟩ := sb_capM c1 (by omega)
    exact am_mv (x := .inl 0) (I1 := am_up (am_row I v f) b 3 (Int32.ofNat (T ++ S).length)) hb hv hP hV hR hl hL (am_kqS_r (Or.inl (am_at_lt hb)) hrest) hLv (am_nqS_r hbv hSv) hX1 (fun k hk hkv => ap_I hk hkv) (by rw [am_up_rowb _ _ _ (Ne.symm hbv), am_row_self, am_up_rowb _ _ _ (by have := am_at_lt hb; omega), am_row_self]) (fun ad1 h1 h2 => kk ad1 _ f (fun j hj hj2 => (h1 j hj).trans (ha j hj2)) h2 (ap_sB hB hS g1 g2 hbT hf))
theorem ap_S (hX : am_okz X ad) (hi : am_info X o cc nL ini ret d) (hm : am_mem X MC MS) {idx : Nat} (hl0 : am_lnk o idx mJ4_append_15ec4.1 false = true) (hd : decode cc pc = .ok (.invokevirtual idx, 3)) (hd6 : 6 ≤ d) (hst : st = .ref q :: .ref b :: rest) (hr8 : (rest.map fun v => v.category).sum ≤ 8) (hroom : cells + 1 ≤ MC ∧ slots + 4096 ≤ MS)
    (hB : sB sh I P b v m T) (hT : xS sh I P q w S) (hn : T.length + S.length ≤ 2000) (hl : sh.length < 1000) (hR : lR sh.length sh P) (hV : lV v b sh P) (hL : am_kqL sh.length L) (hrest : am_kqS sh.length rest) (hLv : am_nqL v L) (hSv : am_nqS v rest)
    (kk : ∀ (ad1 : Nat → Nat) (m1 : Nat) (f : Nat → Int32), (∀ j, j ≠ v → j < sh.length ∨ 1000 ≤ j → ad1 j = ad j) → am_okz X ad1 → sB (sh.set v (.inr (4, m1))) (am_up (am_row I v f) b 3 (Int32.ofNat (T ++ S).length)) P b v m1 (T ++ S) → am_V X (cells + 1) (slots + 4096) Q (sh.set v (.inr (4, m1))) ad1 (pc + 3, L, .ref b :: rest, am_up (am_row I v f) b 3 (Int32.ofNat (T ++ S).length), G, P)) : am_V X cells slots Q sh ad (pc, L, st, I, G, P) :=
  am_callVA hX hi hm (M := mJ4_append_15ec4) (idx := idx) (d' := 5) (As := [.ref q]) (rest := rest) mkJ4_append_15ec4 miJ4_append_15ec4 mvJ4_append_15ec4 hl0 hd hB.1 rfl rfl ⟨by omega, by show 19 + 2 + 30 * 5 ≤ 30 * d; omega, hr8⟩ hst hroom hL hrest (k_bAppend hB hT hn hl hR) (fun r9 sh9 ad9 I9 G9 P9 hp ha hX1 => ap_fin hB hT.1 hn hl hR hV hL hrest hLv hSv kk hp ha hX1)
theorem ap_N (hX : am_okz X ad) (hi : am_info X o cc nL ini ret d) (hm : am_mem X MC MS) {idx : Nat} (hl0 : am_lnk o idx mJ4_append_bf812.1 false = true) (hd : decode cc pc = .ok (.invokevirtual idx, 3)) (hd6 : 6 ≤ d) {y : Int32} (hy : y = Int32.ofNat x) (hst : st = .int y :: .ref b :: rest) (hr8 : (rest.map fun v => v.category).sum ≤ 8) (hroom : cells + 1 ≤ MC ∧ slots + 4096 ≤ MS)
    (hB : sB sh I P b v m T) (hx : x < 1000) (hn : T.length + (dT x).length ≤ 2000) (hl : sh.length < 1000) (hR : lR sh.length sh P) (hV : lV v b sh P) (hL : am_kqL sh.length L) (hrest : am_kqS sh.length rest) (hLv : am_nqL v L) (hSv : am_nqS v rest)
    (kk : ∀ (ad1 : Nat → Nat) (m1 : Nat) (f : Nat → Int32), (∀ j, j ≠ v → j < sh.length ∨ 1000 ≤ j → ad1 j = ad j) → am_okz X ad1 → sB (sh.set v (.inr (4, m1))) (am_up (am_row I v f) b 3 (Int32.ofNat (T ++ dT x).length)) P b v m1 (T ++ dT x) → am_V X (cells + 1) (slots + 4096) Q (sh.set v (.inr (4, m1))) ad1 (pc + 3, L, .ref b :: rest, am_up (am_row I v f) b 3 (Int32.ofNat (T ++ dT x).length), G, P)) : am_V X cells slots Q sh ad (pc, L, st, I, G, P) := by
  subst hy
  exact am_callVA hX hi hm (M := mJ4_append_bf812) (idx := idx) (d' := 5) (As := [.int (Int32.ofNat x)]) (rest := rest) mkJ4_append_bf812 miJ4_append_bf812 mvJ4_append_bf812 hl0 hd hB.1 rfl rfl ⟨by omega, by show 19 + 2 + 30 * 5 ≤ 30 * d; omega, hr8⟩ hst hroom hL hrest (k_bAppendI hB hx hn hl hR) (fun r9 sh9 ad9 I9 G9 P9 hp ha hX1 => ap_fin hB (aT_dT hx) hn hl hR hV hL hrest hLv hSv kk hp ha hX1)
/-! a StringBuilder of its own behind the cells -/
def cB (sh : List am_Sh) (I0 : am_I) (G0 : am_G) (P0 : am_P) (m : Nat) (T : List Nat) (I : am_I) (G : am_G) (P : am_P) : Prop := (∀ k, k < sh.length → I k = I0 k ∧ G k = G0 k ∧ P k = P0 k) ∧ sB (sh ++ [.inl 1, .inr (4, m)]) I P sh.length (sh.length + 1) m T ∧ ∀ j, j ≠ 0 → P sh.length j = .null
theorem at2 {x y s : am_Sh} {k : Nat} (h : (sh ++ [x, y])[k]? = some s) : sh[k]? = some s ∨ (k = sh.length ∧ s = x) ∨ (k = sh.length + 1 ∧ s = y) := by
  by_cases hk : k < sh.length
  · rw [List.getElem?_append_left hk] at h; exact Or.inl h
  · rw [List.getElem?_append_right (by omega)] at h
    have hz : k - sh.length < 2 := (List.getElem?_eq_some_iff.mp h).1
    rcases (by omega : k - sh.length = 0 ∨ k - sh.length = 1) with e | e
    · rw [e] at h; cases h; exact Or.inr (Or.inl ⟨by omega, rfl⟩)
    · rw [e] at h; cases h; exact Or.inr (Or.inr ⟨by omega, rfl⟩)
theorem len2 {x y : am_Sh} : (sh ++ [x, y]).length = sh.length + 2 := by rw [List.length_append]; rfl
theorem cB.lR2 (h : cB sh I0 G0 P0 m T I G P) (hR : lR sh.length sh P0) : lR (sh.length + 2) (sh ++ [.inl 1, .inr (4, m)]) P := by
  obtain ⟨h1, h2, h3⟩ := h
  refine ⟨fun b c j hb hj => ?_, fun b k j hb hj => ?_⟩
  · rcases at2 hb with e | ⟨rfl, -⟩ | ⟨-, e⟩
    · rw [(h1 b (am_at_lt e)).2.2]; exact (hR.1 b c j e hj).le (by omega)
    · by_cases h9 : j = 0
      · rw [h9, h2.2.2.1]; exact Or.inl (by omega)
      · rw [h3 j h9]; trivial
    · cases e
  · rcases at2 hb with e | ⟨-, e⟩ | ⟨-, e⟩
    · rw [(h1 b (am_at_lt e)).2.2]; exact (hR.2 b k j e hj).le (by omega)
    · cases e
    · cases e
theorem cB.lV2 (h : cB sh I0 G0 P0 m T I G P) (hR : lR sh.length sh P0) (hl : sh.length + 2 < 1000) : lV (sh.length + 1) sh.length (sh ++ [.inl 1, .inr (4, m)]) P := by
  obtain ⟨h1, h2, h3⟩ := h
  have key : ∀ z : Value, am_kr sh.length z → z ≠ .ref (sh.length + 1) := fun z hz e => by
    subst e
    rcases (hz : am_nk sh.length (sh.length + 1)) with h | h <;> omega
  refine ⟨fun b c j hb hj hne => ?_, fun b k j hb hj => ?_⟩
  · rcases at2 hb with e | ⟨rfl, -⟩ | ⟨-, e⟩
    · rw [(h1 b (am_at_lt e)).2.2]; exact key _ (hR.1 b c j e hj)
    · rw [h3 j (by omega)]; exact fun e => by cases e
    · cases e
  · rcases at2 hb with e | ⟨-, e⟩ | ⟨-, e⟩
    · rw [(h1 b (am_at_lt e)).2.2]; exact key _ (hR.2 b k j e hj)
    · cases e
    · cases e
theorem set2 {x y z : am_Sh} : (sh ++ [x, y]).set (sh.length + 1) z = sh ++ [x, z] := by
  rw [List.set_append_right _ _ (by omega), Nat.add_sub_cancel_left]; rfl
theorem c_S (hX : am_okz X ad) (hi : am_info X o cc nL ini ret d) (hm : am_mem X MC MS) {idx : Nat} (hl0 : am_lnk o idx mJ4_append_15ec4.1 false = true) (hd : decode cc pc = .ok (.invokevirtual idx, 3)) (hd6 : 6 ≤ d) (hst : st = .ref q :: .ref sh.length :: rest) (hr8 : (rest.map fun v => v.category).sum ≤ 8) (hroom : cells + 1 ≤ MC ∧ slots + 4096 ≤ MS)
    (hB : cB sh I0 G0 P0 m T I G P) (hT : xS (sh ++ [.inl 1, .inr (4, m)]) I P q w S) (hn : T.length + S.length ≤ 2000) (hl : sh.length + 2 < 1000) (hR : lR sh.length sh P0) (hL : am_kqL sh.length L) (hrest : am_kqS sh.length rest)
    (kk : ∀ (ad1 : Nat → Nat) (m1 : Nat) (I1 : am_I), (∀ j, j ≤ sh.length ∨ 1000 ≤ j → ad1 j = ad j) → am_okz X ad1 → cB sh I0 G0 P0 m1 (T ++ S) I1 G P → am_V X (cells + 1) (slots + 4096) Q (sh ++ [.inl 1, .inr (4, m1)]) ad1 (pc + 3, L, .ref sh.length :: rest, I1, G, P)) : am_V X cells slots Q (sh ++ [.inl 1, .inr (4, m)]) ad (pc, L, st, I, G, P) := by
  refine ap_S (b := sh.length) (v := sh.length + 1) hX hi hm hl0 hd hd6 hst hr8 hroom hB.2.1 hT hn (by rw [len2]; exact hl) (by rw [len2]; exact hB.lR2 hR) (hB.lV2 hR hl) (by rw [len2]; exact am_kqL_le (by omega) hL) (by rw [len2]; exact am_kqS_le (by omega) hrest) (am_kqL_nq (by omega) (by omega) hL) (am_kqS_nq (by omega) (by omega) hrest) (fun ad1 m1 f ha hX1 hs => ?_)
  rw [set2] at hs ⊢
  exact kk ad1 m1 _ (fun j hj => ha j (by omega) (by rw [len2]; omega)) hX1 ⟨fun k hk => ⟨by rw [am_up_rowb _ _ _ (by omega), am_row_ne _ _ (by omega)]; exact (hB.1 k hk).1, (hB.1 k hk).2⟩, hs, hB.2.2⟩
theorem c_N (hX : am_okz X ad) (hi : am_info X o cc nL ini ret d) (hm : am_mem X MC MS) {idx : Nat} (hl0 : am_lnk o idx mJ4_append_bf812.1 false = true) (hd : decode cc pc = .ok (.invokevirtual idx, 3)) (hd6 : 6 ≤ d) {y : Int32} (hy : y = Int32.ofNat x) (hst : st = .int y :: .ref sh.length :: rest) (hr8 : (rest.map fun v => v.category).sum ≤ 8) (hroom : cells + 1 ≤ MC ∧ slots + 4096 ≤ MS)
    (hB : cB sh I0 G0 P0 m T I G P) (hx : x < 1000) (hn : T.length + (dT x).length ≤ 2000) (hl : sh.length + 2 < 1000) (hR : lR sh.length sh P0) (hL : am_kqL sh.length L) (hrest : am_kqS sh.length rest)
    (kk : ∀ (ad1 : Nat → Nat) (m1 : Nat) (I1 : am_I), (∀ j, j ≤ sh.length ∨ 1000 ≤ j → ad1 j = ad j) → am_okz X ad1 → cB sh I0 G0 P0 m1 (T ++ dT x) I1 G P → am_V X (cells + 1) (slots + 4096) Q (sh ++ [.inl 1, .inr (4, m1)]) ad1 (pc + 3, L, .ref sh.length :: rest, I1, G, P)) : am_V X cells slots Q (sh ++ [.inl 1, .inr (4, m)]) ad (pc, L, st, I, G, P) := by
  refine ap_N (b := sh.length) (v := sh.length + 1) hX hi hm hl0 hd hd6 hy hst hr8 hroom hB.2.1 hx hn (by rw [len2]; exact hl) (by rw [len2]; exact hB.lR2 hR) (hB.lV2 hR hl) (by rw [len2]; exact am_kqL_le (by omega) hL) (by rw [len2]; exact am_kqS_le (by omega) hrest) (am_kqL_nq (by omega) (by omega) hL) (am_kqS_nq (by omega) (by omega) hrest) (fun ad1 m1 f ha hX1 hs => ?_)
  rw [set2] at hs ⊢
  exact kk ad1 m1 _ (fun j hj => ha j (by omega) (by rw [len2]; omega)) hX1 ⟨fun k hk => ⟨by rw [am_up_rowb _ _ _ (by omega), am_row_ne _ _ (by omega)]; exact (hB.1 k hk).1, (hB.1 k hk).2⟩, hs, hB.2.2⟩
/-- new StringBuilder() -/
theorem c_new (hX : am_okz X ad) (hi : am_info X o cc nL ini ret d) (hm : am_mem X MC MS) {i1 i2 : Nat} (hc1 : Cond.classLink (am_own o) i1 "java/lang/StringBuilder" ∈ lw_tbl) (hl0 : am_lnk o i2 mJ4_init_da8c8.1 false = true) (hd1 : decode cc pc = .ok (.new i1, 3)) (hd2 : decode cc (pc + 3) = .ok (.dup, 1)) (hd3 : decode cc (pc + 4) = .ok (.invokespecial i2, 3)) (hd6 : 3 ≤ d) (hr8 : (st.map fun v => v.category).sum ≤ 7) (hroom : cells + 2 ≤ MC ∧ slots + 20 ≤ MS)
    (hl : sh.length + 2 < 1000) (hR : lR sh.length sh P) (hL : am_kqL sh.length L) (hrest : am_kqS sh.length st)
    (kk : ∀ (ad1 : Nat → Nat) (I1 : am_I) (G1 : am_G) (P1 : am_P), (∀ j, j < sh.length ∨ 1000 ≤ j → ad1 j = ad j) → am_okz X ad1 → cB sh I G P 16 [] I1 G1 P1 → am_V X (cells + 2) (slots + 20) Q (sh ++ [.inl 1, .inr (4, 16)]) ad1 (pc + 7, L, .ref sh.length :: st, I1, G1, P1)) : am_V X cells slots Q sh ad (pc, L, st, I, G, P) := by
  refine am_newR hX hi hm (ci := 1) (r := (RJ4, TJ4, 4)) rfl hc1 nw_SB.1 nw_SB.2 hd1 ⟨by omega, by show slots + 4 ≤ _; omega⟩ (hR.noR (by omega)) (am_kq_noL (by omega) hL hrest) (fun ad1 ha1 => ?_)
  have hX1 : am_okz X ad1 := hX.adr (fun j hj => ha1 j (by omega))
  have eL : (sh ++ [(.inl 1 : am_Sh)]).length = sh.length + 1 := by rw [List.length_append]; rfl
  refine am_blk (pc + 3) [(.dup, 1, 0, 0, .null)] (pc + 4, L, .ref sh.length :: .ref sh.length :: st, am_z I sh.length 0, am_z G sh.length 0, am_z P sh.length .null) True hX1 hi (by simp [am_at, am_ck, hd2]) rfl trivial ?_
  refine am_callIA hX1 hi hm (M := mJ4_init_da8c8) (idx := i2) (d' := 2) (keep := sh.length + 1) (mc := 1) (ms := 16) (As := []) (rest := .ref sh.length :: st) mkJ4_init_da8c8 miJ4_init_da8c8 rfl rfl hl0 hd3 rfl ⟨by omega, by show 19 + 1 + 30 * 2 ≤ 30 * d; omega, by rw [List.map_cons, List.sum_cons]; show 1 + _ ≤ 8; omega⟩ rfl ⟨by omega, by show slots + 4 + 16 ≤ _; omega⟩ (am_kqL_le (by omega) hL) (am_kqS_r (Or.inl (by omega)) (am_kqS_le (by omega) hrest)) (by rw [← eL]; exact k_sbInit am_at_end (by omega) (by rw [eL]; exact (hR.z (x := .inl 1)).obj (fun j _ => by rw [am_z_self]; trivial))) ?_
  rintro r9 sh9 ad2 I9 G9 P9 ⟨rfl, rfl, rfl, rfl, rfl⟩ ha2 hX2
  rw [eL, List.append_assoc]
  have lz : ∀ k, k < sh.length → k ≠ sh.length := fun k hk => by omega
  refine kk ad2 _ _ _ (fun j hj => (ha2 j (by omega)).trans (ha1 j (by omega))) hX2 ⟨fun k hk => ⟨by rw [am_up_rowb _ _ _ (lz k hk), am_row_ne _ _ (by omega), am_z_ne _ _ (lz k hk)], am_z_ne _ _ (lz k hk), by rw [am_up_rowb _ _ _ (lz k hk), am_z_ne _ _ (lz k hk)]⟩, ⟨?_, ?_, am_up_self _ _ _ _, am_up_self _ _ _ _, ?_, Nat.zero_le _, by decide, fun j hj => absurd hj (Nat.not_lt_zero j), fun j hj => absurd hj (Nat.not_lt_zero j), ?_⟩, fun j hj => ?_⟩
  · rw [List.getElem?_append_right (Nat.le_refl _), Nat.sub_self]; rfl
  · rw [List.getElem?_append_right (by omega), Nat.add_sub_cancel_left]; rfl
  · rw [am_up_k _ _ (by decide), am_row_ne _ _ (by omega), am_z_self]; rfl
  · rw [am_up_rowb _ _ _ (by omega), am_row_self]; exact sb_fit0
  · rw [am_up_k _ _ hj, am_z_self]
/-- two cells before a String are forgotten -/
theorem ren2 {x1 x2 : am_Sh} {n : Nat} {f : Nat → Int32} (hX : am_okz X ad) (hfr : ∀ k, k < sh.length → I k = I0 k ∧ G k = G0 k ∧ P k = P0 k) (hI1 : ∀ j, j ≠ 0 → I (sh.length + 2) j = 0) (hI2 : I (sh.length + 3) = f) (hP1 : P (sh.length + 2) 0 = .ref (sh.length + 3)) (hst : st = .ref (sh.length + 2) :: rest) (hl : sh.length + 4 < 1000) (hR : lR sh.length sh P0) (hL : am_kqL sh.length L) (hrest : am_kqS sh.length rest)
    (kk : ∀ ad1 : Nat → Nat, (∀ j, j < sh.length ∨ 1000 ≤ j → ad1 j = ad j) → am_okz X ad1 → am_V X cells slots Q (sh ++ [.inl 0, .inr (4, n)]) ad1 (pc, L, .ref sh.length :: rest, am_row (am_row I0 sh.length (fun _ => 0)) (sh.length + 1) f, G0, am_up (am_z P0 sh.length .null) sh.length 0 (.ref (sh.length + 1)))) : am_V X cells slots Q (sh ++ [x1, x2, .inl 0, .inr (4, n)]) ad (pc, L, st, I, G, P) := by
  subst hst
  have hat : ∀ (k : Nat) (s : am_Sh), (sh ++ [.inl 0, .inr (4, n)])[k]? = some s → (k < sh.length ∧ sh[k]? = some s) ∨ (k = sh.length ∧ s = .inl 0) ∨ (k = sh.length + 1 ∧ s = .inr (4, n)) := fun k s hk => by
    rcases at2 hk with h | h
    · exact Or.inl ⟨am_at_lt h, h⟩
    · exact Or.inr h
  have hkr : ∀ z : Value, am_kr sh.length z → am_tv (fun k => if k < sh.length ∨ 1000 ≤ k then ad k else ad (k + 2)) z = am_tv ad z := fun z hz => am_tv_of fun k e => by
    subst e
    exact if_pos hz
  have hL2 := am_kqL_kr hL
  have hS2 := am_kqS_kr hrest
  refine am_ren (fun k => if k < sh.length then k else k + 2) (sh1 := sh ++ [.inl 0, .inr (4, n)]) (ad1 := fun k => if k < sh.length ∨ 1000 ≤ k then ad k else ad (k + 2)) (I1 := am_row (am_row I0 sh.length (fun _ => 0)) (sh.length + 1) f) (G1 := G0) (P1 := am_up (am_z P0 sh.length .null) sh.length 0 (.ref (sh.length + 1))) (L1 := L) (st1 := .ref sh.length :: rest) ?_ ?_ ?_ ?_ ?_ ?_ ?_ ?_ ?_ ?_ ?_ (kk _ (fun j hj => if_pos hj) (hX.adr fun j hj => if_pos (Or.inr hj)))
  · intro i j hi hj
    rw [len2] at hi hj
    by_cases c1 : i < sh.length <;> by_cases c2 : j < sh.length
    · rw [if_pos c1, if_pos c2]; exact id
    · rw [if_pos c1, if_neg c2]; omega
    · rw [if_neg c1, if_pos c2]; omega
    · rw [if_neg c1, if_neg c2]; omega
  · intro k s hk
    rcases hat k s hk with ⟨h1, h2⟩ | ⟨rfl, rfl⟩ | ⟨rfl, rfl⟩
    · rw [if_pos h1]; exact am_at_app h2
    · rw [if_neg (by omega), List.getElem?_append_right (by omega), Nat.add_sub_cancel_left]; rfl
    · rw [if_neg (by omega), List.getElem?_append_right (by omega), show sh.length + 1 + 2 - sh.length = 3 by omega]; rfl
  · intro k hk
    rw [len2] at hk
    by_cases c : k < sh.length
    · rw [if_pos (Or.inl c), if_pos c]
    · rw [if_neg (by omega), if_neg c]
  · intro k t n hk ht
    rcases hat k _ hk with ⟨h1, h2⟩ | ⟨-, h2⟩ | ⟨rfl, h2⟩
    · rw [if_pos h1, am_row_ne _ _ (by omega), am_row_ne _ _ (by omega)]
      exact (hfr k h1).1.symm
    · cases h2
    · rw [if_neg (by omega), am_row_self]; exact hI2.symm
  · intro k c j t hk hj ht
    rcases hat k _ hk with ⟨h1, h2⟩ | ⟨rfl, h2⟩ | ⟨-, h2⟩
    · rw [if_pos h1, am_row_ne _ _ (by omega), am_row_ne _ _ (by omega), (hfr k h1).1]
    · cases h2
      rw [if_neg (by omega), am_row_ne _ _ (by omega), am_row_self]
      refine (hI1 j ?_).symm
      rintro rfl
      cases hj
      omega
    · cases h2
  · intro k t n hk ht
    rcases hat k _ hk with ⟨h1, h2⟩ | ⟨-, h2⟩ | ⟨-, h2⟩
    · rw [if_pos h1]; exact (hfr k h1).2.1.symm
    · cases h2
    · cases h2; omega
  · intro k c j hk hj
    rcases hat k _ hk with ⟨h1, h2⟩ | ⟨-, h2⟩ | ⟨-, h2⟩
    · rw [if_pos h1, (hfr k h1).2.1]
    · cases h2
      have : ∀ j : Nat, (am_ks 0)[j]? ≠ some 1 := fun j hj => by
        have h4 := am_at_lt2 hj
        have : (am_ks 0).length = 4 := rfl
        match j, hj with
        | 0, hj => cases hj
        | 1, hj => cases hj
        | 2, hj => cases hj
        | 3, hj => cases hj
        | j + 4, _ => omega
      exact absurd hj (this j)
    · cases h2
  · intro k c j t hk hjt t0 t1 t3
    have hj := am_at_lt2 hjt
    rcases hat k _ hk with ⟨h1, h2⟩ | ⟨rfl, h2⟩ | ⟨-, h2⟩
    · rw [if_pos h1, am_up_rowb _ _ _ (by omega), am_z_ne _ _ (by omega), (hfr k h1).2.2]
      exact hkr _ (hR.1 k c j h2 hj)
    · cases h2
      rw [if_neg (by omega)]
      have e : j = 0 := by
        have : (am_ks 0).length = 4 := rfl
        match j, hjt, hj with
        | 0, _, _ => rfl
        | 1, hjt, _ => cases hjt; omega
        | 2, hjt, _ => cases hjt; omega
        | 3, hjt, _ => cases hjt; omega
        | j + 4, _, _ => omega
      subst e
      rw [am_up_self, hP1]
      exact congrArg Value.ref ((if_neg (by omega)).trans (congrArg ad (by omega)))
    · cases h2
  · intro k n j hk hj
    rcases hat k _ hk with ⟨h1, h2⟩ | ⟨-, h2⟩ | ⟨-, h2⟩
    · rw [if_pos h1, am_up_rowb _ _ _ (by omega), am_z_ne _ _ (by omega), (hfr k h1).2.2]
      exact hkr _ (hR.2 k n j h2 hj)
    · cases h2
    · cases h2
  · exact List.map_congr_left fun q hq => by
      show (q.1, am_tv _ q.2) = (q.1, am_tv ad q.2)
      rw [hkr _ (hL2 q hq)]
  · show (am_tv _ _ :: List.map _ rest) = (am_tv _ _ :: List.map _ rest)
    rw [List.map_congr_left fun z hz => hkr z (hS2 z hz)]
    congr 1
    exact congrArg Value.ref (if_neg (by omega))
/-- cells at the end are forgotten, what they hold said otherwise -/
theorem am_dropK {ex : List am_Sh} (hfr : ∀ k, k < sh.length → I k = I0 k ∧ G k = G0 k ∧ P k = P0 k) (kk : am_V X cells slots Q sh ad (pc, L, st, I0, G0, P0)) : am_V X cells slots Q (sh ++ ex) ad (pc, L, st, I, G, P) := by
  refine am_ren (fun k => k) (sh1 := sh) (ad1 := ad) (fun i j _ _ e => e) (fun k s hk => am_at_app hk) (fun k hk => rfl) (fun k t n hk _ => (hfr k (am_at_lt hk)).1.symm) (fun k c j t hk _ _ => by rw [(hfr k (am_at_lt hk)).1]) (fun k t n hk _ => (hfr k (am_at_lt hk)).2.1.symm) (fun k c j hk _ => by rw [(hfr k (am_at_lt hk)).2.1]) (fun k c j t hk _ _ _ _ => by rw [(hfr k (am_at_lt hk)).2.2]) (fun k m j hk _ => by rw [(hfr k (am_at_lt hk)).2.2]) rfl rfl kk
/-- toString() of it: a String stays alone -/
theorem c_tos (hX : am_okz X ad) (hi : am_info X o cc nL ini ret d) (hm : am_mem X MC MS) {idx : Nat} (hl0 : am_lnk o idx mJ4_toString_0e30d.1 false = true) (hd : decode cc pc = .ok (.invokevirtual idx, 3)) (hd6 : 7 ≤ d) (hst : st = .ref sh.length :: rest) (hr8 : (rest.map fun v => v.category).sum ≤ 8) (hroom : cells + 2 ≤ MC ∧ slots + (T.length + 4) ≤ MS)
    (hB : cB sh I0 G0 P0 m T I G P) (hl : sh.length + 4 < 1000) (hR : lR sh.length sh P0) (hL : am_kqL sh.length L) (hrest : am_kqS sh.length rest)
    (kk : ∀ (ad1 : Nat → Nat) (f : Nat → Int32), (∀ j, j < sh.length ∨ 1000 ≤ j → ad1 j = ad j) → am_okz X ad1 → bT T f → am_V X (cells + 2) (slots + (T.length + 4)) Q (sh ++ [.inl 0, .inr (4, T.length)]) ad1 (pc + 3, L, .ref sh.length :: rest, am_row (am_row I0 sh.length (fun _ => 0)) (sh.length + 1) f, G0, am_up (am_z P0 sh.length .null) sh.length 0 (.ref (sh.length + 1)))) : am_V X cells slots Q (sh ++ [.inl 1, .inr (4, m)]) ad (pc, L, st, I, G, P) := by
  refine am_callVA hX hi hm (M := mJ4_toString_0e30d) (idx := idx) (d' := 6) (As := []) (rest := rest) mkJ4_toString_0e30d miJ4_toString_0e30d mvJ4_toString_0e30d hl0 hd hB.2.1.1 rfl rfl ⟨by omega, by show 19 + 1 + 30 * 6 ≤ 30 * d; omega, hr8⟩ hst hroom (by rw [len2]; exact am_kqL_le (by omega) hL) (by rw [len2]; exact am_kqS_le (by omega) hrest) (k_toStr hB.2.1 (by rw [len2]; omega) (by rw [len2]; exact hB.lR2 hR)) ?_
  rintro r9 sh9 ad2 I9 G9 P9 ⟨rfl, rfl, rfl, rfl, f, rfl, f1⟩ ha2 hX2
  rw [len2] at ha2 ⊢
  rw [List.append_assoc, List.append_assoc]
  refine ren2 (f := f) hX2 (fun k hk => ⟨?_, ?_, ?_⟩) (fun j hj => ?_) ?_ ?_ rfl hl hR hL hrest (fun ad1 h1 h2 => kk ad1 f (fun j hj => (h1 j hj).trans (ha2 j (by omega))) h2 f1)
  · rw [am_row_ne _ _ (by omega), am_up_rowb _ _ _ (by omega), am_z_ne _ _ (by omega)]; exact (hB.1 k hk).1
  · rw [am_z_ne _ _ (by omega)]; exact (hB.1 k hk).2.1
  · rw [am_up_rowb _ _ _ (by omega), am_z_ne _ _ (by omega)]; exact (hB.1 k hk).2.2
  · rw [am_row_ne _ _ (by omega)]
    by_cases e : j = 1
    · rw [e, am_up_self]
    · rw [am_up_k _ _ e, am_z_self]
  · rw [show sh.length + 3 = sh.length + 2 + 1 by omega, am_row_self]
  · rw [am_up_self]
end AMC7
