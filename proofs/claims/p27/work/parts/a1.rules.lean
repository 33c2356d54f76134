/-! cells by number where the list of cells is a variable: single steps, rows that are made, calls -/
def am_row (I : am_I) (N : Nat) (f : Nat → Int32) : am_I := fun b j => bif Nat.beq b N then f j else I b j
theorem am_row_self (I : am_I) (N : Nat) (f : Nat → Int32) : am_row I N f N = f := by
  funext j; simp [am_row]
theorem am_row_ne (I : am_I) {N b : Nat} (f : Nat → Int32) (h : b ≠ N) : am_row I N f b = I b := by
  have h9 := beq_eq_false_iff_ne.mpr h
  funext j; simp [am_row, am_beq, h9]
def r_up (f : Nat → Int32) (k : Nat) (x : Int32) : Nat → Int32 := fun j => if j = k then x else f j
theorem am_row_up (I : am_I) (N : Nat) (f : Nat → Int32) (k : Nat) (x : Int32) : am_up (am_row I N f) N k x = am_row I N (r_up f k x) := by
  funext b j
  by_cases hb : b = N
  · subst hb
    rw [am_up_row, am_row_self, am_row_self]; rfl
  · rw [am_up_rowb _ _ _ hb, am_row_ne _ _ hb, am_row_ne _ _ hb]
theorem am_row_upn (I : am_I) {N a : Nat} (f : Nat → Int32) (k : Nat) (x : Int32) (h : a ≠ N) : am_up (am_row I N f) a k x = am_row (am_up I a k x) N f := by
  funext b j
  by_cases hb : b = N
  · subst hb
    rw [am_up_rowb _ _ _ (Ne.symm h), am_row_self, am_row_self]
  · rw [am_row_ne _ _ hb]
    by_cases hc : b = a
    · subst hc
      rw [am_up_row, am_up_row, am_row_ne _ _ hb]
    · rw [am_up_rowb _ _ _ hc, am_up_rowb _ _ _ hc, am_row_ne _ _ hb]
theorem am_row_row (I : am_I) (N : Nat) (f g : Nat → Int32) : am_row (am_row I N f) N g = am_row I N g := by
  funext b j
  by_cases hb : b = N
  · subst hb; rw [am_row_self, am_row_self]
  · rw [am_row_ne _ _ hb, am_row_ne _ _ hb, am_row_ne _ _ hb]
/-- references below n, or to what stays -/
abbrev am_nk (n k : Nat) : Prop := k < n ∨ 1000 ≤ k
def am_kr (n : Nat) (v : Value) : Prop := match v with
  | .ref k => am_nk n k
  | _ => True
def am_kqL (n : Nat) : am_L → Prop
  | [] => 1 = 1
  | (_, .ref k) :: r => am_nk n k ∧ am_kqL n r
  | (_, _) :: r => am_kqL n r
def am_kqS (n : Nat) : List Value → Prop
  | [] => 1 = 1
  | .ref k :: r => am_nk n k ∧ am_kqS n r
  | _ :: r => am_kqS n r
theorem am_kqL_kr {n : Nat} {L : am_L} (h : am_kqL n L) : ∀ q ∈ L, am_kr n q.2 := by
  induction L with
  | nil => intro q hq; cases hq
  | cons x r ih =>
    obtain ⟨i, v⟩ := x
    intro q hq
    rcases List.mem_cons.mp hq with hq2 | hq2
    · subst hq2
      cases v <;> first | trivial | exact h.1
    · have h9 : am_kqL n r := by
        cases v <;> first | exact h | exact h.2
      exact ih h9 q hq2
theorem am_kqS_kr {n : Nat} {st : List Value} (h : am_kqS n st) : ∀ v ∈ st, am_kr n v := by
  induction st with
  | nil => intro q hq; cases hq
  | cons w r ih =>
    intro v hv
    rcases List.mem_cons.mp hv with hq2 | hq2
    · subst hq2
      cases v <;> first | trivial | exact h.1
    · have h9 : am_kqS n r := by
        cases w <;> first | exact h | exact h.2
      exact ih h9 v hq2
theorem am_kr_no {n : Nat} (hn : n < 1000) {v : Value} (h : am_kr n v) : am_noV n v = true := by
  cases v with
  | ref k =>
    have h2 : am_nk n k := h
    have : k ≠ n := fun e => by
      subst e
      rcases h2 with h2 | h2
      · exact absurd h2 (Nat.lt_irrefl _)
      · exact absurd hn (Nat.not_lt.mpr h2)
    simp [am_noV, am_beq, this]
  | _ => rfl
theorem am_kr_tv {n : Nat} {v : Value} {ad ad' : Nat → Nat} (h : am_kr n v) (ha : ∀ j, j < n ∨ 1000 ≤ j → ad' j = ad j) : am_tv ad' v = am_tv ad v := by
  cases v with
  | ref k => simp only [am_tv]; rw [ha k h]
  | _ => rfl
theorem am_kq_noL {n : Nat} (hn : n < 1000) {L : am_L} {st : List Value} (h1 : am_kqL n L) (h2 : am_kqS n st) : am_noL n L st = true := by
  simp only [am_noL, Bool.and_eq_true]
  exact ⟨List.all_eq_true.mpr fun q hq => am_kr_no hn (am_kqL_kr h1 q hq), List.all_eq_true.mpr fun v hv => am_kr_no hn (am_kqS_kr h2 v hv)⟩
theorem am_kq_map {n : Nat} {ad ad' : Nat → Nat} {L : am_L} {st : List Value} (h1 : am_kqL n L) (h2 : am_kqS n st) (ha : ∀ j, j < n ∨ 1000 ≤ j → ad' j = ad j) : L.map (am_tl ad') = L.map (am_tl ad) ∧ st.map (am_tv ad') = st.map (am_tv ad) :=
  ⟨List.map_congr_left fun q hq => by
    show (q.1, am_tv ad' q.2) = (q.1, am_tv ad q.2)
    rw [am_kr_tv (am_kqL_kr h1 q hq) ha], List.map_congr_left fun v hv => am_kr_tv (am_kqS_kr h2 v hv) ha⟩
/-- the references of the cells are such -/
def lR (n : Nat) (sh : List am_Sh) (P : am_P) : Prop := (∀ b c j : Nat, sh[b]? = some (.inl c) → j < (am_ks c).length → am_kr n (P b j)) ∧ ∀ b m j : Nat, sh[b]? = some (.inr (3, m)) → j < m → am_kr n (P b j)
theorem lR.noR {n : Nat} {sh : List am_Sh} {P : am_P} (h : lR n sh P) (hn : n < 1000) : am_noR n sh P := ⟨fun b c j h1 h2 => am_kr_no hn (h.1 b c j h1 h2), fun b m j h1 h2 => am_kr_no hn (h.2 b m j h1 h2)⟩
theorem am_kr.le {n m : Nat} (hnm : n ≤ m) {v : Value} (h : am_kr n v) : am_kr m v := by
  cases v with
  | ref k => exact h.imp (fun z => Nat.lt_of_lt_of_le z hnm) id
  | _ => trivial
theorem lR.le {n m : Nat} {sh : List am_Sh} {P : am_P} (h : lR n sh P) (hnm : n ≤ m) : lR m sh P := ⟨fun b c j h1 h2 => (h.1 b c j h1 h2).le hnm, fun b k j h1 h2 => (h.2 b k j h1 h2).le hnm⟩
theorem am_snoc_at {sh : List am_Sh} {x s : am_Sh} {b : Nat} (h : (sh ++ [x])[b]? = some s) : sh[b]? = some s ∨ (b = sh.length ∧ s = x) := by
  by_cases hb : b < sh.length
  · rw [List.getElem?_append_left hb] at h; exact Or.inl h
  · rw [List.getElem?_append_right (by omega)] at h
    have hz : b - sh.length < 1 := (List.getElem?_eq_some_iff.mp h).1
    rw [show b - sh.length = 0 by omega] at h
    cases h
    exact Or.inr ⟨by omega, rfl⟩
theorem lR.row {n : Nat} {sh : List am_Sh} {P : am_P} (h : lR n sh P) {t m : Nat} (ht : t ≠ 3) : lR n (sh ++ [.inr (t, m)]) P := by
  refine ⟨fun b c j h1 h2 => ?_, fun b k j h1 h2 => ?_⟩
  · rcases am_snoc_at h1 with h1 | ⟨-, h1⟩
    · exact h.1 b c j h1 h2
    · cases h1
  · rcases am_snoc_at h1 with h1 | ⟨-, h1⟩
    · exact h.2 b k j h1 h2
    · cases h1; exact absurd rfl ht
theorem am_at_app {sh ex : List am_Sh} {b : Nat} {s : am_Sh} (h : sh[b]? = some s) : (sh ++ ex)[b]? = some s := by
  rw [List.getElem?_append_left (List.getElem?_eq_some_iff.mp h).1]; exact h
theorem am_at_end {sh : List am_Sh} {s : am_Sh} : (sh ++ [s])[sh.length]? = some s := by
  rw [List.getElem?_append_right (Nat.le_refl _), Nat.sub_self]; rfl
theorem am_at_lt {sh : List am_Sh} {b : Nat} {s : am_Sh} (h : sh[b]? = some s) : b < sh.length := (List.getElem?_eq_some_iff.mp h).1
/-- the cells, said otherwise -/
theorem am_ws_eq {cys : am_C3} {ad ad' : Nat → Nat} {sh : List am_Sh} {I I' : am_I} {G G' : am_G} {P P' : am_P} (hI : ∀ b, b < sh.length → I' b = I b) (hG : ∀ b, b < sh.length → G' b = G b) (hP : ∀ b, b < sh.length → P' b = P b) (ha : ∀ b, b < sh.length → ad' b = ad b)
    (h1 : ∀ b c k t : Nat, sh[b]? = some (.inl c) → (am_ks c)[k]? = some t → am_tv ad' (P b k) = am_tv ad (P b k)) (h3 : ∀ b m j : Nat, sh[b]? = some (.inr (3, m)) → j < m → am_tv ad' (P b j) = am_tv ad (P b j)) : am_ws cys ad' sh I' G' P' = am_ws cys ad sh I G P := by
  rw [← am_ws_same ha h1 h3]
  apply List.ext_getElem?
  intro j
  simp only [am_ws, List.getElem?_mapIdx]
  cases hs : sh[j]? with
  | none => rfl
  | some x =>
    have hj := am_at_lt hs
    simp only [Option.map_some]
    rw [hI j hj, hG j hj, hP j hj]
theorem am_at_lt2 {l : List Nat} {k t : Nat} (h : l[k]? = some t) : k < l.length := (List.getElem?_eq_some_iff.mp h).1
theorem am_ws_kp {cys : am_C3} {n : Nat} {ad ad' : Nat → Nat} {sh : List am_Sh} {I I' : am_I} {G : am_G} {P : am_P} (hI : ∀ b, b < sh.length → I' b = I b) (hl : sh.length ≤ n) (hR : lR n sh P) (ha : ∀ j, j < n ∨ 1000 ≤ j → ad' j = ad j) : am_ws cys ad' sh I' G P = am_ws cys ad sh I G P :=
  am_ws_eq hI (fun _ _ => rfl) (fun _ _ => rfl) (fun b hb => ha b (Or.inl (by omega))) (fun b c k t hs hk => am_kr_tv (hR.1 b c k hs (am_at_lt2 hk)) ha) (fun b m j hs hj => am_kr_tv (hR.2 b m j hs hj) ha)
theorem am_ws_arrT {t N : Nat} {cys : am_C3} {ad : Nat → Nat} {sh : List am_Sh} {I : am_I} {G : am_G} {P : am_P} (ht : t = 1 ∨ t = 4) : am_ws cys ad (sh ++ [.inr (t, N)]) (am_z I sh.length 0) (am_z G sh.length 0) (am_z P sh.length .null) = am_ws cys ad (sh ++ [.inr (t, N)]) (am_row I sh.length (fun _ => 0)) G P := by
  rw [am_ws_snoc, am_ws_snoc]
  congr 1
  · apply List.ext_getElem?
    intro j
    simp only [am_ws, List.getElem?_mapIdx]
    cases hs : sh[j]? with
    | none => rfl
    | some x =>
      have hj : j ≠ sh.length := Nat.ne_of_lt (List.getElem?_eq_some_iff.mp hs).1
      simp only [Option.map_some]
      rw [am_z_ne _ _ hj, am_z_ne _ _ hj, am_z_ne _ _ hj, am_row_ne _ _ hj]
  · rcases ht with rfl | rfl <;> rfl
section AMS1
variable {X : am_X} {o : Nat} {cc : ByteArray} {nL : Nat} {ini : Bool} {ret : Option FieldType} {d : Nat}
variable {cells slots mc ms MC MS : Nat} {Q : State → Prop} {sh : List am_Sh} {ad : Nat → Nat} {pc : Nat} {L : am_L} {st : List Value} {I : am_I} {G : am_G} {P : am_P}
theorem am_iaS (hX : am_okz X ad) (hi : am_info X o cc nL ini ret d) {q m : Nat} {j v : Int32} (hs : sh[q]? = some (.inr (0, m))) (hj : vp_in j m) (hv : I q j.toNatClampNeg = v) (hd : decode cc pc = .ok (.iaload, 1)) (k : am_V X cells slots Q sh ad (pc + 1, L, .int v :: st, I, G, P)) : am_V X cells slots Q sh ad (pc, L, .int j :: .ref q :: st, I, G, P) := by
  subst hv
  exact am_blk pc [(.iaload, 1, 0, 0, .null)] _ (vp_in j m ∧ True) hX hi (by simp [am_at, am_ck, hd]) (by simp [am_run, am_st, hs]) ⟨hj, trivial⟩ k
theorem am_zaS (hX : am_okz X ad) (hi : am_info X o cc nL ini ret d) {q m : Nat} {j v : Int32} (hs : sh[q]? = some (.inr (1, m))) (hj : vp_in j m) (hv : I q j.toNatClampNeg = v) (hd : decode cc pc = .ok (.baload, 1)) (k : am_V X cells slots Q sh ad (pc + 1, L, .int v :: st, I, G, P)) : am_V X cells slots Q sh ad (pc, L, .int j :: .ref q :: st, I, G, P) := by
  subst hv
  exact am_blk pc [(.baload, 1, 0, 0, .null)] _ (vp_in j m ∧ True) hX hi (by simp [am_at, am_ck, hd]) (by simp [am_run, am_st, hs]) ⟨hj, trivial⟩ k
theorem am_baS (hX : am_okz X ad) (hi : am_info X o cc nL ini ret d) {q m : Nat} {j v : Int32} (hs : sh[q]? = some (.inr (4, m))) (hj : vp_in j m) (hv : I q j.toNatClampNeg = v) (hd : decode cc pc = .ok (.baload, 1)) (k : am_V X cells slots Q sh ad (pc + 1, L, .int v :: st, I, G, P)) : am_V X cells slots Q sh ad (pc, L, .int j :: .ref q :: st, I, G, P) := by
  subst hv
  exact am_blk pc [(.baload, 1, 0, 0, .null)] _ (vp_in j m ∧ True) hX hi (by simp [am_at, am_ck, hd]) (by simp [am_run, am_st, hs]) ⟨hj, trivial⟩ k
theorem am_iasS (hX : am_okz X ad) (hi : am_info X o cc nL ini ret d) {q m : Nat} {j v : Int32} {I' : am_I} (hs : sh[q]? = some (.inr (0, m))) (hj : vp_in j m) (hv : am_up I q j.toNatClampNeg v = I') (hd : decode cc pc = .ok (.iastore, 1)) (k : am_V X cells slots Q sh ad (pc + 1, L, st, I', G, P)) : am_V X cells slots Q sh ad (pc, L, .int v :: .int j :: .ref q :: st, I, G, P) := by
  subst hv
  exact am_blk pc [(.iastore, 1, 0, 0, .null)] _ (vp_in j m ∧ True) hX hi (by simp [am_at, am_ck, hd]) (by simp [am_run, am_st, hs]) ⟨hj, trivial⟩ k
theorem am_zasS (hX : am_okz X ad) (hi : am_info X o cc nL ini ret d) {q m : Nat} {j v : Int32} {I' : am_I} (hs : sh[q]? = some (.inr (1, m))) (hj : vp_in j m) (hz : v = 0 ∨ v = 1) (hv : am_up I q j.toNatClampNeg v = I') (hd : decode cc pc = .ok (.bastore, 1)) (k : am_V X cells slots Q sh ad (pc + 1, L, st, I', G, P)) : am_V X cells slots Q sh ad (pc, L, .int v :: .int j :: .ref q :: st, I, G, P) := by
  subst hv
  exact am_blk pc [(.bastore, 1, 0, 0, .null)] _ ((vp_in j m ∧ (v = 0 ∨ v = 1)) ∧ True) hX hi (by simp [am_at, am_ck, hd]) (by simp [am_run, am_st, hs]) ⟨⟨hj, hz⟩, trivial⟩ k
theorem am_basS (hX : am_okz X ad) (hi : am_info X o cc nL ini ret d) {q m : Nat} {j v : Int32} {I' : am_I} (hs : sh[q]? = some (.inr (4, m))) (hj : vp_in j m) (hz : v.toInt8.toInt32 = v) (hv : am_up I q j.toNatClampNeg v = I') (hd : decode cc pc = .ok (.bastore, 1)) (k : am_V X cells slots Q sh ad (pc + 1, L, st, I', G, P)) : am_V X cells slots Q sh ad (pc, L, .int v :: .int j :: .ref q :: st, I, G, P) := by
  subst hv
  exact am_blk pc [(.bastore, 1, 0, 0, .null)] _ ((vp_in j m ∧ v.toInt8.toInt32 = v) ∧ True) hX hi (by simp [am_at, am_ck, hd]) (by simp [am_run, am_st, hs]) ⟨⟨hj, hz⟩, trivial⟩ k
theorem am_lenS (hX : am_okz X ad) (hi : am_info X o cc nL ini ret d) {q m t : Nat} (hs : sh[q]? = some (.inr (t, m))) (hd : decode cc pc = .ok (.arraylength, 1)) (k : am_V X cells slots Q sh ad (pc + 1, L, .int (Int32.ofNat m) :: st, I, G, P)) : am_V X cells slots Q sh ad (pc, L, .ref q :: st, I, G, P) :=
  am_blk pc [(.arraylength, 1, 0, 0, .null)] _ True hX hi (by simp [am_at, am_ck, hd]) (by simp [am_run, am_st, hs]) trivial k
theorem am_aaS (hX : am_okz X ad) (hi : am_info X o cc nL ini ret d) {q m z : Nat} {j : Int32} (hs : sh[q]? = some (.inr (3, m))) (hj : vp_in j m) (hv : P q j.toNatClampNeg = .ref z) (hd : decode cc pc = .ok (.aaload, 1)) (k : am_V X cells slots Q sh ad (pc + 1, L, .ref z :: st, I, G, P)) : am_V X cells slots Q sh ad (pc, L, .int j :: .ref q :: st, I, G, P) :=
  am_blk pc [(.aaload, 1, 0, 0, .null)] _ (vp_in j m ∧ True) hX hi (by simp [am_at, am_ck, hd]) (by simp [am_run, am_st, hs, hv]) ⟨hj, trivial⟩ k
theorem am_gfI (hX : am_okz X ad) (hi : am_info X o cc nL ini ret d) {q c b idx : Nat} {v : Int32} (hs : sh[q]? = some (.inl c)) (hk : (am_ks c)[b]? = some 0) (hf : (am_flk o idx c b false || am_flk o idx c b true) = true) (hv : I q b = v) (hd : decode cc pc = .ok (.getfield idx, 3)) (k : am_V X cells slots Q sh ad (pc + 3, L, .int v :: st, I, G, P)) : am_V X cells slots Q sh ad (pc, L, .ref q :: st, I, G, P) := by
  subst hv
  exact am_blk pc [(.getfield idx, 3, c, b, .null)] _ True hX hi (by simp only [am_at, am_ck, hd, hf]; simp) (by simp [am_run, am_st, hs, hk, am_beq]) trivial k
theorem am_gfB (hX : am_okz X ad) (hi : am_info X o cc nL ini ret d) {q c b idx : Nat} {v : Int32} (hs : sh[q]? = some (.inl c)) (hk : (am_ks c)[b]? = some 3) (hf : (am_flk o idx c b false || am_flk o idx c b true) = true) (hv : I q b = v) (hd : decode cc pc = .ok (.getfield idx, 3)) (k : am_V X cells slots Q sh ad (pc + 3, L, .int v :: st, I, G, P)) : am_V X cells slots Q sh ad (pc, L, .ref q :: st, I, G, P) := by
  subst hv
  exact am_blk pc [(.getfield idx, 3, c, b, .null)] _ True hX hi (by simp only [am_at, am_ck, hd, hf]; simp) (by simp [am_run, am_st, hs, hk, am_beq]) trivial k
theorem am_gfP (hX : am_okz X ad) (hi : am_info X o cc nL ini ret d) {q c b idx z : Nat} (hs : sh[q]? = some (.inl c)) (hk : (am_ks c)[b]? = some 2) (hf : (am_flk o idx c b false || am_flk o idx c b true) = true) (hv : P q b = .ref z) (hd : decode cc pc = .ok (.getfield idx, 3)) (k : am_V X cells slots Q sh ad (pc + 3, L, .ref z :: st, I, G, P)) : am_V X cells slots Q sh ad (pc, L, .ref q :: st, I, G, P) :=
  am_blk pc [(.getfield idx, 3, c, b, .null)] _ True hX hi (by simp only [am_at, am_ck, hd, hf]; simp) (by simp [am_run, am_st, hs, hk, am_beq, hv]) trivial k
theorem am_pfI (hX : am_okz X ad) (hi : am_info X o cc nL ini ret d) {q c b idx : Nat} {x : Int32} {I' : am_I} (hs : sh[q]? = some (.inl c)) (hk : (am_ks c)[b]? = some 0) (hf : am_pfk o idx c b ini = true) (hv : am_up I q b x = I') (hd : decode cc pc = .ok (.putfield idx, 3)) (k : am_V X cells slots Q sh ad (pc + 3, L, st, I', G, P)) : am_V X cells slots Q sh ad (pc, L, .int x :: .ref q :: st, I, G, P) := by
  subst hv
  exact am_blk pc [(.putfield idx, 3, c, b, .null)] _ True hX hi (by simp only [am_at, am_ck, hd, hf]; simp) (by simp [am_run, am_st, hs, hk, am_beq]) trivial k
theorem am_pfB (hX : am_okz X ad) (hi : am_info X o cc nL ini ret d) {q c b idx : Nat} {x : Int32} {I' : am_I} (hs : sh[q]? = some (.inl c)) (hk : (am_ks c)[b]? = some 3) (hf : am_pfk o idx c b ini = true) (hx : x = 0 ∨ x = 1) (hv : am_up I q b x = I') (hd : decode cc pc = .ok (.putfield idx, 3)) (k : am_V X cells slots Q sh ad (pc + 3, L, st, I', G, P)) : am_V X cells slots Q sh ad (pc, L, .int x :: .ref q :: st, I, G, P) := by
  subst hv
  exact am_blk pc [(.putfield idx, 3, c, b, .null)] _ ((x = 0 ∨ x = 1) ∧ True) hX hi (by simp only [am_at, am_ck, hd, hf]; simp) (by simp [am_run, am_st, hs, hk, am_beq]) ⟨hx, trivial⟩ k
theorem am_pfP (hX : am_okz X ad) (hi : am_info X o cc nL ini ret d) {q c b idx z : Nat} {P' : am_P} (hs : sh[q]? = some (.inl c)) (hk : (am_ks c)[b]? = some 2) (hf : am_pfk o idx c b ini = true) (hv : am_up P q b (.ref z) = P') (hd : decode cc pc = .ok (.putfield idx, 3)) (k : am_V X cells slots Q sh ad (pc + 3, L, st, I, G, P')) : am_V X cells slots Q sh ad (pc, L, .ref z :: .ref q :: st, I, G, P) := by
  subst hv
  exact am_blk pc [(.putfield idx, 3, c, b, .null)] _ True hX hi (by simp only [am_at, am_ck, hd, hf]; simp) (by simp [am_run, am_st, hs, hk, am_beq]) trivial k
/-- a row of ints is made -/
theorem am_newS (hX : am_okz X ad) (hi : am_info X o cc nL ini ret d) (hm : am_mem X mc ms) {N : Nat} {n : Int32} (hc1 : Cond.arrayClass (newarray.typeOf .int) ∈ lw_tbl) (hd : decode cc pc = .ok (.newarray .int, 2)) (hn : ¬ n < 0) (hN : n.toNatClampNeg = N) (hsz : N ≤ 1000000) (hroom : cells + 1 ≤ mc ∧ slots + N ≤ ms)
    (hl : sh.length < 1000) (hR : lR sh.length sh P) (hL : am_kqL sh.length L) (hS : am_kqS sh.length st)
    (k : ∀ ad' : Nat → Nat, (∀ j, j < sh.length ∨ 1000 ≤ j → ad' j = ad j) → am_okz X ad' → am_V X (cells + 1) (slots + N) Q (sh ++ [.inr (0, N)]) ad' (pc + 2, L, .ref sh.length :: st, am_row I sh.length (fun _ => 0), G, P)) : am_V X cells slots Q sh ad (pc, L, .int n :: st, I, G, P) :=
  am_newaR hX hi hm (t := 0) (at' := .int) (Or.inl ⟨rfl, rfl⟩) hc1 hd hn hN hsz hroom (hR.noR hl) (am_kq_noL hl hL hS) (fun ad' h => am_V_ws (fun cys => am_ws_arr) (k ad' (fun j hj => h j (by omega)) (hX.adr (fun j hj => h j (by omega)))))
/-- a row of booleans is made -/
theorem am_newZ (hX : am_okz X ad) (hi : am_info X o cc nL ini ret d) (hm : am_mem X mc ms) {N : Nat} {n : Int32} (hc1 : Cond.arrayClass (newarray.typeOf .boolean) ∈ lw_tbl) (hd : decode cc pc = .ok (.newarray .boolean, 2)) (hn : ¬ n < 0) (hN : n.toNatClampNeg = N) (hsz : N ≤ 1000000) (hroom : cells + 1 ≤ mc ∧ slots + N ≤ ms)
    (hl : sh.length < 1000) (hR : lR sh.length sh P) (hL : am_kqL sh.length L) (hS : am_kqS sh.length st)
    (k : ∀ ad' : Nat → Nat, (∀ j, j < sh.length ∨ 1000 ≤ j → ad' j = ad j) → am_okz X ad' → am_V X (cells + 1) (slots + N) Q (sh ++ [.inr (1, N)]) ad' (pc + 2, L, .ref sh.length :: st, am_row I sh.length (fun _ => 0), G, P)) : am_V X cells slots Q sh ad (pc, L, .int n :: st, I, G, P) :=
  am_newaR hX hi hm (t := 1) (at' := .boolean) (Or.inr (Or.inl ⟨rfl, rfl⟩)) hc1 hd hn hN hsz hroom (hR.noR hl) (am_kq_noL hl hL hS) (fun ad' h => am_V_ws (fun cys => am_ws_arrT (by decide)) (k ad' (fun j hj => h j (by omega)) (hX.adr (fun j hj => h j (by omega)))))
/-- the table of gradients -/
theorem am_ggs (hX : am_okz X ad) (hi : am_info X o cc nL ini ret d) {idx : Nat} (hl : Cond.fieldLink (am_own o) idx "MarbledPaperLaw$Sim" "GRADIENTS" "[[I" ∈ lw_tbl) (hd : decode cc pc = .ok (.getstatic idx, 3)) (k : am_V X cells slots Q sh ad (pc + 3, L, .ref 1006 :: st, I, G, P)) : am_V X cells slots Q sh ad (pc, L, st, I, G, P) := by
  obtain ⟨p, l, e, R, s, m, args, below, meth, c, A, D, cys, o', cc', nL', ini'⟩ := X
  obtain ⟨rfl, rfl, rfl, rfl, -, -, -⟩ := hi
  obtain ⟨⟨hx, hb, hml, hown, hts, -⟩, hZ⟩ := hX
  intro q1 q2 H locs ls hP hD hS hlo
  exact va_gets hx hb hZ.2.2.2.1 hS hown (hts _ (am_good hl rfl)) (fun x h => h) hd (k q1 q2 H locs ls hP hD hS hlo)
theorem va_tA {p : Program} {l : Launch} {e : Env} {R : Room} {s : State} {m : MethodId} {args : Array Value} {below : List Frame} {meth : Method} {c : Code} {H : Heap} {locs : List Loc} {cells slots : Nat} {Q : State → Prop} {cc : ByteArray} {pc : Nat} {ls : Array Slot} {rest : List Value} {A : Nat → Prop} (hexec : p.tables.exec = Jvm.exec) (hb : c.code = cc) {C : FieldType} {t N : Nat} {f : Nat → Value} (hT : va_T (.array C) t N f A s s.heap) (hS : va_S A s.heap H locs) {j : Int32} (hj : vp_in j N) {v : Nat} (hv : f j.toNatClampNeg = .ref v) (hdg : decode cc pc = .ok (.aaload, 1))
    (k : W p l e R s m args below meth c H locs cells slots Q (F0 m (pc + 1) ls (.ref v :: rest))) : W p l e R s m args below meth c H locs cells slots Q (F0 m pc ls (.int j :: .ref t :: rest)) := by
  obtain ⟨cell, g1, g2, g3, g4, g5, g6, g7⟩ := hT.kept hS.2.1
  have hlt : j.toNatClampNeg < N := Nat.not_le.mp fun q => hj (Or.inr q)
  have h0 : ¬ j < 0 := fun q => hj (Or.inl q)
  exact W.aald (v := .ref v) (ty := .array C) hexec hb g1 g2 rfl g3 (fun q => q.elim h0 (fun z => by omega)) (by rw [g6 _ hlt, hv]) rfl rfl hdg k
theorem am_gga (hX : am_okz X ad) (hi : am_info X o cc nL ini ret d) {j : Int32} (hj : vp_in j 8) (hd : decode cc pc = .ok (.aaload, 1)) (k : am_V X cells slots Q sh ad (pc + 1, L, .ref (1010 + j.toNatClampNeg) :: st, I, G, P)) : am_V X cells slots Q sh ad (pc, L, .int j :: .ref 1006 :: st, I, G, P) := by
  obtain ⟨p, l, e, R, s, m, args, below, meth, c, A, D, cys, o', cc', nL', ini'⟩ := X
  obtain ⟨rfl, rfl, rfl, rfl, -, -, -⟩ := hi
  obtain ⟨⟨hx, hb, hml, hown, hts, -⟩, hZ⟩ := hX
  intro q1 q2 H locs ls hP hD hS hlo
  exact va_tA hx hb hZ.2.2.2.2.1 hS hj rfl hd (k q1 q2 H locs ls hP hD hS hlo)
theorem am_ggi (hX : am_okz X ad) (hi : am_info X o cc nL ini ret d) {i : Nat} {j : Int32} (h8 : i < 8) (hj : vp_in j 2) (hd : decode cc pc = .ok (.iaload, 1)) (k : am_V X cells slots Q sh ad (pc + 1, L, .int ((am_gT.getD i []).getD j.toNatClampNeg 0) :: st, I, G, P)) : am_V X cells slots Q sh ad (pc, L, .int j :: .ref (1010 + i) :: st, I, G, P) := by
  obtain ⟨p, l, e, R, s, m, args, below, meth, c, A, D, cys, o', cc', nL', ini'⟩ := X
  obtain ⟨rfl, rfl, rfl, rfl, -, -, -⟩ := hi
  obtain ⟨⟨hx, hb, hml, hown, hts, -⟩, hZ⟩ := hX
  have hq : am_gT[i]? = some (am_gT.getD i []) := by
    rw [List.getD_eq_getElem?_getD, List.getElem?_eq_getElem (show i < am_gT.length from h8)]; rfl
  intro q1 q2 H locs ls hP hD hS hlo
  exact va_ti hx hb (hZ.2.2.2.2.2.1 i _ hq) hS hj rfl hd (k q1 q2 H locs ls hP hD hS hlo)
/-- cells at the end are forgotten -/
theorem am_dropL {ex : List am_Sh} {S : am_S} (k : am_V X cells slots Q sh ad S) : am_V X cells slots Q (sh ++ ex) ad S := by
  obtain ⟨p, l, e, R, s, m, args, below, meth, c, A, D, cys, o', cc', nL', ini'⟩ := X
  obtain ⟨pc, L, st, I, G, P⟩ := S
  intro h1 h2 H locs ls hP hD hS hl
  have hq : ∀ (k : Nat) (q : Nat × va_E), (am_ws cys ad sh I G P)[k]? = some q → (am_ws cys ad (sh ++ ex) I G P)[k]? = some q := fun k q h => by
    have hk : k < sh.length := by
      have := (List.getElem?_eq_some_iff.mp h).1
      simpa [am_ws] using this
    simp only [am_ws, List.getElem?_mapIdx, List.getElem?_append_left hk] at h ⊢
    exact h
  exact k h1 h2 H locs ls (fun k q h => hP k q (hq k q h)) ⟨fun i j p q hi hj => hD.1 i j p q (hq i p hi) (hq j q hj), fun k q h => hD.2 k q (hq k q h)⟩ hS hl
/-- the cells said otherwise, under other addresses -/
theorem am_V_kp {n : Nat} {ad' : Nat → Nat} {I' : am_I} (hI : ∀ b, b < sh.length → I' b = I b) (hl : sh.length ≤ n) (hR : lR n sh P) (hL : am_kqL n L) (hS : am_kqS n st) (ha : ∀ j, j < n ∨ 1000 ≤ j → ad' j = ad j) (k : am_V X cells slots Q sh ad (pc, L, st, I, G, P)) : am_V X cells slots Q sh ad' (pc, L, st, I', G, P) := by
  obtain ⟨p, l, e, R, s, m, args, below, meth, c, A, D, cys, o', cc', nL', ini'⟩ := X
  intro h1 h2 H locs ls hP hD hS2 hlo
  obtain ⟨e1, e2⟩ := am_kq_map hL hS ha
  rw [am_ws_kp hI hl hR ha] at hP hD
  rw [e1] at hlo
  rw [e2]
  exact k h1 h2 H locs ls hP hD hS2 hlo
end AMS1
