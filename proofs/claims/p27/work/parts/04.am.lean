/-! the abstract machine: cells by numbers, contents as functions; blocks of instructions at once -/
abbrev am_I : Type := Nat → Nat → Int32
abbrev am_G : Type := Nat → Nat → Int64
abbrev am_P : Type := Nat → Nat → Value
abbrev am_Sh : Type := Nat ⊕ (Nat × Nat)
abbrev am_L : Type := List (Nat × Value)
abbrev am_S : Type := Nat × am_L × List Value × am_I × am_G × am_P
abbrev am_C3 : Type := ClassId × ClassId × ClassId × ClassId × ClassId
theorem am_beq (a b : Nat) : Nat.beq a b = (a == b) := by
  cases h : Nat.beq a b with
  | true => rw [Nat.eq_of_beq_eq_true h]; simp
  | false => exact ((beq_eq_false_iff_ne).mpr (Nat.ne_of_beq_eq_false h)).symm
def am_up {α : Type} (f : Nat → Nat → α) (a k : Nat) (x : α) : Nat → Nat → α := fun b j => bif Nat.beq b a && Nat.beq j k then x else f b j
theorem am_up_self {α : Type} (f : Nat → Nat → α) (a k : Nat) (x : α) : am_up f a k x a k = x := by simp [am_up]
theorem am_up_a {α : Type} (f : Nat → Nat → α) {a b : Nat} (k j : Nat) (x : α) (h : b ≠ a) : am_up f a k x b j = f b j := by
  have h9 := beq_eq_false_iff_ne.mpr h
  simp [am_up, am_beq, h9]
theorem am_up_k {α : Type} (f : Nat → Nat → α) {a : Nat} {k j : Nat} (x : α) (h : j ≠ k) : am_up f a k x a j = f a j := by
  have h9 := beq_eq_false_iff_ne.mpr h
  simp [am_up, am_beq, h9]
theorem am_up_row {α : Type} (f : Nat → Nat → α) {a : Nat} {k : Nat} (x : α) : am_up f a k x a = fun j => if j = k then x else f a j := by
  funext j
  by_cases h : j = k
  · subst h; simp [am_up]
  · have h9 := beq_eq_false_iff_ne.mpr h
    simp [am_up, am_beq, h, h9]
theorem am_up_rowb {α : Type} (f : Nat → Nat → α) {a b : Nat} (k : Nat) (x : α) (h : b ≠ a) : am_up f a k x b = f b := by
  funext j
  exact am_up_a f k j x h
def am_tv (ad : Nat → Nat) (v : Value) : Value := match v with
  | .ref k => .ref (ad k)
  | w => w
def am_tl (ad : Nat → Nat) (q : Nat × Value) : Nat × Value := (q.1, am_tv ad q.2)
theorem am_tv_cat (ad : Nat → Nat) (v : Value) : (am_tv ad v).category = v.category := by cases v <;> rfl
def am_fv (ad : Nat → Nat) (t : Nat) (x : Int32) (y : Int64) (w : Value) : Value := match t with
  | 0 => .int x
  | 1 => .long y
  | 3 => .int x
  | _ => am_tv ad w
def am_fs (ad : Nat → Nat) (ks : List Nat) (i : Nat → Int32) (g : Nat → Int64) (w : Nat → Value) : List Value := ks.mapIdx (fun k t => am_fv ad t (i k) (g k) (w k))
def am_ov (ad : Nat → Nat) (v : Value) : Option Nat := match v with
  | .ref k => some (ad k)
  | _ => none
def am_rw (ad : Nat → Nat) (n : Nat) (w : Nat → Value) : Nat → Option Nat := fun j => bif Nat.blt j n then am_ov ad (w j) else none
def am_E (cys : am_C3) (ad : Nat → Nat) (s : am_Sh) (i : Nat → Int32) (g : Nat → Int64) (w : Nat → Value) : va_E := match s with
  | .inl c => .inr (c, am_fs ad (am_ks c) i g w)
  | .inr (0, n) => .inl (cys.1, n, .inl i)
  | .inr (1, n) => .inl (cys.2.1, n, .inl i)
  | .inr (3, n) => .inl (cys.2.2.2.1, n, .inr (.inr (.inr (.inr (am_rw ad n w)))))
  | .inr (4, n) => .inl (cys.2.2.2.2, n, .inl i)
  | .inr (_, n) => .inl (cys.2.2.1, n, .inr (.inl g))
def am_ws (cys : am_C3) (ad : Nat → Nat) (sh : List am_Sh) (I : am_I) (G : am_G) (P : am_P) : va_W := sh.mapIdx (fun a s => (ad a, am_E cys ad s (I a) (G a) (P a)))
theorem am_ws_at {cys : am_C3} {ad : Nat → Nat} {sh : List am_Sh} {I : am_I} {G : am_G} {P : am_P} {a : Nat} {s : am_Sh} (h : sh[a]? = some s) : (am_ws cys ad sh I G P)[a]? = some (ad a, am_E cys ad s (I a) (G a) (P a)) := by
  simp [am_ws, List.getElem?_mapIdx, h]
theorem am_fs_at {ad : Nat → Nat} {ks : List Nat} {i : Nat → Int32} {g : Nat → Int64} {w : Nat → Value} {k t : Nat} (h : ks[k]? = some t) : (am_fs ad ks i g w)[k]? = some (am_fv ad t (i k) (g k) (w k)) := by
  simp [am_fs, List.getElem?_mapIdx, h]
theorem am_fs_len (ad : Nat → Nat) (ks : List Nat) (i : Nat → Int32) (g : Nat → Int64) (w : Nat → Value) : (am_fs ad ks i g w).length = ks.length := by simp [am_fs]
theorem am_ws_set {cys : am_C3} {ad : Nat → Nat} {sh : List am_Sh} {I I' : am_I} {G G' : am_G} {P P' : am_P} {a : Nat} {s : am_Sh} {e : va_E} (h : sh[a]? = some s) (ho : ∀ b, b ≠ a → I' b = I b ∧ G' b = G b ∧ P' b = P b) (he : am_E cys ad s (I' a) (G' a) (P' a) = e) :
    (am_ws cys ad sh I G P).set a (ad a, e) = am_ws cys ad sh I' G' P' := by
  have hl : a < sh.length := (List.getElem?_eq_some_iff.mp h).1
  apply List.ext_getElem?
  intro j
  by_cases hj : j = a
  · subst hj
    rw [List.getElem?_set_self (by simpa [am_ws] using hl), am_ws_at h, he]
  · rw [List.getElem?_set_ne (Ne.symm hj)]
    obtain ⟨h1, h2, h3⟩ := ho j hj
    simp only [am_ws, List.getElem?_mapIdx, h1, h2, h3]
theorem am_fs_set {ad : Nat → Nat} {ks : List Nat} {i i' : Nat → Int32} {g g' : Nat → Int64} {w w' : Nat → Value} {k t : Nat} {v : Value} (h : ks[k]? = some t) (ho : ∀ j, j ≠ k → i' j = i j ∧ g' j = g j ∧ w' j = w j) (hv : am_fv ad t (i' k) (g' k) (w' k) = v) :
    (am_fs ad ks i g w).set k v = am_fs ad ks i' g' w' := by
  have hl : k < ks.length := (List.getElem?_eq_some_iff.mp h).1
  apply List.ext_getElem?
  intro j
  by_cases hj : j = k
  · subst hj
    rw [List.getElem?_set_self (by simpa [am_fs] using hl), am_fs_at h, hv]
  · rw [List.getElem?_set_ne (Ne.symm hj)]
    obtain ⟨h1, h2, h3⟩ := ho j hj
    simp only [am_fs, List.getElem?_mapIdx, h1, h2, h3]
/-! locals -/
def am_lk (n : Nat) : am_L → Option Value
  | [] => none
  | (k, v) :: r => bif Nat.beq n k then some v else am_lk n r
theorem am_lk_mem {n : Nat} {v : Value} : ∀ {L : am_L}, am_lk n L = some v → (n, v) ∈ L
  | [], h => by simp [am_lk] at h
  | (k, w) :: r, h => by
    unfold am_lk at h
    cases hb : Nat.beq n k with
    | true =>
      rw [hb] at h
      have hk : n = k := Nat.eq_of_beq_eq_true hb
      subst hk
      cases h
      exact List.mem_cons_self
    | false =>
      rw [hb] at h
      exact List.mem_cons_of_mem _ (am_lk_mem h)
def am_srt (i : Nat) (v : Value) : am_L → am_L
  | [] => [(i, v)]
  | (j, w) :: r => bif Nat.blt i j then (i, v) :: (j, w) :: r else (j, w) :: am_srt i v r
theorem am_srt_mem {i : Nat} {v : Value} {q : Nat × Value} : ∀ {L : am_L}, q ∈ am_srt i v L → q ∈ (i, v) :: L
  | [], h => h
  | (j, w) :: r, h => by
    unfold am_srt at h
    cases hb : Nat.blt i j with
    | true => rw [hb] at h; exact h
    | false =>
      rw [hb] at h
      rcases List.mem_cons.mp h with h | h
      · exact List.mem_cons_of_mem _ (by rw [h]; exact List.mem_cons_self)
      · rcases List.mem_cons.mp (am_srt_mem h) with h | h
        · rw [h]; exact List.mem_cons_self
        · exact List.mem_cons_of_mem _ (List.mem_cons_of_mem _ h)
def am_cat2 (v : Value) : Bool := match v with
  | .long _ => true
  | .double _ => true
  | _ => false
theorem am_cat2_eq (v : Value) : am_cat2 v = (v.category == 2) := by cases v <;> rfl
def am_kl1 (i : Nat) : am_L → am_L
  | [] => []
  | (j, w) :: r => bif Nat.beq j i || (Nat.beq (j + 1) i && am_cat2 w) then am_kl1 i r else (j, w) :: am_kl1 i r
def am_kl2 (i : Nat) : am_L → am_L
  | [] => []
  | (j, w) :: r => bif Nat.beq j i || (Nat.beq j (i + 1) || (Nat.beq (j + 1) i && am_cat2 w)) then am_kl2 i r else (j, w) :: am_kl2 i r
def am_ins1 (i : Nat) (v : Value) (L : am_L) : am_L := am_srt i v (am_kl1 i L)
def am_ins2 (i : Nat) (v : Value) (L : am_L) : am_L := am_srt i v (am_kl2 i L)
theorem am_kl1_mem {i : Nat} {q : Nat × Value} : ∀ {L : am_L}, q ∈ am_kl1 i L → q ∈ L.filter (fun q => !(q.1 == i) && !(q.1 + 1 == i && q.2.category == 2))
  | [], h => by simp [am_kl1] at h
  | (j, w) :: r, h => by
    unfold am_kl1 at h
    cases hb : (Nat.beq j i || (Nat.beq (j + 1) i && am_cat2 w)) with
    | true =>
      rw [hb] at h
      have h2 := am_kl1_mem h
      obtain ⟨a, b⟩ := List.mem_filter.mp h2
      exact List.mem_filter.mpr ⟨List.mem_cons_of_mem _ a, b⟩
    | false =>
      rw [hb] at h
      rw [am_beq, am_beq, am_cat2_eq] at hb
      rcases List.mem_cons.mp h with h | h
      · subst h
        refine List.mem_filter.mpr ⟨List.mem_cons_self, ?_⟩
        simp only [Bool.or_eq_false_iff] at hb
        simp only [hb.1, hb.2, Bool.not_false, Bool.and_self]
      · obtain ⟨a, b⟩ := List.mem_filter.mp (am_kl1_mem h)
        exact List.mem_filter.mpr ⟨List.mem_cons_of_mem _ a, b⟩
theorem am_kl2_mem {i : Nat} {q : Nat × Value} : ∀ {L : am_L}, q ∈ am_kl2 i L → q ∈ L.filter (fun q => !(q.1 == i) && (!(q.1 == i + 1) && !(q.1 + 1 == i && q.2.category == 2)))
  | [], h => by simp [am_kl2] at h
  | (j, w) :: r, h => by
    unfold am_kl2 at h
    cases hb : (Nat.beq j i || (Nat.beq j (i + 1) || (Nat.beq (j + 1) i && am_cat2 w))) with
    | true =>
      rw [hb] at h
      have h2 := am_kl2_mem h
      obtain ⟨a, b⟩ := List.mem_filter.mp h2
      exact List.mem_filter.mpr ⟨List.mem_cons_of_mem _ a, b⟩
    | false =>
      rw [hb] at h
      rw [am_beq, am_beq, am_beq, am_cat2_eq] at hb
      rcases List.mem_cons.mp h with h | h
      · subst h
        refine List.mem_filter.mpr ⟨List.mem_cons_self, ?_⟩
        simp only [Bool.or_eq_false_iff] at hb
        simp only [hb.1, hb.2.1, hb.2.2, Bool.not_false, Bool.and_self]
      · obtain ⟨a, b⟩ := List.mem_filter.mp (am_kl2_mem h)
        exact List.mem_filter.mpr ⟨List.mem_cons_of_mem _ a, b⟩
theorem am_has_sub {ls : Array Slot} {nL : Nat} {l l' : am_L} (h : lv_has ls nL l) (hs : ∀ q ∈ l', q ∈ l) : lv_has ls nL l' := ⟨h.1, h.2.1, fun q hq => h.2.2 q (hs q hq)⟩
theorem am_has1 {ls : Array Slot} {nL i : Nat} {v : Value} {L : am_L} {ad : Nat → Nat} (h : lv_has ls nL ((i, am_tv ad v) :: (L.map (am_tl ad)).filter (fun q => !(q.1 == i) && !(q.1 + 1 == i && q.2.category == 2)))) : lv_has ls nL ((am_ins1 i v L).map (am_tl ad)) := by
  refine am_has_sub h fun q hq => ?_
  obtain ⟨q0, h0, rfl⟩ := List.mem_map.mp hq
  rcases List.mem_cons.mp (am_srt_mem h0) with h1 | h1
  · subst h1; exact List.mem_cons_self
  · obtain ⟨a, b⟩ := List.mem_filter.mp (am_kl1_mem h1)
    exact List.mem_cons_of_mem _ (List.mem_filter.mpr ⟨List.mem_map_of_mem a, by simpa [am_tl, am_tv_cat] using b⟩)
theorem am_has2 {ls : Array Slot} {nL i : Nat} {v : Value} {L : am_L} {ad : Nat → Nat} (h : lv_has ls nL ((i, am_tv ad v) :: (L.map (am_tl ad)).filter (fun q => !(q.1 == i) && (!(q.1 == i + 1) && !(q.1 + 1 == i && q.2.category == 2))))) : lv_has ls nL ((am_ins2 i v L).map (am_tl ad)) := by
  refine am_has_sub h fun q hq => ?_
  obtain ⟨q0, h0, rfl⟩ := List.mem_map.mp hq
  rcases List.mem_cons.mp (am_srt_mem h0) with h1 | h1
  · subst h1; exact List.mem_cons_self
  · obtain ⟨a, b⟩ := List.mem_filter.mp (am_kl2_mem h1)
    exact List.mem_cons_of_mem _ (List.mem_filter.mpr ⟨List.mem_map_of_mem a, by simpa [am_tl, am_tv_cat] using b⟩)
theorem am_lk_has {ls : Array Slot} {nL i : Nat} {v : Value} {L : am_L} {ad : Nat → Nat} (h : lv_has ls nL (L.map (am_tl ad))) (hk : am_lk i L = some v) : ls[i]? = some (.val (am_tv ad v)) := h.2.2 (i, am_tv ad v) (List.mem_map.mpr ⟨(i, v), am_lk_mem hk, rfl⟩)
/-! instructions: (the instruction, its length, two numbers, a constant) -/
abbrev am_It : Type := Instr × Nat × Nat × Nat × Value
def am_st (sh : List am_Sh) (it : am_It) (S : am_S) : Option (am_S × Option Prop) :=
  match it with
  | (i, n, a, b, v) => match S with
    | (pc, L, st, I, G, P) => match i with
      | .iconst _ => some ((pc + n, L, v :: st, I, G, P), none)
      | .bipush _ => some ((pc + n, L, v :: st, I, G, P), none)
      | .sipush _ => some ((pc + n, L, v :: st, I, G, P), none)
      | .lconst _ => some ((pc + n, L, v :: st, I, G, P), none)
      | .ldc2_w _ => some ((pc + n, L, v :: st, I, G, P), none)
      | .iload_n _ => match am_lk a L with
        | some (.int x) => some ((pc + n, L, .int x :: st, I, G, P), none)
        | _ => none
      | .iload _ => match am_lk a L with
        | some (.int x) => some ((pc + n, L, .int x :: st, I, G, P), none)
        | _ => none
      | .lload_n _ => match am_lk a L with
        | some (.long x) => some ((pc + n, L, .long x :: st, I, G, P), none)
        | _ => none
      | .lload _ => match am_lk a L with
        | some (.long x) => some ((pc + n, L, .long x :: st, I, G, P), none)
        | _ => none
      | .aload_n _ => match am_lk a L with
        | some (.ref x) => some ((pc + n, L, .ref x :: st, I, G, P), none)
        | _ => none
      | .aload _ => match am_lk a L with
        | some (.ref x) => some ((pc + n, L, .ref x :: st, I, G, P), none)
        | _ => none
      | .istore_n _ => match st with
        | .int x :: r => some ((pc + n, am_ins1 a (.int x) L, r, I, G, P), none)
        | _ => none
      | .istore _ => match st with
        | .int x :: r => some ((pc + n, am_ins1 a (.int x) L, r, I, G, P), none)
        | _ => none
      | .astore_n _ => match st with
        | .ref x :: r => some ((pc + n, am_ins1 a (.ref x) L, r, I, G, P), none)
        | _ => none
      | .astore _ => match st with
        | .ref x :: r => some ((pc + n, am_ins1 a (.ref x) L, r, I, G, P), none)
        | _ => none
      | .lstore_n _ => match st with
        | .long x :: r => some ((pc + n, am_ins2 a (.long x) L, r, I, G, P), none)
        | _ => none
      | .lstore _ => match st with
        | .long x :: r => some ((pc + n, am_ins2 a (.long x) L, r, I, G, P), none)
        | _ => none
      | .iinc _ _ => match am_lk a L, v with
        | some (.int x), .int c => some ((pc + n, am_ins1 a (.int (x + c)) L, st, I, G, P), none)
        | _, _ => none
      | .iadd => match st with
        | .int y :: .int x :: r => some ((pc + n, L, .int (x + y) :: r, I, G, P), none)
        | _ => none
      | .isub => match st with
        | .int y :: .int x :: r => some ((pc + n, L, .int (x - y) :: r, I, G, P), none)
        | _ => none
      | .imul => match st with
        | .int y :: .int x :: r => some ((pc + n, L, .int (x * y) :: r, I, G, P), none)
        | _ => none
      | .iand => match st with
        | .int y :: .int x :: r => some ((pc + n, L, .int (x &&& y) :: r, I, G, P), none)
        | _ => none
      | .ior => match st with
        | .int y :: .int x :: r => some ((pc + n, L, .int (x ||| y) :: r, I, G, P), none)
        | _ => none
      | .ishr => match st with
        | .int y :: .int x :: r => some ((pc + n, L, .int (x >>> (y &&& 31)) :: r, I, G, P), none)
        | _ => none
      | .ishl => match st with
        | .int y :: .int x :: r => some ((pc + n, L, .int (x <<< (y &&& 31)) :: r, I, G, P), none)
        | _ => none
      | .i2b => match st with
        | .int x :: r => some ((pc + n, L, .int x.toInt8.toInt32 :: r, I, G, P), none)
        | _ => none
      | .idiv => match st with
        | .int y :: .int x :: r => some ((pc + n, L, .int (x / y) :: r, I, G, P), some (¬ y = 0))
        | _ => none
      | .irem => match st with
        | .int y :: .int x :: r => some ((pc + n, L, .int (x - x / y * y) :: r, I, G, P), some (¬ y = 0))
        | _ => none
      | .ineg => match st with
        | .int x :: r => some ((pc + n, L, .int (-x) :: r, I, G, P), none)
        | _ => none
      | .ladd => match st with
        | .long y :: .long x :: r => some ((pc + n, L, .long (x + y) :: r, I, G, P), none)
        | _ => none
      | .lmul => match st with
        | .long y :: .long x :: r => some ((pc + n, L, .long (x * y) :: r, I, G, P), none)
        | _ => none
      | .lxor => match st with
        | .long y :: .long x :: r => some ((pc + n, L, .long (x ^^^ y) :: r, I, G, P), none)
        | _ => none
      | .lrem => match st with
        | .long y :: .long x :: r => some ((pc + n, L, .long (x - x / y * y) :: r, I, G, P), some (¬ y = 0))
        | _ => none
      | .lcmp => match st with
        | .long y :: .long x :: r => some ((pc + n, L, .int (lg_cmp x y) :: r, I, G, P), none)
        | _ => none
      | .i2l => match st with
        | .int x :: r => some ((pc + n, L, .long x.toInt64 :: r, I, G, P), none)
        | _ => none
      | .l2i => match st with
        | .long x :: r => some ((pc + n, L, .int x.toInt32 :: r, I, G, P), none)
        | _ => none
      | .i2c => match st with
        | .int x :: r => some ((pc + n, L, .int (x.toUInt32 % 65536).toInt32 :: r, I, G, P), none)
        | _ => none
      | .ixor => match st with
        | .int y :: .int x :: r => some ((pc + n, L, .int (x ^^^ y) :: r, I, G, P), none)
        | _ => none
      | .dup => match st with
        | .int x :: r => some ((pc + n, L, .int x :: .int x :: r, I, G, P), none)
        | .ref x :: r => some ((pc + n, L, .ref x :: .ref x :: r, I, G, P), none)
        | _ => none
      | .dup2 => match st with
        | .int y :: .ref x :: r => some ((pc + n, L, .int y :: .ref x :: .int y :: .ref x :: r, I, G, P), none)
        | _ => none
      | .pop => match st with
        | .int _ :: r => some ((pc + n, L, r, I, G, P), none)
        | .ref _ :: r => some ((pc + n, L, r, I, G, P), none)
        | _ => none
      | .goto _ => some ((b, L, st, I, G, P), none)
      | .getfield _ => match st with
        | .ref q :: r => match sh[q]? with
          | some (.inl c) => bif Nat.beq c a then (match (am_ks c)[b]? with
            | some 0 => some ((pc + n, L, .int (I q b) :: r, I, G, P), none)
            | some 1 => some ((pc + n, L, .long (G q b) :: r, I, G, P), none)
            | some 2 => some ((pc + n, L, P q b :: r, I, G, P), none)
            | some 3 => some ((pc + n, L, .int (I q b) :: r, I, G, P), none)
            | _ => none) else none
          | _ => none
        | _ => none
      | .putfield _ => match st with
        | w :: .ref q :: r => match sh[q]? with
          | some (.inl c) => bif Nat.beq c a then (match (am_ks c)[b]?, w with
            | some 0, .int x => some ((pc + n, L, r, am_up I q b x, G, P), none)
            | some 1, .long x => some ((pc + n, L, r, I, am_up G q b x, P), none)
            | some 2, .ref x => some ((pc + n, L, r, I, G, am_up P q b (.ref x)), none)
            | some 3, .int x => some ((pc + n, L, r, am_up I q b x, G, P), some (x = 0 ∨ x = 1))
            | _, _ => none) else none
          | _ => none
        | _ => none
      | .arraylength => match st with
        | .ref q :: r => match sh[q]? with
          | some (.inr (_, m)) => some ((pc + n, L, .int (Int32.ofNat m) :: r, I, G, P), none)
          | _ => none
        | _ => none
      | .iaload => match st with
        | .int j :: .ref q :: r => match sh[q]? with
          | some (.inr (0, m)) => some ((pc + n, L, .int (I q j.toNatClampNeg) :: r, I, G, P), some (vp_in j m))
          | _ => none
        | _ => none
      | .baload => match st with
        | .int j :: .ref q :: r => match sh[q]? with
          | some (.inr (1, m)) => some ((pc + n, L, .int (I q j.toNatClampNeg) :: r, I, G, P), some (vp_in j m))
          | some (.inr (4, m)) => some ((pc + n, L, .int (I q j.toNatClampNeg) :: r, I, G, P), some (vp_in j m))
          | _ => none
        | _ => none
      | .aaload => match st with
        | .int j :: .ref q :: r => match sh[q]?, P q j.toNatClampNeg with
          | some (.inr (3, m)), .ref z => some ((pc + n, L, .ref z :: r, I, G, P), some (vp_in j m))
          | _, _ => none
        | _ => none
      | .laload => match st with
        | .int j :: .ref q :: r => match sh[q]? with
          | some (.inr (2, m)) => some ((pc + n, L, .long (G q j.toNatClampNeg) :: r, I, G, P), some (vp_in j m))
          | _ => none
        | _ => none
      | .iastore => match st with
        | .int x :: .int j :: .ref q :: r => match sh[q]? with
          | some (.inr (0, m)) => some ((pc + n, L, r, am_up I q j.toNatClampNeg x, G, P), some (vp_in j m))
          | _ => none
        | _ => none
      | .bastore => match st with
        | .int x :: .int j :: .ref q :: r => match sh[q]? with
          | some (.inr (1, m)) => some ((pc + n, L, r, am_up I q j.toNatClampNeg x, G, P), some (vp_in j m ∧ (x = 0 ∨ x = 1)))
          | some (.inr (4, m)) => some ((pc + n, L, r, am_up I q j.toNatClampNeg x, G, P), some (vp_in j m ∧ x.toInt8.toInt32 = x))
          | _ => none
        | _ => none
      | .lastore => match st with
        | .long x :: .int j :: .ref q :: r => match sh[q]? with
          | some (.inr (2, m)) => some ((pc + n, L, r, I, am_up G q j.toNatClampNeg x, P), some (vp_in j m))
          | _ => none
        | _ => none
      | .invokestatic _ => match st with
        | .int y :: .int x :: r => bif Nat.ble (r.map fun v => v.category).sum 8 then (match a with
          | 1 => some ((pc + n, L, .int (if y < x then y else x) :: r, I, G, P), none)
          | 2 => some ((pc + n, L, .int (if x < y then y else x) :: r, I, G, P), none)
          | _ => none) else none
        | _ => none
      | _ => none
def am_flk (o idx a b : Nat) (nest : Bool) : Bool := am_flT.any (fun q => Nat.beq q.1 o && Nat.beq q.2.1 idx && Nat.beq q.2.2.1 a && Nat.beq q.2.2.2.1 b && (q.2.2.2.2.2 == nest))
def am_pfk (o idx a b : Nat) (ini : Bool) : Bool := match vwCl[a]? with
  | none => false
  | some r => bif (r.2.1 b).2.2.2 then (ini && decide ((r.2.1 b).1 = am_own o) && am_flk o idx a b false) else (am_flk o idx a b false || am_flk o idx a b true)
def am_ck (o : Nat) (cc : ByteArray) (nL : Nat) (ini : Bool) (pc : Nat) (it : am_It) : Bool :=
  match it with
  | (i, n, a, b, v) => decide (decode cc pc = .ok (i, n)) && match i with
    | .iconst k => decide (n = 1) && decide (v = .int (Int32.ofInt k))
    | .bipush k => decide (n = 2) && decide (v = .int (Int8.ofInt k).toInt32)
    | .sipush k => decide (n = 3) && decide (v = .int (Int16.ofInt k).toInt32)
    | .lconst k => decide (n = 1) && decide (v = .long (Int64.ofNat (k : Nat)))
    | .ldc2_w idx => decide (n = 3) && am_ldT.any (fun q => Nat.beq q.1 o && Nat.beq q.2.1 idx && decide (v = .long q.2.2.1))
    | .iload_n k => decide (n = 1) && decide (a = (k : Nat))
    | .iload k => decide (n = 2) && decide (a = k)
    | .lload_n k => decide (n = 1) && decide (a = (k : Nat))
    | .lload k => decide (n = 2) && decide (a = k)
    | .aload_n k => decide (n = 1) && decide (a = (k : Nat))
    | .aload k => decide (n = 2) && decide (a = k)
    | .istore_n k => decide (n = 1) && decide (a = (k : Nat)) && decide (a < nL)
    | .istore k => decide (n = 2) && decide (a = k) && decide (a < nL)
    | .astore_n k => decide (n = 1) && decide (a = (k : Nat)) && decide (a < nL)
    | .astore k => decide (n = 2) && decide (a = k) && decide (a < nL)
    | .lstore_n k => decide (n = 1) && decide (a = (k : Nat)) && decide (a + 1 < nL)
    | .lstore k => decide (n = 2) && decide (a = k) && decide (a + 1 < nL)
    | .iinc k c => decide (n = 3) && decide (a = k) && decide (a < nL) && decide (v = .int (Int32.ofInt c))
    | .goto off => decide (n = 3) && decide ((pc : Int) + off = (b : Int))
    | .getfield idx => decide (n = 3) && (am_flk o idx a b false || am_flk o idx a b true)
    | .putfield idx => decide (n = 3) && am_pfk o idx a b ini
    | .invokestatic idx => decide (n = 3) && am_mmT.any (fun q => Nat.beq q.1 o && Nat.beq q.2.1 idx && Nat.beq q.2.2.1 a)
    | _ => decide (n = 1)
def am_nx (pc : Nat) (it : am_It) : Nat := match it.1 with
  | .goto _ => it.2.2.2.1
  | _ => pc + it.2.1
def am_at (o : Nat) (cc : ByteArray) (nL : Nat) (ini : Bool) : Nat → List am_It → Bool
  | _, [] => true
  | pc, it :: r => am_ck o cc nL ini pc it && am_at o cc nL ini (am_nx pc it) r
def am_run (sh : List am_Sh) : List am_It → am_S → Option (am_S × Prop)
  | [], S => some (S, True)
  | it :: r, S => match am_st sh it S with
    | none => none
    | some (S1, g) => match am_run sh r S1 with
      | none => none
      | some (S2, g2) => some (S2, match g with
        | none => g2
        | some p => p ∧ g2)
