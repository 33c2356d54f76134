/-! sums and tests -/
def s_bin (op : Nat) (l r : Int32) : Int32 := f_X7_combine (fun _ _ => 0) (fun _ _ => 0) (Int32.ofNat op) l r
def s_spot (p : sP) (x y : Int32) : Nat := s_md y.toInt (p 0 1) * p 0 0 + s_md x.toInt (p 0 0)
theorem s_spot_lt {p : sP} (hp : p_ok p) (x y : Int32) : s_spot p x y < s_S p := s_pair_b (s_md_lt _ (by have := hp.1; omega)) (s_md_lt _ (by have := hp.1; omega))
/-- one instruction on a stack -/
def s_st (p t : sP) (dp : Int32) (op a : Nat) (st : List Int32) : List Int32 :=
  if op = 40 then Int32.ofNat a :: st else if op = 15 then dp :: st else if op = 9 then Int32.ofNat (t 2 a) :: st else if op = 6 then Int32.ofNat (t 1 a) :: st
  else if op = 16 then Int32.ofNat (s_shr p t (a + 1) (s_S p)) :: st else if op = 18 then s_eg p t (a + 1) (p 0 1) 0 :: st
  else match st with
    | [] => []
    | x :: r => if op = 43 then (-x) :: r else if op = 19 then (if x = 0 then 1 else 0) :: r else match r with
      | [] => []
      | y :: r2 => (if op = 17 then s_ht p t (s_spot p y x) else s_bin op y x) :: r2
def s_ev (p t : sP) (dp : Int32) : List (Nat × Nat) → List Int32 → List Int32
  | [], st => st
  | (op, a) :: r, st => s_ev p t dp r (s_st p t dp op a st)
def s_res (p t : sP) (dp : Int32) (c : List (Nat × Nat)) : Int32 := (s_ev p t dp c []).headD 0
/-- what an instruction does to the kinds of what lies on the stack: true for what a test gives -/
def s_wt (p : sP) (op a : Nat) (ts : List Bool) : Option (List Bool) :=
  if op = 40 then (if a ≤ 999999 then some (false :: ts) else none) else if op = 15 then some (false :: ts) else if op = 9 then (if a < p 0 3 then some (false :: ts) else none)
  else if op = 6 then (if a < p 0 2 then some (false :: ts) else none) else if op = 16 then (if a < p 0 4 then some (false :: ts) else none) else if op = 18 then (if a < p 0 4 then some (true :: ts) else none)
  else match ts with
    | [] => none
    | b :: r => if op = 43 then (if b then none else some (false :: r)) else if op = 19 then (if b then some (true :: r) else none) else match r with
      | [] => none
      | b2 :: r2 => if op = 20 ∨ op = 21 then (if b && b2 then some (true :: r2) else none) else if b || b2 then none
        else if op = 34 ∨ op = 35 ∨ op = 36 ∨ op = 37 ∨ op = 38 then some (true :: r2) else if op = 17 ∨ op = 22 ∨ op = 23 ∨ op = 30 ∨ op = 31 ∨ op = 32 ∨ op = 33 then some (false :: r2) else none
def s_wc (p : sP) : List (Nat × Nat) → List Bool → Option (List Bool)
  | [], ts => some ts
  | (op, a) :: r, ts => match s_wt p op a ts with
    | none => none
    | some ts' => s_wc p r ts'
def s_ty : List Bool → List Int32 → Prop
  | [], [] => True
  | b :: bs, x :: xs => (b = true → x = 0 ∨ x = 1) ∧ s_ty bs xs
  | _, _ => False
theorem s_ty_len : ∀ {ts : List Bool} {st : List Int32}, s_ty ts st → ts.length = st.length
  | [], [], _ => rfl
  | b :: bs, x :: xs, h => by rw [List.length_cons, List.length_cons, s_ty_len h.2]
  | [], x :: xs, h => h.elim
  | b :: bs, [], h => h.elim
theorem s_eg_b (p t : sP) (j : Nat) : ∀ m y, s_eg p t j m y = 0 ∨ s_eg p t j m y = 1
  | 0, _ => Or.inl rfl
  | m + 1, y => by
    unfold s_eg
    split
    · exact Or.inr rfl
    · exact s_eg_b p t j m _
theorem s_cmp (l r : Int32) : ((s_bin 34 l r = 0 ∨ s_bin 34 l r = 1) ∧ (s_bin 35 l r = 0 ∨ s_bin 35 l r = 1) ∧ (s_bin 36 l r = 0 ∨ s_bin 36 l r = 1)) ∧ ((s_bin 37 l r = 0 ∨ s_bin 37 l r = 1) ∧ (s_bin 38 l r = 0 ∨ s_bin 38 l r = 1) ∧ (s_bin 20 l r = 0 ∨ s_bin 20 l r = 1) ∧ (s_bin 21 l r = 0 ∨ s_bin 21 l r = 1)) := by
  have key : ∀ op : Nat, (¬ Int32.ofNat op = 22 ∧ ¬ Int32.ofNat op = 23 ∧ ¬ Int32.ofNat op = 30 ∧ ¬ Int32.ofNat op = 31 ∧ ¬ Int32.ofNat op = 32 ∧ ¬ Int32.ofNat op = 33) → (s_bin op l r = 0 ∨ s_bin op l r = 1) := by
    intro op ⟨h1, h2, h3, h4, h5, h6⟩
    unfold s_bin f_X7_combine
    rw [if_neg h1, if_neg h2, if_neg h3, if_neg h4, if_neg h5, if_neg h6]
    split
    · exact Or.inl rfl
    · exact Or.inr rfl
  exact ⟨⟨key 34 (by decide), key 35 (by decide), key 36 (by decide)⟩, key 37 (by decide), key 38 (by decide), key 20 (by decide), key 21 (by decide)⟩
/-- the instructions -/
theorem s_wt_sp {p : sP} {op a : Nat} {ts ts' : List Bool} (h : s_wt p op a ts = some ts') :
    ((op = 40 ∧ a ≤ 999999 ∧ ts' = false :: ts) ∨ (op = 15 ∧ ts' = false :: ts) ∨ (op = 9 ∧ a < p 0 3 ∧ ts' = false :: ts) ∨ (op = 6 ∧ a < p 0 2 ∧ ts' = false :: ts) ∨ (op = 16 ∧ a < p 0 4 ∧ ts' = false :: ts) ∨ (op = 18 ∧ a < p 0 4 ∧ ts' = true :: ts)) ∨
    ((op = 43 ∧ ∃ r, ts = false :: r ∧ ts' = false :: r) ∨ (op = 19 ∧ ∃ r, ts = true :: r ∧ ts' = true :: r)) ∨
    ((op = 20 ∨ op = 21) ∧ ∃ r, ts = true :: true :: r ∧ ts' = true :: r) ∨ ((op = 34 ∨ op = 35 ∨ op = 36 ∨ op = 37 ∨ op = 38) ∧ ∃ r, ts = false :: false :: r ∧ ts' = true :: r) ∨
    ((op = 17 ∨ op = 22 ∨ op = 23 ∨ op = 30 ∨ op = 31 ∨ op = 32 ∨ op = 33) ∧ ∃ r, ts = false :: false :: r ∧ ts' = false :: r) := by
  unfold s_wt at h
  by_cases h1 : op = 40
  · rw [if_pos h1] at h
    by_cases ha : a ≤ 999999
    · rw [if_pos ha] at h; exact Or.inl (Or.inl ⟨h1, ha, (Option.some.inj h).symm⟩)
    · rw [if_neg ha] at h; cases h
  rw [if_neg h1] at h
  by_cases h2 : op = 15
  · rw [if_pos h2] at h; exact Or.inl (Or.inr (Or.inl ⟨h2, (Option.some.inj h).symm⟩))
  rw [if_neg h2] at h
  by_cases h3 : op = 9
  · rw [if_pos h3] at h
    by_cases ha : a < p 0 3
    · rw [if_pos ha] at h; exact Or.inl (Or.inr (Or.inr (Or.inl ⟨h3, ha, (Option.some.inj h).symm⟩)))
    · rw [if_neg ha] at h; cases h
  rw [if_neg h3] at h
  by_cases h4 : op = 6
  · rw [if_pos h4] at h
    by_cases ha : a < p 0 2
    · rw [if_pos ha] at h; exact Or.inl (Or.inr (Or.inr (Or.inr (Or.inl ⟨h4, ha, (Option.some.inj h).symm⟩))))
    · rw [if_neg ha] at h; cases h
  rw [if_neg h4] at h
  by_cases h5 : op = 16
  · rw [if_pos h5] at h
    by_cases ha : a < p 0 4
    · rw [if_pos ha] at h; exact Or.inl (Or.inr (Or.inr (Or.inr (Or.inr (Or.inl ⟨h5, ha, (Option.some.inj h).symm⟩)))))
    · rw [if_neg ha] at h; cases h
  rw [if_neg h5] at h
  by_cases h6 : op = 18
  · rw [if_pos h6] at h
    by_cases ha : a < p 0 4
    · rw [if_pos ha] at h; exact Or.inl (Or.inr (Or.inr (Or.inr (Or.inr (Or.inr ⟨h6, ha, (Option.some.inj h).symm⟩)))))
    · rw [if_neg ha] at h; cases h
  rw [if_neg h6] at h
  match ts, h with
  | b :: r, h =>
    dsimp only at h
    by_cases h7 : op = 43
    · rw [if_pos h7] at h
      cases b with
      | true => cases h
      | false => exact Or.inr (Or.inl (Or.inl ⟨h7, r, rfl, (Option.some.inj h).symm⟩))
    rw [if_neg h7] at h
    by_cases h8 : op = 19
    · rw [if_pos h8] at h
      cases b with
      | false => cases h
      | true => exact Or.inr (Or.inl (Or.inr ⟨h8, r, rfl, (Option.some.inj h).symm⟩))
    rw [if_neg h8] at h
    match r, h with
    | b2 :: r2, h =>
      dsimp only at h
      by_cases h9 : op = 20 ∨ op = 21
      · rw [if_pos h9] at h
        cases b <;> cases b2 <;> first | (cases h; done) | exact Or.inr (Or.inr (Or.inl ⟨h9, r2, rfl, (Option.some.inj h).symm⟩))
      rw [if_neg h9] at h
      cases b <;> cases b2 <;> first | (cases h; done) | skip
      rw [if_neg (by decide)] at h
      by_cases h10 : op = 34 ∨ op = 35 ∨ op = 36 ∨ op = 37 ∨ op = 38
      · rw [if_pos h10] at h
        exact Or.inr (Or.inr (Or.inr (Or.inl ⟨h10, r2, rfl, (Option.some.inj h).symm⟩)))
      rw [if_neg h10] at h
      by_cases h11 : op = 17 ∨ op = 22 ∨ op = 23 ∨ op = 30 ∨ op = 31 ∨ op = 32 ∨ op = 33
      · rw [if_pos h11] at h
        exact Or.inr (Or.inr (Or.inr (Or.inr ⟨h11, r2, rfl, (Option.some.inj h).symm⟩)))
      rw [if_neg h11] at h
      cases h
section SST
variable {p t : sP} {dp : Int32} {a : Nat} {st : List Int32}
theorem s_st40 : s_st p t dp 40 a st = Int32.ofNat a :: st := by unfold s_st; rw [if_pos rfl]
theorem s_st15 : s_st p t dp 15 a st = dp :: st := by unfold s_st; rw [if_neg (by decide), if_pos rfl]
theorem s_st9 : s_st p t dp 9 a st = Int32.ofNat (t 2 a) :: st := by unfold s_st; rw [if_neg (by decide), if_neg (by decide), if_pos rfl]
theorem s_st6 : s_st p t dp 6 a st = Int32.ofNat (t 1 a) :: st := by unfold s_st; rw [if_neg (by decide), if_neg (by decide), if_neg (by decide), if_pos rfl]
theorem s_st16 : s_st p t dp 16 a st = Int32.ofNat (s_shr p t (a + 1) (s_S p)) :: st := by unfold s_st; rw [if_neg (by decide), if_neg (by decide), if_neg (by decide), if_neg (by decide), if_pos rfl]
theorem s_st18 : s_st p t dp 18 a st = s_eg p t (a + 1) (p 0 1) 0 :: st := by unfold s_st; rw [if_neg (by decide), if_neg (by decide), if_neg (by decide), if_neg (by decide), if_neg (by decide), if_pos rfl]
theorem s_st43 (x : Int32) : s_st p t dp 43 a (x :: st) = (-x) :: st := by unfold s_st; rw [if_neg (by decide), if_neg (by decide), if_neg (by decide), if_neg (by decide), if_neg (by decide), if_neg (by decide)]; dsimp only; rw [if_pos rfl]
theorem s_st19 (x : Int32) : s_st p t dp 19 a (x :: st) = (if x = 0 then 1 else 0) :: st := by unfold s_st; rw [if_neg (by decide), if_neg (by decide), if_neg (by decide), if_neg (by decide), if_neg (by decide), if_neg (by decide)]; dsimp only; rw [if_neg (by decide), if_pos rfl]
theorem s_st17 (x y : Int32) : s_st p t dp 17 a (x :: y :: st) = s_ht p t (s_spot p y x) :: st := by unfold s_st; rw [if_neg (by decide), if_neg (by decide), if_neg (by decide), if_neg (by decide), if_neg (by decide), if_neg (by decide)]; dsimp only; rw [if_neg (by decide), if_neg (by decide), if_pos rfl]
theorem s_stb {op : Nat} (h : op = 20 ∨ op = 21 ∨ op = 22 ∨ op = 23 ∨ op = 30 ∨ op = 31 ∨ op = 32 ∨ op = 33 ∨ op = 34 ∨ op = 35 ∨ op = 36 ∨ op = 37 ∨ op = 38) (x y : Int32) : s_st p t dp op a (x :: y :: st) = s_bin op y x :: st := by
  unfold s_st
  rw [if_neg (by omega), if_neg (by omega), if_neg (by omega), if_neg (by omega), if_neg (by omega), if_neg (by omega)]
  dsimp only
  rw [if_neg (by omega), if_neg (by omega), if_neg (by omega)]
end SST
theorem s_st_ty {p t : sP} {dp : Int32} {op a : Nat} {ts ts' : List Bool} {st : List Int32} (h : s_wt p op a ts = some ts') (hs : s_ty ts st) : s_ty ts' (s_st p t dp op a st) := by
  rcases s_wt_sp h with (⟨rfl, ha, rfl⟩ | ⟨rfl, rfl⟩ | ⟨rfl, ha, rfl⟩ | ⟨rfl, ha, rfl⟩ | ⟨rfl, ha, rfl⟩ | ⟨rfl, ha, rfl⟩) | (⟨rfl, r, rfl, rfl⟩ | ⟨rfl, r, rfl, rfl⟩) | ⟨ho, r, rfl, rfl⟩ | ⟨ho, r, rfl, rfl⟩ | ⟨ho, r, rfl, rfl⟩
  · rw [s_st40]; exact ⟨fun z => (Bool.false_ne_true z).elim, hs⟩
  · rw [s_st15]; exact ⟨fun z => (Bool.false_ne_true z).elim, hs⟩
  · rw [s_st9]; exact ⟨fun z => (Bool.false_ne_true z).elim, hs⟩
  · rw [s_st6]; exact ⟨fun z => (Bool.false_ne_true z).elim, hs⟩
  · rw [s_st16]; exact ⟨fun z => (Bool.false_ne_true z).elim, hs⟩
  · rw [s_st18]; exact ⟨fun _ => s_eg_b _ _ _ _ _, hs⟩
  · match st, hs with
    | x :: xs, hs => rw [s_st43]; exact ⟨fun z => (Bool.false_ne_true z).elim, hs.2⟩
  · match st, hs with
    | x :: xs, hs =>
      rw [s_st19]
      refine ⟨fun _ => ?_, hs.2⟩
      by_cases hx : x = 0
      · rw [if_pos hx]; exact Or.inr rfl
      · rw [if_neg hx]; exact Or.inl rfl
  · match st, hs with
    | x :: y :: xs, hs =>
      rw [s_stb (by omega)]
      rcases ho with rfl | rfl
      · exact ⟨fun _ => (s_cmp y x).2.2.2.1, hs.2.2⟩
      · exact ⟨fun _ => (s_cmp y x).2.2.2.2, hs.2.2⟩
  · match st, hs with
    | x :: y :: xs, hs =>
      rw [s_stb (by omega)]
      rcases ho with rfl | rfl | rfl | rfl | rfl
      · exact ⟨fun _ => (s_cmp y x).1.1, hs.2.2⟩
      · exact ⟨fun _ => (s_cmp y x).1.2.1, hs.2.2⟩
      · exact ⟨fun _ => (s_cmp y x).1.2.2, hs.2.2⟩
      · exact ⟨fun _ => (s_cmp y x).2.1, hs.2.2⟩
      · exact ⟨fun _ => (s_cmp y x).2.2.1, hs.2.2⟩
  · match st, hs with
    | x :: y :: xs, hs =>
      by_cases h17 : op = 17
      · subst h17; rw [s_st17]; exact ⟨fun z => (Bool.false_ne_true z).elim, hs.2.2⟩
      · rw [s_stb (by omega)]; exact ⟨fun z => (Bool.false_ne_true z).elim, hs.2.2⟩
theorem s_ev_ty {p t : sP} {dp : Int32} : ∀ {c : List (Nat × Nat)} {ts ts' : List Bool} {st : List Int32}, s_wc p c ts = some ts' → s_ty ts st → s_ty ts' (s_ev p t dp c st)
  | [], ts, ts', st, h, hs => by cases h; exact hs
  | (op, a) :: r, ts, ts', st, h, hs => by
    unfold s_wc at h
    cases h1 : s_wt p op a ts with
    | none => rw [h1] at h; cases h
    | some t1 =>
      rw [h1] at h
      show s_ty ts' (s_ev p t dp r (s_st p t dp op a st))
      exact s_ev_ty (c := r) (ts := t1) h (s_st_ty h1 hs)
/-- a stack in a row -/
def c_stk (row : Nat) (I : am_I) : List Int32 → Prop
  | [] => True
  | x :: r => I row r.length = x ∧ c_stk row I r
theorem c_stk.kept {row : Nat} {I I' : am_I} : ∀ {st : List Int32}, c_stk row I st → (∀ j, j < st.length → I' row j = I row j) → c_stk row I' st
  | [], _, _ => trivial
  | x :: r, h, hk => ⟨(hk _ (by rw [List.length_cons]; omega)).trans h.1, c_stk.kept h.2 (fun j hj => hk j (by rw [List.length_cons]; omega))⟩
/-- the class's code -/
def c_code (I : am_I) : Nat → List (Nat × Nat) → Prop
  | _, [] => True
  | k, (op, a) :: r => I 23 k = Int32.ofNat op ∧ I 24 k = Int32.ofNat a ∧ c_code I (k + 1) r
theorem c_code.kept {I I' : am_I} : ∀ {k : Nat} {c : List (Nat × Nat)}, c_code I k c → I' 23 = I 23 → I' 24 = I 24 → c_code I' k c
  | _, [], _, _, _ => trivial
  | k, (op, a) :: r, h, h1, h2 => ⟨by rw [h1]; exact h.1, by rw [h2]; exact h.2.1, c_code.kept h.2.2 h1 h2⟩
/-- whether heights or inks of spots are asked -/
def s_lk : List (Nat × Nat) → Bool
  | [] => false
  | (op, _) :: r => (op == 16 || op == 17 || op == 18) || s_lk r
section ME53
variable {p t : sP} {G : am_G}
theorem c_egL_53 {I : am_I} (h : cP I p) (hp : p_ok p) (hF : ∀ k, k < s_S p → I 58 k = Int32.ofNat (s_ik p t k)) {j : Nat} (hj : j < 100) : ∀ (m y n : Nat), y + m = p 0 1 → m < n → L_X7_isAtEdge_53 n 0 I G (Int32.ofNat j) (Int32.ofNat y) = some (s_eg p t j m y, I, G) := by
  have h0 := hp.1
  have hS := s_S_le hp
  intro m
  induction m with
  | zero =>
    intro y n hk hn
    obtain ⟨n, rfl⟩ : ∃ n', n = n' + 1 := ⟨n - 1, by omega⟩
    rw [L_X7_isAtEdge_53_0, h.1.2.1, if_pos ((n_le (by omega) (by omega)).mpr (by omega))]
    rfl
  | succ m ih =>
    intro y n hk hn
    obtain ⟨n, rfl⟩ : ∃ n', n = n' + 1 := ⟨n - 1, by omega⟩
    have hr := s_row_lt hp (y := y) (by omega)
    have hi := s_ik_b p t (y * p 0 0)
    rw [L_X7_isAtEdge_53_0, h.1.2.1, if_neg (fun z => absurd ((n_le (by omega) (by omega)).mp z) (by omega)), h.1.1, n_mul, n_gAt (by omega) (by omega), hF _ hr, n_inc, s_eg]
    by_cases he : s_ik p t (y * p 0 0) = j
    · rw [if_pos (by rw [he]), if_pos he]
    · rw [if_neg (fun z => he ((n_eq (by omega) (by omega)).mp z)), if_neg he]
      exact ih (y + 1) n (by omega) (by omega)
theorem c_pop_53 {I : am_I} {st : List Int32} {x : Int32} (hn : I 64 1 = Int32.ofNat (x :: st).length) (hl : (x :: st).length ≤ 400) (hs : c_stk 65 I (x :: st)) : f_X8_pop_64 I G = x ∧ g_X8_pop_64 I G = am_up I 64 1 (Int32.ofNat st.length) := by
  rw [List.length_cons] at hn hl
  unfold f_X8_pop_64 g_X8_pop_64
  rw [hn, if_neg (n_nle0 (by omega) (by omega)), if_neg (n_nle0 (by omega) (by omega)), if_neg (fun z => absurd ((n_lt (by omega) (by omega)).mp z) (by omega)), if_neg (fun z => absurd ((n_lt (by omega) (by omega)).mp z) (by omega)), n_dec (by omega), show st.length + 1 - 1 = st.length by omega, n_cl (by omega)]
  exact ⟨hs.1, rfl⟩
theorem c_push_53 {I : am_I} {n : Nat} (hn : I 64 1 = Int32.ofNat n) (hl : n < 400) (x : Int32) : g_X8_push_64 I G x = am_up (am_up I 65 n x) 64 1 (Int32.ofNat (n + 1)) := by
  unfold g_X8_push_64
  rw [hn, if_neg (n_nlt0 n (by omega)), if_neg (fun z => absurd ((n_le (by omega) (by omega)).mp z) (by omega)), n_cl (by omega), n_inc]
theorem c_pushb_53 {I : am_I} {x : Int32} (hx : x = 0 ∨ x = 1) : g_X8_pushTest_64 I G x = g_X8_push_64 I G x := by
  unfold g_X8_pushTest_64
  rcases hx with rfl | rfl
  · rw [if_pos rfl]
  · rw [if_neg (by decide)]
/-- the stack of the sheet -/
def cK_53 (I : am_I) (st : List Int32) : Prop := I 64 1 = Int32.ofNat st.length ∧ c_stk 65 I st
theorem cK_53.push {I : am_I} {st : List Int32} (h : cK_53 I st) (hl : st.length < 400) (x : Int32) : cK_53 (g_X8_push_64 I G x) (x :: st) ∧ ∀ b, b ≠ 64 → b ≠ 65 → g_X8_push_64 I G x b = I b := by
  rw [c_push_53 h.1 hl]
  refine ⟨⟨by rw [up_in, if_pos rfl, List.length_cons], by rw [up_row _ _ _ (by omega), up_in, if_pos rfl], h.2.kept (fun j hj => by rw [up_row _ _ _ (by omega), up_in, if_neg (by omega)])⟩, fun b z1 z2 => by rw [up_row _ _ _ z1, up_row _ _ _ z2]⟩
theorem cK_53.pop {I : am_I} {st : List Int32} {x : Int32} (h : cK_53 I (x :: st)) (hl : (x :: st).length ≤ 400) : f_X8_pop_64 I G = x ∧ cK_53 (g_X8_pop_64 I G) st ∧ ∀ b, b ≠ 64 → g_X8_pop_64 I G b = I b := by
  obtain ⟨e1, e2⟩ := c_pop_53 (G := G) h.1 hl h.2
  rw [e2]
  exact ⟨e1, ⟨by rw [up_in, if_pos rfl], h.2.2.kept (fun j hj => by rw [up_row _ _ _ (by omega)])⟩, fun b hb => up_row _ _ _ hb⟩
/-- one instruction -/
theorem c_stp_53 {I : am_I} (h : cP I p) (hp : p_ok p) (hT : cT_53 I p t) (ht : t_ok p t) (hF : cF_53 I p t) {dp : Int32} (hd : I 53 12 = dp) {op a : Nat} {ts ts' : List Bool} {st : List Int32} (hw : s_wt p op a ts = some ts') (hy : s_ty ts st) (hl : st.length < 400) (hK : cK_53 I st) (hfr : (op = 16 ∨ op = 17 ∨ op = 18) → ¬ I 53 14 = 0) :
    ∃ I' : am_I, R_X7_step_53 I G (Int32.ofNat op) (Int32.ofNat a) = some ((), I', G) ∧ cK_53 I' (s_st p t dp op a st) ∧ ∀ b, b ≠ 64 → b ≠ 65 → I' b = I b := by
  have h0 := hp.1
  have hS := s_S_le hp
  have bin : ∀ (x y : Int32) (r : List Int32), st = x :: y :: r → ∀ z : Int32, ∃ I2 : am_I, g_X8_pop_64 (g_X8_pop_64 I G) G = I2 ∧ f_X8_pop_64 I G = x ∧ f_X8_pop_64 (g_X8_pop_64 I G) G = y ∧ (∀ b, b ≠ 64 → I2 b = I b) ∧ cK_53 (g_X8_push_64 I2 G z) (z :: r) ∧ ∀ b, b ≠ 64 → b ≠ 65 → g_X8_push_64 I2 G z b = I b := by
    intro x y r he z
    subst he
    rw [List.length_cons, List.length_cons] at hl
    obtain ⟨a1, a2, a3⟩ := hK.pop (G := G) (by rw [List.length_cons, List.length_cons]; omega)
    obtain ⟨b1, b2, b3⟩ := a2.pop (G := G) (by rw [List.length_cons]; omega)
    obtain ⟨d1, d2⟩ := b2.push (G := G) (by omega) z
    exact ⟨_, rfl, a1, b1, fun b hb => (b3 b hb).trans (a3 b hb), d1, fun b z1 z2 => ((d2 b z1 z2).trans (b3 b z1)).trans (a3 b z1)⟩
  unfold R_X7_step_53
  rcases s_wt_sp hw with (⟨rfl, ha, rfl⟩ | ⟨rfl, rfl⟩ | ⟨rfl, ha, rfl⟩ | ⟨rfl, ha, rfl⟩ | ⟨rfl, ha, rfl⟩ | ⟨rfl, ha, rfl⟩) | (⟨rfl, r, rfl, rfl⟩ | ⟨rfl, r, rfl, rfl⟩) | hbin
  · rw [if_neg (by decide), if_neg (by decide), if_neg (by decide), if_neg (by decide), if_neg (by decide), if_neg (by decide), if_pos (by decide)]
    exact ⟨_, rfl, (hK.push (G := G) hl _).1, (hK.push (G := G) hl _).2⟩
  · rw [if_neg (by decide), if_neg (by decide), if_pos (by decide), hd]
    exact ⟨_, rfl, (hK.push (G := G) hl _).1, (hK.push (G := G) hl _).2⟩
  · rw [if_neg (by decide), if_pos (by decide), n_gAt (by omega) (by omega), (hT.2.2 a ha).1]
    exact ⟨_, rfl, (hK.push (G := G) hl _).1, (hK.push (G := G) hl _).2⟩
  · rw [if_pos (by decide), n_gAt (by omega) (by omega), hT.2.1 a ha]
    exact ⟨_, rfl, (hK.push (G := G) hl _).1, (hK.push (G := G) hl _).2⟩
  · rw [if_neg (by decide), if_neg (by decide), if_neg (by decide), if_pos (by decide), n_inc, n_gAt (by omega) (by omega), (hF (hfr (Or.inl rfl))).2 (a + 1) (by omega)]
    exact ⟨_, rfl, (hK.push (G := G) hl _).1, (hK.push (G := G) hl _).2⟩
  · rw [if_neg (by decide), if_neg (by decide), if_neg (by decide), if_neg (by decide), if_pos (by decide), n_inc]
    have e : R_X7_isAtEdge_53 I G (Int32.ofNat (a + 1)) = some (s_eg p t (a + 1) (p 0 1) 0, I, G) := c_egL_53 h hp (fun k hk => ((hF (hfr (Or.inr (Or.inr rfl)))).1 k hk).2) (by omega) (p 0 1) 0 FU (by omega) (by unfold FU; omega)
    rw [e, rb_go, c_pushb_53 (s_eg_b _ _ _ _ _)]
    exact ⟨_, rfl, (hK.push (G := G) hl _).1, (hK.push (G := G) hl _).2⟩
  · match st, hy with
    | x :: xs, hy =>
      rw [List.length_cons] at hl
      obtain ⟨a1, a2, a3⟩ := hK.pop (G := G) (by rw [List.length_cons]; omega)
      rw [if_neg (by decide), if_neg (by decide), if_neg (by decide), if_neg (by decide), if_neg (by decide), if_neg (by decide), if_neg (by decide), if_pos (by decide), a1]
      obtain ⟨d1, d2⟩ := a2.push (G := G) (by omega) (-x)
      exact ⟨_, rfl, d1, fun b z1 z2 => (d2 b z1 z2).trans (a3 b z1)⟩
  · match st, hy with
    | x :: xs, hy =>
      rw [List.length_cons] at hl
      obtain ⟨a1, a2, a3⟩ := hK.pop (G := G) (by rw [List.length_cons]; omega)
      rw [if_neg (by decide), if_neg (by decide), if_neg (by decide), if_neg (by decide), if_neg (by decide), if_pos (by decide), a1]
      rw [s_st19]
      by_cases hx : x = 0
      · rw [if_pos hx, if_pos hx, c_pushb_53 (Or.inr rfl)]
        obtain ⟨d1, d2⟩ := a2.push (G := G) (by omega) 1
        exact ⟨_, rfl, d1, fun b z1 z2 => (d2 b z1 z2).trans (a3 b z1)⟩
      · rw [if_neg hx, if_neg hx, c_pushb_53 (Or.inl rfl)]
        obtain ⟨d1, d2⟩ := a2.push (G := G) (by omega) 0
        exact ⟨_, rfl, d1, fun b z1 z2 => (d2 b z1 z2).trans (a3 b z1)⟩
  · have two : ∃ (x y : Int32) (r : List Int32), st = x :: y :: r := by
      rcases hbin with ⟨-, r, rfl, -⟩ | ⟨-, r, rfl, -⟩ | ⟨-, r, rfl, -⟩ <;> (match st, hy with
        | x :: y :: xs, _ => exact ⟨x, y, xs, rfl⟩)
    obtain ⟨x, y, r, hst⟩ := two
    have hops : op = 17 ∨ (op = 20 ∨ op = 21 ∨ op = 22 ∨ op = 23 ∨ op = 30 ∨ op = 31 ∨ op = 32 ∨ op = 33 ∨ op = 34 ∨ op = 35 ∨ op = 36 ∨ op = 37 ∨ op = 38) := by
      rcases hbin with ⟨ho, -⟩ | ⟨ho, -⟩ | ⟨ho, -⟩ <;> omega
    have hne : ¬ Int32.ofNat op = 6 ∧ ¬ Int32.ofNat op = 9 ∧ ¬ Int32.ofNat op = 15 ∧ ¬ Int32.ofNat op = 16 ∧ ¬ Int32.ofNat op = 18 ∧ ¬ Int32.ofNat op = 19 ∧ ¬ Int32.ofNat op = 40 ∧ ¬ Int32.ofNat op = 43 := by
      rcases hops with rfl | rfl | rfl | rfl | rfl | rfl | rfl | rfl | rfl | rfl | rfl | rfl | rfl | rfl <;> decide
    obtain ⟨n1, n2, n3, n4, n5, n6, n7, n8⟩ := hne
    rw [if_neg n1, if_neg n2, if_neg n3, if_neg n4, if_neg n5, if_neg n6, if_neg n7, if_neg n8]
    by_cases h17 : op = 17
    · subst h17
      rw [if_pos (by decide)]
      obtain ⟨I2, e1, e2, e3, e4, e5, e6⟩ := bin x y r hst (s_ht p t (s_spot p y x))
      have hsl := s_spot_lt hp y x
      rw [e1, e2, e3, c_spot (h.kept (fun b z1 z2 => e4 b (by omega))) hp, show s_md x.toInt (p 0 1) * p 0 0 + s_md y.toInt (p 0 0) = s_spot p y x from rfl, n_gAt (by omega) (by omega), e4 57 (by omega), ((hF (hfr (Or.inr (Or.inl rfl)))).1 _ hsl).1, hst]
      exact ⟨_, rfl, e5, e6⟩
    · have h17' : ¬ Int32.ofNat op = 17 := by
        rcases hops with rfl | rfl | rfl | rfl | rfl | rfl | rfl | rfl | rfl | rfl | rfl | rfl | rfl | rfl <;> first | exact absurd rfl h17 | decide
      rw [if_neg h17']
      obtain ⟨I2, e1, e2, e3, e4, e5, e6⟩ := bin x y r hst (s_bin op y x)
      rw [e1, e2, e3]
      refine ⟨_, rfl, ?_, ?_⟩
      · have hss : s_st p t dp op a st = s_bin op y x :: r := by
          rw [hst]
          unfold s_st
          rw [if_neg (by omega), if_neg (by omega), if_neg (by omega), if_neg (by omega), if_neg (by omega), if_neg (by omega)]
          dsimp only
          rw [if_neg (by omega), if_neg (by omega), if_neg h17]
        rw [hss]
        exact e5
      · exact e6
theorem c_rkL_53 (hp : p_ok p) (ht : t_ok p t) {dp : Int32} (v1 : Int32) : ∀ (c : List (Nat × Nat)) (k n : Nat) (I : am_I) (st : List Int32) (ts ts' : List Bool), cP I p → cT_53 I p t → cF_53 I p t → I 53 12 = dp → (s_lk c = true → ¬ I 53 14 = 0) → c_code I k c → s_wc p c ts = some ts' → s_ty ts st → cK_53 I st → st.length + c.length ≤ 400 → k + c.length ≤ 400 → ts'.length = 1 → c.length < n →
    ∃ I' : am_I, L_X7_reckon_53 n 0 I G v1 (Int32.ofNat (k + c.length)) (Int32.ofNat k) = some ((s_ev p t dp c st).headD 0, I', G) ∧ ∀ b, b ≠ 64 → b ≠ 65 → I' b = I b := by
  intro c
  induction c with
  | nil =>
    intro k n I st ts ts' h hT hF hd hfr hc hw hy hK hl hk hts hn
    obtain ⟨n, rfl⟩ : ∃ n', n = n' + 1 := ⟨n - 1, by omega⟩
    cases hw
    have hlen := s_ty_len hy
    match st, hy, hK, hlen with
    | [], _, _, hlen => rw [hts] at hlen; cases hlen
    | x :: xs, hy, hK, hlen =>
      rw [List.length_nil] at hl hk ⊢
      obtain ⟨a1, a2, a3⟩ := hK.pop (G := G) (by omega)
      rw [L_X7_reckon_53_0, if_pos ((n_le (by omega) (by omega)).mpr (by omega)), a1]
      exact ⟨_, rfl, fun b z1 z2 => a3 b z1⟩
  | cons q c ih =>
    intro k n I st ts ts' h hT hF hd hfr hc hw hy hK hl hk hts hn
    obtain ⟨op, a⟩ := q
    obtain ⟨n, rfl⟩ : ∃ n', n = n' + 1 := ⟨n - 1, by omega⟩
    rw [List.length_cons] at hl hk hn ⊢
    unfold s_wc at hw
    cases h1 : s_wt p op a ts with
    | none => rw [h1] at hw; cases hw
    | some t1 =>
      rw [h1] at hw
      have hlen := s_ty_len hy
      obtain ⟨I1, a1, a2, a3⟩ := c_stp_53 (G := G) h hp hT ht hF hd h1 hy (by omega) hK (fun z => hfr (by
        unfold s_lk
        rcases z with rfl | rfl | rfl <;> simp))
      have hy1 := s_st_ty (t := t) (dp := dp) h1 hy
      have hl1 : (s_st p t dp op a st).length ≤ st.length + 1 := by
        rw [← s_ty_len hy1, ← hlen]
        rcases s_wt_sp h1 with (⟨-, -, rfl⟩ | ⟨-, rfl⟩ | ⟨-, -, rfl⟩ | ⟨-, -, rfl⟩ | ⟨-, -, rfl⟩ | ⟨-, -, rfl⟩) | (⟨-, r, rfl, rfl⟩ | ⟨-, r, rfl, rfl⟩) | ⟨-, r, rfl, rfl⟩ | ⟨-, r, rfl, rfl⟩ | ⟨-, r, rfl, rfl⟩ <;> simp only [List.length_cons] <;> omega
      rw [L_X7_reckon_53_0, if_neg (fun z => absurd ((n_le (by omega) (by omega)).mp z) (by omega)), n_gAt (by omega) (by omega), n_gAt (by omega) (by omega), hc.1, hc.2.1, a1, rb_go, n_inc]
      obtain ⟨I', b1, b2⟩ := ih (k + 1) n I1 (s_st p t dp op a st) t1 ts' (h.kept (fun b z1 z2 => a3 b (by omega) (by omega))) (hT.kept ⟨by rw [a3 53 (by omega) (by omega)], by rw [a3 53 (by omega) (by omega)]⟩ ⟨a3 _ (by omega) (by omega), a3 _ (by omega) (by omega), a3 _ (by omega) (by omega)⟩)
        (by unfold cF_53; rw [a3 53 (by omega) (by omega), a3 57 (by omega) (by omega), a3 58 (by omega) (by omega), a3 59 (by omega) (by omega)]; exact hF) (by rw [a3 53 (by omega) (by omega)]; exact hd) (fun z => by
          rw [a3 53 (by omega) (by omega)]
          exact hfr (by unfold s_lk; rw [z, Bool.or_true])) (hc.2.2.kept (a3 _ (by omega) (by omega)) (a3 _ (by omega) (by omega))) hw hy1 a2 (by omega) (by omega) hts (by omega)
      rw [show k + 1 + c.length = k + (c.length + 1) by omega] at b1
      exact ⟨I', b1, fun b z1 z2 => (b2 b z1 z2).trans (a3 b z1 z2)⟩
/-- reckon -/
theorem c_rk_53 {I : am_I} (h : cP I p) (hp : p_ok p) (hT : cT_53 I p t) (ht : t_ok p t) (hF : cF_53 I p t) {dp : Int32} (hd : I 53 12 = dp) {c : List (Nat × Nat)} {k : Nat} {b0 : Bool} (hfr : s_lk c = true → ¬ I 53 14 = 0) (hc : c_code I k c) (hw : s_wc p c [] = some [b0]) (hk : k + c.length ≤ 400) :
    ∃ I' : am_I, R_X7_reckon_53 I G (Int32.ofNat k) (Int32.ofNat (k + c.length)) = some (s_res p t dp c, I', G) ∧ ∀ b, b ≠ 64 → b ≠ 65 → I' b = I b := by
  have e : ∀ b, b ≠ 64 → g_X8_clear_64 I G b = I b := fun b hb => up_row _ _ _ hb
  obtain ⟨I', b1, b2⟩ := c_rkL_53 (G := G) hp ht (dp := dp) (Int32.ofNat k) c k FU (g_X8_clear_64 I G) [] [] [b0] (h.kept (fun b z1 z2 => e b (by omega))) (hT.kept ⟨by rw [e 53 (by omega)], by rw [e 53 (by omega)]⟩ ⟨e _ (by omega), e _ (by omega), e _ (by omega)⟩)
    (by unfold cF_53; rw [e 53 (by omega), e 57 (by omega), e 58 (by omega), e 59 (by omega)]; exact hF) (by rw [e 53 (by omega)]; exact hd) (fun z => by rw [e 53 (by omega)]; exact hfr z) (hc.kept (e _ (by omega)) (e _ (by omega))) hw trivial ⟨by unfold g_X8_clear_64; rw [up_in, if_pos rfl]; rfl, trivial⟩ (by rw [List.length_nil]; omega) hk rfl (by unfold FU; omega)
  exact ⟨I', b1, fun b z1 z2 => (b2 b z1 z2).trans (e b z1)⟩
end ME53
section ME66
variable {p t : sP} {G : am_G}
theorem c_egL_66 {I : am_I} (h : cP I p) (hp : p_ok p) (hF : ∀ k, k < s_S p → I 71 k = Int32.ofNat (s_ik p t k)) {j : Nat} (hj : j < 100) : ∀ (m y n : Nat), y + m = p 0 1 → m < n → L_X7_isAtEdge_66 n 0 I G (Int32.ofNat j) (Int32.ofNat y) = some (s_eg p t j m y, I, G) := by
  have h0 := hp.1
  have hS := s_S_le hp
  intro m
  induction m with
  | zero =>
    intro y n hk hn
    obtain ⟨n, rfl⟩ : ∃ n', n = n' + 1 := ⟨n - 1, by omega⟩
    rw [L_X7_isAtEdge_66_0, h.1.2.1, if_pos ((n_le (by omega) (by omega)).mpr (by omega))]
    rfl
  | succ m ih =>
    intro y n hk hn
    obtain ⟨n, rfl⟩ : ∃ n', n = n' + 1 := ⟨n - 1, by omega⟩
    have hr := s_row_lt hp (y := y) (by omega)
    have hi := s_ik_b p t (y * p 0 0)
    rw [L_X7_isAtEdge_66_0, h.1.2.1, if_neg (fun z => absurd ((n_le (by omega) (by omega)).mp z) (by omega)), h.1.1, n_mul, n_gAt (by omega) (by omega), hF _ hr, n_inc, s_eg]
    by_cases he : s_ik p t (y * p 0 0) = j
    · rw [if_pos (by rw [he]), if_pos he]
    · rw [if_neg (fun z => he ((n_eq (by omega) (by omega)).mp z)), if_neg he]
      exact ih (y + 1) n (by omega) (by omega)
theorem c_pop_66 {I : am_I} {st : List Int32} {x : Int32} (hn : I 77 1 = Int32.ofNat (x :: st).length) (hl : (x :: st).length ≤ 400) (hs : c_stk 78 I (x :: st)) : f_X8_pop_77 I G = x ∧ g_X8_pop_77 I G = am_up I 77 1 (Int32.ofNat st.length) := by
  rw [List.length_cons] at hn hl
  unfold f_X8_pop_77 g_X8_pop_77
  rw [hn, if_neg (n_nle0 (by omega) (by omega)), if_neg (n_nle0 (by omega) (by omega)), if_neg (fun z => absurd ((n_lt (by omega) (by omega)).mp z) (by omega)), if_neg (fun z => absurd ((n_lt (by omega) (by omega)).mp z) (by omega)), n_dec (by omega), show st.length + 1 - 1 = st.length by omega, n_cl (by omega)]
  exact ⟨hs.1, rfl⟩
theorem c_push_66 {I : am_I} {n : Nat} (hn : I 77 1 = Int32.ofNat n) (hl : n < 400) (x : Int32) : g_X8_push_77 I G x = am_up (am_up I 78 n x) 77 1 (Int32.ofNat (n + 1)) := by
  unfold g_X8_push_77
  rw [hn, if_neg (n_nlt0 n (by omega)), if_neg (fun z => absurd ((n_le (by omega) (by omega)).mp z) (by omega)), n_cl (by omega), n_inc]
theorem c_pushb_66 {I : am_I} {x : Int32} (hx : x = 0 ∨ x = 1) : g_X8_pushTest_77 I G x = g_X8_push_77 I G x := by
  unfold g_X8_pushTest_77
  rcases hx with rfl | rfl
  · rw [if_pos rfl]
  · rw [if_neg (by decide)]
/-- the stack of the sheet -/
def cK_66 (I : am_I) (st : List Int32) : Prop := I 77 1 = Int32.ofNat st.length ∧ c_stk 78 I st
theorem cK_66.push {I : am_I} {st : List Int32} (h : cK_66 I st) (hl : st.length < 400) (x : Int32) : cK_66 (g_X8_push_77 I G x) (x :: st) ∧ ∀ b, b ≠ 77 → b ≠ 78 → g_X8_push_77 I G x b = I b := by
  rw [c_push_66 h.1 hl]
  refine ⟨⟨by rw [up_in, if_pos rfl, List.length_cons], by rw [up_row _ _ _ (by omega), up_in, if_pos rfl], h.2.kept (fun j hj => by rw [up_row _ _ _ (by omega), up_in, if_neg (by omega)])⟩, fun b z1 z2 => by rw [up_row _ _ _ z1, up_row _ _ _ z2]⟩
theorem cK_66.pop {I : am_I} {st : List Int32} {x : Int32} (h : cK_66 I (x :: st)) (hl : (x :: st).length ≤ 400) : f_X8_pop_77 I G = x ∧ cK_66 (g_X8_pop_77 I G) st ∧ ∀ b, b ≠ 77 → g_X8_pop_77 I G b = I b := by
  obtain ⟨e1, e2⟩ := c_pop_66 (G := G) h.1 hl h.2
  rw [e2]
  exact ⟨e1, ⟨by rw [up_in, if_pos rfl], h.2.2.kept (fun j hj => by rw [up_row _ _ _ (by omega)])⟩, fun b hb => up_row _ _ _ hb⟩
/-- one instruction -/
theorem c_stp_66 {I : am_I} (h : cP I p) (hp : p_ok p) (hT : cT_66 I p t) (ht : t_ok p t) (hF : cF_66 I p t) {dp : Int32} (hd : I 66 12 = dp) {op a : Nat} {ts ts' : List Bool} {st : List Int32} (hw : s_wt p op a ts = some ts') (hy : s_ty ts st) (hl : st.length < 400) (hK : cK_66 I st) (hfr : (op = 16 ∨ op = 17 ∨ op = 18) → ¬ I 66 14 = 0) :
    ∃ I' : am_I, R_X7_step_66 I G (Int32.ofNat op) (Int32.ofNat a) = some ((), I', G) ∧ cK_66 I' (s_st p t dp op a st) ∧ ∀ b, b ≠ 77 → b ≠ 78 → I' b = I b := by
  have h0 := hp.1
  have hS := s_S_le hp
  have bin : ∀ (x y : Int32) (r : List Int32), st = x :: y :: r → ∀ z : Int32, ∃ I2 : am_I, g_X8_pop_77 (g_X8_pop_77 I G) G = I2 ∧ f_X8_pop_77 I G = x ∧ f_X8_pop_77 (g_X8_pop_77 I G) G = y ∧ (∀ b, b ≠ 77 → I2 b = I b) ∧ cK_66 (g_X8_push_77 I2 G z) (z :: r) ∧ ∀ b, b ≠ 77 → b ≠ 78 → g_X8_push_77 I2 G z b = I b := by
    intro x y r he z
    subst he
    rw [List.length_cons, List.length_cons] at hl
    obtain ⟨a1, a2, a3⟩ := hK.pop (G := G) (by rw [List.length_cons, List.length_cons]; omega)
    obtain ⟨b1, b2, b3⟩ := a2.pop (G := G) (by rw [List.length_cons]; omega)
    obtain ⟨d1, d2⟩ := b2.push (G := G) (by omega) z
    exact ⟨_, rfl, a1, b1, fun b hb => (b3 b hb).trans (a3 b hb), d1, fun b z1 z2 => ((d2 b z1 z2).trans (b3 b z1)).trans (a3 b z1)⟩
  unfold R_X7_step_66
  rcases s_wt_sp hw with (⟨rfl, ha, rfl⟩ | ⟨rfl, rfl⟩ | ⟨rfl, ha, rfl⟩ | ⟨rfl, ha, rfl⟩ | ⟨rfl, ha, rfl⟩ | ⟨rfl, ha, rfl⟩) | (⟨rfl, r, rfl, rfl⟩ | ⟨rfl, r, rfl, rfl⟩) | hbin
  · rw [if_neg (by decide), if_neg (by decide), if_neg (by decide), if_neg (by decide), if_neg (by decide), if_neg (by decide), if_pos (by decide)]
    exact ⟨_, rfl, (hK.push (G := G) hl _).1, (hK.push (G := G) hl _).2⟩
  · rw [if_neg (by decide), if_neg (by decide), if_pos (by decide), hd]
    exact ⟨_, rfl, (hK.push (G := G) hl _).1, (hK.push (G := G) hl _).2⟩
  · rw [if_neg (by decide), if_pos (by decide), n_gAt (by omega) (by omega), (hT.2.2 a ha).1]
    exact ⟨_, rfl, (hK.push (G := G) hl _).1, (hK.push (G := G) hl _).2⟩
  · rw [if_pos (by decide), n_gAt (by omega) (by omega), hT.2.1 a ha]
    exact ⟨_, rfl, (hK.push (G := G) hl _).1, (hK.push (G := G) hl _).2⟩
  · rw [if_neg (by decide), if_neg (by decide), if_neg (by decide), if_pos (by decide), n_inc, n_gAt (by omega) (by omega), (hF (hfr (Or.inl rfl))).2 (a + 1) (by omega)]
    exact ⟨_, rfl, (hK.push (G := G) hl _).1, (hK.push (G := G) hl _).2⟩
  · rw [if_neg (by decide), if_neg (by decide), if_neg (by decide), if_neg (by decide), if_pos (by decide), n_inc]
    have e : R_X7_isAtEdge_66 I G (Int32.ofNat (a + 1)) = some (s_eg p t (a + 1) (p 0 1) 0, I, G) := c_egL_66 h hp (fun k hk => ((hF (hfr (Or.inr (Or.inr rfl)))).1 k hk).2) (by omega) (p 0 1) 0 FU (by omega) (by unfold FU; omega)
    rw [e, rb_go, c_pushb_66 (s_eg_b _ _ _ _ _)]
    exact ⟨_, rfl, (hK.push (G := G) hl _).1, (hK.push (G := G) hl _).2⟩
  · match st, hy with
    | x :: xs, hy =>
      rw [List.length_cons] at hl
      obtain ⟨a1, a2, a3⟩ := hK.pop (G := G) (by rw [List.length_cons]; omega)
      rw [if_neg (by decide), if_neg (by decide), if_neg (by decide), if_neg (by decide), if_neg (by decide), if_neg (by decide), if_neg (by decide), if_pos (by decide), a1]
      obtain ⟨d1, d2⟩ := a2.push (G := G) (by omega) (-x)
      exact ⟨_, rfl, d1, fun b z1 z2 => (d2 b z1 z2).trans (a3 b z1)⟩
  · match st, hy with
    | x :: xs, hy =>
      rw [List.length_cons] at hl
      obtain ⟨a1, a2, a3⟩ := hK.pop (G := G) (by rw [List.length_cons]; omega)
      rw [if_neg (by decide), if_neg (by decide), if_neg (by decide), if_neg (by decide), if_neg (by decide), if_pos (by decide), a1]
      rw [s_st19]
      by_cases hx : x = 0
      · rw [if_pos hx, if_pos hx, c_pushb_66 (Or.inr rfl)]
        obtain ⟨d1, d2⟩ := a2.push (G := G) (by omega) 1
        exact ⟨_, rfl, d1, fun b z1 z2 => (d2 b z1 z2).trans (a3 b z1)⟩
      · rw [if_neg hx, if_neg hx, c_pushb_66 (Or.inl rfl)]
        obtain ⟨d1, d2⟩ := a2.push (G := G) (by omega) 0
        exact ⟨_, rfl, d1, fun b z1 z2 => (d2 b z1 z2).trans (a3 b z1)⟩
  · have two : ∃ (x y : Int32) (r : List Int32), st = x :: y :: r := by
      rcases hbin with ⟨-, r, rfl, -⟩ | ⟨-, r, rfl, -⟩ | ⟨-, r, rfl, -⟩ <;> (match st, hy with
        | x :: y :: xs, _ => exact ⟨x, y, xs, rfl⟩)
    obtain ⟨x, y, r, hst⟩ := two
    have hops : op = 17 ∨ (op = 20 ∨ op = 21 ∨ op = 22 ∨ op = 23 ∨ op = 30 ∨ op = 31 ∨ op = 32 ∨ op = 33 ∨ op = 34 ∨ op = 35 ∨ op = 36 ∨ op = 37 ∨ op = 38) := by
      rcases hbin with ⟨ho, -⟩ | ⟨ho, -⟩ | ⟨ho, -⟩ <;> omega
    have hne : ¬ Int32.ofNat op = 6 ∧ ¬ Int32.ofNat op = 9 ∧ ¬ Int32.ofNat op = 15 ∧ ¬ Int32.ofNat op = 16 ∧ ¬ Int32.ofNat op = 18 ∧ ¬ Int32.ofNat op = 19 ∧ ¬ Int32.ofNat op = 40 ∧ ¬ Int32.ofNat op = 43 := by
      rcases hops with rfl | rfl | rfl | rfl | rfl | rfl | rfl | rfl | rfl | rfl | rfl | rfl | rfl | rfl <;> decide
    obtain ⟨n1, n2, n3, n4, n5, n6, n7, n8⟩ := hne
    rw [if_neg n1, if_neg n2, if_neg n3, if_neg n4, if_neg n5, if_neg n6, if_neg n7, if_neg n8]
    by_cases h17 : op = 17
    · subst h17
      rw [if_pos (by decide)]
      obtain ⟨I2, e1, e2, e3, e4, e5, e6⟩ := bin x y r hst (s_ht p t (s_spot p y x))
      have hsl := s_spot_lt hp y x
      rw [e1, e2, e3, c_spot (h.kept (fun b z1 z2 => e4 b (by omega))) hp, show s_md x.toInt (p 0 1) * p 0 0 + s_md y.toInt (p 0 0) = s_spot p y x from rfl, n_gAt (by omega) (by omega), e4 70 (by omega), ((hF (hfr (Or.inr (Or.inl rfl)))).1 _ hsl).1, hst]
      exact ⟨_, rfl, e5, e6⟩
    · have h17' : ¬ Int32.ofNat op = 17 := by
        rcases hops with rfl | rfl | rfl | rfl | rfl | rfl | rfl | rfl | rfl | rfl | rfl | rfl | rfl | rfl <;> first | exact absurd rfl h17 | decide
      rw [if_neg h17']
      obtain ⟨I2, e1, e2, e3, e4, e5, e6⟩ := bin x y r hst (s_bin op y x)
      rw [e1, e2, e3]
      refine ⟨_, rfl, ?_, ?_⟩
      · have hss : s_st p t dp op a st = s_bin op y x :: r := by
          rw [hst]
          unfold s_st
          rw [if_neg (by omega), if_neg (by omega), if_neg (by omega), if_neg (by omega), if_neg (by omega), if_neg (by omega)]
          dsimp only
          rw [if_neg (by omega), if_neg (by omega), if_neg h17]
        rw [hss]
        exact e5
      · exact e6
theorem c_rkL_66 (hp : p_ok p) (ht : t_ok p t) {dp : Int32} (v1 : Int32) : ∀ (c : List (Nat × Nat)) (k n : Nat) (I : am_I) (st : List Int32) (ts ts' : List Bool), cP I p → cT_66 I p t → cF_66 I p t → I 66 12 = dp → (s_lk c = true → ¬ I 66 14 = 0) → c_code I k c → s_wc p c ts = some ts' → s_ty ts st → cK_66 I st → st.length + c.length ≤ 400 → k + c.length ≤ 400 → ts'.length = 1 → c.length < n →
    ∃ I' : am_I, L_X7_reckon_66 n 0 I G v1 (Int32.ofNat (k + c.length)) (Int32.ofNat k) = some ((s_ev p t dp c st).headD 0, I', G) ∧ ∀ b, b ≠ 77 → b ≠ 78 → I' b = I b := by
  intro c
  induction c with
  | nil =>
    intro k n I st ts ts' h hT hF hd hfr hc hw hy hK hl hk hts hn
    obtain ⟨n, rfl⟩ : ∃ n', n = n' + 1 := ⟨n - 1, by omega⟩
    cases hw
    have hlen := s_ty_len hy
    match st, hy, hK, hlen with
    | [], _, _, hlen => rw [hts] at hlen; cases hlen
    | x :: xs, hy, hK, hlen =>
      rw [List.length_nil] at hl hk ⊢
      obtain ⟨a1, a2, a3⟩ := hK.pop (G := G) (by omega)
      rw [L_X7_reckon_66_0, if_pos ((n_le (by omega) (by omega)).mpr (by omega)), a1]
      exact ⟨_, rfl, fun b z1 z2 => a3 b z1⟩
  | cons q c ih =>
    intro k n I st ts ts' h hT hF hd hfr hc hw hy hK hl hk hts hn
    obtain ⟨op, a⟩ := q
    obtain ⟨n, rfl⟩ : ∃ n', n = n' + 1 := ⟨n - 1, by omega⟩
    rw [List.length_cons] at hl hk hn ⊢
    unfold s_wc at hw
    cases h1 : s_wt p op a ts with
    | none => rw [h1] at hw; cases hw
    | some t1 =>
      rw [h1] at hw
      have hlen := s_ty_len hy
      obtain ⟨I1, a1, a2, a3⟩ := c_stp_66 (G := G) h hp hT ht hF hd h1 hy (by omega) hK (fun z => hfr (by
        unfold s_lk
        rcases z with rfl | rfl | rfl <;> simp))
      have hy1 := s_st_ty (t := t) (dp := dp) h1 hy
      have hl1 : (s_st p t dp op a st).length ≤ st.length + 1 := by
        rw [← s_ty_len hy1, ← hlen]
        rcases s_wt_sp h1 with (⟨-, -, rfl⟩ | ⟨-, rfl⟩ | ⟨-, -, rfl⟩ | ⟨-, -, rfl⟩ | ⟨-, -, rfl⟩ | ⟨-, -, rfl⟩) | (⟨-, r, rfl, rfl⟩ | ⟨-, r, rfl, rfl⟩) | ⟨-, r, rfl, rfl⟩ | ⟨-, r, rfl, rfl⟩ | ⟨-, r, rfl, rfl⟩ <;> simp only [List.length_cons] <;> omega
      rw [L_X7_reckon_66_0, if_neg (fun z => absurd ((n_le (by omega) (by omega)).mp z) (by omega)), n_gAt (by omega) (by omega), n_gAt (by omega) (by omega), hc.1, hc.2.1, a1, rb_go, n_inc]
      obtain ⟨I', b1, b2⟩ := ih (k + 1) n I1 (s_st p t dp op a st) t1 ts' (h.kept (fun b z1 z2 => a3 b (by omega) (by omega))) (hT.kept ⟨by rw [a3 66 (by omega) (by omega)], by rw [a3 66 (by omega) (by omega)]⟩ ⟨a3 _ (by omega) (by omega), a3 _ (by omega) (by omega), a3 _ (by omega) (by omega)⟩)
        (by unfold cF_66; rw [a3 66 (by omega) (by omega), a3 70 (by omega) (by omega), a3 71 (by omega) (by omega), a3 72 (by omega) (by omega)]; exact hF) (by rw [a3 66 (by omega) (by omega)]; exact hd) (fun z => by
          rw [a3 66 (by omega) (by omega)]
          exact hfr (by unfold s_lk; rw [z, Bool.or_true])) (hc.2.2.kept (a3 _ (by omega) (by omega)) (a3 _ (by omega) (by omega))) hw hy1 a2 (by omega) (by omega) hts (by omega)
      rw [show k + 1 + c.length = k + (c.length + 1) by omega] at b1
      exact ⟨I', b1, fun b z1 z2 => (b2 b z1 z2).trans (a3 b z1 z2)⟩
/-- reckon -/
theorem c_rk_66 {I : am_I} (h : cP I p) (hp : p_ok p) (hT : cT_66 I p t) (ht : t_ok p t) (hF : cF_66 I p t) {dp : Int32} (hd : I 66 12 = dp) {c : List (Nat × Nat)} {k : Nat} {b0 : Bool} (hfr : s_lk c = true → ¬ I 66 14 = 0) (hc : c_code I k c) (hw : s_wc p c [] = some [b0]) (hk : k + c.length ≤ 400) :
    ∃ I' : am_I, R_X7_reckon_66 I G (Int32.ofNat k) (Int32.ofNat (k + c.length)) = some (s_res p t dp c, I', G) ∧ ∀ b, b ≠ 77 → b ≠ 78 → I' b = I b := by
  have e : ∀ b, b ≠ 77 → g_X8_clear_77 I G b = I b := fun b hb => up_row _ _ _ hb
  obtain ⟨I', b1, b2⟩ := c_rkL_66 (G := G) hp ht (dp := dp) (Int32.ofNat k) c k FU (g_X8_clear_77 I G) [] [] [b0] (h.kept (fun b z1 z2 => e b (by omega))) (hT.kept ⟨by rw [e 66 (by omega)], by rw [e 66 (by omega)]⟩ ⟨e _ (by omega), e _ (by omega), e _ (by omega)⟩)
    (by unfold cF_66; rw [e 66 (by omega), e 70 (by omega), e 71 (by omega), e 72 (by omega)]; exact hF) (by rw [e 66 (by omega)]; exact hd) (fun z => by rw [e 66 (by omega)]; exact hfr z) (hc.kept (e _ (by omega)) (e _ (by omega))) hw trivial ⟨by unfold g_X8_clear_77; rw [up_in, if_pos rfl]; rfl, trivial⟩ (by rw [List.length_nil]; omega) hk rfl (by unfold FU; omega)
  exact ⟨I', b1, fun b z1 z2 => (b2 b z1 z2).trans (e b z1)⟩
end ME66
