/-! orders: kind, target, sum, test -/
abbrev sO : Type := Nat → (Nat × Nat) × (List (Nat × Nat) × List (Nat × Nat))
def s_fl (b : Bool) : Int32 := if b then 1 else 0
def o_ok1 (p : sP) (q : (Nat × Nat) × (List (Nat × Nat) × List (Nat × Nat))) : Prop :=
  ((q.1.1 = 9 ∧ q.1.2 < p 0 3) ∨ (q.1.1 = 6 ∧ q.1.2 < p 0 2) ∨ (q.1.1 = 12 ∧ q.1.2 ≤ 1)) ∧ s_wc p q.2.1 [] = some [false] ∧ (q.2.2 = [] ∨ s_wc p q.2.2 [] = some [true])
def o_ok (p : sP) (od : sO) : Prop := p 0 5 ≤ 20 ∧ ∀ k, k < p 0 5 → o_ok1 p (od k)
/-- what an order does with its sum; whether it is another number then -/
def s_do (p t : sP) (kd tg : Nat) (v : Int32) : sP × Bool :=
  if kd = 9 then (if t 2 tg = (gHo v 0 16).toInt.toNat then (t, false) else (am_up t 2 tg (gHo v 0 16).toInt.toNat, true))
  else if kd = 6 then (if t 1 tg = (gHo v 0 999).toInt.toNat then (t, false) else (am_up t 1 tg (gHo v 0 999).toInt.toNat, true))
  else if tg = 0 then (if s_md ((t 0 0 : Int) + v.toInt) (p 0 0) = t 0 0 then (t, false) else (am_up t 0 0 (s_md ((t 0 0 : Int) + v.toInt) (p 0 0)), true))
  else (if s_md ((t 0 1 : Int) + v.toInt) (p 0 1) = t 0 1 then (t, false) else (am_up t 0 1 (s_md ((t 0 1 : Int) + v.toInt) (p 0 1)), true))
def s_o1 (p : sP) (dp : Int32) (q : (Nat × Nat) × (List (Nat × Nat) × List (Nat × Nat))) (t : sP) : sP × Bool :=
  if q.2.2 = [] ∨ ¬ s_res p t dp q.2.2 = 0 then s_do p t q.1.1 q.1.2 (s_res p t dp q.2.1) else (t, false)
def s_os (p : sP) (dp : Int32) (q : (Nat × Nat) × (List (Nat × Nat) × List (Nat × Nat))) (x : sP × Int32) : sP × Int32 := ((s_o1 p dp q x.1).1, if (s_o1 p dp q x.1).2 then x.2 + 1 else x.2)
def s_dl (p : sP) (od : sO) (dp : Int32) : Nat → Nat → sP × Int32 → sP × Int32
  | 0, _, x => x
  | m + 1, k, x => s_dl p od dp m (k + 1) (s_os p dp (od k) x)
/-- one dip: state, dips, orders carried out -/
def s_dip (p : sP) (od : sO) (x : sP × Int32 × Int32) : sP × Int32 × Int32 := ((s_dl p od x.2.1 (p 0 5) 0 (x.1, x.2.2)).1, x.2.1 + 1, (s_dl p od x.2.1 (p 0 5) 0 (x.1, x.2.2)).2)
theorem s_do9 (p t : sP) (tg : Nat) (v : Int32) : s_do p t 9 tg v = if t 2 tg = (gHo v 0 16).toInt.toNat then (t, false) else (am_up t 2 tg (gHo v 0 16).toInt.toNat, true) := by
  unfold s_do
  exact if_pos rfl
theorem s_do6 (p t : sP) (tg : Nat) (v : Int32) : s_do p t 6 tg v = if t 1 tg = (gHo v 0 999).toInt.toNat then (t, false) else (am_up t 1 tg (gHo v 0 999).toInt.toNat, true) := by
  unfold s_do
  exact (if_neg (by decide)).trans (if_pos rfl)
theorem s_do120 (p t : sP) (v : Int32) : s_do p t 12 0 v = if s_md ((t 0 0 : Int) + v.toInt) (p 0 0) = t 0 0 then (t, false) else (am_up t 0 0 (s_md ((t 0 0 : Int) + v.toInt) (p 0 0)), true) := by
  unfold s_do
  exact (if_neg (by decide)).trans ((if_neg (by decide)).trans (if_pos rfl))
theorem s_do121 (p t : sP) {tg : Nat} (h : ¬ tg = 0) (v : Int32) : s_do p t 12 tg v = if s_md ((t 0 1 : Int) + v.toInt) (p 0 1) = t 0 1 then (t, false) else (am_up t 0 1 (s_md ((t 0 1 : Int) + v.toInt) (p 0 1)), true) := by
  unfold s_do
  exact (if_neg (by decide)).trans ((if_neg (by decide)).trans (if_neg h))
theorem gHo_b16 (x : Int32) : 0 ≤ (gHo x 0 16).toInt ∧ (gHo x 0 16).toInt ≤ 16 := by
  unfold gHo gMax gMin
  have h0 : (0 : Int32).toInt = 0 := rfl
  have h9 : (16 : Int32).toInt = 16 := rfl
  by_cases h1 : (16 : Int32) < x
  · rw [if_pos h1]; decide
  · rw [if_neg h1]
    rw [i_lt, h9] at h1
    by_cases h2 : (0 : Int32) < x
    · rw [if_pos h2]; rw [i_lt, h0] at h2; omega
    · rw [if_neg h2]; decide
theorem t_up1 {p t : sP} (ht : t_ok p t) {o x : Nat} (hx : x ≤ 999) : t_ok p (am_up t 1 o x) :=
  ⟨by rw [up_row _ _ _ (by omega)]; exact ht.1, by rw [up_row _ _ _ (by omega)]; exact ht.2.1, fun k => by
    rw [up_row _ _ _ (by omega : (2 : Nat) ≠ 1), up_in]
    refine ⟨?_, (ht.2.2 k).2⟩
    split
    · exact hx
    · exact (ht.2.2 k).1⟩
theorem t_up2 {p t : sP} (ht : t_ok p t) {c x : Nat} (hx : x ≤ 16) : t_ok p (am_up t 2 c x) :=
  ⟨by rw [up_row _ _ _ (by omega)]; exact ht.1, by rw [up_row _ _ _ (by omega)]; exact ht.2.1, fun k => by
    rw [up_row _ _ _ (by omega : (1 : Nat) ≠ 2), up_in]
    refine ⟨(ht.2.2 k).1, ?_⟩
    split
    · exact hx
    · exact (ht.2.2 k).2⟩
theorem t_up00 {p t : sP} (ht : t_ok p t) {x : Nat} (hx : x < p 0 0) : t_ok p (am_up t 0 0 x) :=
  ⟨by rw [up_in, if_pos rfl]; exact hx, by rw [up_in, if_neg (by omega)]; exact ht.2.1, fun k => by
    rw [up_row _ _ _ (by omega), up_row _ _ _ (by omega)]; exact ht.2.2 k⟩
theorem t_up01 {p t : sP} (ht : t_ok p t) {x : Nat} (hx : x < p 0 1) : t_ok p (am_up t 0 1 x) :=
  ⟨by rw [up_in, if_neg (by omega)]; exact ht.1, by rw [up_in, if_pos rfl]; exact hx, fun k => by
    rw [up_row _ _ _ (by omega), up_row _ _ _ (by omega)]; exact ht.2.2 k⟩
theorem s_do_ok {p t : sP} (hp : p_ok p) (ht : t_ok p t) (kd tg : Nat) (v : Int32) : t_ok p (s_do p t kd tg v).1 := by
  have h0 := hp.1
  have h1 := gHo_b v
  have h2 := gHo_b16 v
  unfold s_do
  by_cases c1 : kd = 9
  · rw [if_pos c1]
    split
    · exact ht
    · exact t_up2 ht (by omega)
  rw [if_neg c1]
  by_cases c2 : kd = 6
  · rw [if_pos c2]
    split
    · exact ht
    · exact t_up1 ht (by omega)
  rw [if_neg c2]
  by_cases c3 : tg = 0
  · rw [if_pos c3]
    split
    · exact ht
    · exact t_up00 ht (s_md_lt _ (by omega))
  · rw [if_neg c3]
    split
    · exact ht
    · exact t_up01 ht (s_md_lt _ (by omega))
theorem s_o1_ok {p t : sP} (hp : p_ok p) (ht : t_ok p t) (dp : Int32) (q : (Nat × Nat) × (List (Nat × Nat) × List (Nat × Nat))) : t_ok p (s_o1 p dp q t).1 := by
  unfold s_o1
  split
  · exact s_do_ok hp ht _ _ _
  · exact ht
theorem s_dl_ok {p : sP} (hp : p_ok p) (od : sO) (dp : Int32) : ∀ (m k : Nat) (x : sP × Int32), t_ok p x.1 → t_ok p (s_dl p od dp m k x).1
  | 0, _, _, h => h
  | m + 1, k, x, h => s_dl_ok hp od dp m (k + 1) _ (s_o1_ok hp h dp (od k))
theorem s_dip_ok {p : sP} (hp : p_ok p) (od : sO) (x : sP × Int32 × Int32) (h : t_ok p x.1) : t_ok p (s_dip p od x).1 := s_dl_ok hp od _ _ _ _ h
theorem am_up_id {α : Type} {f : Nat → Nat → α} {a k : Nat} {x : α} (h : f a k = x) : am_up f a k x = f := by
  funext b j
  rw [am_up_lit2]
  by_cases hb : b = a ∧ j = k
  · rw [if_pos hb, hb.1, hb.2, h]
  · rw [if_neg hb]
theorem n_ladd (x y : Int32) : (x.toInt64 + y.toInt64).toInt = x.toInt + y.toInt := by
  have h1 := i_b x
  have h2 := i_b y
  rw [Int64.toInt_add, n_l, n_l]
  exact Int.bmod_eq_of_le_mul_two (by omega) (by omega)
/-- the class's orders -/
def cO (I : am_I) (p : sP) (od : sO) : Prop := I 16 8 = Int32.ofNat (p 0 5) ∧ ∀ k, k < p 0 5 → I 17 k = Int32.ofNat (od k).1.1 ∧ I 18 k = Int32.ofNat (od k).1.2 ∧ ∃ a : Nat, (I 19 k = Int32.ofNat a ∧ I 20 k = Int32.ofNat (a + (od k).2.1.length) ∧ I 21 k = Int32.ofNat (a + (od k).2.1.length + (od k).2.2.length) ∧ a + (od k).2.1.length + (od k).2.2.length ≤ 400) ∧
  c_code I a (od k).2.1 ∧ c_code I (a + (od k).2.1.length) (od k).2.2 ∧ ((s_lk (od k).2.1 || s_lk (od k).2.2) = true → ¬ I 22 k = 0)
theorem cO.kept {I I' : am_I} {p : sP} {od : sO} (h : cO I p od) (hk : ∀ b, 16 ≤ b → b ≤ 24 → I' b = I b) : cO I' p od := by
  refine ⟨by rw [hk 16 (by omega) (by omega)]; exact h.1, fun k hkk => ?_⟩
  rw [hk 17 (by omega) (by omega), hk 18 (by omega) (by omega), hk 19 (by omega) (by omega), hk 20 (by omega) (by omega), hk 21 (by omega) (by omega), hk 22 (by omega) (by omega)]
  obtain ⟨h1, h2, a, h3, h4, h5, h6⟩ := h.2 k hkk
  exact ⟨h1, h2, a, h3, h4.kept (hk 23 (by omega) (by omega)) (hk 24 (by omega) (by omega)), h5.kept (hk 23 (by omega) (by omega)) (hk 24 (by omega) (by omega)), h6⟩
/-- all that is known of the sheet 53 -/
def cA_53 (I : am_I) (p t : sP) (dp ca : Int32) : Prop := (cP I p ∧ cW I p) ∧ (cT_53 I p t ∧ cF_53 I p t ∧ cQ_53 I p t) ∧ I 53 12 = dp ∧ I 53 13 = ca
/-- nothing else has changed -/
def cZ_53 (I I' : am_I) : Prop := ∀ b, b ≠ 26 → b ≠ 27 → (b < 53 ∨ 65 < b) → I' b = I b
theorem cZ_53.rf (I : am_I) : cZ_53 I I := fun _ _ _ _ => rfl
theorem cZ_53.tr {I I1 I2 : am_I} (h1 : cZ_53 I I1) (h2 : cZ_53 I1 I2) : cZ_53 I I2 := fun b z1 z2 z3 => (h2 b z1 z2 z3).trans (h1 b z1 z2 z3)
section MD53
variable {p t : sP} {dp ca : Int32} {G : am_G} {I : am_I}
theorem cA_53.stk {I' : am_I} (h : cA_53 I p t dp ca) (hk : ∀ b, b ≠ 64 → b ≠ 65 → I' b = I b) : cA_53 I' p t dp ca := by
  obtain ⟨⟨h1, h2⟩, ⟨h3, h4, h5⟩, h6, h7⟩ := h
  have e : ∀ b, b < 64 → I' b = I b := fun b hb => hk b (by omega) (by omega)
  refine ⟨⟨h1.kept (fun b z1 z2 => e b (by omega)), h2.kept (e _ (by omega)) (e _ (by omega))⟩, ⟨h3.kept ⟨by rw [e 53 (by omega)], by rw [e 53 (by omega)]⟩ ⟨e _ (by omega), e _ (by omega), e _ (by omega)⟩, ?_, ?_⟩, by rw [e 53 (by omega)]; exact h6, by rw [e 53 (by omega)]; exact h7⟩
  · unfold cF_53; rw [e 53 (by omega), e 57 (by omega), e 58 (by omega), e 59 (by omega)]; exact h4
  · unfold cQ_53; rw [e 53 (by omega), e 60 (by omega), e 61 (by omega), e 62 (by omega)]; exact h5
theorem c_spl_53 (I : am_I) : g_X7_spoil_53 I G 53 14 = 0 ∧ g_X7_spoil_53 I G 53 15 = 0 ∧ (∀ k, k ≠ 14 → k ≠ 15 → g_X7_spoil_53 I G 53 k = I 53 k) ∧ ∀ b, b ≠ 53 → g_X7_spoil_53 I G b = I b := by
  unfold g_X7_spoil_53
  exact ⟨by rw [up_in, if_neg (by omega), up_in, if_pos rfl], by rw [up_in, if_pos rfl], fun k z1 z2 => by rw [up_in, if_neg z2, up_in, if_neg z1], fun b hb => by rw [up_row _ _ _ hb, up_row _ _ _ hb]⟩
/-- refreshed, it is known -/
theorem c_rfA_53 (hp : p_ok p) (ht : t_ok p t) (h : cA_53 I p t dp ca) : ∃ I' : am_I, R_X7_refresh_53 I G = some ((), I', G) ∧ cA_53 I' p t dp ca ∧ cZ_53 I I' ∧ ¬ I' 53 14 = 0 := by
  obtain ⟨⟨h1, h2⟩, ⟨h3, h4, h5⟩, h6, h7⟩ := h
  obtain ⟨I', a1, a2, a3, a4, a5, a6, a7⟩ := c_rf_53 (G := G) h1 hp h3 ht h2 h4
  refine ⟨I', a1, ⟨⟨h1.kept (fun b z1 z2 => a2 b (by omega) (by omega) (by omega) (by omega) (by omega) (by omega)), a4⟩, ⟨h3.kept ⟨a3 _ (by omega), a3 _ (by omega)⟩ ⟨a2 _ (by omega) (by omega) (by omega) (by omega) (by omega) (by omega), a2 _ (by omega) (by omega) (by omega) (by omega) (by omega) (by omega), a2 _ (by omega) (by omega) (by omega) (by omega) (by omega) (by omega)⟩, a5, ?_⟩, by rw [a3 12 (by omega)]; exact h6, by rw [a3 13 (by omega)]; exact h7⟩, fun b z1 z2 z3 => a2 b z1 z2 (by omega) (by omega) (by omega) (by omega), a6⟩
  intro hq
  have hq0 : ¬ I 53 15 = 0 := by rw [← a3 15 (by omega)]; exact hq
  have e := a7 (h5 hq0).1
  rw [e]
  exact h5 hq0
theorem c_grA_53 (hp : p_ok p) (ht : t_ok p t) (h : cA_53 I p t dp ca) : ∃ I' : am_I, R_X7_group_53 I G = some ((), I', G) ∧ cA_53 I' p t dp ca ∧ cZ_53 I I' ∧ ¬ I' 53 14 = 0 ∧ ¬ I' 53 15 = 0 := by
  obtain ⟨⟨h1, h2⟩, ⟨h3, h4, h5⟩, h6, h7⟩ := h
  obtain ⟨I', a1, a2, a3, a4, a5, a6, a7, a8⟩ := c_gr_53 (G := G) h1 hp h3 ht h2 h4 h5
  have e : ∀ b, b < 57 → b ≠ 26 → b ≠ 27 → b ≠ 53 → I' b = I b := fun b z1 z2 z3 z4 => a2 b z2 z3 (by omega) (by omega) (by omega) z4 (by omega) (by omega) (by omega) (by omega)
  exact ⟨I', a1, ⟨⟨h1.kept (fun b z1 z2 => e b (by omega) (by omega) (by omega) (by omega)), a4⟩, ⟨h3.kept ⟨a3 _ (by omega) (by omega), a3 _ (by omega) (by omega)⟩ ⟨e _ (by omega) (by omega) (by omega) (by omega), e _ (by omega) (by omega) (by omega) (by omega), e _ (by omega) (by omega) (by omega) (by omega)⟩, a5, a6⟩, by rw [a3 12 (by omega) (by omega)]; exact h6, by rw [a3 13 (by omega) (by omega)]; exact h7⟩, fun b z1 z2 z3 => a2 b z1 z2 (by omega) (by omega) (by omega) (by omega) (by omega) (by omega) (by omega) (by omega), a7, a8⟩
/-- changePull -/
theorem c_cp_53 (hp : p_ok p) (ht : t_ok p t) (h : cA_53 I p t dp ca) {c x : Nat} (hc : c < p 0 3) (hx : x ≤ 16) : ∃ I' : am_I, R_X7_changePull_53 I G (Int32.ofNat c) (Int32.ofNat x) = some ((if t 2 c = x then 0 else 1), I', G) ∧ cA_53 I' p (if t 2 c = x then t else am_up t 2 c x) dp ca ∧ cZ_53 I I' := by
  have h0 := hp.1
  have hA := h
  obtain ⟨⟨h1, h2⟩, ⟨h3, h4, h5⟩, h6, h7⟩ := h
  have hu := (ht.2.2 c).2
  unfold R_X7_changePull_53
  rw [n_gAt (by omega) (by omega), (h3.2.2 c hc).1, n_gPut (by omega) (by omega)]
  by_cases he : t 2 c = x
  · have eh : Int32.ofNat (t 2 c) = Int32.ofNat x := by rw [he]
    simp only [if_pos eh, if_pos he]
    exact ⟨I, rfl, hA, cZ_53.rf I⟩
  · have nh : ¬ Int32.ofNat (t 2 c) = Int32.ofNat x := fun z => he ((n_eq (by omega) (by omega)).mp z)
    simp only [if_neg nh, if_neg he]
    have k1 : cP (am_up I 54 c (Int32.ofNat x)) p := h1.kept (fun b z1 z2 => up_row _ _ _ (by omega))
    obtain ⟨I1, a1, a2, a3⟩ := c_rs_53 (G := G) k1 hp hc hx (by rw [up_in, if_pos rfl])
    obtain ⟨s1, s2, s3, s4⟩ := c_spl_53 (G := G) I1
    rw [a1, rb_go]
    have e : ∀ b, b ≠ 54 → b ≠ 55 → b ≠ 53 → g_X7_spoil_53 I1 G b = I b := fun b z1 z2 z3 => by rw [s4 b z3, a2 b z2, up_row _ _ _ z1]
    have eS : ∀ k, k ≠ 14 → k ≠ 15 → g_X7_spoil_53 I1 G 53 k = I 53 k := fun k z1 z2 => by rw [s3 k z1 z2, a2 53 (by omega), up_row _ _ _ (by omega)]
    refine ⟨_, rfl, ⟨⟨h1.kept (fun b z1 z2 => e b (by omega) (by omega) (by omega)), h2.kept (e _ (by omega) (by omega) (by omega)) (e _ (by omega) (by omega) (by omega))⟩, ⟨⟨⟨?_, ?_⟩, fun o ho => ?_, fun c' hc' => ⟨?_, fun l hl => ?_⟩⟩, fun z => absurd s1 z, fun z => absurd s2 z⟩, by rw [eS 12 (by omega) (by omega)]; exact h6, by rw [eS 13 (by omega) (by omega)]; exact h7⟩, fun b z1 z2 z3 => e b (by omega) (by omega) (by omega)⟩
    · rw [eS 10 (by omega) (by omega), up_row t _ _ (by omega)]; exact h3.1.1
    · rw [eS 11 (by omega) (by omega), up_row t _ _ (by omega)]; exact h3.1.2
    · rw [e 56 (by omega) (by omega) (by omega), up_row t _ _ (by omega)]; exact h3.2.1 o ho
    · rw [s4 54 (by omega), a2 54 (by omega), up_in, up_in]
      by_cases hcc : c' = c
      · rw [if_pos hcc, if_pos hcc]
      · rw [if_neg hcc, if_neg hcc]; exact (h3.2.2 c' hc').1
    · have hl2 := s_lines_b hp c
      have hl3 := s_lines_b hp c'
      rw [s4 55 (by omega), a3]
      unfold s_shift
      rw [up_in]
      by_cases hcc : c' = c
      · subst hcc
        rw [if_pos (by omega), if_pos rfl, show c' * 24 + l - c' * 24 = l by omega]
      · rw [if_neg (by omega), if_neg hcc, up_row _ _ _ (by omega)]; exact (h3.2.2 c' hc').2 l hl
/-- changeSeed -/
theorem c_cs_53 (hp : p_ok p) (ht : t_ok p t) (h : cA_53 I p t dp ca) {o x : Nat} (ho : o < p 0 2) (hx : x ≤ 999) : f_X7_changeSeed_53 I G (Int32.ofNat o) (Int32.ofNat x) = (if t 1 o = x then 0 else 1) ∧ cA_53 (g_X7_changeSeed_53 I G (Int32.ofNat o) (Int32.ofNat x)) p (if t 1 o = x then t else am_up t 1 o x) dp ca ∧ cZ_53 I (g_X7_changeSeed_53 I G (Int32.ofNat o) (Int32.ofNat x)) := by
  have h0 := hp.1
  have hA := h
  obtain ⟨⟨h1, h2⟩, ⟨h3, h4, h5⟩, h6, h7⟩ := h
  have hu := (ht.2.2 o).1
  unfold f_X7_changeSeed_53 g_X7_changeSeed_53
  rw [n_gAt (by omega) (by omega), h3.2.1 o ho, n_gPut (by omega) (by omega)]
  by_cases he : t 1 o = x
  · have eh : Int32.ofNat (t 1 o) = Int32.ofNat x := by rw [he]
    simp only [if_pos eh, if_pos he]
    exact ⟨trivial, hA, cZ_53.rf I⟩
  · have nh : ¬ Int32.ofNat (t 1 o) = Int32.ofNat x := fun z => he ((n_eq (by omega) (by omega)).mp z)
    simp only [if_neg nh, if_neg he]
    obtain ⟨s1, s2, s3, s4⟩ := c_spl_53 (G := G) (am_up I 56 o (Int32.ofNat x))
    have e : ∀ b, b ≠ 56 → b ≠ 53 → g_X7_spoil_53 (am_up I 56 o (Int32.ofNat x)) G b = I b := fun b z1 z2 => by rw [s4 b z2, up_row _ _ _ z1]
    have eS : ∀ k, k ≠ 14 → k ≠ 15 → g_X7_spoil_53 (am_up I 56 o (Int32.ofNat x)) G 53 k = I 53 k := fun k z1 z2 => by rw [s3 k z1 z2, up_row _ _ _ (by omega)]
    refine ⟨trivial, ⟨⟨h1.kept (fun b z1 z2 => e b (by omega) (by omega)), h2.kept (e _ (by omega) (by omega)) (e _ (by omega) (by omega))⟩, ⟨⟨⟨?_, ?_⟩, fun o' ho' => ?_, fun c' hc' => ⟨?_, fun l hl => ?_⟩⟩, fun z => absurd s1 z, fun z => absurd s2 z⟩, by rw [eS 12 (by omega) (by omega)]; exact h6, by rw [eS 13 (by omega) (by omega)]; exact h7⟩, fun b z1 z2 z3 => e b (by omega) (by omega)⟩
    · rw [eS 10 (by omega) (by omega), up_row t _ _ (by omega)]; exact h3.1.1
    · rw [eS 11 (by omega) (by omega), up_row t _ _ (by omega)]; exact h3.1.2
    · rw [s4 56 (by omega), up_in, up_in]
      by_cases hoo : o' = o
      · rw [if_pos hoo, if_pos hoo]
      · rw [if_neg hoo, if_neg hoo]; exact h3.2.1 o' ho'
    · rw [e 54 (by omega) (by omega), up_row t _ _ (by omega)]; exact (h3.2.2 c' hc').1
    · rw [e 55 (by omega) (by omega)]
      unfold s_shift
      rw [up_row t _ _ (by omega)]; exact (h3.2.2 c' hc').2 l hl
/-- changeDrift -/
theorem c_cd_53 (hp : p_ok p) (ht : t_ok p t) (h : cA_53 I p t dp ca) (x y : Int32) : f_X7_changeDrift_53 I G x y = (if s_md ((t 0 0 : Int) + x.toInt) (p 0 0) = t 0 0 ∧ s_md ((t 0 1 : Int) + y.toInt) (p 0 1) = t 0 1 then 0 else 1) ∧ cA_53 (g_X7_changeDrift_53 I G x y) p (am_up (am_up t 0 0 (s_md ((t 0 0 : Int) + x.toInt) (p 0 0))) 0 1 (s_md ((t 0 1 : Int) + y.toInt) (p 0 1))) dp ca ∧ cZ_53 I (g_X7_changeDrift_53 I G x y) := by
  have h0 := hp.1
  have hA := h
  obtain ⟨⟨h1, h2⟩, ⟨h3, h4, h5⟩, h6, h7⟩ := h
  have t0 := ht.1
  have t1 := ht.2.1
  have eX : gWr ((I 53 10).toInt64 + x.toInt64).toInt (I 7 9) = Int32.ofNat (s_md ((t 0 0 : Int) + x.toInt) (p 0 0)) := by rw [n_ladd, h3.1.1, h1.1.1, n_ti (by omega), n_gWr (by omega) (by omega)]
  have eY : gWr ((I 53 11).toInt64 + y.toInt64).toInt (I 7 10) = Int32.ofNat (s_md ((t 0 1 : Int) + y.toInt) (p 0 1)) := by rw [n_ladd, h3.1.2, h1.1.2.1, n_ti (by omega), n_gWr (by omega) (by omega)]
  have bX := s_md_lt ((t 0 0 : Int) + x.toInt) (show 0 < p 0 0 by omega)
  have bY := s_md_lt ((t 0 1 : Int) + y.toInt) (show 0 < p 0 1 by omega)
  generalize s_md ((t 0 0 : Int) + x.toInt) (p 0 0) = d at eX bX ⊢
  generalize s_md ((t 0 1 : Int) + y.toInt) (p 0 1) = u at eY bY ⊢
  unfold f_X7_changeDrift_53 g_X7_changeDrift_53
  rw [eX, eY, h3.1.1, h3.1.2]
  have big : cA_53 (g_X7_spoil_53 (am_up (am_up I 53 10 (Int32.ofNat d)) 53 11 (Int32.ofNat u)) G) p (am_up (am_up t 0 0 d) 0 1 u) dp ca ∧ cZ_53 I (g_X7_spoil_53 (am_up (am_up I 53 10 (Int32.ofNat d)) 53 11 (Int32.ofNat u)) G) := by
    obtain ⟨s1, s2, s3, s4⟩ := c_spl_53 (G := G) (am_up (am_up I 53 10 (Int32.ofNat d)) 53 11 (Int32.ofNat u))
    have e : ∀ b, b ≠ 53 → g_X7_spoil_53 (am_up (am_up I 53 10 (Int32.ofNat d)) 53 11 (Int32.ofNat u)) G b = I b := fun b z => by rw [s4 b z, up_row _ _ _ z, up_row _ _ _ z]
    refine ⟨⟨⟨h1.kept (fun b z1 z2 => e b (by omega)), h2.kept (e _ (by omega)) (e _ (by omega))⟩, ⟨⟨⟨?_, ?_⟩, fun o' ho' => ?_, fun c' hc' => ⟨?_, fun l hl => ?_⟩⟩, fun z => absurd s1 z, fun z => absurd s2 z⟩, ?_, ?_⟩, fun b z1 z2 z3 => e b (by omega)⟩
    · rw [s3 10 (by omega) (by omega), up_in, if_neg (by omega), up_in, if_pos rfl, up_in, if_neg (by omega), up_in, if_pos rfl]
    · rw [s3 11 (by omega) (by omega), up_in, if_pos rfl, up_in, if_pos rfl]
    · rw [e 56 (by omega), up_row _ _ _ (by omega), up_row t _ _ (by omega)]; exact h3.2.1 o' ho'
    · rw [e 54 (by omega), up_row _ _ _ (by omega), up_row t _ _ (by omega)]; exact (h3.2.2 c' hc').1
    · rw [e 55 (by omega)]
      unfold s_shift
      rw [up_row _ _ _ (by omega), up_row t _ _ (by omega)]; exact (h3.2.2 c' hc').2 l hl
    · rw [s3 12 (by omega) (by omega), up_in, if_neg (by omega), up_in, if_neg (by omega)]; exact h6
    · rw [s3 13 (by omega) (by omega), up_in, if_neg (by omega), up_in, if_neg (by omega)]; exact h7
  by_cases hd : d = t 0 0
  · have ed : Int32.ofNat d = Int32.ofNat (t 0 0) := by rw [hd]
    by_cases hu : u = t 0 1
    · have eu : Int32.ofNat u = Int32.ofNat (t 0 1) := by rw [hu]
      have c0 : d = t 0 0 ∧ u = t 0 1 := ⟨hd, hu⟩
      simp only [if_pos ed, if_pos eu, if_pos c0, if_pos (rfl : (0 : Int32) = 0)]
      have e1 : am_up I 53 10 (Int32.ofNat d) = I := am_up_id (by rw [h3.1.1, hd])
      have e2 : am_up I 53 11 (Int32.ofNat u) = I := am_up_id (by rw [h3.1.2, hu])
      have e3 : am_up t 0 0 d = t := am_up_id hd.symm
      have e4 : am_up t 0 1 u = t := am_up_id hu.symm
      rw [e1, e2, e3, e4]
      exact ⟨trivial, hA, cZ_53.rf I⟩
    · have nu : ¬ Int32.ofNat u = Int32.ofNat (t 0 1) := fun z => hu ((n_eq (by omega) (by omega)).mp z)
      have c0 : ¬ (d = t 0 0 ∧ u = t 0 1) := fun z => hu z.2
      simp only [if_pos ed, if_neg nu, if_neg c0, if_neg (by decide : ¬ (1 : Int32) = 0)]
      exact ⟨trivial, big⟩
  · have nd : ¬ Int32.ofNat d = Int32.ofNat (t 0 0) := fun z => hd ((n_eq (by omega) (by omega)).mp z)
    have c0 : ¬ (d = t 0 0 ∧ u = t 0 1) := fun z => hd z.1
    simp only [if_neg nd, if_neg c0, if_neg (by decide : ¬ (1 : Int32) = 0)]
    exact ⟨trivial, big⟩
/-- what an order does, behind its sum -/
theorem c_tl_53 (hp : p_ok p) (ht : t_ok p t) (h : cA_53 I p t dp ca) {x1 : Int32} {kd tg : Nat} (e17 : gAt (I 17) 20 x1 = Int32.ofNat kd) (e18 : gAt (I 18) 20 x1 = Int32.ofNat tg) (ho : (kd = 9 ∧ tg < p 0 3) ∨ (kd = 6 ∧ tg < p 0 2) ∨ (kd = 12 ∧ tg ≤ 1)) (r1 : Int32) :
    ∃ I' : am_I, (if (gAt (I 17) 20 x1) = (6 : Int32) then rg ((f_X7_changeSeed_53 I G (gAt (I 18) 20 x1) (gHo r1 (0 : Int32) (999 : Int32))) = 0 ∨ (f_X7_changeSeed_53 I G (gAt (I 18) 20 x1) (gHo r1 (0 : Int32) (999 : Int32))) = 1) (some ((f_X7_changeSeed_53 I G (gAt (I 18) 20 x1) (gHo r1 (0 : Int32) (999 : Int32))), (g_X7_changeSeed_53 I G (gAt (I 18) 20 x1) (gHo r1 (0 : Int32) (999 : Int32))), G)) else if (gAt (I 17) 20 x1) = (9 : Int32) then rb (R_X7_changePull_53 I G (gAt (I 18) 20 x1) (gHo r1 (0 : Int32) (16 : Int32))) (fun r2 I2 G2 => rg (r2 = 0 ∨ r2 = 1) (some (r2, I2, G2))) else (if (gAt (I 18) 20 x1) = 0 then rg ((f_X7_changeDrift_53 I G r1 (0 : Int32)) = 0 ∨ (f_X7_changeDrift_53 I G r1 (0 : Int32)) = 1) (some ((f_X7_changeDrift_53 I G r1 (0 : Int32)), (g_X7_changeDrift_53 I G r1 (0 : Int32)), G)) else rg ((f_X7_changeDrift_53 I G (0 : Int32) r1) = 0 ∨ (f_X7_changeDrift_53 I G (0 : Int32) r1) = 1) (some ((f_X7_changeDrift_53 I G (0 : Int32) r1), (g_X7_changeDrift_53 I G (0 : Int32) r1), G)))) = some (s_fl (s_do p t kd tg r1).2, I', G) ∧ cA_53 I' p (s_do p t kd tg r1).1 dp ca ∧ cZ_53 I I' := by
  have h0 := hp.1
  rw [e17, e18]
  rcases ho with ⟨rfl, ho⟩ | ⟨rfl, ho⟩ | ⟨rfl, ho⟩
  · have hb := gHo_b16 r1
    rw [if_neg (by decide), if_pos (by decide), n_ex hb.1]
    obtain ⟨I', a1, a2, a3⟩ := c_cp_53 (G := G) hp ht h (c := tg) (x := (gHo r1 0 16).toInt.toNat) ho (by omega)
    rw [a1, rb_go]
    by_cases he : t 2 tg = (gHo r1 0 16).toInt.toNat
    · have es : s_do p t 9 tg r1 = (t, false) := by rw [s_do9, if_pos he]
      rw [if_pos he] at a2
      rw [es, if_pos he, rg_pos (Or.inl rfl)]
      exact ⟨I', rfl, a2, a3⟩
    · have es : s_do p t 9 tg r1 = (am_up t 2 tg (gHo r1 0 16).toInt.toNat, true) := by rw [s_do9, if_neg he]
      rw [if_neg he] at a2
      rw [es, if_neg he, rg_pos (Or.inr rfl)]
      exact ⟨I', rfl, a2, a3⟩
  · have hb := gHo_b r1
    rw [if_pos (by decide), n_ex hb.1]
    obtain ⟨a1, a2, a3⟩ := c_cs_53 (G := G) hp ht h (o := tg) (x := (gHo r1 0 999).toInt.toNat) ho (by omega)
    rw [a1]
    by_cases he : t 1 tg = (gHo r1 0 999).toInt.toNat
    · have es : s_do p t 6 tg r1 = (t, false) := by rw [s_do6, if_pos he]
      rw [if_pos he] at a2
      rw [es, if_pos he, rg_pos (Or.inl rfl)]
      exact ⟨_, rfl, a2, a3⟩
    · have es : s_do p t 6 tg r1 = (am_up t 1 tg (gHo r1 0 999).toInt.toNat, true) := by rw [s_do6, if_neg he]
      rw [if_neg he] at a2
      rw [es, if_neg he, rg_pos (Or.inr rfl)]
      exact ⟨_, rfl, a2, a3⟩
  · rw [if_neg (by decide), if_neg (by decide)]
    have hz : (0 : Int32).toInt = 0 := rfl
    by_cases hg : tg = 0
    · subst hg
      obtain ⟨a1, a2, a3⟩ := c_cd_53 (G := G) hp ht h r1 0
      rw [hz, Int.add_zero, s_md_id ht.2.1] at a1 a2
      have e4 : am_up (am_up t 0 0 (s_md ((t 0 0 : Int) + r1.toInt) (p 0 0))) 0 1 (t 0 1) = am_up t 0 0 (s_md ((t 0 0 : Int) + r1.toInt) (p 0 0)) := am_up_id (by rw [up_in, if_neg (by omega)])
      rw [e4] at a2
      rw [if_pos (show Int32.ofNat 0 = 0 from rfl), a1]
      by_cases he : s_md ((t 0 0 : Int) + r1.toInt) (p 0 0) = t 0 0
      · have es : s_do p t 12 0 r1 = (t, false) := by rw [s_do120, if_pos he]
        rw [es, if_pos ⟨he, rfl⟩, rg_pos (Or.inl rfl)]
        rw [he, am_up_id rfl] at a2
        exact ⟨_, rfl, a2, a3⟩
      · have es : s_do p t 12 0 r1 = (am_up t 0 0 (s_md ((t 0 0 : Int) + r1.toInt) (p 0 0)), true) := by rw [s_do120, if_neg he]
        rw [es, if_neg (fun z => he z.1), rg_pos (Or.inr rfl)]
        exact ⟨_, rfl, a2, a3⟩
    · obtain ⟨a1, a2, a3⟩ := c_cd_53 (G := G) hp ht h 0 r1
      rw [hz, Int.add_zero, s_md_id ht.1] at a1 a2
      have e4 : am_up t 0 0 (t 0 0) = t := am_up_id rfl
      rw [e4] at a2
      rw [if_neg (n_ne0 (by omega) (by omega)), a1]
      by_cases he : s_md ((t 0 1 : Int) + r1.toInt) (p 0 1) = t 0 1
      · have es : s_do p t 12 tg r1 = (t, false) := by rw [s_do121 p t hg, if_pos he]
        rw [es, if_pos ⟨rfl, he⟩, rg_pos (Or.inl rfl)]
        rw [he, am_up_id rfl] at a2
        exact ⟨_, rfl, a2, a3⟩
      · have es : s_do p t 12 tg r1 = (am_up t 0 1 (s_md ((t 0 1 : Int) + r1.toInt) (p 0 1)), true) := by rw [s_do121 p t hg, if_neg he]
        rw [es, if_neg (fun z => he z.2), rg_pos (Or.inr rfl)]
        exact ⟨_, rfl, a2, a3⟩
/-- carryOut -/
theorem c_co_53 {od : sO} (hp : p_ok p) (ht : t_ok p t) (ho : o_ok p od) (hO : cO I p od) (h : cA_53 I p t dp ca) {k : Nat} (hk : k < p 0 5) (hfr : (s_lk (od k).2.1 || s_lk (od k).2.2) = true → ¬ I 53 14 = 0) :
    ∃ I' : am_I, R_X7_carryOut_53 I G (Int32.ofNat k) = some (s_fl (s_o1 p dp (od k) t).2, I', G) ∧ cA_53 I' p (s_o1 p dp (od k) t).1 dp ca ∧ cZ_53 I I' := by
  have hk20 : k < 20 := by have := ho.1; omega
  obtain ⟨o1, o2, o3⟩ := ho.2 k hk
  obtain ⟨q1, q2, a, ⟨q3, q4, q5, q6⟩, q7, q8, q9⟩ := hO.2 k hk
  unfold R_X7_carryOut_53
  rw [n_gAt (f := I 21) hk20 (by omega), n_gAt (f := I 20) hk20 (by omega), n_gAt (f := I 19) hk20 (by omega), q3, q4, q5]
  by_cases hte : (od k).2.2 = []
  · have hz : (od k).2.2.length = 0 := by rw [hte]; rfl
    rw [if_pos ((n_le (by omega) (by omega)).mpr (by omega))]
    obtain ⟨I1, a1, a2⟩ := c_rk_53 (G := G) h.1.1 hp h.2.1.1 ht h.2.1.2.1 h.2.2.1 (fun z => hfr (by rw [z, Bool.true_or])) q7 o2 (by omega)
    rw [a1, rb_go]
    have e17 : gAt (I1 17) 20 (Int32.ofNat k) = Int32.ofNat (od k).1.1 := by rw [n_gAt hk20 (by omega), a2 17 (by omega) (by omega), q1]
    have e18 : gAt (I1 18) 20 (Int32.ofNat k) = Int32.ofNat (od k).1.2 := by rw [n_gAt hk20 (by omega), a2 18 (by omega) (by omega), q2]
    obtain ⟨I', b1, b2, b3⟩ := c_tl_53 (G := G) hp ht (h.stk a2) e17 e18 o1 (s_res p t dp (od k).2.1)
    have es : s_o1 p dp (od k) t = s_do p t (od k).1.1 (od k).1.2 (s_res p t dp (od k).2.1) := by unfold s_o1; rw [if_pos (Or.inl hte)]
    rw [es]
    exact ⟨I', b1, b2, fun b z1 z2 z3 => (b3 b z1 z2 z3).trans (a2 b (by omega) (by omega))⟩
  · have hw := o3.resolve_left hte
    have hz : 0 < (od k).2.2.length := Nat.pos_of_ne_zero (fun z => hte (List.length_eq_zero_iff.mp z))
    rw [if_neg (fun z => absurd ((n_le (by omega) (by omega)).mp z) (by omega))]
    obtain ⟨I1, a1, a2⟩ := c_rk_53 (G := G) h.1.1 hp h.2.1.1 ht h.2.1.2.1 h.2.2.1 (fun z => hfr (by rw [z, Bool.or_true])) q8 hw (by omega)
    rw [a1, rb_go]
    have h1 := h.stk a2
    by_cases hr : s_res p t dp (od k).2.2 = 0
    · rw [if_pos hr]
      have es : s_o1 p dp (od k) t = (t, false) := by unfold s_o1; rw [if_neg (fun z => z.elim hte (fun y => y hr))]
      rw [es]
      exact ⟨I1, rfl, h1, fun b z1 z2 z3 => a2 b (by omega) (by omega)⟩
    · rw [if_neg hr]
      have es : s_o1 p dp (od k) t = s_do p t (od k).1.1 (od k).1.2 (s_res p t dp (od k).2.1) := by unfold s_o1; rw [if_pos (Or.inr hr)]
      rw [es, n_gAt (f := I1 19) hk20 (by omega), a2 19 (by omega) (by omega), q3]
      obtain ⟨I2, d1, d2⟩ := c_rk_53 (G := G) h1.1.1 hp h1.2.1.1 ht h1.2.1.2.1 h1.2.2.1 (fun z => by rw [a2 53 (by omega) (by omega)]; exact hfr (by rw [z, Bool.true_or])) (q7.kept (a2 _ (by omega) (by omega)) (a2 _ (by omega) (by omega))) o2 (by omega)
      rw [d1, rb_go]
      have e17 : gAt (I2 17) 20 (Int32.ofNat k) = Int32.ofNat (od k).1.1 := by rw [n_gAt hk20 (by omega), d2 17 (by omega) (by omega), a2 17 (by omega) (by omega), q1]
      have e18 : gAt (I2 18) 20 (Int32.ofNat k) = Int32.ofNat (od k).1.2 := by rw [n_gAt hk20 (by omega), d2 18 (by omega) (by omega), a2 18 (by omega) (by omega), q2]
      obtain ⟨I', b1, b2, b3⟩ := c_tl_53 (G := G) hp ht (h1.stk d2) e17 e18 o1 (s_res p t dp (od k).2.1)
      exact ⟨I', b1, b2, fun b z1 z2 z3 => ((b3 b z1 z2 z3).trans (d2 b (by omega) (by omega))).trans (a2 b (by omega) (by omega))⟩
end MD53
section MDD53
variable {p : sP} {dp : Int32} {G : am_G}
theorem c_dpL_53 {od : sO} (hp : p_ok p) (ho : o_ok p od) : ∀ (m k n : Nat) (I : am_I) (t : sP) (ca : Int32), t_ok p t → cO I p od → cA_53 I p t dp ca → k + m = p 0 5 → m < n →
    ∃ I' : am_I, L_X7_dipOnce_53 n 0 I G (Int32.ofNat k) = some ((), I', G) ∧ cA_53 I' p (s_dl p od dp m k (t, ca)).1 (dp + 1) (s_dl p od dp m k (t, ca)).2 ∧ cZ_53 I I' := by
  have h20 := ho.1
  intro m
  induction m with
  | zero =>
    intro k n I t ca ht hO h hk hn
    obtain ⟨n, rfl⟩ : ∃ n', n = n' + 1 := ⟨n - 1, by omega⟩
    rw [L_X7_dipOnce_53_0, hO.1, if_pos ((n_le (by omega) (by omega)).mpr (by omega)), h.2.2.1]
    obtain ⟨⟨h1, h2⟩, ⟨h3, h4, h5⟩, h6, h7⟩ := h
    refine ⟨_, rfl, ⟨⟨h1.kept (fun b z1 z2 => up_row _ _ _ (by omega)), h2.kept (up_row _ _ _ (by omega)) (up_row _ _ _ (by omega))⟩, ⟨h3.kept ⟨by rw [up_in, if_neg (by omega)], by rw [up_in, if_neg (by omega)]⟩ ⟨up_row _ _ _ (by omega), up_row _ _ _ (by omega), up_row _ _ _ (by omega)⟩, ?_, ?_⟩, by rw [up_in, if_pos rfl], by rw [up_in, if_neg (by omega)]; exact h7⟩, fun b z1 z2 z3 => up_row _ _ _ (by omega)⟩
    · unfold cF_53; rw [up_in, if_neg (by omega), up_row _ _ _ (by omega), up_row _ _ _ (by omega), up_row _ _ _ (by omega)]; exact h4
    · unfold cQ_53; rw [up_in, if_neg (by omega), up_in, if_neg (by omega), up_row _ _ _ (by omega), up_row _ _ _ (by omega), up_row _ _ _ (by omega)]; exact h5
  | succ m ih =>
    intro k n I t ca ht hO h hk hn
    obtain ⟨n, rfl⟩ : ∃ n', n = n' + 1 := ⟨n - 1, by omega⟩
    have hk20 : k < 20 := by omega
    obtain ⟨q1, q2, a, q3, q7, q8, q9⟩ := hO.2 k (by omega)
    have step : ∀ I1 : am_I, cO I1 p od → cA_53 I1 p t dp ca → cZ_53 I I1 → ((s_lk (od k).2.1 || s_lk (od k).2.2) = true → ¬ I1 53 14 = 0) →
        ∃ I' : am_I, rb (R_X7_carryOut_53 I1 G (Int32.ofNat k)) (fun r101 I101 G101 => (if r101 = 0 then L_X7_dipOnce_53 n 0 I101 G101 (Int32.ofNat (k + 1)) else L_X7_dipOnce_53 n 0 (am_up I101 53 13 ((I101 53 13) + (1 : Int32))) G101 (Int32.ofNat (k + 1)))) = some ((), I', G) ∧ cA_53 I' p (s_dl p od dp (m + 1) k (t, ca)).1 (dp + 1) (s_dl p od dp (m + 1) k (t, ca)).2 ∧ cZ_53 I I' := by
      intro I1 hO1 hA1 hZ1 hf1
      obtain ⟨I2, a1, a2, a3⟩ := c_co_53 (G := G) hp ht ho hO1 hA1 (show k < p 0 5 by omega) hf1
      have hO2 : cO I2 p od := hO1.kept (fun b z1 z2 => a3 b (by omega) (by omega) (by omega))
      have ht2 := s_o1_ok hp ht dp (od k)
      rw [a1, rb_go]
      have hdl : s_dl p od dp (m + 1) k (t, ca) = s_dl p od dp m (k + 1) ((s_o1 p dp (od k) t).1, if (s_o1 p dp (od k) t).2 then ca + 1 else ca) := rfl
      rw [hdl]
      cases hb : (s_o1 p dp (od k) t).2 with
      | false =>
        rw [show s_fl false = 0 from rfl, if_pos rfl]
        obtain ⟨I', b1, b2, b3⟩ := ih (k + 1) n I2 (s_o1 p dp (od k) t).1 ca ht2 hO2 a2 (by omega) (by omega)
        exact ⟨I', b1, b2, (hZ1.tr a3).tr b3⟩
      | true =>
        rw [show s_fl true = 1 from rfl, if_neg (by decide), a2.2.2.2]
        obtain ⟨⟨h1, h2⟩, ⟨h3, h4, h5⟩, h6, h7⟩ := a2
        have hA3 : cA_53 (am_up I2 53 13 (ca + 1)) p (s_o1 p dp (od k) t).1 dp (ca + 1) := by
          refine ⟨⟨h1.kept (fun b z1 z2 => up_row _ _ _ (by omega)), h2.kept (up_row _ _ _ (by omega)) (up_row _ _ _ (by omega))⟩, ⟨h3.kept ⟨by rw [up_in, if_neg (by omega)], by rw [up_in, if_neg (by omega)]⟩ ⟨up_row _ _ _ (by omega), up_row _ _ _ (by omega), up_row _ _ _ (by omega)⟩, ?_, ?_⟩, by rw [up_in, if_neg (by omega)]; exact h6, by rw [up_in, if_pos rfl]⟩
          · unfold cF_53; rw [up_in, if_neg (by omega), up_row _ _ _ (by omega), up_row _ _ _ (by omega), up_row _ _ _ (by omega)]; exact h4
          · unfold cQ_53; rw [up_in, if_neg (by omega), up_in, if_neg (by omega), up_row _ _ _ (by omega), up_row _ _ _ (by omega), up_row _ _ _ (by omega)]; exact h5
        obtain ⟨I', b1, b2, b3⟩ := ih (k + 1) n (am_up I2 53 13 (ca + 1)) (s_o1 p dp (od k) t).1 (ca + 1) ht2 (hO2.kept (fun b z1 z2 => up_row _ _ _ (by omega))) hA3 (by omega) (by omega)
        exact ⟨I', b1, b2, (hZ1.tr a3).tr (cZ_53.tr (fun b z1 z2 z3 => up_row _ _ _ (by omega)) b3)⟩
    rw [L_X7_dipOnce_53_0, hO.1, if_neg (fun z => absurd ((n_le (by omega) (by omega)).mp z) (by omega)), n_inc]
    unfold f_X3_looksAtSpots_16
    rw [n_gAt hk20 (by omega)]
    by_cases hl : I 22 k = 0
    · rw [if_pos hl, if_pos rfl]
      exact step I hO h (cZ_53.rf I) (fun z => absurd hl (q9 z))
    · rw [if_neg hl, if_neg (by decide)]
      obtain ⟨I1, a1, a2, a3, a4⟩ := c_rfA_53 (G := G) hp ht h
      rw [a1, rb_go]
      exact step I1 (hO.kept (fun b z1 z2 => a3 b (by omega) (by omega) (by omega))) a2 a3 (fun _ => a4)
/-- a dip -/
theorem c_dp_53 {od : sO} {I : am_I} {t : sP} {ca : Int32} (hp : p_ok p) (ho : o_ok p od) (ht : t_ok p t) (hO : cO I p od) (h : cA_53 I p t dp ca) :
    ∃ I' : am_I, R_X7_dipOnce_53 I G = some ((), I', G) ∧ cA_53 I' p (s_dip p od (t, dp, ca)).1 (s_dip p od (t, dp, ca)).2.1 (s_dip p od (t, dp, ca)).2.2 ∧ cZ_53 I I' :=
  c_dpL_53 hp ho (p 0 5) 0 FU I t ca ht hO h (by omega) (by have := ho.1; unfold FU; omega)
end MDD53
/-- all that is known of the sheet 66 -/
def cA_66 (I : am_I) (p t : sP) (dp ca : Int32) : Prop := (cP I p ∧ cW I p) ∧ (cT_66 I p t ∧ cF_66 I p t ∧ cQ_66 I p t) ∧ I 66 12 = dp ∧ I 66 13 = ca
/-- nothing else has changed -/
def cZ_66 (I I' : am_I) : Prop := ∀ b, b ≠ 26 → b ≠ 27 → (b < 66 ∨ 78 < b) → I' b = I b
theorem cZ_66.rf (I : am_I) : cZ_66 I I := fun _ _ _ _ => rfl
theorem cZ_66.tr {I I1 I2 : am_I} (h1 : cZ_66 I I1) (h2 : cZ_66 I1 I2) : cZ_66 I I2 := fun b z1 z2 z3 => (h2 b z1 z2 z3).trans (h1 b z1 z2 z3)
section MD66
variable {p t : sP} {dp ca : Int32} {G : am_G} {I : am_I}
theorem cA_66.stk {I' : am_I} (h : cA_66 I p t dp ca) (hk : ∀ b, b ≠ 77 → b ≠ 78 → I' b = I b) : cA_66 I' p t dp ca := by
  obtain ⟨⟨h1, h2⟩, ⟨h3, h4, h5⟩, h6, h7⟩ := h
  have e : ∀ b, b < 77 → I' b = I b := fun b hb => hk b (by omega) (by omega)
  refine ⟨⟨h1.kept (fun b z1 z2 => e b (by omega)), h2.kept (e _ (by omega)) (e _ (by omega))⟩, ⟨h3.kept ⟨by rw [e 66 (by omega)], by rw [e 66 (by omega)]⟩ ⟨e _ (by omega), e _ (by omega), e _ (by omega)⟩, ?_, ?_⟩, by rw [e 66 (by omega)]; exact h6, by rw [e 66 (by omega)]; exact h7⟩
  · unfold cF_66; rw [e 66 (by omega), e 70 (by omega), e 71 (by omega), e 72 (by omega)]; exact h4
  · unfold cQ_66; rw [e 66 (by omega), e 73 (by omega), e 74 (by omega), e 75 (by omega)]; exact h5
theorem c_spl_66 (I : am_I) : g_X7_spoil_66 I G 66 14 = 0 ∧ g_X7_spoil_66 I G 66 15 = 0 ∧ (∀ k, k ≠ 14 → k ≠ 15 → g_X7_spoil_66 I G 66 k = I 66 k) ∧ ∀ b, b ≠ 66 → g_X7_spoil_66 I G b = I b := by
  unfold g_X7_spoil_66
  exact ⟨by rw [up_in, if_neg (by omega), up_in, if_pos rfl], by rw [up_in, if_pos rfl], fun k z1 z2 => by rw [up_in, if_neg z2, up_in, if_neg z1], fun b hb => by rw [up_row _ _ _ hb, up_row _ _ _ hb]⟩
/-- refreshed, it is known -/
theorem c_rfA_66 (hp : p_ok p) (ht : t_ok p t) (h : cA_66 I p t dp ca) : ∃ I' : am_I, R_X7_refresh_66 I G = some ((), I', G) ∧ cA_66 I' p t dp ca ∧ cZ_66 I I' ∧ ¬ I' 66 14 = 0 := by
  obtain ⟨⟨h1, h2⟩, ⟨h3, h4, h5⟩, h6, h7⟩ := h
  obtain ⟨I', a1, a2, a3, a4, a5, a6, a7⟩ := c_rf_66 (G := G) h1 hp h3 ht h2 h4
  refine ⟨I', a1, ⟨⟨h1.kept (fun b z1 z2 => a2 b (by omega) (by omega) (by omega) (by omega) (by omega) (by omega)), a4⟩, ⟨h3.kept ⟨a3 _ (by omega), a3 _ (by omega)⟩ ⟨a2 _ (by omega) (by omega) (by omega) (by omega) (by omega) (by omega), a2 _ (by omega) (by omega) (by omega) (by omega) (by omega) (by omega), a2 _ (by omega) (by omega) (by omega) (by omega) (by omega) (by omega)⟩, a5, ?_⟩, by rw [a3 12 (by omega)]; exact h6, by rw [a3 13 (by omega)]; exact h7⟩, fun b z1 z2 z3 => a2 b z1 z2 (by omega) (by omega) (by omega) (by omega), a6⟩
  intro hq
  have hq0 : ¬ I 66 15 = 0 := by rw [← a3 15 (by omega)]; exact hq
  have e := a7 (h5 hq0).1
  rw [e]
  exact h5 hq0
theorem c_grA_66 (hp : p_ok p) (ht : t_ok p t) (h : cA_66 I p t dp ca) : ∃ I' : am_I, R_X7_group_66 I G = some ((), I', G) ∧ cA_66 I' p t dp ca ∧ cZ_66 I I' ∧ ¬ I' 66 14 = 0 ∧ ¬ I' 66 15 = 0 := by
  obtain ⟨⟨h1, h2⟩, ⟨h3, h4, h5⟩, h6, h7⟩ := h
  obtain ⟨I', a1, a2, a3, a4, a5, a6, a7, a8⟩ := c_gr_66 (G := G) h1 hp h3 ht h2 h4 h5
  have e : ∀ b, b < 70 → b ≠ 26 → b ≠ 27 → b ≠ 66 → I' b = I b := fun b z1 z2 z3 z4 => a2 b z2 z3 (by omega) (by omega) (by omega) z4 (by omega) (by omega) (by omega) (by omega)
  exact ⟨I', a1, ⟨⟨h1.kept (fun b z1 z2 => e b (by omega) (by omega) (by omega) (by omega)), a4⟩, ⟨h3.kept ⟨a3 _ (by omega) (by omega), a3 _ (by omega) (by omega)⟩ ⟨e _ (by omega) (by omega) (by omega) (by omega), e _ (by omega) (by omega) (by omega) (by omega), e _ (by omega) (by omega) (by omega) (by omega)⟩, a5, a6⟩, by rw [a3 12 (by omega) (by omega)]; exact h6, by rw [a3 13 (by omega) (by omega)]; exact h7⟩, fun b z1 z2 z3 => a2 b z1 z2 (by omega) (by omega) (by omega) (by omega) (by omega) (by omega) (by omega) (by omega), a7, a8⟩
/-- changePull -/
theorem c_cp_66 (hp : p_ok p) (ht : t_ok p t) (h : cA_66 I p t dp ca) {c x : Nat} (hc : c < p 0 3) (hx : x ≤ 16) : ∃ I' : am_I, R_X7_changePull_66 I G (Int32.ofNat c) (Int32.ofNat x) = some ((if t 2 c = x then 0 else 1), I', G) ∧ cA_66 I' p (if t 2 c = x then t else am_up t 2 c x) dp ca ∧ cZ_66 I I' := by
  have h0 := hp.1
  have hA := h
  obtain ⟨⟨h1, h2⟩, ⟨h3, h4, h5⟩, h6, h7⟩ := h
  have hu := (ht.2.2 c).2
  unfold R_X7_changePull_66
  rw [n_gAt (by omega) (by omega), (h3.2.2 c hc).1, n_gPut (by omega) (by omega)]
  by_cases he : t 2 c = x
  · have eh : Int32.ofNat (t 2 c) = Int32.ofNat x := by rw [he]
    simp only [if_pos eh, if_pos he]
    exact ⟨I, rfl, hA, cZ_66.rf I⟩
  · have nh : ¬ Int32.ofNat (t 2 c) = Int32.ofNat x := fun z => he ((n_eq (by omega) (by omega)).mp z)
    simp only [if_neg nh, if_neg he]
    have k1 : cP (am_up I 67 c (Int32.ofNat x)) p := h1.kept (fun b z1 z2 => up_row _ _ _ (by omega))
    obtain ⟨I1, a1, a2, a3⟩ := c_rs_66 (G := G) k1 hp hc hx (by rw [up_in, if_pos rfl])
    obtain ⟨s1, s2, s3, s4⟩ := c_spl_66 (G := G) I1
    rw [a1, rb_go]
    have e : ∀ b, b ≠ 67 → b ≠ 68 → b ≠ 66 → g_X7_spoil_66 I1 G b = I b := fun b z1 z2 z3 => by rw [s4 b z3, a2 b z2, up_row _ _ _ z1]
    have eS : ∀ k, k ≠ 14 → k ≠ 15 → g_X7_spoil_66 I1 G 66 k = I 66 k := fun k z1 z2 => by rw [s3 k z1 z2, a2 66 (by omega), up_row _ _ _ (by omega)]
    refine ⟨_, rfl, ⟨⟨h1.kept (fun b z1 z2 => e b (by omega) (by omega) (by omega)), h2.kept (e _ (by omega) (by omega) (by omega)) (e _ (by omega) (by omega) (by omega))⟩, ⟨⟨⟨?_, ?_⟩, fun o ho => ?_, fun c' hc' => ⟨?_, fun l hl => ?_⟩⟩, fun z => absurd s1 z, fun z => absurd s2 z⟩, by rw [eS 12 (by omega) (by omega)]; exact h6, by rw [eS 13 (by omega) (by omega)]; exact h7⟩, fun b z1 z2 z3 => e b (by omega) (by omega) (by omega)⟩
    · rw [eS 10 (by omega) (by omega), up_row t _ _ (by omega)]; exact h3.1.1
    · rw [eS 11 (by omega) (by omega), up_row t _ _ (by omega)]; exact h3.1.2
    · rw [e 69 (by omega) (by omega) (by omega), up_row t _ _ (by omega)]; exact h3.2.1 o ho
    · rw [s4 67 (by omega), a2 67 (by omega), up_in, up_in]
      by_cases hcc : c' = c
      · rw [if_pos hcc, if_pos hcc]
      · rw [if_neg hcc, if_neg hcc]; exact (h3.2.2 c' hc').1
    · have hl2 := s_lines_b hp c
      have hl3 := s_lines_b hp c'
      rw [s4 68 (by omega), a3]
      unfold s_shift
      rw [up_in]
      by_cases hcc : c' = c
      · subst hcc
        rw [if_pos (by omega), if_pos rfl, show c' * 24 + l - c' * 24 = l by omega]
      · rw [if_neg (by omega), if_neg hcc, up_row _ _ _ (by omega)]; exact (h3.2.2 c' hc').2 l hl
/-- changeSeed -/
theorem c_cs_66 (hp : p_ok p) (ht : t_ok p t) (h : cA_66 I p t dp ca) {o x : Nat} (ho : o < p 0 2) (hx : x ≤ 999) : f_X7_changeSeed_66 I G (Int32.ofNat o) (Int32.ofNat x) = (if t 1 o = x then 0 else 1) ∧ cA_66 (g_X7_changeSeed_66 I G (Int32.ofNat o) (Int32.ofNat x)) p (if t 1 o = x then t else am_up t 1 o x) dp ca ∧ cZ_66 I (g_X7_changeSeed_66 I G (Int32.ofNat o) (Int32.ofNat x)) := by
  have h0 := hp.1
  have hA := h
  obtain ⟨⟨h1, h2⟩, ⟨h3, h4, h5⟩, h6, h7⟩ := h
  have hu := (ht.2.2 o).1
  unfold f_X7_changeSeed_66 g_X7_changeSeed_66
  rw [n_gAt (by omega) (by omega), h3.2.1 o ho, n_gPut (by omega) (by omega)]
  by_cases he : t 1 o = x
  · have eh : Int32.ofNat (t 1 o) = Int32.ofNat x := by rw [he]
    simp only [if_pos eh, if_pos he]
    exact ⟨trivial, hA, cZ_66.rf I⟩
  · have nh : ¬ Int32.ofNat (t 1 o) = Int32.ofNat x := fun z => he ((n_eq (by omega) (by omega)).mp z)
    simp only [if_neg nh, if_neg he]
    obtain ⟨s1, s2, s3, s4⟩ := c_spl_66 (G := G) (am_up I 69 o (Int32.ofNat x))
    have e : ∀ b, b ≠ 69 → b ≠ 66 → g_X7_spoil_66 (am_up I 69 o (Int32.ofNat x)) G b = I b := fun b z1 z2 => by rw [s4 b z2, up_row _ _ _ z1]
    have eS : ∀ k, k ≠ 14 → k ≠ 15 → g_X7_spoil_66 (am_up I 69 o (Int32.ofNat x)) G 66 k = I 66 k := fun k z1 z2 => by rw [s3 k z1 z2, up_row _ _ _ (by omega)]
    refine ⟨trivial, ⟨⟨h1.kept (fun b z1 z2 => e b (by omega) (by omega)), h2.kept (e _ (by omega) (by omega)) (e _ (by omega) (by omega))⟩, ⟨⟨⟨?_, ?_⟩, fun o' ho' => ?_, fun c' hc' => ⟨?_, fun l hl => ?_⟩⟩, fun z => absurd s1 z, fun z => absurd s2 z⟩, by rw [eS 12 (by omega) (by omega)]; exact h6, by rw [eS 13 (by omega) (by omega)]; exact h7⟩, fun b z1 z2 z3 => e b (by omega) (by omega)⟩
    · rw [eS 10 (by omega) (by omega), up_row t _ _ (by omega)]; exact h3.1.1
    · rw [eS 11 (by omega) (by omega), up_row t _ _ (by omega)]; exact h3.1.2
    · rw [s4 69 (by omega), up_in, up_in]
      by_cases hoo : o' = o
      · rw [if_pos hoo, if_pos hoo]
      · rw [if_neg hoo, if_neg hoo]; exact h3.2.1 o' ho'
    · rw [e 67 (by omega) (by omega), up_row t _ _ (by omega)]; exact (h3.2.2 c' hc').1
    · rw [e 68 (by omega) (by omega)]
      unfold s_shift
      rw [up_row t _ _ (by omega)]; exact (h3.2.2 c' hc').2 l hl
/-- changeDrift -/
theorem c_cd_66 (hp : p_ok p) (ht : t_ok p t) (h : cA_66 I p t dp ca) (x y : Int32) : f_X7_changeDrift_66 I G x y = (if s_md ((t 0 0 : Int) + x.toInt) (p 0 0) = t 0 0 ∧ s_md ((t 0 1 : Int) + y.toInt) (p 0 1) = t 0 1 then 0 else 1) ∧ cA_66 (g_X7_changeDrift_66 I G x y) p (am_up (am_up t 0 0 (s_md ((t 0 0 : Int) + x.toInt) (p 0 0))) 0 1 (s_md ((t 0 1 : Int) + y.toInt) (p 0 1))) dp ca ∧ cZ_66 I (g_X7_changeDrift_66 I G x y) := by
  have h0 := hp.1
  have hA := h
  obtain ⟨⟨h1, h2⟩, ⟨h3, h4, h5⟩, h6, h7⟩ := h
  have t0 := ht.1
  have t1 := ht.2.1
  have eX : gWr ((I 66 10).toInt64 + x.toInt64).toInt (I 7 9) = Int32.ofNat (s_md ((t 0 0 : Int) + x.toInt) (p 0 0)) := by rw [n_ladd, h3.1.1, h1.1.1, n_ti (by omega), n_gWr (by omega) (by omega)]
  have eY : gWr ((I 66 11).toInt64 + y.toInt64).toInt (I 7 10) = Int32.ofNat (s_md ((t 0 1 : Int) + y.toInt) (p 0 1)) := by rw [n_ladd, h3.1.2, h1.1.2.1, n_ti (by omega), n_gWr (by omega) (by omega)]
  have bX := s_md_lt ((t 0 0 : Int) + x.toInt) (show 0 < p 0 0 by omega)
  have bY := s_md_lt ((t 0 1 : Int) + y.toInt) (show 0 < p 0 1 by omega)
  generalize s_md ((t 0 0 : Int) + x.toInt) (p 0 0) = d at eX bX ⊢
  generalize s_md ((t 0 1 : Int) + y.toInt) (p 0 1) = u at eY bY ⊢
  unfold f_X7_changeDrift_66 g_X7_changeDrift_66
  rw [eX, eY, h3.1.1, h3.1.2]
  have big : cA_66 (g_X7_spoil_66 (am_up (am_up I 66 10 (Int32.ofNat d)) 66 11 (Int32.ofNat u)) G) p (am_up (am_up t 0 0 d) 0 1 u) dp ca ∧ cZ_66 I (g_X7_spoil_66 (am_up (am_up I 66 10 (Int32.ofNat d)) 66 11 (Int32.ofNat u)) G) := by
    obtain ⟨s1, s2, s3, s4⟩ := c_spl_66 (G := G) (am_up (am_up I 66 10 (Int32.ofNat d)) 66 11 (Int32.ofNat u))
    have e : ∀ b, b ≠ 66 → g_X7_spoil_66 (am_up (am_up I 66 10 (Int32.ofNat d)) 66 11 (Int32.ofNat u)) G b = I b := fun b z => by rw [s4 b z, up_row _ _ _ z, up_row _ _ _ z]
    refine ⟨⟨⟨h1.kept (fun b z1 z2 => e b (by omega)), h2.kept (e _ (by omega)) (e _ (by omega))⟩, ⟨⟨⟨?_, ?_⟩, fun o' ho' => ?_, fun c' hc' => ⟨?_, fun l hl => ?_⟩⟩, fun z => absurd s1 z, fun z => absurd s2 z⟩, ?_, ?_⟩, fun b z1 z2 z3 => e b (by omega)⟩
    · rw [s3 10 (by omega) (by omega), up_in, if_neg (by omega), up_in, if_pos rfl, up_in, if_neg (by omega), up_in, if_pos rfl]
    · rw [s3 11 (by omega) (by omega), up_in, if_pos rfl, up_in, if_pos rfl]
    · rw [e 69 (by omega), up_row _ _ _ (by omega), up_row t _ _ (by omega)]; exact h3.2.1 o' ho'
    · rw [e 67 (by omega), up_row _ _ _ (by omega), up_row t _ _ (by omega)]; exact (h3.2.2 c' hc').1
    · rw [e 68 (by omega)]
      unfold s_shift
      rw [up_row _ _ _ (by omega), up_row t _ _ (by omega)]; exact (h3.2.2 c' hc').2 l hl
    · rw [s3 12 (by omega) (by omega), up_in, if_neg (by omega), up_in, if_neg (by omega)]; exact h6
    · rw [s3 13 (by omega) (by omega), up_in, if_neg (by omega), up_in, if_neg (by omega)]; exact h7
  by_cases hd : d = t 0 0
  · have ed : Int32.ofNat d = Int32.ofNat (t 0 0) := by rw [hd]
    by_cases hu : u = t 0 1
    · have eu : Int32.ofNat u = Int32.ofNat (t 0 1) := by rw [hu]
      have c0 : d = t 0 0 ∧ u = t 0 1 := ⟨hd, hu⟩
      simp only [if_pos ed, if_pos eu, if_pos c0, if_pos (rfl : (0 : Int32) = 0)]
      have e1 : am_up I 66 10 (Int32.ofNat d) = I := am_up_id (by rw [h3.1.1, hd])
      have e2 : am_up I 66 11 (Int32.ofNat u) = I := am_up_id (by rw [h3.1.2, hu])
      have e3 : am_up t 0 0 d = t := am_up_id hd.symm
      have e4 : am_up t 0 1 u = t := am_up_id hu.symm
      rw [e1, e2, e3, e4]
      exact ⟨trivial, hA, cZ_66.rf I⟩
    · have nu : ¬ Int32.ofNat u = Int32.ofNat (t 0 1) := fun z => hu ((n_eq (by omega) (by omega)).mp z)
      have c0 : ¬ (d = t 0 0 ∧ u = t 0 1) := fun z => hu z.2
      simp only [if_pos ed, if_neg nu, if_neg c0, if_neg (by decide : ¬ (1 : Int32) = 0)]
      exact ⟨trivial, big⟩
  · have nd : ¬ Int32.ofNat d = Int32.ofNat (t 0 0) := fun z => hd ((n_eq (by omega) (by omega)).mp z)
    have c0 : ¬ (d = t 0 0 ∧ u = t 0 1) := fun z => hd z.1
    simp only [if_neg nd, if_neg c0, if_neg (by decide : ¬ (1 : Int32) = 0)]
    exact ⟨trivial, big⟩
/-- what an order does, behind its sum -/
theorem c_tl_66 (hp : p_ok p) (ht : t_ok p t) (h : cA_66 I p t dp ca) {x1 : Int32} {kd tg : Nat} (e17 : gAt (I 17) 20 x1 = Int32.ofNat kd) (e18 : gAt (I 18) 20 x1 = Int32.ofNat tg) (ho : (kd = 9 ∧ tg < p 0 3) ∨ (kd = 6 ∧ tg < p 0 2) ∨ (kd = 12 ∧ tg ≤ 1)) (r1 : Int32) :
    ∃ I' : am_I, (if (gAt (I 17) 20 x1) = (6 : Int32) then rg ((f_X7_changeSeed_66 I G (gAt (I 18) 20 x1) (gHo r1 (0 : Int32) (999 : Int32))) = 0 ∨ (f_X7_changeSeed_66 I G (gAt (I 18) 20 x1) (gHo r1 (0 : Int32) (999 : Int32))) = 1) (some ((f_X7_changeSeed_66 I G (gAt (I 18) 20 x1) (gHo r1 (0 : Int32) (999 : Int32))), (g_X7_changeSeed_66 I G (gAt (I 18) 20 x1) (gHo r1 (0 : Int32) (999 : Int32))), G)) else if (gAt (I 17) 20 x1) = (9 : Int32) then rb (R_X7_changePull_66 I G (gAt (I 18) 20 x1) (gHo r1 (0 : Int32) (16 : Int32))) (fun r2 I2 G2 => rg (r2 = 0 ∨ r2 = 1) (some (r2, I2, G2))) else (if (gAt (I 18) 20 x1) = 0 then rg ((f_X7_changeDrift_66 I G r1 (0 : Int32)) = 0 ∨ (f_X7_changeDrift_66 I G r1 (0 : Int32)) = 1) (some ((f_X7_changeDrift_66 I G r1 (0 : Int32)), (g_X7_changeDrift_66 I G r1 (0 : Int32)), G)) else rg ((f_X7_changeDrift_66 I G (0 : Int32) r1) = 0 ∨ (f_X7_changeDrift_66 I G (0 : Int32) r1) = 1) (some ((f_X7_changeDrift_66 I G (0 : Int32) r1), (g_X7_changeDrift_66 I G (0 : Int32) r1), G)))) = some (s_fl (s_do p t kd tg r1).2, I', G) ∧ cA_66 I' p (s_do p t kd tg r1).1 dp ca ∧ cZ_66 I I' := by
  have h0 := hp.1
  rw [e17, e18]
  rcases ho with ⟨rfl, ho⟩ | ⟨rfl, ho⟩ | ⟨rfl, ho⟩
  · have hb := gHo_b16 r1
    rw [if_neg (by decide), if_pos (by decide), n_ex hb.1]
    obtain ⟨I', a1, a2, a3⟩ := c_cp_66 (G := G) hp ht h (c := tg) (x := (gHo r1 0 16).toInt.toNat) ho (by omega)
    rw [a1, rb_go]
    by_cases he : t 2 tg = (gHo r1 0 16).toInt.toNat
    · have es : s_do p t 9 tg r1 = (t, false) := by rw [s_do9, if_pos he]
      rw [if_pos he] at a2
      rw [es, if_pos he, rg_pos (Or.inl rfl)]
      exact ⟨I', rfl, a2, a3⟩
    · have es : s_do p t 9 tg r1 = (am_up t 2 tg (gHo r1 0 16).toInt.toNat, true) := by rw [s_do9, if_neg he]
      rw [if_neg he] at a2
      rw [es, if_neg he, rg_pos (Or.inr rfl)]
      exact ⟨I', rfl, a2, a3⟩
  · have hb := gHo_b r1
    rw [if_pos (by decide), n_ex hb.1]
    obtain ⟨a1, a2, a3⟩ := c_cs_66 (G := G) hp ht h (o := tg) (x := (gHo r1 0 999).toInt.toNat) ho (by omega)
    rw [a1]
    by_cases he : t 1 tg = (gHo r1 0 999).toInt.toNat
    · have es : s_do p t 6 tg r1 = (t, false) := by rw [s_do6, if_pos he]
      rw [if_pos he] at a2
      rw [es, if_pos he, rg_pos (Or.inl rfl)]
      exact ⟨_, rfl, a2, a3⟩
    · have es : s_do p t 6 tg r1 = (am_up t 1 tg (gHo r1 0 999).toInt.toNat, true) := by rw [s_do6, if_neg he]
      rw [if_neg he] at a2
      rw [es, if_neg he, rg_pos (Or.inr rfl)]
      exact ⟨_, rfl, a2, a3⟩
  · rw [if_neg (by decide), if_neg (by decide)]
    have hz : (0 : Int32).toInt = 0 := rfl
    by_cases hg : tg = 0
    · subst hg
      obtain ⟨a1, a2, a3⟩ := c_cd_66 (G := G) hp ht h r1 0
      rw [hz, Int.add_zero, s_md_id ht.2.1] at a1 a2
      have e4 : am_up (am_up t 0 0 (s_md ((t 0 0 : Int) + r1.toInt) (p 0 0))) 0 1 (t 0 1) = am_up t 0 0 (s_md ((t 0 0 : Int) + r1.toInt) (p 0 0)) := am_up_id (by rw [up_in, if_neg (by omega)])
      rw [e4] at a2
      rw [if_pos (show Int32.ofNat 0 = 0 from rfl), a1]
      by_cases he : s_md ((t 0 0 : Int) + r1.toInt) (p 0 0) = t 0 0
      · have es : s_do p t 12 0 r1 = (t, false) := by rw [s_do120, if_pos he]
        rw [es, if_pos ⟨he, rfl⟩, rg_pos (Or.inl rfl)]
        rw [he, am_up_id rfl] at a2
        exact ⟨_, rfl, a2, a3⟩
      · have es : s_do p t 12 0 r1 = (am_up t 0 0 (s_md ((t 0 0 : Int) + r1.toInt) (p 0 0)), true) := by rw [s_do120, if_neg he]
        rw [es, if_neg (fun z => he z.1), rg_pos (Or.inr rfl)]
        exact ⟨_, rfl, a2, a3⟩
    · obtain ⟨a1, a2, a3⟩ := c_cd_66 (G := G) hp ht h 0 r1
      rw [hz, Int.add_zero, s_md_id ht.1] at a1 a2
      have e4 : am_up t 0 0 (t 0 0) = t := am_up_id rfl
      rw [e4] at a2
      rw [if_neg (n_ne0 (by omega) (by omega)), a1]
      by_cases he : s_md ((t 0 1 : Int) + r1.toInt) (p 0 1) = t 0 1
      · have es : s_do p t 12 tg r1 = (t, false) := by rw [s_do121 p t hg, if_pos he]
        rw [es, if_pos ⟨rfl, he⟩, rg_pos (Or.inl rfl)]
        rw [he, am_up_id rfl] at a2
        exact ⟨_, rfl, a2, a3⟩
      · have es : s_do p t 12 tg r1 = (am_up t 0 1 (s_md ((t 0 1 : Int) + r1.toInt) (p 0 1)), true) := by rw [s_do121 p t hg, if_neg he]
        rw [es, if_neg (fun z => he z.2), rg_pos (Or.inr rfl)]
        exact ⟨_, rfl, a2, a3⟩
/-- carryOut -/
theorem c_co_66 {od : sO} (hp : p_ok p) (ht : t_ok p t) (ho : o_ok p od) (hO : cO I p od) (h : cA_66 I p t dp ca) {k : Nat} (hk : k < p 0 5) (hfr : (s_lk (od k).2.1 || s_lk (od k).2.2) = true → ¬ I 66 14 = 0) :
    ∃ I' : am_I, R_X7_carryOut_66 I G (Int32.ofNat k) = some (s_fl (s_o1 p dp (od k) t).2, I', G) ∧ cA_66 I' p (s_o1 p dp (od k) t).1 dp ca ∧ cZ_66 I I' := by
  have hk20 : k < 20 := by have := ho.1; omega
  obtain ⟨o1, o2, o3⟩ := ho.2 k hk
  obtain ⟨q1, q2, a, ⟨q3, q4, q5, q6⟩, q7, q8, q9⟩ := hO.2 k hk
  unfold R_X7_carryOut_66
  rw [n_gAt (f := I 21) hk20 (by omega), n_gAt (f := I 20) hk20 (by omega), n_gAt (f := I 19) hk20 (by omega), q3, q4, q5]
  by_cases hte : (od k).2.2 = []
  · have hz : (od k).2.2.length = 0 := by rw [hte]; rfl
    rw [if_pos ((n_le (by omega) (by omega)).mpr (by omega))]
    obtain ⟨I1, a1, a2⟩ := c_rk_66 (G := G) h.1.1 hp h.2.1.1 ht h.2.1.2.1 h.2.2.1 (fun z => hfr (by rw [z, Bool.true_or])) q7 o2 (by omega)
    rw [a1, rb_go]
    have e17 : gAt (I1 17) 20 (Int32.ofNat k) = Int32.ofNat (od k).1.1 := by rw [n_gAt hk20 (by omega), a2 17 (by omega) (by omega), q1]
    have e18 : gAt (I1 18) 20 (Int32.ofNat k) = Int32.ofNat (od k).1.2 := by rw [n_gAt hk20 (by omega), a2 18 (by omega) (by omega), q2]
    obtain ⟨I', b1, b2, b3⟩ := c_tl_66 (G := G) hp ht (h.stk a2) e17 e18 o1 (s_res p t dp (od k).2.1)
    have es : s_o1 p dp (od k) t = s_do p t (od k).1.1 (od k).1.2 (s_res p t dp (od k).2.1) := by unfold s_o1; rw [if_pos (Or.inl hte)]
    rw [es]
    exact ⟨I', b1, b2, fun b z1 z2 z3 => (b3 b z1 z2 z3).trans (a2 b (by omega) (by omega))⟩
  · have hw := o3.resolve_left hte
    have hz : 0 < (od k).2.2.length := Nat.pos_of_ne_zero (fun z => hte (List.length_eq_zero_iff.mp z))
    rw [if_neg (fun z => absurd ((n_le (by omega) (by omega)).mp z) (by omega))]
    obtain ⟨I1, a1, a2⟩ := c_rk_66 (G := G) h.1.1 hp h.2.1.1 ht h.2.1.2.1 h.2.2.1 (fun z => hfr (by rw [z, Bool.or_true])) q8 hw (by omega)
    rw [a1, rb_go]
    have h1 := h.stk a2
    by_cases hr : s_res p t dp (od k).2.2 = 0
    · rw [if_pos hr]
      have es : s_o1 p dp (od k) t = (t, false) := by unfold s_o1; rw [if_neg (fun z => z.elim hte (fun y => y hr))]
      rw [es]
      exact ⟨I1, rfl, h1, fun b z1 z2 z3 => a2 b (by omega) (by omega)⟩
    · rw [if_neg hr]
      have es : s_o1 p dp (od k) t = s_do p t (od k).1.1 (od k).1.2 (s_res p t dp (od k).2.1) := by unfold s_o1; rw [if_pos (Or.inr hr)]
      rw [es, n_gAt (f := I1 19) hk20 (by omega), a2 19 (by omega) (by omega), q3]
      obtain ⟨I2, d1, d2⟩ := c_rk_66 (G := G) h1.1.1 hp h1.2.1.1 ht h1.2.1.2.1 h1.2.2.1 (fun z => by rw [a2 66 (by omega) (by omega)]; exact hfr (by rw [z, Bool.true_or])) (q7.kept (a2 _ (by omega) (by omega)) (a2 _ (by omega) (by omega))) o2 (by omega)
      rw [d1, rb_go]
      have e17 : gAt (I2 17) 20 (Int32.ofNat k) = Int32.ofNat (od k).1.1 := by rw [n_gAt hk20 (by omega), d2 17 (by omega) (by omega), a2 17 (by omega) (by omega), q1]
      have e18 : gAt (I2 18) 20 (Int32.ofNat k) = Int32.ofNat (od k).1.2 := by rw [n_gAt hk20 (by omega), d2 18 (by omega) (by omega), a2 18 (by omega) (by omega), q2]
      obtain ⟨I', b1, b2, b3⟩ := c_tl_66 (G := G) hp ht (h1.stk d2) e17 e18 o1 (s_res p t dp (od k).2.1)
      exact ⟨I', b1, b2, fun b z1 z2 z3 => ((b3 b z1 z2 z3).trans (d2 b (by omega) (by omega))).trans (a2 b (by omega) (by omega))⟩
end MD66
section MDD66
variable {p : sP} {dp : Int32} {G : am_G}
theorem c_dpL_66 {od : sO} (hp : p_ok p) (ho : o_ok p od) : ∀ (m k n : Nat) (I : am_I) (t : sP) (ca : Int32), t_ok p t → cO I p od → cA_66 I p t dp ca → k + m = p 0 5 → m < n →
    ∃ I' : am_I, L_X7_dipOnce_66 n 0 I G (Int32.ofNat k) = some ((), I', G) ∧ cA_66 I' p (s_dl p od dp m k (t, ca)).1 (dp + 1) (s_dl p od dp m k (t, ca)).2 ∧ cZ_66 I I' := by
  have h20 := ho.1
  intro m
  induction m with
  | zero =>
    intro k n I t ca ht hO h hk hn
    obtain ⟨n, rfl⟩ : ∃ n', n = n' + 1 := ⟨n - 1, by omega⟩
    rw [L_X7_dipOnce_66_0, hO.1, if_pos ((n_le (by omega) (by omega)).mpr (by omega)), h.2.2.1]
    obtain ⟨⟨h1, h2⟩, ⟨h3, h4, h5⟩, h6, h7⟩ := h
    refine ⟨_, rfl, ⟨⟨h1.kept (fun b z1 z2 => up_row _ _ _ (by omega)), h2.kept (up_row _ _ _ (by omega)) (up_row _ _ _ (by omega))⟩, ⟨h3.kept ⟨by rw [up_in, if_neg (by omega)], by rw [up_in, if_neg (by omega)]⟩ ⟨up_row _ _ _ (by omega), up_row _ _ _ (by omega), up_row _ _ _ (by omega)⟩, ?_, ?_⟩, by rw [up_in, if_pos rfl], by rw [up_in, if_neg (by omega)]; exact h7⟩, fun b z1 z2 z3 => up_row _ _ _ (by omega)⟩
    · unfold cF_66; rw [up_in, if_neg (by omega), up_row _ _ _ (by omega), up_row _ _ _ (by omega), up_row _ _ _ (by omega)]; exact h4
    · unfold cQ_66; rw [up_in, if_neg (by omega), up_in, if_neg (by omega), up_row _ _ _ (by omega), up_row _ _ _ (by omega), up_row _ _ _ (by omega)]; exact h5
  | succ m ih =>
    intro k n I t ca ht hO h hk hn
    obtain ⟨n, rfl⟩ : ∃ n', n = n' + 1 := ⟨n - 1, by omega⟩
    have hk20 : k < 20 := by omega
    obtain ⟨q1, q2, a, q3, q7, q8, q9⟩ := hO.2 k (by omega)
    have step : ∀ I1 : am_I, cO I1 p od → cA_66 I1 p t dp ca → cZ_66 I I1 → ((s_lk (od k).2.1 || s_lk (od k).2.2) = true → ¬ I1 66 14 = 0) →
        ∃ I' : am_I, rb (R_X7_carryOut_66 I1 G (Int32.ofNat k)) (fun r101 I101 G101 => (if r101 = 0 then L_X7_dipOnce_66 n 0 I101 G101 (Int32.ofNat (k + 1)) else L_X7_dipOnce_66 n 0 (am_up I101 66 13 ((I101 66 13) + (1 : Int32))) G101 (Int32.ofNat (k + 1)))) = some ((), I', G) ∧ cA_66 I' p (s_dl p od dp (m + 1) k (t, ca)).1 (dp + 1) (s_dl p od dp (m + 1) k (t, ca)).2 ∧ cZ_66 I I' := by
      intro I1 hO1 hA1 hZ1 hf1
      obtain ⟨I2, a1, a2, a3⟩ := c_co_66 (G := G) hp ht ho hO1 hA1 (show k < p 0 5 by omega) hf1
      have hO2 : cO I2 p od := hO1.kept (fun b z1 z2 => a3 b (by omega) (by omega) (by omega))
      have ht2 := s_o1_ok hp ht dp (od k)
      rw [a1, rb_go]
      have hdl : s_dl p od dp (m + 1) k (t, ca) = s_dl p od dp m (k + 1) ((s_o1 p dp (od k) t).1, if (s_o1 p dp (od k) t).2 then ca + 1 else ca) := rfl
      rw [hdl]
      cases hb : (s_o1 p dp (od k) t).2 with
      | false =>
        rw [show s_fl false = 0 from rfl, if_pos rfl]
        obtain ⟨I', b1, b2, b3⟩ := ih (k + 1) n I2 (s_o1 p dp (od k) t).1 ca ht2 hO2 a2 (by omega) (by omega)
        exact ⟨I', b1, b2, (hZ1.tr a3).tr b3⟩
      | true =>
        rw [show s_fl true = 1 from rfl, if_neg (by decide), a2.2.2.2]
        obtain ⟨⟨h1, h2⟩, ⟨h3, h4, h5⟩, h6, h7⟩ := a2
        have hA3 : cA_66 (am_up I2 66 13 (ca + 1)) p (s_o1 p dp (od k) t).1 dp (ca + 1) := by
          refine ⟨⟨h1.kept (fun b z1 z2 => up_row _ _ _ (by omega)), h2.kept (up_row _ _ _ (by omega)) (up_row _ _ _ (by omega))⟩, ⟨h3.kept ⟨by rw [up_in, if_neg (by omega)], by rw [up_in, if_neg (by omega)]⟩ ⟨up_row _ _ _ (by omega), up_row _ _ _ (by omega), up_row _ _ _ (by omega)⟩, ?_, ?_⟩, by rw [up_in, if_neg (by omega)]; exact h6, by rw [up_in, if_pos rfl]⟩
          · unfold cF_66; rw [up_in, if_neg (by omega), up_row _ _ _ (by omega), up_row _ _ _ (by omega), up_row _ _ _ (by omega)]; exact h4
          · unfold cQ_66; rw [up_in, if_neg (by omega), up_in, if_neg (by omega), up_row _ _ _ (by omega), up_row _ _ _ (by omega), up_row _ _ _ (by omega)]; exact h5
        obtain ⟨I', b1, b2, b3⟩ := ih (k + 1) n (am_up I2 66 13 (ca + 1)) (s_o1 p dp (od k) t).1 (ca + 1) ht2 (hO2.kept (fun b z1 z2 => up_row _ _ _ (by omega))) hA3 (by omega) (by omega)
        exact ⟨I', b1, b2, (hZ1.tr a3).tr (cZ_66.tr (fun b z1 z2 z3 => up_row _ _ _ (by omega)) b3)⟩
    rw [L_X7_dipOnce_66_0, hO.1, if_neg (fun z => absurd ((n_le (by omega) (by omega)).mp z) (by omega)), n_inc]
    unfold f_X3_looksAtSpots_16
    rw [n_gAt hk20 (by omega)]
    by_cases hl : I 22 k = 0
    · rw [if_pos hl, if_pos rfl]
      exact step I hO h (cZ_66.rf I) (fun z => absurd hl (q9 z))
    · rw [if_neg hl, if_neg (by decide)]
      obtain ⟨I1, a1, a2, a3, a4⟩ := c_rfA_66 (G := G) hp ht h
      rw [a1, rb_go]
      exact step I1 (hO.kept (fun b z1 z2 => a3 b (by omega) (by omega) (by omega))) a2 a3 (fun _ => a4)
/-- a dip -/
theorem c_dp_66 {od : sO} {I : am_I} {t : sP} {ca : Int32} (hp : p_ok p) (ho : o_ok p od) (ht : t_ok p t) (hO : cO I p od) (h : cA_66 I p t dp ca) :
    ∃ I' : am_I, R_X7_dipOnce_66 I G = some ((), I', G) ∧ cA_66 I' p (s_dip p od (t, dp, ca)).1 (s_dip p od (t, dp, ca)).2.1 (s_dip p od (t, dp, ca)).2.2 ∧ cZ_66 I I' :=
  c_dpL_66 hp ho (p 0 5) 0 FU I t ca ht hO h (by omega) (by have := ho.1; unfold FU; omega)
end MDD66
