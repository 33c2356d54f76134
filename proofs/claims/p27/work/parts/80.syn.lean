/-! the syntax of sums and tests: tokens K, numbers V; what is parsed: the place behind and the code (names by their tokens), or the token that is refused -/
abbrev sR : Type := (Nat × List (Nat × Nat)) ⊕ Nat
def sb (r : sR) (f : Nat → List (Nat × Nat) → sR) : sR := match r with
  | .inl (p, c) => f p c
  | .inr q => .inr q
theorem sb_l {r : sR} {p : Nat} {c : List (Nat × Nat)} {f : Nat → List (Nat × Nat) → sR} (h : r = .inl (p, c)) : sb r f = f p c := by rw [h]; rfl
theorem sb_r {r : sR} {q : Nat} {f : Nat → List (Nat × Nat) → sR} (h : r = .inr q) : sb r f = .inr q := by rw [h]; rfl
def sp_lp (cal : Nat → sR) (op : Nat → Bool) (K : Nat → Nat) : Nat → Nat → List (Nat × Nat) → sR
  | 0, p, _ => .inr p
  | m + 1, p, c => if op (K p) = true then sb (cal (p + 1)) (fun p' c' => sp_lp cal op K m p' (c ++ c' ++ [(K p, 0)])) else .inl (p, c)
def sp_ch (cal : Nat → sR) (op : Nat → Bool) (K : Nat → Nat) (p : Nat) : sR := sb (cal p) (fun p' c => sp_lp cal op K 401 p' c)
def o_or (k : Nat) : Bool := k == 21
def o_and (k : Nat) : Bool := k == 20
def o_add (k : Nat) : Bool := k == 30 || k == 31
def o_mul (k : Nat) : Bool := k == 32 || k == 33
def sp_si (cal : Nat → Nat → Nat → sR) (K : Nat → Nat) (d p : Nat) : sR :=
  if (K p = 19 ∨ K p = 26) ∧ 8 ≤ d then .inr p
  else if K p = 19 then sb (cal 2 (d + 1) (p + 1)) (fun p' c => .inl (p', c ++ [(19, 0)]))
  else if K p = 26 then sb (cal 0 (d + 1) (p + 1)) (fun p' c => if K p' = 27 then .inl (p' + 1, c) else .inr p')
  else if K p = 18 then (if K (p + 1) = 39 then .inl (p + 2, [(18, p + 1)]) else .inr (p + 1))
  else sb (cal 3 d p) (fun p1 c1 => if 34 ≤ K p1 ∧ K p1 ≤ 38 then sb (cal 3 d (p1 + 1)) (fun p2 c2 => .inl (p2, c1 ++ c2 ++ [(K p1, 0)])) else .inr p1)
def sp_va (cal : Nat → Nat → Nat → sR) (K V : Nat → Nat) (d p : Nat) : sR :=
  if (K p = 31 ∨ K p = 24) ∧ 8 ≤ d then .inr p
  else if K p = 40 then .inl (p + 1, [(40, V p)])
  else if K p = 15 then .inl (p + 1, [(15, 0)])
  else if K p = 9 ∨ K p = 16 ∨ K p = 6 then (if K (p + 1) = 39 then .inl (p + 2, [(K p, p + 1)]) else .inr (p + 1))
  else if K p = 17 ∨ K p = 22 ∨ K p = 23 then sb (cal 6 d (p + 1)) (fun p' c => .inl (p', c ++ [(K p, 0)]))
  else if K p = 31 then sb (cal 5 (d + 1) (p + 1)) (fun p' c => .inl (p', c ++ [(43, 0)]))
  else if K p = 24 then sb (cal 3 (d + 1) (p + 1)) (fun p' c => if K p' = 25 then .inl (p' + 1, c) else .inr p')
  else .inr p
def sp_pa (cal : Nat → Nat → Nat → sR) (K : Nat → Nat) (d p : Nat) : sR :=
  if K p = 24 ∧ d < 8 then sb (cal 3 (d + 1) (p + 1)) (fun p1 c1 => if K p1 = 29 then sb (cal 3 (d + 1) (p1 + 1)) (fun p2 c2 => if K p2 = 25 then .inl (p2 + 1, c1 ++ c2) else .inr p2) else .inr p1) else .inr p
/-- test, both, single, sum, product, value, pair: 0 to 6 -/
def sp (K V : Nat → Nat) : Nat → Nat → Nat → Nat → sR
  | 0, _, _, p => .inr p
  | n + 1, md, d, p => if md = 0 then sp_ch (sp K V n 1 d) o_or K p else if md = 1 then sp_ch (sp K V n 2 d) o_and K p else if md = 2 then sp_si (sp K V n) K d p else if md = 3 then sp_ch (sp K V n 4 d) o_add K p else if md = 4 then sp_ch (sp K V n 5 d) o_mul K p else if md = 5 then sp_va (sp K V n) K V d p else sp_pa (sp K V n) K d p
theorem sp_0 (K V : Nat → Nat) (n d p : Nat) : sp K V (n + 1) 0 d p = sp_ch (sp K V n 1 d) o_or K p := rfl
theorem sp_1 (K V : Nat → Nat) (n d p : Nat) : sp K V (n + 1) 1 d p = sp_ch (sp K V n 2 d) o_and K p := rfl
theorem sp_2 (K V : Nat → Nat) (n d p : Nat) : sp K V (n + 1) 2 d p = sp_si (sp K V n) K d p := rfl
theorem sp_3 (K V : Nat → Nat) (n d p : Nat) : sp K V (n + 1) 3 d p = sp_ch (sp K V n 4 d) o_add K p := rfl
theorem sp_4 (K V : Nat → Nat) (n d p : Nat) : sp K V (n + 1) 4 d p = sp_ch (sp K V n 5 d) o_mul K p := rfl
theorem sp_5 (K V : Nat → Nat) (n d p : Nat) : sp K V (n + 1) 5 d p = sp_va (sp K V n) K V d p := rfl
theorem sp_6 (K V : Nat → Nat) (n d p : Nat) : sp K V (n + 1) 6 d p = sp_pa (sp K V n) K d p := rfl
/-- how much budget a mode wants at a depth -/
def nd (md d : Nat) : Nat := if md = 0 then 4 * (8 - d) + 7 else if md = 1 then 4 * (8 - d) + 6 else if md = 2 then 4 * (8 - d) + 5 else if md = 3 then 4 * (8 - d) + 4 else if md = 4 then 4 * (8 - d) + 3 else if md = 5 then 4 * (8 - d) + 2 else 4 * (8 - d) + 1
theorem nd_0 (d : Nat) : nd 0 d = 4 * (8 - d) + 7 := rfl
theorem nd_1 (d : Nat) : nd 1 d = 4 * (8 - d) + 6 := rfl
theorem nd_2 (d : Nat) : nd 2 d = 4 * (8 - d) + 5 := rfl
theorem nd_3 (d : Nat) : nd 3 d = 4 * (8 - d) + 4 := rfl
theorem nd_4 (d : Nat) : nd 4 d = 4 * (8 - d) + 3 := rfl
theorem nd_5 (d : Nat) : nd 5 d = 4 * (8 - d) + 2 := rfl
theorem nd_6 (d : Nat) : nd 6 d = 4 * (8 - d) + 1 := rfl
/-- the tokens: the last one is the end, or none -/
def k_ok (K V : Nat → Nat) (T : Nat) : Prop := T ≤ 400 ∧ (∀ p, p < T → K p ≤ 40) ∧ (K T = 41 ∨ K T = 42) ∧ ∀ p, V p ≤ 999999
theorem k_ok.lt {K V : Nat → Nat} {T p : Nat} (h : k_ok K V T) (hp : p ≤ T) (hk : K p ≤ 40) : p < T := by
  by_cases hq : p = T
  · subst hq; have := h.2.2.1; omega
  · omega
theorem s_el_app (a b : List (Nat × Nat)) : s_el (a ++ b) = s_el a + s_el b := by
  induction a with
  | nil => simp [s_el]
  | cons q r ih => obtain ⟨op, x⟩ := q; simp only [List.cons_append, s_el, ih]; omega
/-- a parse goes on -/
def sPr (T p : Nat) (r : sR) : Prop := match r with
  | .inl (p', c) => p < p' ∧ p' ≤ T ∧ c.length ≤ p' - p ∧ s_el c ≤ 2 * (p' - p)
  | .inr q => p ≤ q ∧ q ≤ T
theorem sPr_lp {cal : Nat → sR} {op : Nat → Bool} {K V : Nat → Nat} {T p0 : Nat} (hk : k_ok K V T) (hop : ∀ k, op k = true → k ≤ 40 ∧ s_two k = false) (hc : ∀ p, p ≤ T → sPr T p (cal p)) : ∀ (m p : Nat) (c : List (Nat × Nat)), p0 < p → p ≤ T → c.length ≤ p - p0 → s_el c ≤ 2 * (p - p0) → sPr T p0 (sp_lp cal op K m p c) := by
  intro m
  induction m with
  | zero => intro p c h1 h2 h3 h4; exact ⟨by omega, h2⟩
  | succ m ih =>
    intro p c h1 h2 h3 h4
    unfold sp_lp
    by_cases ho : op (K p) = true
    · rw [if_pos ho]
      obtain ⟨k1, k2⟩ := hop _ ho
      have hlt := hk.lt h2 k1
      have hcp := hc (p + 1) (by omega)
      cases hr : cal (p + 1) with
      | inl q =>
        obtain ⟨p', c'⟩ := q
        rw [hr] at hcp
        obtain ⟨a1, a2, a3, a4⟩ := hcp
        rw [sb_l rfl]
        refine ih p' _ (by omega) a2 (by simp only [List.length_append, List.length_cons, List.length_nil]; omega) ?_
        rw [s_el_app, s_el_app, show s_el [(K p, 0)] = 1 by simp [s_el, k2]]
        omega
      | inr q =>
        rw [hr] at hcp
        rw [sb_r rfl]
        exact ⟨by have := hcp.1; omega, hcp.2⟩
    · rw [if_neg ho]
      exact ⟨h1, h2, h3, h4⟩
theorem sPr_ch {cal : Nat → sR} {op : Nat → Bool} {K V : Nat → Nat} {T p : Nat} (hk : k_ok K V T) (hop : ∀ k, op k = true → k ≤ 40 ∧ s_two k = false) (hc : ∀ p, p ≤ T → sPr T p (cal p)) (hp : p ≤ T) : sPr T p (sp_ch cal op K p) := by
  unfold sp_ch
  have hcp := hc p hp
  cases hr : cal p with
  | inl q =>
    obtain ⟨p', c'⟩ := q
    rw [hr] at hcp
    obtain ⟨a1, a2, a3, a4⟩ := hcp
    rw [sb_l rfl]
    exact sPr_lp hk hop hc 401 p' c' a1 a2 a3 a4
  | inr q => rw [hr] at hcp; rw [sb_r rfl]; exact hcp
theorem op_or (k : Nat) (h : o_or k = true) : k ≤ 40 ∧ s_two k = false := by
  have : k = 21 := by simpa [o_or] using h
  subst this; exact ⟨by omega, rfl⟩
theorem op_and (k : Nat) (h : o_and k = true) : k ≤ 40 ∧ s_two k = false := by
  have : k = 20 := by simpa [o_and] using h
  subst this; exact ⟨by omega, rfl⟩
theorem op_add (k : Nat) (h : o_add k = true) : k ≤ 40 ∧ s_two k = false := by
  have : k = 30 ∨ k = 31 := by simpa [o_add] using h
  rcases this with rfl | rfl <;> exact ⟨by omega, rfl⟩
theorem op_mul (k : Nat) (h : o_mul k = true) : k ≤ 40 ∧ s_two k = false := by
  have : k = 32 ∨ k = 33 := by simpa [o_mul] using h
  rcases this with rfl | rfl <;> exact ⟨by omega, rfl⟩
theorem s_el1 (op a : Nat) : s_el [(op, a)] ≤ 2 := by
  simp only [s_el]; split <;> omega
theorem sp_pr {K V : Nat → Nat} {T : Nat} (hk : k_ok K V T) : ∀ (n md d p : Nat), p ≤ T → sPr T p (sp K V n md d p) := by
  intro n
  induction n with
  | zero => intro md d p hp; exact ⟨Nat.le_refl _, hp⟩
  | succ n ih =>
    have key : ∀ (md d p : Nat) (f : Nat → List (Nat × Nat) → sR) (p0 : Nat), p ≤ T → p0 ≤ p → (∀ p' c, p < p' → p' ≤ T → c.length ≤ p' - p → s_el c ≤ 2 * (p' - p) → sPr T p0 (f p' c)) → sPr T p0 (sb (sp K V n md d p) f) := by
      intro md d p f p0 hp h0 hf
      have h := ih md d p hp
      cases hr : sp K V n md d p with
      | inl q =>
        obtain ⟨p', c'⟩ := q
        rw [hr] at h
        rw [sb_l rfl]
        exact hf p' c' h.1 h.2.1 h.2.2.1 h.2.2.2
      | inr q =>
        rw [hr] at h
        rw [sb_r rfl]
        exact ⟨by have := h.1; omega, h.2⟩
    intro md d p hp
    unfold sp
    by_cases m0 : md = 0
    · rw [if_pos m0]; exact sPr_ch hk op_or (fun p hp => ih 1 d p hp) hp
    · rw [if_neg m0]
      by_cases m1 : md = 1
      · rw [if_pos m1]; exact sPr_ch hk op_and (fun p hp => ih 2 d p hp) hp
      · rw [if_neg m1]
        by_cases m2 : md = 2
        · rw [if_pos m2]
          unfold sp_si
          by_cases c1 : (K p = 19 ∨ K p = 26) ∧ 8 ≤ d
          · rw [if_pos c1]; exact ⟨Nat.le_refl _, hp⟩
          · rw [if_neg c1]
            by_cases c2 : K p = 19
            · rw [if_pos c2]
              have hlt := hk.lt hp (by omega)
              refine key 2 (d + 1) (p + 1) _ p (by omega) (by omega) (fun p' c a1 a2 a3 a4 => ⟨by omega, a2, by simp only [List.length_append, List.length_cons, List.length_nil]; omega, ?_⟩)
              rw [s_el_app]; have := s_el1 19 0; omega
            · rw [if_neg c2]
              by_cases c3 : K p = 26
              · rw [if_pos c3]
                have hlt := hk.lt hp (by omega)
                refine key 0 (d + 1) (p + 1) _ p (by omega) (by omega) (fun p' c a1 a2 a3 a4 => ?_)
                by_cases c4 : K p' = 27
                · rw [if_pos c4]
                  have hlt2 := hk.lt a2 (by omega)
                  exact ⟨by omega, by omega, by omega, by omega⟩
                · rw [if_neg c4]; exact ⟨by omega, a2⟩
              · rw [if_neg c3]
                by_cases c4 : K p = 18
                · rw [if_pos c4]
                  have hlt := hk.lt hp (by omega)
                  by_cases c5 : K (p + 1) = 39
                  · rw [if_pos c5]
                    have hlt2 := hk.lt (p := p + 1) (by omega) (by omega)
                    exact ⟨by omega, by omega, by simp, by have := s_el1 18 (p + 1); omega⟩
                  · rw [if_neg c5]; exact ⟨by omega, by omega⟩
                · rw [if_neg c4]
                  refine key 3 d p _ p hp (by omega) (fun p1 c1 a1 a2 a3 a4 => ?_)
                  by_cases c5 : 34 ≤ K p1 ∧ K p1 ≤ 38
                  · rw [if_pos c5]
                    have hlt := hk.lt a2 (by omega)
                    refine key 3 d (p1 + 1) _ p (by omega) (by omega) (fun p2 c2 b1 b2 b3 b4 => ⟨by omega, b2, by simp only [List.length_append, List.length_cons, List.length_nil]; omega, ?_⟩)
                    rw [s_el_app, s_el_app]; have := s_el1 (K p1) 0; omega
                  · rw [if_neg c5]; exact ⟨by omega, a2⟩
        · rw [if_neg m2]
          by_cases m3 : md = 3
          · rw [if_pos m3]; exact sPr_ch hk op_add (fun p hp => ih 4 d p hp) hp
          · rw [if_neg m3]
            by_cases m4 : md = 4
            · rw [if_pos m4]; exact sPr_ch hk op_mul (fun p hp => ih 5 d p hp) hp
            · rw [if_neg m4]
              by_cases m5 : md = 5
              · rw [if_pos m5]
                unfold sp_va
                by_cases c1 : (K p = 31 ∨ K p = 24) ∧ 8 ≤ d
                · rw [if_pos c1]; exact ⟨Nat.le_refl _, hp⟩
                · rw [if_neg c1]
                  by_cases c2 : K p = 40
                  · rw [if_pos c2]
                    have hlt := hk.lt hp (by omega)
                    exact ⟨by omega, by omega, by simp, by have := s_el1 40 (V p); omega⟩
                  · rw [if_neg c2]
                    by_cases c3 : K p = 15
                    · rw [if_pos c3]
                      have hlt := hk.lt hp (by omega)
                      exact ⟨by omega, by omega, by simp, by have := s_el1 15 0; omega⟩
                    · rw [if_neg c3]
                      by_cases c4 : K p = 9 ∨ K p = 16 ∨ K p = 6
                      · rw [if_pos c4]
                        have hlt := hk.lt hp (by omega)
                        by_cases c5 : K (p + 1) = 39
                        · rw [if_pos c5]
                          have hlt2 := hk.lt (p := p + 1) (by omega) (by omega)
                          exact ⟨by omega, by omega, by simp, by have := s_el1 (K p) (p + 1); omega⟩
                        · rw [if_neg c5]; exact ⟨by omega, by omega⟩
                      · rw [if_neg c4]
                        by_cases c5 : K p = 17 ∨ K p = 22 ∨ K p = 23
                        · rw [if_pos c5]
                          have hlt := hk.lt hp (by omega)
                          refine key 6 d (p + 1) _ p (by omega) (by omega) (fun p' c a1 a2 a3 a4 => ⟨by omega, a2, by simp only [List.length_append, List.length_cons, List.length_nil]; omega, ?_⟩)
                          rw [s_el_app]; have := s_el1 (K p) 0; omega
                        · rw [if_neg c5]
                          by_cases c6 : K p = 31
                          · rw [if_pos c6]
                            have hlt := hk.lt hp (by omega)
                            refine key 5 (d + 1) (p + 1) _ p (by omega) (by omega) (fun p' c a1 a2 a3 a4 => ⟨by omega, a2, by simp only [List.length_append, List.length_cons, List.length_nil]; omega, ?_⟩)
                            rw [s_el_app]; have := s_el1 43 0; omega
                          · rw [if_neg c6]
                            by_cases c7 : K p = 24
                            · rw [if_pos c7]
                              have hlt := hk.lt hp (by omega)
                              refine key 3 (d + 1) (p + 1) _ p (by omega) (by omega) (fun p' c a1 a2 a3 a4 => ?_)
                              by_cases c8 : K p' = 25
                              · rw [if_pos c8]
                                have hlt2 := hk.lt a2 (by omega)
                                exact ⟨by omega, by omega, by omega, by omega⟩
                              · rw [if_neg c8]; exact ⟨by omega, a2⟩
                            · rw [if_neg c7]; exact ⟨Nat.le_refl _, hp⟩
              · rw [if_neg m5]
                unfold sp_pa
                by_cases c1 : K p = 24 ∧ d < 8
                · rw [if_pos c1]
                  have hlt := hk.lt hp (by omega)
                  refine key 3 (d + 1) (p + 1) _ p (by omega) (by omega) (fun p1 c1 a1 a2 a3 a4 => ?_)
                  by_cases c2 : K p1 = 29
                  · rw [if_pos c2]
                    have hlt1 := hk.lt a2 (by omega)
                    refine key 3 (d + 1) (p1 + 1) _ p (by omega) (by omega) (fun p2 c2 b1 b2 b3 b4 => ?_)
                    by_cases c3 : K p2 = 25
                    · rw [if_pos c3]
                      have hlt2 := hk.lt b2 (by omega)
                      refine ⟨by omega, by omega, by simp only [List.length_append]; omega, ?_⟩
                      rw [s_el_app]; omega
                    · rw [if_neg c3]; exact ⟨by omega, b2⟩
                  · rw [if_neg c2]; exact ⟨by omega, a2⟩
                · rw [if_neg c1]; exact ⟨Nat.le_refl _, hp⟩
/-! types: resolved names -/
def s_nmd (op : Nat) : Bool := op == 9 || op == 16 || op == 6 || op == 18
def s_rs (nm : Nat → Nat → Option Nat) (q : Nat × Nat) : Nat × Nat := if s_nmd q.1 = true then (q.1, (nm q.1 q.2).getD 0) else q
def s_al (nm : Nat → Nat → Option Nat) (c : List (Nat × Nat)) : Prop := ∀ q ∈ c, s_nmd q.1 = true → nm q.1 q.2 ≠ none
theorem s_al_app {nm : Nat → Nat → Option Nat} {a b : List (Nat × Nat)} : s_al nm (a ++ b) ↔ s_al nm a ∧ s_al nm b := by
  unfold s_al
  constructor
  · intro h; exact ⟨fun q hq => h q (List.mem_append_left _ hq), fun q hq => h q (List.mem_append_right _ hq)⟩
  · rintro ⟨h1, h2⟩ q hq
    rcases List.mem_append.mp hq with h | h
    · exact h1 q h
    · exact h2 q h
def nm_ok (pp : sP) (nm : Nat → Nat → Option Nat) : Prop := ∀ a k, (nm 9 a = some k → k < pp 0 3) ∧ (nm 6 a = some k → k < pp 0 2) ∧ (nm 16 a = some k → k < pp 0 4) ∧ (nm 18 a = some k → k < pp 0 4)
theorem s_wc_app (p : sP) : ∀ (a b : List (Nat × Nat)) (ts ts' : List Bool), s_wc p a ts = some ts' → s_wc p (a ++ b) ts = s_wc p b ts'
  | [], b, ts, ts', h => by cases h; rfl
  | (op, x) :: r, b, ts, ts', h => by
    simp only [List.cons_append, s_wc] at h ⊢
    cases hw : s_wt p op x ts with
    | none => rw [hw] at h; cases h
    | some t1 => rw [hw] at h; exact s_wc_app p r b t1 ts' h
theorem s_wc1 {p : sP} {op a : Nat} {ts ts' : List Bool} (h : s_wt p op a ts = some ts') : s_wc p [(op, a)] ts = some ts' := by
  simp only [s_wc, h]
