/-! one induction over the syntax of sums and tests -/
section SI
variable {K V : Nat → Nat} {T : Nat}
def spC (K V : Nat → Nat) (T : Nat) (Φ : Nat → Nat → Nat → List (Nat × Nat) → Prop) : Prop :=
  ((∀ p, p < T → K p = 40 → Φ 5 p (p + 1) [(40, V p)]) ∧ (∀ p, p < T → K p = 15 → Φ 5 p (p + 1) [(15, 0)]) ∧ (∀ p k, (k = 9 ∨ k = 16 ∨ k = 6) → K (p + 1) = 39 → p + 1 < T → Φ 5 p (p + 2) [(k, p + 1)]) ∧ (∀ p, K (p + 1) = 39 → p + 1 < T → Φ 2 p (p + 2) [(18, p + 1)])) ∧
  ((∀ p p' k c, (k = 17 ∨ k = 22 ∨ k = 23) → Φ 6 (p + 1) p' c → Φ 5 p p' (c ++ [(k, 0)])) ∧ (∀ p p' c, Φ 5 (p + 1) p' c → Φ 5 p p' (c ++ [(43, 0)])) ∧ (∀ p p' c, Φ 3 (p + 1) p' c → Φ 5 p (p' + 1) c) ∧ (∀ p p1 p2 c1 c2, Φ 3 (p + 1) p1 c1 → Φ 3 (p1 + 1) p2 c2 → Φ 6 p (p2 + 1) (c1 ++ c2))) ∧
  ((∀ p p' c, Φ 2 (p + 1) p' c → Φ 2 p p' (c ++ [(19, 0)])) ∧ (∀ p p' c, Φ 0 (p + 1) p' c → Φ 2 p (p' + 1) c) ∧ (∀ p p1 p2 k c1 c2, 34 ≤ k → k ≤ 38 → Φ 3 p p1 c1 → Φ 3 (p1 + 1) p2 c2 → Φ 2 p p2 (c1 ++ c2 ++ [(k, 0)]))) ∧
  (∀ md p p' c, (md = 0 ∨ md = 1 ∨ md = 3 ∨ md = 4) → Φ (md + 1) p p' c → Φ md p p' c) ∧
  (∀ md p p1 p2 k c c', ((md = 0 ∧ k = 21) ∨ (md = 1 ∧ k = 20) ∨ (md = 3 ∧ (k = 30 ∨ k = 31)) ∨ (md = 4 ∧ (k = 32 ∨ k = 33))) → Φ md p p1 c → Φ (md + 1) (p1 + 1) p2 c' → Φ md p p2 (c ++ c' ++ [(k, 0)]))
def sIn (Φ : Nat → Nat → Nat → List (Nat × Nat) → Prop) (md p : Nat) (r : sR) : Prop := match r with
  | .inl (p', c) => Φ md p p' c
  | .inr _ => True
theorem sIn_lp {Φ : Nat → Nat → Nat → List (Nat × Nat) → Prop} {n d md : Nat} {op : Nat → Bool} (hk : k_ok K V T) (hC : spC K V T Φ) (hop : ∀ k, op k = true → (md = 0 ∧ k = 21) ∨ (md = 1 ∧ k = 20) ∨ (md = 3 ∧ (k = 30 ∨ k = 31)) ∨ (md = 4 ∧ (k = 32 ∨ k = 33))) (hc : ∀ p, p ≤ T → sIn Φ (md + 1) p (sp K V n (md + 1) d p)) {p0 : Nat} : ∀ (m p : Nat) (c : List (Nat × Nat)), p ≤ T → Φ md p0 p c → sIn Φ md p0 (sp_lp (sp K V n (md + 1) d) op K m p c) := by
  intro m
  induction m with
  | zero => intro p c _ _; trivial
  | succ m ih =>
    intro p c hp h
    unfold sp_lp
    by_cases ho : op (K p) = true
    · rw [if_pos ho]
      have hko := hop _ ho
      have hlt := hk.lt hp (by omega)
      have hpr := sp_pr hk n (md + 1) d (p + 1) (by omega)
      have hcp := hc (p + 1) (by omega)
      cases hr : sp K V n (md + 1) d (p + 1) with
      | inl q =>
        obtain ⟨p', c'⟩ := q
        rw [hr] at hcp hpr
        rw [sb_l rfl]
        exact ih p' _ hpr.2.1 (hC.2.2.2.2 md p0 p p' (K p) c c' hko h hcp)
      | inr q => rw [sb_r rfl]; trivial
    · rw [if_neg ho]; exact h
theorem sIn_ch {Φ : Nat → Nat → Nat → List (Nat × Nat) → Prop} {n d md : Nat} {op : Nat → Bool} (hk : k_ok K V T) (hC : spC K V T Φ) (hm : md = 0 ∨ md = 1 ∨ md = 3 ∨ md = 4) (hop : ∀ k, op k = true → (md = 0 ∧ k = 21) ∨ (md = 1 ∧ k = 20) ∨ (md = 3 ∧ (k = 30 ∨ k = 31)) ∨ (md = 4 ∧ (k = 32 ∨ k = 33))) (hc : ∀ p, p ≤ T → sIn Φ (md + 1) p (sp K V n (md + 1) d p)) {p : Nat} (hp : p ≤ T) : sIn Φ md p (sp_ch (sp K V n (md + 1) d) op K p) := by
  unfold sp_ch
  have hpr := sp_pr hk n (md + 1) d p hp
  have hcp := hc p hp
  cases hr : sp K V n (md + 1) d p with
  | inl q =>
    obtain ⟨p', c'⟩ := q
    rw [hr] at hcp hpr
    rw [sb_l rfl]
    exact sIn_lp hk hC hop hc 401 p' c' hpr.2.1 (hC.2.2.2.1 md p p' c' hm hcp)
  | inr q => rw [sb_r rfl]; trivial
theorem sp_ind {Φ : Nat → Nat → Nat → List (Nat × Nat) → Prop} (hk : k_ok K V T) (hC : spC K V T Φ) : ∀ (n md d p : Nat), md ≤ 6 → p ≤ T → sIn Φ md p (sp K V n md d p) := by
  intro n
  induction n with
  | zero => intro md d p _ hp; trivial
  | succ n ih =>
    have key : ∀ (md md2 d p p0 : Nat) (f : Nat → List (Nat × Nat) → sR), md2 ≤ 6 → p ≤ T → (∀ p' c, p < p' → p' ≤ T → Φ md2 p p' c → sIn Φ md p0 (f p' c)) → sIn Φ md p0 (sb (sp K V n md2 d p) f) := by
      intro md md2 d p p0 f hm hp hf
      have h := sp_pr hk n md2 d p hp
      have h2 := ih md2 d p hm hp
      cases hr : sp K V n md2 d p with
      | inl q =>
        obtain ⟨p', c'⟩ := q
        rw [hr] at h h2
        rw [sb_l rfl]
        exact hf p' c' h.1 h.2.1 h2
      | inr q => rw [sb_r rfl]; trivial
    have hC0 := hC
    obtain ⟨⟨g1, g2, g3, g4⟩, ⟨g5, g6, g7, g8⟩, ⟨g9, g10, g11⟩, _, _⟩ := hC0
    intro md d p hmd hp
    rcases (show md = 0 ∨ md = 1 ∨ md = 2 ∨ md = 3 ∨ md = 4 ∨ md = 5 ∨ md = 6 by omega) with rfl | rfl | rfl | rfl | rfl | rfl | rfl
    · rw [sp_0]
      exact sIn_ch hk hC (Or.inl rfl) (fun k hk => Or.inl ⟨rfl, by simpa [o_or] using hk⟩) (fun p hp => ih 1 d p (by omega) hp) hp
    · rw [sp_1]
      exact sIn_ch hk hC (Or.inr (Or.inl rfl)) (fun k hk => Or.inr (Or.inl ⟨rfl, by simpa [o_and] using hk⟩)) (fun p hp => ih 2 d p (by omega) hp) hp
    · rw [sp_2]
      unfold sp_si
      by_cases c1 : (K p = 19 ∨ K p = 26) ∧ 8 ≤ d
      · rw [if_pos c1]; trivial
      · rw [if_neg c1]
        by_cases c2 : K p = 19
        · rw [if_pos c2]
          have hlt := hk.lt hp (by omega)
          exact key 2 2 (d + 1) (p + 1) p _ (by omega) (by omega) (fun p' c a1 a2 a3 => g9 p p' c a3)
        · rw [if_neg c2]
          by_cases c3 : K p = 26
          · rw [if_pos c3]
            have hlt := hk.lt hp (by omega)
            refine key 2 0 (d + 1) (p + 1) p _ (by omega) (by omega) (fun p' c a1 a2 a3 => ?_)
            by_cases c4 : K p' = 27
            · rw [if_pos c4]; exact g10 p p' c a3
            · rw [if_neg c4]; trivial
          · rw [if_neg c3]
            by_cases c4 : K p = 18
            · rw [if_pos c4]
              have hlt := hk.lt hp (by omega)
              by_cases c5 : K (p + 1) = 39
              · rw [if_pos c5]
                exact g4 p c5 (hk.lt (p := p + 1) (by omega) (by omega))
              · rw [if_neg c5]; trivial
            · rw [if_neg c4]
              refine key 2 3 d p p _ (by omega) hp (fun p1 c1 a1 a2 a3 => ?_)
              by_cases c5 : 34 ≤ K p1 ∧ K p1 ≤ 38
              · rw [if_pos c5]
                have hlt := hk.lt a2 (by omega)
                exact key 2 3 d (p1 + 1) p _ (by omega) (by omega) (fun p2 c2 b1 b2 b3 => g11 p p1 p2 (K p1) c1 c2 c5.1 c5.2 a3 b3)
              · rw [if_neg c5]; trivial
    · rw [sp_3]
      exact sIn_ch hk hC (Or.inr (Or.inr (Or.inl rfl))) (fun k hk => Or.inr (Or.inr (Or.inl ⟨rfl, by simpa [o_add] using hk⟩))) (fun p hp => ih 4 d p (by omega) hp) hp
    · rw [sp_4]
      exact sIn_ch hk hC (Or.inr (Or.inr (Or.inr rfl))) (fun k hk => Or.inr (Or.inr (Or.inr ⟨rfl, by simpa [o_mul] using hk⟩))) (fun p hp => ih 5 d p (by omega) hp) hp
    · rw [sp_5]
      unfold sp_va
      by_cases c1 : (K p = 31 ∨ K p = 24) ∧ 8 ≤ d
      · rw [if_pos c1]; trivial
      · rw [if_neg c1]
        by_cases c2 : K p = 40
        · rw [if_pos c2]; exact g1 p (hk.lt hp (by omega)) c2
        · rw [if_neg c2]
          by_cases c3 : K p = 15
          · rw [if_pos c3]; exact g2 p (hk.lt hp (by omega)) c3
          · rw [if_neg c3]
            by_cases c4 : K p = 9 ∨ K p = 16 ∨ K p = 6
            · rw [if_pos c4]
              have hlt := hk.lt hp (by omega)
              by_cases c5 : K (p + 1) = 39
              · rw [if_pos c5]
                exact g3 p (K p) c4 c5 (hk.lt (p := p + 1) (by omega) (by omega))
              · rw [if_neg c5]; trivial
            · rw [if_neg c4]
              by_cases c5 : K p = 17 ∨ K p = 22 ∨ K p = 23
              · rw [if_pos c5]
                have hlt := hk.lt hp (by omega)
                exact key 5 6 d (p + 1) p _ (by omega) (by omega) (fun p' c a1 a2 a3 => g5 p p' (K p) c c5 a3)
              · rw [if_neg c5]
                by_cases c6 : K p = 31
                · rw [if_pos c6]
                  have hlt := hk.lt hp (by omega)
                  exact key 5 5 (d + 1) (p + 1) p _ (by omega) (by omega) (fun p' c a1 a2 a3 => g6 p p' c a3)
                · rw [if_neg c6]
                  by_cases c7 : K p = 24
                  · rw [if_pos c7]
                    have hlt := hk.lt hp (by omega)
                    refine key 5 3 (d + 1) (p + 1) p _ (by omega) (by omega) (fun p' c a1 a2 a3 => ?_)
                    by_cases c8 : K p' = 25
                    · rw [if_pos c8]; exact g7 p p' c a3
                    · rw [if_neg c8]; trivial
                  · rw [if_neg c7]; trivial
    · rw [sp_6]
      unfold sp_pa
      by_cases c1 : K p = 24 ∧ d < 8
      · rw [if_pos c1]
        have hlt := hk.lt hp (by omega)
        refine key 6 3 (d + 1) (p + 1) p _ (by omega) (by omega) (fun p1 c1 a1 a2 a3 => ?_)
        by_cases c2 : K p1 = 29
        · rw [if_pos c2]
          have hlt1 := hk.lt a2 (by omega)
          refine key 6 3 (d + 1) (p1 + 1) p _ (by omega) (by omega) (fun p2 c2 b1 b2 b3 => ?_)
          by_cases c3 : K p2 = 25
          · rw [if_pos c3]; exact g8 p p1 p2 c1 c2 a3 b3
          · rw [if_neg c3]; trivial
        · rw [if_neg c2]; trivial
      · rw [if_neg c1]; trivial
/-! tokens of names -/
def s_inc (K : Nat → Nat) (p p' : Nat) (c : List (Nat × Nat)) : Prop := p ≤ p' ∧ (∀ q ∈ c, p ≤ q.2 ∧ q.2 < p') ∧ c.Pairwise (fun a b => a.2 < b.2)
theorem s_inc.app {p p1 p2 : Nat} {a b : List (Nat × Nat)} (h1 : s_inc K p p1 a) (h2 : s_inc K p1 p2 b) : s_inc K p p2 (a ++ b) := by
  obtain ⟨a1, a2, a3⟩ := h1
  obtain ⟨b1, b2, b3⟩ := h2
  refine ⟨by omega, fun q hq => ?_, List.pairwise_append.mpr ⟨a3, b3, fun x hx y hy => ?_⟩⟩
  · rcases List.mem_append.mp hq with h | h
    · have := a2 q h; omega
    · have := b2 q h; omega
  · have := a2 x hx; have := b2 y hy; omega
theorem s_inc.wid {p p' p0 p1 : Nat} {c : List (Nat × Nat)} (h : s_inc K p p' c) (h0 : p0 ≤ p) (h1 : p' ≤ p1) : s_inc K p0 p1 c :=
  ⟨by have := h.1; omega, fun q hq => by have := h.2.1 q hq; omega, h.2.2⟩
theorem s_inc.nil {p p' : Nat} (h : p ≤ p') : s_inc K p p' [] := ⟨h, fun _ hq => absurd hq List.not_mem_nil, List.Pairwise.nil⟩
theorem s_inc.one {p p' r a : Nat} (h : p ≤ a ∧ a < p') : s_inc K p p' [(r, a)] := ⟨by omega, fun q hq => by rw [List.mem_singleton.mp hq]; exact h, List.pairwise_singleton _ _⟩
theorem s_im_u {op a : Nat} (h : s_nmd op = false) (c : List (Nat × Nat)) : s_im (c ++ [(op, a)]) = s_im c := by
  rw [s_im_app]
  simp [s_im, h]
theorem s_inc_ok : spC K V T (fun _ p p' c => s_inc K p p' (s_im c)) := by
  refine ⟨⟨fun p _ _ => ?_, fun p _ _ => ?_, fun p k hk _ _ => ?_, fun p _ _ => ?_⟩, ⟨fun p p' k c hk h => ?_, fun p p' c h => ?_, fun p p' c h => h.wid (by omega) (by omega), fun p p1 p2 c1 c2 h1 h2 => ?_⟩, ⟨fun p p' c h => ?_, fun p p' c h => h.wid (by omega) (by omega), fun p p1 p2 k c1 c2 hk1 hk2 h1 h2 => ?_⟩, fun md p p' c _ h => h, fun md p p1 p2 k c c' hk h1 h2 => ?_⟩ <;> try dsimp only at *
  · exact s_inc.nil (by omega)
  · exact s_inc.nil (by omega)
  · rcases hk with rfl | rfl | rfl <;> exact s_inc.one ⟨by omega, by omega⟩
  · exact s_inc.one ⟨by omega, by omega⟩
  · rw [s_im_u (by rcases hk with rfl | rfl | rfl <;> rfl)]; exact h.wid (by omega) (by omega)
  · rw [s_im_u rfl]; exact h.wid (by omega) (by omega)
  · rw [s_im_app]
    exact (h1.wid (p0 := p) (by omega) (Nat.le_succ _)).app (h2.wid (Nat.le_refl _) (by omega))
  · rw [s_im_u rfl]; exact h.wid (by omega) (by omega)
  · rw [s_im_u (by unfold s_nmd; simp; omega), s_im_app]
    exact (h1.wid (Nat.le_refl _) (Nat.le_succ _)).app h2
  · rw [s_im_u (by unfold s_nmd; simp; omega), s_im_app]
    exact (h1.wid (Nat.le_refl _) (Nat.le_succ _)).app h2
/-! types -/
def s_ty2 (md : Nat) (ts : List Bool) : List Bool := if md ≤ 2 then true :: ts else if md ≤ 5 then false :: ts else false :: false :: ts
theorem s_rs_u {nm : Nat → Nat → Option Nat} {op a : Nat} (h : s_nmd op = false) : s_rs nm (op, a) = (op, a) := by
  unfold s_rs
  rw [if_neg (by rw [h]; decide)]
theorem s_ty_u {pp : sP} {nm : Nat → Nat → Option Nat} {op a : Nat} {ts ts1 ts2 : List Bool} {c : List (Nat × Nat)} (h : s_nmd op = false) (h1 : s_wc pp (c.map (s_rs nm)) ts = some ts1) (h2 : s_wt pp op a ts1 = some ts2) : s_wc pp ((c ++ [(op, a)]).map (s_rs nm)) ts = some ts2 := by
  rw [List.map_append, s_wc_app _ _ _ _ _ h1]
  show s_wc pp [s_rs nm (op, a)] ts1 = some ts2
  rw [s_rs_u h]
  exact s_wc1 h2
theorem s_ty_ok {pp : sP} {nm : Nat → Nat → Option Nat} (hk : k_ok K V T) (hn : nm_ok pp nm) : spC K V T (fun md _ _ c => s_al nm c → ∀ ts, s_wc pp (c.map (s_rs nm)) ts = some (s_ty2 md ts)) := by
  have nmd : ∀ (op a : Nat) (ts ts2 : List Bool), s_nmd op = true → s_al nm [(op, a)] → (∀ k, nm op a = some k → s_wt pp op k ts = some ts2) → s_wc pp ([(op, a)].map (s_rs nm)) ts = some ts2 := by
    intro op a ts ts2 h1 h2 h3
    have h4 := h2 (op, a) (List.mem_singleton.mpr rfl) h1
    cases hq : nm op a with
    | none => exact absurd hq h4
    | some k =>
      show s_wc pp [s_rs nm (op, a)] ts = some ts2
      rw [show s_rs nm (op, a) = (op, k) by unfold s_rs; rw [if_pos h1]; show (op, (nm op a).getD 0) = _; rw [hq]; rfl]
      exact s_wc1 (h3 k hq)
  refine ⟨⟨fun p _ _ _ ts => ?_, fun p _ _ _ ts => ?_, fun p k hkk _ _ hal ts => ?_, fun p _ _ hal ts => ?_⟩, ⟨fun p p' k c hkk h hal ts => ?_, fun p p' c h hal ts => ?_, fun p p' c h hal ts => h hal ts, fun p p1 p2 c1 c2 h1 h2 hal ts => ?_⟩, ⟨fun p p' c h hal ts => ?_, fun p p' c h hal ts => h hal ts, fun p p1 p2 k c1 c2 hk1 hk2 h1 h2 hal ts => ?_⟩, fun md p p' c hm h hal ts => ?_, fun md p p1 p2 k c c' hkk h1 h2 hal ts => ?_⟩ <;> try dsimp only at *
  · refine s_wc1 ?_
    show s_wt pp 40 (V p) ts = _
    unfold s_wt
    rw [if_pos rfl, if_pos (hk.2.2.2 p)]
    rfl
  · exact s_wc1 rfl
  · rcases hkk with rfl | rfl | rfl
    · refine nmd 9 (p + 1) ts _ rfl hal (fun k hq => ?_)
      show (if k < pp 0 3 then some (false :: ts) else none) = _
      rw [if_pos ((hn (p + 1) k).1 hq)]; rfl
    · refine nmd 16 (p + 1) ts _ rfl hal (fun k hq => ?_)
      show (if k < pp 0 4 then some (false :: ts) else none) = _
      rw [if_pos ((hn (p + 1) k).2.2.1 hq)]; rfl
    · refine nmd 6 (p + 1) ts _ rfl hal (fun k hq => ?_)
      show (if k < pp 0 2 then some (false :: ts) else none) = _
      rw [if_pos ((hn (p + 1) k).2.1 hq)]; rfl
  · refine nmd 18 (p + 1) ts _ rfl hal (fun k hq => ?_)
    show (if k < pp 0 4 then some (true :: ts) else none) = _
    rw [if_pos ((hn (p + 1) k).2.2.2 hq)]; rfl
  · obtain ⟨a1, a2⟩ := s_al_app.mp hal
    rcases hkk with rfl | rfl | rfl <;> exact s_ty_u rfl (h a1 ts) rfl
  · obtain ⟨a1, a2⟩ := s_al_app.mp hal
    exact s_ty_u rfl (h a1 ts) rfl
  · obtain ⟨a1, a2⟩ := s_al_app.mp hal
    rw [List.map_append, s_wc_app _ _ _ _ _ (h1 a1 ts), h2 a2]
    rfl
  · obtain ⟨a1, a2⟩ := s_al_app.mp hal
    exact s_ty_u rfl (h a1 ts) rfl
  · obtain ⟨a12, a3⟩ := s_al_app.mp hal
    obtain ⟨a1, a2⟩ := s_al_app.mp a12
    have e : s_wc pp ((c1 ++ c2).map (s_rs nm)) ts = some (false :: false :: ts) := by
      rw [List.map_append, s_wc_app _ _ _ _ _ (h1 a1 ts), h2 a2]
      rfl
    rcases (show k = 34 ∨ k = 35 ∨ k = 36 ∨ k = 37 ∨ k = 38 by omega) with rfl | rfl | rfl | rfl | rfl <;> exact s_ty_u rfl e rfl
  · rw [h hal ts]
    rcases hm with rfl | rfl | rfl | rfl <;> rfl
  · obtain ⟨a12, a3⟩ := s_al_app.mp hal
    obtain ⟨a1, a2⟩ := s_al_app.mp a12
    have e : s_wc pp ((c ++ c').map (s_rs nm)) ts = some (s_ty2 (md + 1) (s_ty2 md ts)) := by
      rw [List.map_append, s_wc_app _ _ _ _ _ (h1 a1 ts), h2 a2]
    rcases hkk with ⟨rfl, rfl⟩ | ⟨rfl, rfl⟩ | ⟨rfl, rfl | rfl⟩ | ⟨rfl, rfl | rfl⟩ <;> exact s_ty_u rfl e rfl
end SI
