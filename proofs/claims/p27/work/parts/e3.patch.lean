/-! labels that spread: the smallest place of each patch -/
def pr (k : Nat → Nat) (x z : Nat) (w : (Nat → Nat) × Bool) : (Nat → Nat) × Bool := if k x = k z ∧ ¬ w.1 x = w.1 z then (fun y => if y = z then min (w.1 x) (w.1 z) else if y = x then min (w.1 x) (w.1 z) else w.1 y, true) else w
def pp (C S : Nat) (k : Nat → Nat) : Nat → Nat → (Nat → Nat) × Bool → (Nat → Nat) × Bool
  | 0, _, w => w
  | m + 1, x, w => pp C S k m (x + 1) (pr k x (s_nb C S 1 x) (pr k x (s_nb C S 0 x) w))
def p_inv (C S : Nat) (k : Nat → Nat) (g : Nat → Nat) : Prop := ∀ x, x < S → g x ≤ x ∧ s_con C S k x (g x)
def p_st (C S : Nat) (k : Nat → Nat) (g : Nat → Nat) (x : Nat) : Prop := ∀ y, y < S → s_con C S k x y → g x ≤ y
theorem lst {P : Nat → Prop} : ∀ (b n : Nat), n ≤ b → P n → ∃ m, P m ∧ ∀ j, j < m → ¬ P j
  | 0, n, h, hP => ⟨n, hP, fun j hj => absurd hj (by omega)⟩
  | b + 1, n, h, hP => by
    by_cases hj : ∃ j, j < n ∧ P j
    · obtain ⟨j, h1, h2⟩ := hj
      exact lst b j (by omega) h2
    · exact ⟨n, hP, fun j h1 h2 => hj ⟨j, h1, h2⟩⟩
theorem s_num_mono {f g : Nat → Prop} : ∀ {n : Nat}, (∀ y, y < n → f y → g y) → s_num f n ≤ s_num g n
  | 0, _ => Nat.le_refl _
  | n + 1, h => by
    have h1 := s_num_mono (fun y hy => h y (by omega) : ∀ y, y < n → f y → g y)
    by_cases hf : f n
    · rw [s_num_y hf, s_num_y (h n (by omega) hf)]; omega
    · rw [s_num_n hf]
      by_cases hg : g n
      · rw [s_num_y hg]; omega
      · rw [s_num_n hg]; exact h1
theorem s_num_lt {f g : Nat → Prop} {x : Nat} (hg : g x) (hf : ¬ f x) : ∀ {n : Nat}, (∀ y, y < n → f y → g y) → x < n → s_num f n < s_num g n
  | n + 1, h, hx => by
    by_cases e : x = n
    · subst e
      have h1 := s_num_mono (fun y hy => h y (by omega) : ∀ y, y < x → f y → g y)
      rw [s_num_y hg, s_num_n hf]; omega
    · have h1 := s_num_lt hg hf (fun y hy => h y (by omega) : ∀ y, y < n → f y → g y) (by omega)
      by_cases hfn : f n
      · rw [s_num_y hfn, s_num_y (h n (by omega) hfn)]; omega
      · rw [s_num_n hfn]
        by_cases hgn : g n
        · rw [s_num_y hgn]; omega
        · rw [s_num_n hgn]; exact h1
section PT
variable {C R S : Nat} {k : Nat → Nat} {w : (Nat → Nat) × Bool} {x z y : Nat}
theorem pr_le : (pr k x z w).1 y ≤ w.1 y := by
  unfold pr
  split
  · show (if y = z then _ else if y = x then _ else _) ≤ _
    split
    · next h => rw [h]; exact Nat.min_le_right _ _
    · split
      · next h => rw [h]; exact Nat.min_le_left _ _
      · exact Nat.le_refl _
  · exact Nat.le_refl _
theorem pr_x (h : k x = k z) : (pr k x z w).1 x ≤ w.1 z ∧ (pr k x z w).1 z ≤ w.1 x := by
  unfold pr
  by_cases e : w.1 x = w.1 z
  · rw [if_neg (fun q => q.2 e), e]; exact ⟨Nat.le_refl _, Nat.le_refl _⟩
  · rw [if_pos ⟨h, e⟩]
    refine ⟨?_, ?_⟩
    · show (if x = z then _ else if x = x then _ else _) ≤ _
      split
      · exact Nat.min_le_right _ _
      · rw [if_pos rfl]; exact Nat.min_le_right _ _
    · show (if z = z then _ else _) ≤ _
      rw [if_pos rfl]; exact Nat.min_le_left _ _
theorem pr_f (h : (pr k x z w).2 = false) : pr k x z w = w ∧ (k x = k z → w.1 x = w.1 z) := by
  unfold pr at h ⊢
  by_cases e : k x = k z ∧ ¬ w.1 x = w.1 z
  · rw [if_pos e] at h; cases h
  · rw [if_neg e]
    refine ⟨rfl, fun hk => ?_⟩
    by_cases e2 : w.1 x = w.1 z
    · exact e2
    · exact absurd ⟨hk, e2⟩ e
theorem pr_id (h : k x = k z → w.1 x = w.1 z) : pr k x z w = w := by
  unfold pr
  exact if_neg (fun e => e.2 (h e.1))
theorem pr_inv (hC : 2 ≤ C) (hR : 2 ≤ R) (hS : S = C * R) (hx : x < S) (hz : z < S) (hc : k x = k z → s_con C S k x z) (h : p_inv C S k w.1) : p_inv C S k (pr k x z w).1 := by
  intro y hy
  refine ⟨Nat.le_trans pr_le (h y hy).1, ?_⟩
  unfold pr
  by_cases e : k x = k z ∧ ¬ w.1 x = w.1 z
  · rw [if_pos e]
    have c1 := hc e.1
    have c2 := s_con_sy hC hR hS hx c1
    have m1 : ∀ v, s_con C S k v x → s_con C S k v (min (w.1 x) (w.1 z)) := fun v hv => by
      rcases Nat.le_total (w.1 x) (w.1 z) with q | q
      · rw [Nat.min_eq_left q]; exact s_con_tr hv (h x hx).2
      · rw [Nat.min_eq_right q]; exact s_con_tr hv (s_con_tr c1 (h z hz).2)
    show s_con C S k y (if y = z then _ else if y = x then _ else _)
    split
    · next q => rw [q]; exact m1 z c2
    · split
      · next q => rw [q]; exact m1 x (s_con_rf _)
      · exact (h y hy).2
  · rw [if_neg e]; exact (h y hy).2
theorem nb_con (d : Nat) (hd : d < 4) (h : k x = k (s_nb C S d x)) : s_con C S k x (s_nb C S d x) := s_con_st hd h.symm
theorem pp_all (hC : 2 ≤ C) (hR : 2 ≤ R) (hS : S = C * R) : ∀ (m x : Nat) (w : (Nat → Nat) × Bool), x + m ≤ S → p_inv C S k w.1 → p_inv C S k (pp C S k m x w).1 ∧ (∀ y, (pp C S k m x w).1 y ≤ w.1 y) ∧ (∀ v d, x ≤ v → v < x + m → d < 2 → k v = k (s_nb C S d v) → (pp C S k m x w).1 v ≤ w.1 (s_nb C S d v) ∧ (pp C S k m x w).1 (s_nb C S d v) ≤ w.1 v) ∧ ((pp C S k m x w).2 = false → pp C S k m x w = w ∧ ∀ v d, x ≤ v → v < x + m → d < 2 → k v = k (s_nb C S d v) → w.1 v = w.1 (s_nb C S d v))
  | 0, x, w, _, h => ⟨h, fun _ => Nat.le_refl _, fun v d h1 h2 => absurd h2 (by omega), fun _ => ⟨rfl, fun v d h1 h2 => absurd h2 (by omega)⟩⟩
  | m + 1, x, w, hm, h => by
    have hx : x < S := by omega
    have n0 : s_nb C S 0 x < S := by rw [hS]; exact s_nb_lt (by omega) (by omega)
    have n1 : s_nb C S 1 x < S := by rw [hS]; exact s_nb_lt (by omega) (by omega)
    have i1 := pr_inv (w := w) hC hR hS hx n0 (nb_con 0 (by omega)) h
    have i2 := pr_inv (w := pr k x (s_nb C S 0 x) w) hC hR hS hx n1 (nb_con 1 (by omega)) i1
    obtain ⟨a1, a2, a3, a4⟩ := pp_all hC hR hS m (x + 1) (pr k x (s_nb C S 1 x) (pr k x (s_nb C S 0 x) w)) (by omega) i2
    have e : pp C S k (m + 1) x w = pp C S k m (x + 1) (pr k x (s_nb C S 1 x) (pr k x (s_nb C S 0 x) w)) := rfl
    have l2 : ∀ y, (pr k x (s_nb C S 1 x) (pr k x (s_nb C S 0 x) w)).1 y ≤ w.1 y := fun y => Nat.le_trans pr_le pr_le
    rw [e]
    refine ⟨a1, fun y => Nat.le_trans (a2 y) (l2 y), fun v d h1 h2 hd hk => ?_, fun hf => ?_⟩
    · by_cases ev : v = x
      · subst ev
        rcases (by omega : d = 0 ∨ d = 1) with rfl | rfl
        · obtain ⟨b1, b2⟩ := pr_x (w := w) hk
          exact ⟨Nat.le_trans (a2 _) (Nat.le_trans pr_le b1), Nat.le_trans (a2 _) (Nat.le_trans pr_le b2)⟩
        · obtain ⟨b1, b2⟩ := pr_x (w := pr k v (s_nb C S 0 v) w) hk
          exact ⟨Nat.le_trans (a2 _) (Nat.le_trans b1 pr_le), Nat.le_trans (a2 _) (Nat.le_trans b2 pr_le)⟩
      · obtain ⟨b1, b2⟩ := a3 v d (by omega) (by omega) hd hk
        exact ⟨Nat.le_trans b1 (l2 _), Nat.le_trans b2 (l2 _)⟩
    · obtain ⟨b1, b2⟩ := a4 hf
      rw [b1] at hf
      obtain ⟨c1, c2⟩ := pr_f hf
      rw [c1] at hf
      obtain ⟨d1, d2⟩ := pr_f hf
      have e2 : pr k x (s_nb C S 1 x) (pr k x (s_nb C S 0 x) w) = w := by rw [c1, d1]
      rw [b1, e2]
      refine ⟨rfl, fun v d h1 h2 hd hk => ?_⟩
      by_cases ev : v = x
      · subst ev
        rcases (by omega : d = 0 ∨ d = 1) with rfl | rfl
        · exact d2 hk
        · rw [d1] at c2; exact c2 hk
      · rw [e2] at b2
        exact b2 v d (by omega) (by omega) hd hk
theorem pp_id : ∀ (m x : Nat) (w : (Nat → Nat) × Bool), (∀ v d, x ≤ v → v < x + m → d < 2 → k v = k (s_nb C S d v) → w.1 v = w.1 (s_nb C S d v)) → pp C S k m x w = w
  | 0, _, _, _ => rfl
  | m + 1, x, w, h => by
    show pp C S k m (x + 1) (pr k x (s_nb C S 1 x) (pr k x (s_nb C S 0 x) w)) = w
    rw [pr_id (w := w) (h x 0 (by omega) (by omega) (by omega)), pr_id (w := w) (h x 1 (by omega) (by omega) (by omega))]
    exact pp_id m (x + 1) w (fun v d h1 h2 => h v d (by omega) (by omega))
noncomputable def p_U (C S : Nat) (k : Nat → Nat) (g : Nat → Nat) : Nat := s_num (fun x => ¬ p_st C S k g x) S
theorem pp_U (hC : 2 ≤ C) (hR : 2 ≤ R) (hS : S = C * R) {g : Nat → Nat} (h : p_inv C S k g) (hf : (pp C S k S 0 (g, false)).2 = true) : p_U C S k (pp C S k S 0 (g, false)).1 < p_U C S k g := by
  obtain ⟨a1, a2, a3, -⟩ := pp_all hC hR hS S 0 (g, false) (by omega) h
  have mono : ∀ y, p_st C S k g y → p_st C S k (pp C S k S 0 (g, false)).1 y := fun y hy u hu hc => Nat.le_trans (a2 y) (hy u hu hc)
  by_cases hall : ∀ x, x < S → p_st C S k g x
  · exfalso
    have : pp C S k S 0 (g, false) = (g, false) := pp_id S 0 (g, false) (fun v d h1 h2 hd hk => by
      have hv : v < S := by omega
      have hz : s_nb C S d v < S := by rw [hS]; exact s_nb_lt (by omega) (by omega)
      have c1 := nb_con d (by omega) hk
      have c2 := s_con_sy hC hR hS hv c1
      have l1 := hall v hv (g (s_nb C S d v)) (by have := (h _ hz).1; omega) (s_con_tr c1 (h _ hz).2)
      have l2 := hall _ hz (g v) (by have := (h v hv).1; omega) (s_con_tr c2 (h v hv).2)
      exact Nat.le_antisymm l1 l2)
    rw [this] at hf
    cases hf
  · obtain ⟨x, hx⟩ : ∃ x, ¬ (x < S → p_st C S k g x) := Classical.not_forall.mp hall
    have hx1 : x < S := Classical.byContradiction fun q => hx fun z => absurd z q
    have hx2 : ¬ p_st C S k g x := fun q => hx fun _ => q
    obtain ⟨f, ⟨f1, f2⟩, f3⟩ := lst (P := fun y => y < S ∧ s_con C S k x y) x x (Nat.le_refl _) ⟨hx1, s_con_rf _⟩
    have f4 := s_con_sy hC hR hS hx1 f2
    have hst : p_st C S k g f := fun y hy hc => by
      have h1 := (h f f1).1
      have h2 : ¬ y < f := fun q => f3 y q ⟨hy, s_con_tr f2 hc⟩
      omega
    have hpair : ∃ v d, v < S ∧ d < 4 ∧ k (s_nb C S d v) = k v ∧ p_st C S k g v ∧ ¬ p_st C S k g (s_nb C S d v) := Classical.byContradiction fun q => by
      have := s_con_cl (C := C) (S := S) (k := k) (M := fun y => y < S ∧ k y = k f ∧ p_st C S k g y) (f := f) (b := x) ⟨f1, rfl, hst⟩ (fun v d hv hd hk => by
        refine ⟨by rw [hS]; exact s_nb_lt (by omega) (by have := hv.1; omega), hk, ?_⟩
        exact Classical.byContradiction fun z => q ⟨v, d, hv.1, hd, by rw [hk, hv.2.1], hv.2.2, z⟩) f4
      exact hx2 this.2.2
    obtain ⟨v, d, v1, v2, v3, v4, v5⟩ := hpair
    have hz : s_nb C S d v < S := by rw [hS]; exact s_nb_lt (by omega) (by omega)
    have c1 : s_con C S k v (s_nb C S d v) := s_con_st v2 v3
    have key : (pp C S k S 0 (g, false)).1 (s_nb C S d v) ≤ g v := by
      by_cases hd : d < 2
      · exact (a3 v d (by omega) (by omega) hd v3.symm).2
      · have ho : s_nb C S (s_op d) (s_nb C S d v) = v := by rw [hS]; exact s_nb_op hC hR v2 (by omega)
        have hod : s_op d < 2 := by rcases (by omega : d = 2 ∨ d = 3) with rfl | rfl <;> decide
        have := (a3 (s_nb C S d v) (s_op d) (by omega) (by omega) hod (by rw [ho, v3])).1
        rw [ho] at this
        exact this
    exact s_num_lt (x := s_nb C S d v) v5 (fun q => q (fun y hy hc => Nat.le_trans key (v4 y hy (s_con_tr c1 hc)))) (fun y _ hy z => hy (mono y z)) hz
theorem p_fin (hC : 2 ≤ C) (hR : 2 ≤ R) (hS : S = C * R) {g : Nat → Nat} (h : p_inv C S k g) (he : ∀ v d, v < S → d < 2 → k v = k (s_nb C S d v) → g v = g (s_nb C S d v)) : (∀ x y, x < S → y < S → (g x = g y ↔ s_con C S k x y)) ∧ ∀ x, x < S → (g x = x ↔ s_new C S k x) := by
  have h4 : ∀ v d, v < S → d < 4 → k (s_nb C S d v) = k v → g v = g (s_nb C S d v) := fun v d hv hd hk => by
    by_cases h2 : d < 2
    · exact he v d hv h2 hk.symm
    · have hz : s_nb C S d v < S := by rw [hS]; exact s_nb_lt (by omega) (by omega)
      have ho : s_nb C S (s_op d) (s_nb C S d v) = v := by rw [hS]; exact s_nb_op hC hR hd (by omega)
      have hod : s_op d < 2 := by rcases (by omega : d = 2 ∨ d = 3) with rfl | rfl <;> decide
      have := he (s_nb C S d v) (s_op d) hz hod (by rw [ho, hk])
      rw [ho] at this
      exact this.symm
  have hcon : ∀ x y, x < S → s_con C S k x y → g x = g y := fun x y hx hc => by
    have := s_con_cl (C := C) (S := S) (k := k) (M := fun y => y < S ∧ k y = k x ∧ g y = g x) (f := x) (b := y) ⟨hx, rfl, rfl⟩ (fun v d hv hd hk => ⟨by rw [hS]; exact s_nb_lt (by omega) (by have := hv.1; omega), hk, by rw [← h4 v d hv.1 hd (by rw [hk, hv.2.1])]; exact hv.2.2⟩) hc
    exact this.2.2.symm
  have hiff : ∀ x y, x < S → y < S → (g x = g y ↔ s_con C S k x y) := fun x y hx hy => ⟨fun e => by
    have c1 := (h x hx).2
    have c2 := s_con_sy hC hR hS hy (h y hy).2
    rw [e] at c1
    exact s_con_tr c1 c2, hcon x y hx⟩
  refine ⟨hiff, fun x hx => ⟨fun e j hj hc => ?_, fun hn => ?_⟩⟩
  · have h1 := hcon j x (by omega) hc
    have h2 := (h j (by omega)).1
    omega
  · have h1 := (h x hx).1
    refine Classical.byContradiction fun q => ?_
    have hlt : g x < x := by omega
    exact hn (g x) hlt (s_con_sy hC hR hS hx (h x hx).2)
end PT
