/-! spots beside each other, patches, contours: pure -/
/-- right, below, left, above -/
def s_nb (C S d s : Nat) : Nat := if d = 0 then (if s % C = C - 1 then s + 1 - C else s + 1) else if d = 1 then (if S ≤ s + C then s + C - S else s + C) else if d = 2 then (if s % C = 0 then s + C - 1 else s - 1) else (if s < C then s + S - C else s - C)
theorem s_nb0 (C S s : Nat) : s_nb C S 0 s = if s % C = C - 1 then s + 1 - C else s + 1 := rfl
theorem s_nb1 (C S s : Nat) : s_nb C S 1 s = if S ≤ s + C then s + C - S else s + C := rfl
theorem s_nb2 (C S s : Nat) : s_nb C S 2 s = if s % C = 0 then s + C - 1 else s - 1 := rfl
theorem s_nb3 (C S s : Nat) : s_nb C S 3 s = if s < C then s + S - C else s - C := rfl
theorem s_xy (C s : Nat) (h : 0 < C) : s = s / C * C + s % C ∧ s % C < C := ⟨by have := Nat.div_add_mod s C; rw [Nat.mul_comm] at this; omega, Nat.mod_lt _ h⟩
theorem s_y_lt {C R s : Nat} (hs : s < C * R) : s / C < R := Nat.div_lt_of_lt_mul hs
theorem s_mk {C x y : Nat} (hx : x < C) : (y * C + x) % C = x ∧ (y * C + x) / C = y := s_dm hx
/-- right and left -/
theorem s_nb0_xy {C S x y : Nat} (hx : x < C) : s_nb C S 0 (y * C + x) = y * C + (if x = C - 1 then 0 else x + 1) := by
  rw [s_nb0, (s_mk hx).1]
  split <;> omega
theorem s_nb2_xy {C S x y : Nat} (hx : x < C) : s_nb C S 2 (y * C + x) = y * C + (if x = 0 then C - 1 else x - 1) := by
  rw [s_nb2, (s_mk hx).1]
  split <;> omega
theorem s_nb1_xy {C R x y : Nat} (hx : x < C) (hy : y < R) : s_nb C (C * R) 1 (y * C + x) = (if y = R - 1 then 0 else y + 1) * C + x := by
  rw [s_nb1]
  have h1 : (y + 1) * C = y * C + C := Nat.succ_mul y C
  have h2 : C * R = R * C := Nat.mul_comm C R
  by_cases h : y = R - 1
  · rw [if_pos h]
    have h3 : R * C = y * C + C := by rw [← h1]; congr 1; omega
    rw [if_pos (by omega)]; omega
  · rw [if_neg h]
    have h3 : (y + 2) * C ≤ R * C := Nat.mul_le_mul_right C (by omega)
    have h4 : (y + 2) * C = y * C + C + C := by rw [Nat.succ_mul, Nat.succ_mul]
    rw [if_neg (by omega)]; omega
theorem s_nb3_xy {C R x y : Nat} (hx : x < C) (hy : y < R) : s_nb C (C * R) 3 (y * C + x) = (if y = 0 then R - 1 else y - 1) * C + x := by
  rw [s_nb3]
  have h2 : C * R = R * C := Nat.mul_comm C R
  by_cases h : y = 0
  · subst h
    rw [if_pos rfl, if_pos (by omega)]
    obtain ⟨r, rfl⟩ : ∃ r, R = r + 1 := ⟨R - 1, by omega⟩
    have h3 : (r + 1) * C = r * C + C := Nat.succ_mul r C
    rw [show r + 1 - 1 = r by omega]; omega
  · obtain ⟨z, rfl⟩ : ∃ z, y = z + 1 := ⟨y - 1, by omega⟩
    have h3 : (z + 1) * C = z * C + C := Nat.succ_mul z C
    rw [if_neg h, if_neg (by omega), show z + 1 - 1 = z by omega]; omega
theorem s_nb_lt {C R d s : Nat} (hC : 0 < C) (hs : s < C * R) : s_nb C (C * R) d s < C * R := by
  obtain ⟨e, hx⟩ := s_xy C s hC
  have hy := s_y_lt hs
  generalize s % C = x at e hx
  generalize s / C = y at e hy
  subst e
  have hl : ∀ x y, x < C → y < R → y * C + x < C * R := fun x y h1 h2 => s_pair_b h1 h2
  have hx1 : (if x = C - 1 then 0 else x + 1) < C := by split <;> omega
  have hx2 : (if x = 0 then C - 1 else x - 1) < C := by split <;> omega
  have hy1 : (if y = R - 1 then 0 else y + 1) < R := by split <;> omega
  have hy2 : (if y = 0 then R - 1 else y - 1) < R := by split <;> omega
  by_cases h0 : d = 0
  · subst h0; rw [s_nb0_xy hx]; exact hl _ _ hx1 hy
  by_cases h1 : d = 1
  · subst h1; rw [s_nb1_xy hx hy]; exact hl _ _ hx hy1
  by_cases h2 : d = 2
  · subst h2; rw [s_nb2_xy hx]; exact hl _ _ hx2 hy
  have h3 : s_nb C (C * R) d (y * C + x) = s_nb C (C * R) 3 (y * C + x) := by unfold s_nb; simp [h0, h1, h2]
  rw [h3, s_nb3_xy hx hy]; exact hl _ _ hx hy2
def s_op (d : Nat) : Nat := if d = 0 then 2 else if d = 1 then 3 else if d = 2 then 0 else 1
theorem s_op_lt (d : Nat) : s_op d < 4 := by unfold s_op; split <;> (try split) <;> (try split) <;> omega
theorem s_nb_op {C R d s : Nat} (hC : 2 ≤ C) (hR : 2 ≤ R) (hd : d < 4) (hs : s < C * R) : s_nb C (C * R) (s_op d) (s_nb C (C * R) d s) = s := by
  obtain ⟨e, hx⟩ := s_xy C s (by omega)
  have hy := s_y_lt hs
  generalize s % C = x at e hx
  generalize s / C = y at e hy
  subst e
  have hd4 : d = 0 ∨ d = 1 ∨ d = 2 ∨ d = 3 := by omega
  rcases hd4 with rfl | rfl | rfl | rfl
  · rw [show s_op 0 = 2 from rfl, s_nb0_xy hx, s_nb2_xy (by split <;> omega)]
    by_cases h : x = C - 1
    · rw [if_pos h, if_pos rfl]; omega
    · rw [if_neg h, if_neg (by omega)]; omega
  · rw [show s_op 1 = 3 from rfl, s_nb1_xy hx hy, s_nb3_xy hx (by split <;> omega)]
    by_cases h : y = R - 1
    · rw [if_pos h, if_pos rfl, ← h]
    · rw [if_neg h, if_neg (by omega), show y + 1 - 1 = y by omega]
  · rw [show s_op 2 = 0 from rfl, s_nb2_xy hx, s_nb0_xy (by split <;> omega)]
    by_cases h : x = 0
    · rw [if_pos h, if_pos rfl]; omega
    · rw [if_neg h, if_neg (by omega)]; omega
  · rw [show s_op 3 = 1 from rfl, s_nb3_xy hx hy, s_nb1_xy hx (by split <;> omega)]
    by_cases h : y = 0
    · rw [if_pos h, if_pos rfl, h]
    · rw [if_neg h, if_neg (by omega), show y - 1 + 1 = y by omega]
/-- so many steps over spots of the same ink lead from a to b -/
def s_rch (C S : Nat) (k : Nat → Nat) : Nat → Nat → Nat → Prop
  | 0, a, b => a = b
  | n + 1, a, b => ∃ d, d < 4 ∧ k (s_nb C S d a) = k a ∧ s_rch C S k n (s_nb C S d a) b
/-- one patch -/
def s_con (C S : Nat) (k : Nat → Nat) (a b : Nat) : Prop := ∃ n, s_rch C S k n a b
section GR
variable {C S : Nat} {k : Nat → Nat}
theorem s_con_rf (a : Nat) : s_con C S k a a := ⟨0, rfl⟩
theorem s_rch_tr : ∀ {n m a b c : Nat}, s_rch C S k n a b → s_rch C S k m b c → s_rch C S k (n + m) a c
  | 0, m, a, b, c, h1, h2 => by
    have h1 : a = b := h1
    subst h1; rw [Nat.zero_add]; exact h2
  | n + 1, m, a, b, c, ⟨d, hd, hk, h⟩, h2 => by
    rw [show n + 1 + m = (n + m) + 1 by omega]
    exact ⟨d, hd, hk, s_rch_tr h h2⟩
theorem s_con_tr {a b c : Nat} (h1 : s_con C S k a b) (h2 : s_con C S k b c) : s_con C S k a c := by
  obtain ⟨n, h1⟩ := h1
  obtain ⟨m, h2⟩ := h2
  exact ⟨n + m, s_rch_tr h1 h2⟩
theorem s_con_st {a d : Nat} (hd : d < 4) (hk : k (s_nb C S d a) = k a) : s_con C S k a (s_nb C S d a) := ⟨1, d, hd, hk, rfl⟩
theorem s_rch_ink : ∀ {n a b : Nat}, s_rch C S k n a b → k b = k a
  | 0, a, b, h => by have h : a = b := h; rw [h]
  | n + 1, a, b, ⟨d, hd, hk, h⟩ => by rw [s_rch_ink h, hk]
theorem s_con_ink {a b : Nat} (h : s_con C S k a b) : k b = k a := by
  obtain ⟨n, h⟩ := h
  exact s_rch_ink h
theorem s_rch_cl {M : Nat → Prop} {f : Nat} (hM : ∀ x d, M x → d < 4 → k (s_nb C S d x) = k f → M (s_nb C S d x)) : ∀ {n a b : Nat}, k a = k f → M a → s_rch C S k n a b → M b
  | 0, a, b, _, ha, h => by have h : a = b := h; rw [← h]; exact ha
  | n + 1, a, b, hka, ha, ⟨d, hd, hk, h⟩ => s_rch_cl hM (by rw [hk, hka]) (hM a d ha hd (by rw [hk, hka])) h
/-- what holds at a and goes on to neighbours of the same ink holds of the patch -/
theorem s_con_cl {M : Nat → Prop} {f b : Nat} (hf : M f) (hM : ∀ x d, M x → d < 4 → k (s_nb C S d x) = k f → M (s_nb C S d x)) (h : s_con C S k f b) : M b := by
  obtain ⟨n, h⟩ := h
  exact s_rch_cl hM rfl hf h
theorem s_rch_lt {R : Nat} (hC : 0 < C) (hS : S = C * R) : ∀ {n a b : Nat}, a < S → s_rch C S k n a b → b < S
  | 0, a, b, ha, h => by have h : a = b := h; rw [← h]; exact ha
  | n + 1, a, b, ha, ⟨d, hd, hk, h⟩ => s_rch_lt hC hS (by subst hS; exact s_nb_lt hC ha) h
theorem s_con_lt {R a b : Nat} (hC : 0 < C) (hS : S = C * R) (ha : a < S) (h : s_con C S k a b) : b < S := by
  obtain ⟨n, h⟩ := h
  exact s_rch_lt hC hS ha h
theorem s_rch_sy {R : Nat} (hC : 2 ≤ C) (hR : 2 ≤ R) (hS : S = C * R) : ∀ {n a b : Nat}, a < S → s_rch C S k n a b → s_con C S k b a
  | 0, a, b, ha, h => by have h : a = b := h; rw [h]; exact s_con_rf _
  | n + 1, a, b, ha, ⟨d, hd, hk, h⟩ => by
    have h1 : s_nb C S d a < S := by subst hS; exact s_nb_lt (by omega) ha
    have h2 := s_rch_sy hC hR hS h1 h
    have h3 : s_nb C S (s_op d) (s_nb C S d a) = a := by subst hS; exact s_nb_op hC hR hd ha
    have h4 := s_con_st (C := C) (S := S) (k := k) (a := s_nb C S d a) (s_op_lt d) (by rw [h3, hk])
    rw [h3] at h4
    exact s_con_tr h2 h4
theorem s_con_sy {R a b : Nat} (hC : 2 ≤ C) (hR : 2 ≤ R) (hS : S = C * R) (ha : a < S) (h : s_con C S k a b) : s_con C S k b a := by
  obtain ⟨n, h⟩ := h
  exact s_rch_sy hC hR hS ha h
end GR
/-- how many of the first n -/
noncomputable def s_num (f : Nat → Prop) : Nat → Nat
  | 0 => 0
  | n + 1 => s_num f n + (@ite _ (f n) (Classical.propDecidable _) 1 0)
theorem s_num_y {f : Nat → Prop} {n : Nat} (h : f n) : s_num f (n + 1) = s_num f n + 1 := by rw [s_num, if_pos h]
theorem s_num_n {f : Nat → Prop} {n : Nat} (h : ¬ f n) : s_num f (n + 1) = s_num f n := by rw [s_num, if_neg h]; rfl
theorem s_num_le (f : Nat → Prop) : ∀ n, s_num f n ≤ n
  | 0 => Nat.le_refl _
  | n + 1 => by
    have := s_num_le f n
    by_cases h : f n
    · rw [s_num_y h]; omega
    · rw [s_num_n h]; omega
theorem s_num_eq {f g : Nat → Prop} : ∀ {n : Nat}, (∀ x, x < n → (f x ↔ g x)) → s_num f n = s_num g n
  | 0, _ => rfl
  | n + 1, h => by
    have h1 := s_num_eq (fun x hx => h x (by omega) : ∀ x, x < n → (f x ↔ g x))
    by_cases hf : f n
    · rw [s_num_y hf, s_num_y ((h n (by omega)).mp hf), h1]
    · rw [s_num_n hf, s_num_n (fun z => hf ((h n (by omega)).mpr z)), h1]
theorem s_num_add {f g : Nat → Prop} {x : Nat} (hfx : ¬ f x) (hg : ∀ y, g y ↔ (f y ∨ y = x)) : ∀ {n : Nat}, x < n → s_num g n = s_num f n + 1
  | n + 1, hx => by
    by_cases he : x = n
    · subst he
      rw [s_num_y ((hg x).mpr (Or.inr rfl)), s_num_n hfx, s_num_eq (fun y hy => (hg y).trans ⟨fun z => z.resolve_right (by omega), Or.inl⟩ : ∀ y, y < x → (g y ↔ f y))]
    · have h1 := s_num_add hfx hg (n := n) (by omega)
      by_cases hf : f n
      · rw [s_num_y ((hg n).mpr (Or.inl hf)), s_num_y hf, h1]
      · rw [s_num_n (fun z => ((hg n).mp z).elim hf (fun q => he q.symm)), s_num_n hf, h1]
theorem s_num_z {f : Nat → Prop} (h : ∀ x, ¬ f x) : ∀ n, s_num f n = 0
  | 0 => rfl
  | n + 1 => by rw [s_num_n (h n), s_num_z h n]
theorem s_num_pos {f : Nat → Prop} {x : Nat} (h : f x) : ∀ {n : Nat}, x < n → 1 ≤ s_num f n
  | n + 1, hx => by
    by_cases hn : f n
    · rw [s_num_y hn]; omega
    · have : x ≠ n := fun z => hn (z ▸ h)
      have := s_num_pos h (n := n) (by omega)
      rw [s_num_n hn]; omega
/-- how many spots its patch has; how many patches; contours -/
noncomputable def s_sz (C S : Nat) (k : Nat → Nat) (a : Nat) : Nat := s_num (fun x => s_con C S k a x) S
def s_new (C S : Nat) (k : Nat → Nat) (a : Nat) : Prop := ∀ j, j < a → ¬ s_con C S k j a
noncomputable def s_pat (C S : Nat) (k : Nat → Nat) (n : Nat) : Nat := s_num (s_new C S k) n
def s_cts (C S : Nat) (k : Nat → Nat) : Nat → Nat
  | 0 => 0
  | n + 1 => s_cts C S k n + ((if k n = k (s_nb C S 0 n) then 0 else 1) + (if k n = k (s_nb C S 1 n) then 0 else 1))
theorem s_cts_le (C S : Nat) (k : Nat → Nat) : ∀ n, s_cts C S k n ≤ 2 * n
  | 0 => Nat.le_refl _
  | n + 1 => by
    have := s_cts_le C S k n
    unfold s_cts
    split <;> split <;> omega
theorem s_sz_eq {C S R a b : Nat} {k : Nat → Nat} (hC : 2 ≤ C) (hR : 2 ≤ R) (hS : S = C * R) (ha : a < S) (h : s_con C S k a b) : s_sz C S k a = s_sz C S k b :=
  s_num_eq fun _ _ => ⟨fun z => s_con_tr (s_con_sy hC hR hS ha h) z, fun z => s_con_tr h z⟩
