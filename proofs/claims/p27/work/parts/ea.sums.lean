/-! sums over a permutation; patches and contours; the first dip that brings an ink; orders carried out -/
def sH (f : Nat → Int32) : Nat → Int32
  | 0 => 0
  | k + 1 => sH f k + f k
theorem run_sH (f : Nat → Int32) : ∀ m k, s_run (fun k a => a + f k) m k (sH f k) = sH f (k + m)
  | 0, k => rfl
  | m + 1, k => by
    have := run_sH f m (k + 1)
    rw [show k + (m + 1) = k + 1 + m by omega]
    exact this
theorem sH_eq {f g : Nat → Int32} : ∀ {n : Nat}, (∀ k, k < n → f k = g k) → sH f n = sH g n
  | 0, _ => rfl
  | n + 1, h => by
    unfold sH
    rw [sH_eq (fun k hk => h k (by omega)), h n (by omega)]
theorem sH_z : ∀ (n : Nat), sH (fun _ => 0) n = 0
  | 0 => rfl
  | n + 1 => by
    unfold sH
    rw [sH_z n]; rfl
theorem m_4 (a b c d : Int32) : a + b + (c + d) = a + c + (b + d) := by
  rw [Int32.add_assoc, ← Int32.add_assoc b c d, Int32.add_comm b c, Int32.add_assoc c b d, ← Int32.add_assoc]
theorem sH_add (f g : Nat → Int32) : ∀ (n : Nat), sH (fun k => f k + g k) n = sH f n + sH g n
  | 0 => rfl
  | n + 1 => by
    unfold sH
    rw [sH_add f g n, m_4]
theorem sH_swap (h : Nat → Nat → Int32) (n : Nat) : ∀ (m : Nat), sH (fun k => sH (h k) n) m = sH (fun y => sH (fun k => h k y) m) n
  | 0 => (sH_z n).symm
  | m + 1 => by
    have e : sH (fun y => sH (fun k => h k y) (m + 1)) n = sH (fun y => sH (fun k => h k y) m + h m y) n := rfl
    rw [e, sH_add, ← sH_swap h n m]
    rfl
theorem sH_none (f : Nat → Int32) (z : Nat) : ∀ (n : Nat), n ≤ z → sH (fun y => if z = y then f y else 0) n = 0
  | 0, _ => rfl
  | n + 1, h => by
    unfold sH
    rw [sH_none f z n (by omega), if_neg (by omega)]; rfl
theorem sH_one (f : Nat → Int32) (z : Nat) : ∀ (n : Nat), z < n → sH (fun y => if z = y then f y else 0) n = f z
  | 0, h => absurd h (Nat.not_lt_zero _)
  | n + 1, h => by
    unfold sH
    by_cases e : z = n
    · rw [e, sH_none f n n (Nat.le_refl _), if_pos rfl, Int32.zero_add]
    · rw [sH_one f z n (by omega), if_neg e, Int32.add_zero]
theorem sH_perm (f : Nat → Int32) {n : Nat} {a b : Nat → Nat} (h1 : ∀ k, k < n → a k < n) (h2 : ∀ k, k < n → b k < n) (h3 : ∀ k, k < n → b (a k) = k) (h4 : ∀ k, k < n → a (b k) = k) : sH (fun k => f (a k)) n = sH f n := by
  have e1 : sH (fun k => f (a k)) n = sH (fun k => sH (fun y => if a k = y then f y else 0) n) n := sH_eq (fun k hk => (sH_one f (a k) n (h1 k hk)).symm)
  rw [e1, sH_swap]
  refine sH_eq (fun y hy => ?_)
  have e2 : sH (fun k => if a k = y then f y else 0) n = sH (fun k => if b y = k then (fun _ => f y) k else 0) n := sH_eq (fun k hk => by
    by_cases c : a k = y
    · rw [if_pos c, if_pos (by rw [← c, h3 k hk])]
    · rw [if_neg c, if_neg (fun z => c (by rw [← z, h4 y hy]))])
  exact e2.trans (sH_one (fun _ => f y) (b y) n (h2 y hy))
/-- the heights of all spots, told by where they are and by whence they came -/
theorem sH_ht {p : sP} (hp : p_ok p) (t : sP) : sH (s_ht p t) (s_S p) = sH (s_hq p t) (s_S p) :=
  sH_perm (s_hq p t) (a := fun k => s_src p t (k % p 0 0) (k / p 0 0)) (b := s_go p t) (fun k _ => s_src_b hp _ _) (fun k _ => s_go_lt hp k) (fun k hk => s_go_src hp hk) (fun k hk => s_src_go hp hk)
section EA
variable {C R S : Nat} {k : Nat → Nat}
theorem cts_z : ∀ {n : Nat}, s_cts C S k n = 0 → ∀ x, x < n → k x = k (s_nb C S 0 x) ∧ k x = k (s_nb C S 1 x)
  | 0, _, x, hx => absurd hx (Nat.not_lt_zero _)
  | n + 1, h, x, hx => by
    unfold s_cts at h
    by_cases c0 : k n = k (s_nb C S 0 n)
    · by_cases c1 : k n = k (s_nb C S 1 n)
      · by_cases e : x = n
        · rw [e]; exact ⟨c0, c1⟩
        · exact cts_z (n := n) (by rw [if_pos c0, if_pos c1] at h; omega) x (by omega)
      · rw [if_neg c1] at h; omega
    · rw [if_neg c0] at h; omega
theorem z_cts : ∀ {n : Nat}, (∀ x, x < n → k x = k (s_nb C S 0 x) ∧ k x = k (s_nb C S 1 x)) → s_cts C S k n = 0
  | 0, _ => rfl
  | n + 1, h => by
    unfold s_cts
    rw [z_cts (fun x hx => h x (by omega)), if_pos (h n (by omega)).1, if_pos (h n (by omega)).2]
theorem all_con (hC : 2 ≤ C) (hS : S = C * R) (h : ∀ x, x < S → k x = k (s_nb C S 0 x) ∧ k x = k (s_nb C S 1 x)) : ∀ (b x : Nat), x ≤ b → x < S → s_con C S k 0 x := by
  intro b
  induction b with
  | zero =>
    intro x hx _
    obtain rfl : x = 0 := by omega
    exact s_con_rf _
  | succ b ih =>
    intro x hx hxS
    by_cases x0 : x = 0
    · rw [x0]; exact s_con_rf _
    · obtain ⟨e, hm⟩ := s_xy C x (by omega)
      by_cases c : x % C = 0
      · have hxC : C ≤ x := by
          have : 0 < x / C := Nat.pos_of_ne_zero (fun z => x0 (by rw [e, z, c, Nat.zero_mul]))
          have := Nat.mul_le_mul_right C this
          omega
        have h1 := ih (x - C) (by omega) (by omega)
        have e1 : s_nb C S 1 (x - C) = x := by rw [s_nb1, if_neg (by omega)]; omega
        have h2 := s_con_st (C := C) (S := S) (k := k) (a := x - C) (show 1 < 4 by omega) (h (x - C) (by omega)).2.symm
        rw [e1] at h2
        exact s_con_tr h1 h2
      · have h1 := ih (x - 1) (by omega) (by omega)
        have e2 : (x - 1) % C = x % C - 1 := by
          have e3 : x - 1 = x / C * C + (x % C - 1) := by omega
          rw [e3]
          exact (s_mk (by omega)).1
        have e1 : s_nb C S 0 (x - 1) = x := by rw [s_nb0, e2, if_neg (by omega)]; omega
        have h2 := s_con_st (C := C) (S := S) (k := k) (a := x - 1) (show 0 < 4 by omega) (h (x - 1) (by omega)).1.symm
        rw [e1] at h2
        exact s_con_tr h1 h2
theorem num_1 {f : Nat → Prop} (h0 : f 0) : ∀ {n : Nat}, 1 ≤ n → (s_num f n = 1 ↔ ∀ x, x < n → f x → x = 0)
  | 0, h => absurd h (by omega)
  | 1, _ => by
    rw [s_num_y h0]
    exact ⟨fun _ x hx _ => by omega, fun _ => rfl⟩
  | n + 2, _ => by
    have ih := num_1 h0 (n := n + 1) (by omega)
    have hp : 1 ≤ s_num f (n + 1) := s_num_pos h0 (by omega)
    by_cases c : f (n + 1)
    · rw [s_num_y c]
      exact ⟨fun z => by omega, fun z => absurd (z (n + 1) (by omega) c) (by omega)⟩
    · rw [s_num_n c, ih]
      exact ⟨fun z x hx hf => by
        by_cases e : x = n + 1
        · rw [e] at hf; exact absurd hf c
        · exact z x (by omega) hf, fun z x hx hf => z x (by omega) hf⟩
/-- there is one patch just if there is no contour -/
theorem pat_cts (hC : 2 ≤ C) (hR : 2 ≤ R) (hS : S = C * R) : s_pat C S k S = 1 ↔ s_cts C S k S = 0 := by
  have hS1 : 4 ≤ S := by rw [hS]; exact Nat.mul_le_mul hC hR
  have hn0 : s_new C S k 0 := fun j hj => absurd hj (Nat.not_lt_zero _)
  unfold s_pat
  rw [num_1 hn0 (by omega)]
  constructor
  · intro h
    have hc : ∀ (b x : Nat), x ≤ b → x < S → s_con C S k 0 x := by
      intro b
      induction b with
      | zero =>
        intro x hx _
        obtain rfl : x = 0 := by omega
        exact s_con_rf _
      | succ b ih =>
        intro x hx hxS
        by_cases x0 : x = 0
        · rw [x0]; exact s_con_rf _
        · have hnn : ¬ s_new C S k x := fun z => x0 (h x hxS z)
          obtain ⟨j, hj⟩ : ∃ j, ¬ (j < x → ¬ s_con C S k j x) := Classical.byContradiction fun z => hnn (fun j => Classical.byContradiction fun w => z ⟨j, w⟩)
          have hj1 : j < x := Classical.byContradiction fun z => hj (fun w => absurd w z)
          have hj2 : s_con C S k j x := Classical.byContradiction fun z => hj (fun _ => z)
          exact s_con_tr (ih j (by omega) (by omega)) hj2
    have hk : ∀ x, x < S → k x = k 0 := fun x hx => s_con_ink (hc x x (Nat.le_refl _) hx)
    refine z_cts (fun x hx => ?_)
    have b0 : s_nb C S 0 x < S := by rw [hS]; exact s_nb_lt (by omega) (by rw [← hS]; exact hx)
    have b1 : s_nb C S 1 x < S := by rw [hS]; exact s_nb_lt (by omega) (by rw [← hS]; exact hx)
    rw [hk x hx, hk _ b0, hk _ b1]
    exact ⟨rfl, rfl⟩
  · intro h x hx hn
    refine Classical.byContradiction fun z => ?_
    exact hn 0 (by omega) (all_con hC hS (cts_z h) x x (Nat.le_refl _) hx)
end EA
theorem s_sh_le {n teeth pull line : Nat} (hn : 0 < n) : s_sh n teeth pull line ≤ pull := by
  have h1 := Nat.mod_lt (line * teeth) hn
  unfold s_sh
  refine Nat.div_le_of_le_mul ?_
  rw [Nat.mul_comm n, Nat.mul_assoc]
  refine Nat.mul_le_mul (Nat.le_refl _) ?_
  split <;> omega
section EA2
variable {p : sP} {od : sO} {j z : Nat}
/-- never, or not before -/
theorem unt_ge : ∀ (m k : Nat) (x : sP × Int32 × Int32), s_unt p od z j m k x = -1 ∨ ∃ i, k ≤ i ∧ i < k + m ∧ s_unt p od z j m k x = Int32.ofNat i
  | 0, k, x => Or.inl rfl
  | m + 1, k, x => by
    unfold s_unt
    by_cases c : s_ik p x.1 z = j
    · rw [if_pos c]
      exact Or.inr ⟨k, Nat.le_refl _, by omega, rfl⟩
    · rw [if_neg c]
      rcases unt_ge m (k + 1) (s_dip p od x) with h | ⟨i, h1, h2, h3⟩
      · exact Or.inl h
      · exact Or.inr ⟨i, by omega, by omega, h3⟩
theorem dl_ca (dp : Int32) : ∀ (m k : Nat) (x : sP × Int32), ∃ i, i ≤ m ∧ (s_dl p od dp m k x).2 = x.2 + Int32.ofNat i
  | 0, k, x => ⟨0, Nat.le_refl _, by show x.2 = x.2 + 0; rw [Int32.add_zero]⟩
  | m + 1, k, x => by
    obtain ⟨i, h1, h2⟩ := dl_ca dp m (k + 1) (s_os p dp (od k) x)
    have e : (s_dl p od dp (m + 1) k x).2 = (s_dl p od dp m (k + 1) (s_os p dp (od k) x)).2 := rfl
    rw [e, h2]
    unfold s_os
    by_cases c : (s_o1 p dp (od k) x.1).2 = true
    · refine ⟨i + 1, by omega, ?_⟩
      rw [if_pos c, Int32.add_assoc, Int32.add_comm 1, n_inc]
    · refine ⟨i, by omega, ?_⟩
      rw [if_neg c]
/-- a dip carries out no more orders than there are -/
theorem dip_ca (x : sP × Int32 × Int32) : ∃ i, i ≤ p 0 5 ∧ (s_dip p od x).2.2 = x.2.2 + Int32.ofNat i := dl_ca x.2.1 (p 0 5) 0 (x.1, x.2.2)
end EA2
