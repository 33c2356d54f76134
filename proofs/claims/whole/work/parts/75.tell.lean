/-! what is told: counts, dips by many -/
noncomputable def s_tell (p t : sP) (dp ca : Int32) (k : Nat) : Int32 := if k = 0 then dp else if k = 1 then Int32.ofNat (p 0 0) else if k = 2 then Int32.ofNat (p 0 1) else if k = 3 then Int32.ofNat (p 0 2) else if k = 4 then Int32.ofNat (p 0 3) else if k = 5 then Int32.ofNat (p 0 4) else if k = 6 then Int32.ofNat (p 0 5) else if k = 7 then Int32.ofNat (s_pat (p 0 0) (s_S p) (s_ik p t) (s_S p)) else if k = 8 then Int32.ofNat (s_cts (p 0 0) (s_S p) (s_ik p t) (s_S p)) else if k = 9 then s_mn p t (s_S p) else if k = 10 then s_mx p t (s_S p) else if k = 11 then Int32.ofNat (t 0 0) else if k = 12 then Int32.ofNat (t 0 1) else ca
def s_dps (p : sP) (od : sO) : Nat → sP × Int32 × Int32 → sP × Int32 × Int32
  | 0, x => x
  | m + 1, x => s_dps p od m (s_dip p od x)
theorem s_dps_ok {p : sP} (hp : p_ok p) (od : sO) : ∀ (m : Nat) (x : sP × Int32 × Int32), t_ok p x.1 → t_ok p (s_dps p od m x).1
  | 0, _, h => h
  | m + 1, x, h => s_dps_ok hp od m _ (s_dip_ok hp od x h)
theorem k14 {k : Nat} (h : k < 14) : k = 0 ∨ k = 1 ∨ k = 2 ∨ k = 3 ∨ k = 4 ∨ k = 5 ∨ k = 6 ∨ k = 7 ∨ k = 8 ∨ k = 9 ∨ k = 10 ∨ k = 11 ∨ k = 12 ∨ k = 13 := by omega
theorem am_z_row {α : Type} (f : Nat → Nat → α) {a b : Nat} (z : α) (h : b ≠ a) : am_z f a z b = f b := by
  funext j
  unfold am_z
  rw [am_beq, beq_eq_false_iff_ne.mpr h]
  rfl
theorem am_cp_row (I : am_I) {a b n c : Nat} (h : c ≠ b) : am_cp I a b n c = I c := by
  funext j
  unfold am_cp
  rw [if_neg (fun q => h q.1)]
theorem am_cp_in (I : am_I) {a b n j : Nat} (h : j < n) : am_cp I a b n b j = I a j := by
  unfold am_cp
  rw [if_pos ⟨rfl, h⟩]
section MTL53
variable {p t : sP} {dp ca : Int32} {I : am_I} {G : am_G}
theorem c_smL_53 (hp : p_ok p) (h : cA_53 I p t dp ca) (hf : ¬ I 53 14 = 0) : ∀ (m k n : Nat), k + m = s_S p → m < n → L_X7_smallestHeight_53 n 0 I G (s_mn p t k) (Int32.ofNat k) = some (s_mn p t (s_S p), I, G) := by
  have hS := s_S_le hp
  have e9 := h.1.1.1.1
  have e10 := h.1.1.1.2.1
  intro m
  induction m with
  | zero =>
    intro k n hk hn
    obtain ⟨n, rfl⟩ : ∃ n', n = n' + 1 := ⟨n - 1, by omega⟩
    rw [L_X7_smallestHeight_53_0, e9, e10, n_mul, if_pos ((n_le (by show s_S p < _; omega) (by omega)).mpr (by show s_S p ≤ k; omega)), show k = s_S p by omega]
  | succ m ih =>
    intro k n hk hn
    obtain ⟨n, rfl⟩ : ∃ n', n = n' + 1 := ⟨n - 1, by omega⟩
    rw [L_X7_smallestHeight_53_0, e9, e10, n_mul, if_neg (fun q => absurd ((n_le (by show s_S p < _; omega) (by omega)).mp q) (by show ¬ s_S p ≤ k; omega)), n_gAt (by omega) (by omega), ((h.2.1.2.1 hf).1 k (by omega)).1, n_inc]
    exact ih (k + 1) n (by omega) (by omega)
theorem c_gmL_53 (hp : p_ok p) (h : cA_53 I p t dp ca) (hf : ¬ I 53 14 = 0) : ∀ (m k n : Nat), k + m = s_S p → m < n → L_X7_greatestHeight_53 n 0 I G (s_mx p t k) (Int32.ofNat k) = some (s_mx p t (s_S p), I, G) := by
  have hS := s_S_le hp
  have e9 := h.1.1.1.1
  have e10 := h.1.1.1.2.1
  intro m
  induction m with
  | zero =>
    intro k n hk hn
    obtain ⟨n, rfl⟩ : ∃ n', n = n' + 1 := ⟨n - 1, by omega⟩
    rw [L_X7_greatestHeight_53_0, e9, e10, n_mul, if_pos ((n_le (by show s_S p < _; omega) (by omega)).mpr (by show s_S p ≤ k; omega)), show k = s_S p by omega]
  | succ m ih =>
    intro k n hk hn
    obtain ⟨n, rfl⟩ : ∃ n', n = n' + 1 := ⟨n - 1, by omega⟩
    rw [L_X7_greatestHeight_53_0, e9, e10, n_mul, if_neg (fun q => absurd ((n_le (by show s_S p < _; omega) (by omega)).mp q) (by show ¬ s_S p ≤ k; omega)), n_gAt (by omega) (by omega), ((h.2.1.2.1 hf).1 k (by omega)).1, n_inc]
    exact ih (k + 1) n (by omega) (by omega)
theorem c_tell_53 (hp : p_ok p) (h : cA_53 I p t dp ca) (hO : I 16 8 = Int32.ofNat (p 0 5)) {k : Nat} (hk : k < 14) (h9 : k = 9 ∨ k = 10 → ¬ I 53 14 = 0) (h7 : k = 7 ∨ k = 8 → ¬ I 53 15 = 0) : R_X7_tell_53 I G (Int32.ofNat k) = some (s_tell p t dp ca k, I, G) := by
  have hS := s_S_le hp
  unfold R_X7_tell_53 s_tell
  rcases k14 hk with rfl | rfl | rfl | rfl | rfl | rfl | rfl | rfl | rfl | rfl | rfl | rfl | rfl | rfl
  · rw [if_pos (by decide), if_pos rfl, h.2.2.1]
  · rw [if_neg (by decide), if_pos (by decide), if_neg (by decide), if_pos rfl, h.1.1.1.1]
  · rw [if_neg (by decide), if_neg (by decide), if_pos (by decide), if_neg (by decide), if_neg (by decide), if_pos rfl, h.1.1.1.2.1]
  · rw [if_neg (by decide), if_neg (by decide), if_neg (by decide), if_pos (by decide), if_neg (by decide), if_neg (by decide), if_neg (by decide), if_pos rfl, h.1.1.1.2.2.1]
  · rw [if_neg (by decide), if_neg (by decide), if_neg (by decide), if_neg (by decide), if_pos (by decide), if_neg (by decide), if_neg (by decide), if_neg (by decide), if_neg (by decide), if_pos rfl, h.1.1.1.2.2.2.1]
  · rw [if_neg (by decide), if_neg (by decide), if_neg (by decide), if_neg (by decide), if_neg (by decide), if_pos (by decide), if_neg (by decide), if_neg (by decide), if_neg (by decide), if_neg (by decide), if_neg (by decide), if_pos rfl, h.1.1.1.2.2.2.2]
  · rw [if_neg (by decide), if_neg (by decide), if_neg (by decide), if_neg (by decide), if_neg (by decide), if_neg (by decide), if_pos (by decide), if_neg (by decide), if_neg (by decide), if_neg (by decide), if_neg (by decide), if_neg (by decide), if_neg (by decide), if_pos rfl, hO]
  · rw [if_neg (by decide), if_neg (by decide), if_neg (by decide), if_neg (by decide), if_neg (by decide), if_neg (by decide), if_neg (by decide), if_pos (by decide), if_neg (by decide), if_neg (by decide), if_neg (by decide), if_neg (by decide), if_neg (by decide), if_neg (by decide), if_neg (by decide), if_pos rfl, (h.2.1.2.2 (h7 (Or.inl rfl))).2.1]
  · rw [if_neg (by decide), if_neg (by decide), if_neg (by decide), if_neg (by decide), if_neg (by decide), if_neg (by decide), if_neg (by decide), if_neg (by decide), if_pos (by decide), if_neg (by decide), if_neg (by decide), if_neg (by decide), if_neg (by decide), if_neg (by decide), if_neg (by decide), if_neg (by decide), if_neg (by decide), if_pos rfl, (h.2.1.2.2 (h7 (Or.inr rfl))).2.2.1]
  · rw [if_neg (by decide), if_neg (by decide), if_neg (by decide), if_neg (by decide), if_neg (by decide), if_neg (by decide), if_neg (by decide), if_neg (by decide), if_neg (by decide), if_pos (by decide), if_neg (by decide), if_neg (by decide), if_neg (by decide), if_neg (by decide), if_neg (by decide), if_neg (by decide), if_neg (by decide), if_neg (by decide), if_neg (by decide), if_pos rfl]
    unfold R_X7_smallestHeight_53
    rw [show L_X7_smallestHeight_53 FU 0 I G (999 : Int32) (0 : Int32) = _ from c_smL_53 hp h (h9 (Or.inl rfl)) (s_S p) 0 FU (by omega) (by unfold FU; omega), rb_go]
  · rw [if_neg (by decide), if_neg (by decide), if_neg (by decide), if_neg (by decide), if_neg (by decide), if_neg (by decide), if_neg (by decide), if_neg (by decide), if_neg (by decide), if_neg (by decide), if_pos (by decide), if_neg (by decide), if_neg (by decide), if_neg (by decide), if_neg (by decide), if_neg (by decide), if_neg (by decide), if_neg (by decide), if_neg (by decide), if_neg (by decide), if_neg (by decide), if_pos rfl]
    unfold R_X7_greatestHeight_53
    rw [show L_X7_greatestHeight_53 FU 0 I G (0 : Int32) (0 : Int32) = _ from c_gmL_53 hp h (h9 (Or.inr rfl)) (s_S p) 0 FU (by omega) (by unfold FU; omega), rb_go]
  · rw [if_neg (by decide), if_neg (by decide), if_neg (by decide), if_neg (by decide), if_neg (by decide), if_neg (by decide), if_neg (by decide), if_neg (by decide), if_neg (by decide), if_neg (by decide), if_neg (by decide), if_pos (by decide), if_neg (by decide), if_neg (by decide), if_neg (by decide), if_neg (by decide), if_neg (by decide), if_neg (by decide), if_neg (by decide), if_neg (by decide), if_neg (by decide), if_neg (by decide), if_neg (by decide), if_pos rfl, h.2.1.1.1.1]
  · rw [if_neg (by decide), if_neg (by decide), if_neg (by decide), if_neg (by decide), if_neg (by decide), if_neg (by decide), if_neg (by decide), if_neg (by decide), if_neg (by decide), if_neg (by decide), if_neg (by decide), if_neg (by decide), if_pos (by decide), if_neg (by decide), if_neg (by decide), if_neg (by decide), if_neg (by decide), if_neg (by decide), if_neg (by decide), if_neg (by decide), if_neg (by decide), if_neg (by decide), if_neg (by decide), if_neg (by decide), if_neg (by decide), if_pos rfl, h.2.1.1.1.2]
  · rw [if_neg (by decide), if_neg (by decide), if_neg (by decide), if_neg (by decide), if_neg (by decide), if_neg (by decide), if_neg (by decide), if_neg (by decide), if_neg (by decide), if_neg (by decide), if_neg (by decide), if_neg (by decide), if_neg (by decide), if_neg (by decide), if_neg (by decide), if_neg (by decide), if_neg (by decide), if_neg (by decide), if_neg (by decide), if_neg (by decide), if_neg (by decide), if_neg (by decide), if_neg (by decide), if_neg (by decide), if_neg (by decide), if_neg (by decide), h.2.2.2]
end MTL53
section MTL66
variable {p t : sP} {dp ca : Int32} {I : am_I} {G : am_G}
theorem c_smL_66 (hp : p_ok p) (h : cA_66 I p t dp ca) (hf : ¬ I 66 14 = 0) : ∀ (m k n : Nat), k + m = s_S p → m < n → L_X7_smallestHeight_66 n 0 I G (s_mn p t k) (Int32.ofNat k) = some (s_mn p t (s_S p), I, G) := by
  have hS := s_S_le hp
  have e9 := h.1.1.1.1
  have e10 := h.1.1.1.2.1
  intro m
  induction m with
  | zero =>
    intro k n hk hn
    obtain ⟨n, rfl⟩ : ∃ n', n = n' + 1 := ⟨n - 1, by omega⟩
    rw [L_X7_smallestHeight_66_0, e9, e10, n_mul, if_pos ((n_le (by show s_S p < _; omega) (by omega)).mpr (by show s_S p ≤ k; omega)), show k = s_S p by omega]
  | succ m ih =>
    intro k n hk hn
    obtain ⟨n, rfl⟩ : ∃ n', n = n' + 1 := ⟨n - 1, by omega⟩
    rw [L_X7_smallestHeight_66_0, e9, e10, n_mul, if_neg (fun q => absurd ((n_le (by show s_S p < _; omega) (by omega)).mp q) (by show ¬ s_S p ≤ k; omega)), n_gAt (by omega) (by omega), ((h.2.1.2.1 hf).1 k (by omega)).1, n_inc]
    exact ih (k + 1) n (by omega) (by omega)
theorem c_gmL_66 (hp : p_ok p) (h : cA_66 I p t dp ca) (hf : ¬ I 66 14 = 0) : ∀ (m k n : Nat), k + m = s_S p → m < n → L_X7_greatestHeight_66 n 0 I G (s_mx p t k) (Int32.ofNat k) = some (s_mx p t (s_S p), I, G) := by
  have hS := s_S_le hp
  have e9 := h.1.1.1.1
  have e10 := h.1.1.1.2.1
  intro m
  induction m with
  | zero =>
    intro k n hk hn
    obtain ⟨n, rfl⟩ : ∃ n', n = n' + 1 := ⟨n - 1, by omega⟩
    rw [L_X7_greatestHeight_66_0, e9, e10, n_mul, if_pos ((n_le (by show s_S p < _; omega) (by omega)).mpr (by show s_S p ≤ k; omega)), show k = s_S p by omega]
  | succ m ih =>
    intro k n hk hn
    obtain ⟨n, rfl⟩ : ∃ n', n = n' + 1 := ⟨n - 1, by omega⟩
    rw [L_X7_greatestHeight_66_0, e9, e10, n_mul, if_neg (fun q => absurd ((n_le (by show s_S p < _; omega) (by omega)).mp q) (by show ¬ s_S p ≤ k; omega)), n_gAt (by omega) (by omega), ((h.2.1.2.1 hf).1 k (by omega)).1, n_inc]
    exact ih (k + 1) n (by omega) (by omega)
theorem c_tell_66 (hp : p_ok p) (h : cA_66 I p t dp ca) (hO : I 16 8 = Int32.ofNat (p 0 5)) {k : Nat} (hk : k < 14) (h9 : k = 9 ∨ k = 10 → ¬ I 66 14 = 0) (h7 : k = 7 ∨ k = 8 → ¬ I 66 15 = 0) : R_X7_tell_66 I G (Int32.ofNat k) = some (s_tell p t dp ca k, I, G) := by
  have hS := s_S_le hp
  unfold R_X7_tell_66 s_tell
  rcases k14 hk with rfl | rfl | rfl | rfl | rfl | rfl | rfl | rfl | rfl | rfl | rfl | rfl | rfl | rfl
  · rw [if_pos (by decide), if_pos rfl, h.2.2.1]
  · rw [if_neg (by decide), if_pos (by decide), if_neg (by decide), if_pos rfl, h.1.1.1.1]
  · rw [if_neg (by decide), if_neg (by decide), if_pos (by decide), if_neg (by decide), if_neg (by decide), if_pos rfl, h.1.1.1.2.1]
  · rw [if_neg (by decide), if_neg (by decide), if_neg (by decide), if_pos (by decide), if_neg (by decide), if_neg (by decide), if_neg (by decide), if_pos rfl, h.1.1.1.2.2.1]
  · rw [if_neg (by decide), if_neg (by decide), if_neg (by decide), if_neg (by decide), if_pos (by decide), if_neg (by decide), if_neg (by decide), if_neg (by decide), if_neg (by decide), if_pos rfl, h.1.1.1.2.2.2.1]
  · rw [if_neg (by decide), if_neg (by decide), if_neg (by decide), if_neg (by decide), if_neg (by decide), if_pos (by decide), if_neg (by decide), if_neg (by decide), if_neg (by decide), if_neg (by decide), if_neg (by decide), if_pos rfl, h.1.1.1.2.2.2.2]
  · rw [if_neg (by decide), if_neg (by decide), if_neg (by decide), if_neg (by decide), if_neg (by decide), if_neg (by decide), if_pos (by decide), if_neg (by decide), if_neg (by decide), if_neg (by decide), if_neg (by decide), if_neg (by decide), if_neg (by decide), if_pos rfl, hO]
  · rw [if_neg (by decide), if_neg (by decide), if_neg (by decide), if_neg (by decide), if_neg (by decide), if_neg (by decide), if_neg (by decide), if_pos (by decide), if_neg (by decide), if_neg (by decide), if_neg (by decide), if_neg (by decide), if_neg (by decide), if_neg (by decide), if_neg (by decide), if_pos rfl, (h.2.1.2.2 (h7 (Or.inl rfl))).2.1]
  · rw [if_neg (by decide), if_neg (by decide), if_neg (by decide), if_neg (by decide), if_neg (by decide), if_neg (by decide), if_neg (by decide), if_neg (by decide), if_pos (by decide), if_neg (by decide), if_neg (by decide), if_neg (by decide), if_neg (by decide), if_neg (by decide), if_neg (by decide), if_neg (by decide), if_neg (by decide), if_pos rfl, (h.2.1.2.2 (h7 (Or.inr rfl))).2.2.1]
  · rw [if_neg (by decide), if_neg (by decide), if_neg (by decide), if_neg (by decide), if_neg (by decide), if_neg (by decide), if_neg (by decide), if_neg (by decide), if_neg (by decide), if_pos (by decide), if_neg (by decide), if_neg (by decide), if_neg (by decide), if_neg (by decide), if_neg (by decide), if_neg (by decide), if_neg (by decide), if_neg (by decide), if_neg (by decide), if_pos rfl]
    unfold R_X7_smallestHeight_66
    rw [show L_X7_smallestHeight_66 FU 0 I G (999 : Int32) (0 : Int32) = _ from c_smL_66 hp h (h9 (Or.inl rfl)) (s_S p) 0 FU (by omega) (by unfold FU; omega), rb_go]
  · rw [if_neg (by decide), if_neg (by decide), if_neg (by decide), if_neg (by decide), if_neg (by decide), if_neg (by decide), if_neg (by decide), if_neg (by decide), if_neg (by decide), if_neg (by decide), if_pos (by decide), if_neg (by decide), if_neg (by decide), if_neg (by decide), if_neg (by decide), if_neg (by decide), if_neg (by decide), if_neg (by decide), if_neg (by decide), if_neg (by decide), if_neg (by decide), if_pos rfl]
    unfold R_X7_greatestHeight_66
    rw [show L_X7_greatestHeight_66 FU 0 I G (0 : Int32) (0 : Int32) = _ from c_gmL_66 hp h (h9 (Or.inr rfl)) (s_S p) 0 FU (by omega) (by unfold FU; omega), rb_go]
  · rw [if_neg (by decide), if_neg (by decide), if_neg (by decide), if_neg (by decide), if_neg (by decide), if_neg (by decide), if_neg (by decide), if_neg (by decide), if_neg (by decide), if_neg (by decide), if_neg (by decide), if_pos (by decide), if_neg (by decide), if_neg (by decide), if_neg (by decide), if_neg (by decide), if_neg (by decide), if_neg (by decide), if_neg (by decide), if_neg (by decide), if_neg (by decide), if_neg (by decide), if_neg (by decide), if_pos rfl, h.2.1.1.1.1]
  · rw [if_neg (by decide), if_neg (by decide), if_neg (by decide), if_neg (by decide), if_neg (by decide), if_neg (by decide), if_neg (by decide), if_neg (by decide), if_neg (by decide), if_neg (by decide), if_neg (by decide), if_neg (by decide), if_pos (by decide), if_neg (by decide), if_neg (by decide), if_neg (by decide), if_neg (by decide), if_neg (by decide), if_neg (by decide), if_neg (by decide), if_neg (by decide), if_neg (by decide), if_neg (by decide), if_neg (by decide), if_neg (by decide), if_pos rfl, h.2.1.1.1.2]
  · rw [if_neg (by decide), if_neg (by decide), if_neg (by decide), if_neg (by decide), if_neg (by decide), if_neg (by decide), if_neg (by decide), if_neg (by decide), if_neg (by decide), if_neg (by decide), if_neg (by decide), if_neg (by decide), if_neg (by decide), if_neg (by decide), if_neg (by decide), if_neg (by decide), if_neg (by decide), if_neg (by decide), if_neg (by decide), if_neg (by decide), if_neg (by decide), if_neg (by decide), if_neg (by decide), if_neg (by decide), if_neg (by decide), if_neg (by decide), h.2.2.2]
end MTL66
section MTR102
variable {p t : sP} {dp ca : Int32} {I : am_I} {G : am_G}
theorem r_dps_102 {od : sO} (hp : p_ok p) (ho : o_ok p od) {N : Nat} (hN : N ≤ 20) : ∀ (m k n : Nat) (I : am_I) (x : sP × Int32 × Int32), t_ok p x.1 → rO I p od → rS_102 I p x.1 x.2.1 x.2.2 → k + m = N → m < n → ∃ I' : am_I, L_X13_dip__102 n 0 I G (Int32.ofNat N) (Int32.ofNat k) = some ((), I', G) ∧ rS_102 I' p (s_dps p od m x).1 (s_dps p od m x).2.1 (s_dps p od m x).2.2 ∧ rZ_102 I I' := by
  intro m
  induction m with
  | zero =>
    intro k n I x ht hO h hk hn
    obtain ⟨n, rfl⟩ : ∃ n', n = n' + 1 := ⟨n - 1, by omega⟩
    rw [L_X13_dip__102_0, if_pos ((n_le (by omega) (by omega)).mpr (by omega))]
    exact ⟨I, rfl, h, rZ_102.rf I⟩
  | succ m ih =>
    intro k n I x ht hO h hk hn
    obtain ⟨n, rfl⟩ : ∃ n', n = n' + 1 := ⟨n - 1, by omega⟩
    obtain ⟨I1, e1, s1, z1⟩ := r_dp_102 (G := G) hp ho ht hO h
    obtain ⟨I2, e2, s2, z2⟩ := ih (k + 1) n I1 (s_dip p od x) (s_dip_ok hp od x ht) (hO.kept (fun b h1 h2 => z1 b (by omega)) (by rw [z1 86 (by omega)])) s1 (by omega) (by omega)
    rw [L_X13_dip__102_0, if_neg (fun q => absurd ((n_le (by omega) (by omega)).mp q) (by omega)), e1, rb_go, n_inc, e2]
    exact ⟨I2, rfl, s2, z1.tr z2⟩
theorem r_cnt_102 (hp : p_ok p) (ht : t_ok p t) (h : rS_102 I p t dp ca) {k : Nat} (hk : 7 ≤ k ∧ k < 14) : ∃ I' : am_I, R_X13_counted_102 I G (Int32.ofNat k) = some (s_tell p t dp ca k, I', G) ∧ rA_102 I' p t ∧ rX_102 I I' := by
  unfold R_X13_counted_102 s_tell
  rcases (show k = 7 ∨ k = 8 ∨ k = 9 ∨ k = 10 ∨ k = 11 ∨ k = 12 ∨ k = 13 by omega) with rfl | rfl | rfl | rfl | rfl | rfl | rfl
  · obtain ⟨I1, e1, a1, x1⟩ := r_ps_102 (G := G) hp ht h.1
    rw [if_pos (by decide), if_neg (by decide), if_neg (by decide), if_neg (by decide), if_neg (by decide), if_neg (by decide), if_neg (by decide), if_neg (by decide), if_pos rfl, e1, rb_go]
    exact ⟨I1, rfl, a1, x1.toX⟩
  · obtain ⟨I1, e1, x1, a1⟩ := r_ct_102 (G := G) hp ht h.1
    rw [if_neg (by decide), if_pos (by decide), if_neg (by decide), if_neg (by decide), if_neg (by decide), if_neg (by decide), if_neg (by decide), if_neg (by decide), if_neg (by decide), if_neg (by decide), if_pos rfl, e1, rb_go]
    exact ⟨I1, rfl, a1, x1.toX⟩
  · obtain ⟨I1, e1, x1, a1⟩ := r_mn_102 (G := G) hp ht h.1
    rw [if_neg (by decide), if_neg (by decide), if_pos (by decide), if_neg (by decide), if_neg (by decide), if_neg (by decide), if_neg (by decide), if_neg (by decide), if_neg (by decide), if_neg (by decide), if_neg (by decide), if_neg (by decide), if_pos rfl, e1, rb_go]
    exact ⟨I1, rfl, a1, x1.toX⟩
  · obtain ⟨I1, e1, x1, a1⟩ := r_mx_102 (G := G) hp ht h.1
    rw [if_neg (by decide), if_neg (by decide), if_neg (by decide), if_pos (by decide), if_neg (by decide), if_neg (by decide), if_neg (by decide), if_neg (by decide), if_neg (by decide), if_neg (by decide), if_neg (by decide), if_neg (by decide), if_neg (by decide), if_neg (by decide), if_pos rfl, e1, rb_go]
    exact ⟨I1, rfl, a1, x1.toX⟩
  · rw [if_neg (by decide), if_neg (by decide), if_neg (by decide), if_neg (by decide), if_pos (by decide), if_neg (by decide), if_neg (by decide), if_neg (by decide), if_neg (by decide), if_neg (by decide), if_neg (by decide), if_neg (by decide), if_neg (by decide), if_neg (by decide), if_neg (by decide), if_neg (by decide), if_pos rfl, h.1.2.1.1.1]
    exact ⟨I, rfl, h.1, rX_102.rf I⟩
  · rw [if_neg (by decide), if_neg (by decide), if_neg (by decide), if_neg (by decide), if_neg (by decide), if_pos (by decide), if_neg (by decide), if_neg (by decide), if_neg (by decide), if_neg (by decide), if_neg (by decide), if_neg (by decide), if_neg (by decide), if_neg (by decide), if_neg (by decide), if_neg (by decide), if_neg (by decide), if_neg (by decide), if_pos rfl, h.1.2.1.1.2]
    exact ⟨I, rfl, h.1, rX_102.rf I⟩
  · rw [if_neg (by decide), if_neg (by decide), if_neg (by decide), if_neg (by decide), if_neg (by decide), if_neg (by decide), if_neg (by decide), if_neg (by decide), if_neg (by decide), if_neg (by decide), if_neg (by decide), if_neg (by decide), if_neg (by decide), if_neg (by decide), if_neg (by decide), if_neg (by decide), if_neg (by decide), if_neg (by decide), if_neg (by decide), h.2.2]
    exact ⟨I, rfl, h.1, rX_102.rf I⟩
end MTR102
section MTR112
variable {p t : sP} {dp ca : Int32} {I : am_I} {G : am_G}
theorem r_dps_112 {od : sO} (hp : p_ok p) (ho : o_ok p od) {N : Nat} (hN : N ≤ 20) : ∀ (m k n : Nat) (I : am_I) (x : sP × Int32 × Int32), t_ok p x.1 → rO I p od → rS_112 I p x.1 x.2.1 x.2.2 → k + m = N → m < n → ∃ I' : am_I, L_X13_dip__112 n 0 I G (Int32.ofNat N) (Int32.ofNat k) = some ((), I', G) ∧ rS_112 I' p (s_dps p od m x).1 (s_dps p od m x).2.1 (s_dps p od m x).2.2 ∧ rZ_112 I I' := by
  intro m
  induction m with
  | zero =>
    intro k n I x ht hO h hk hn
    obtain ⟨n, rfl⟩ : ∃ n', n = n' + 1 := ⟨n - 1, by omega⟩
    rw [L_X13_dip__112_0, if_pos ((n_le (by omega) (by omega)).mpr (by omega))]
    exact ⟨I, rfl, h, rZ_112.rf I⟩
  | succ m ih =>
    intro k n I x ht hO h hk hn
    obtain ⟨n, rfl⟩ : ∃ n', n = n' + 1 := ⟨n - 1, by omega⟩
    obtain ⟨I1, e1, s1, z1⟩ := r_dp_112 (G := G) hp ho ht hO h
    obtain ⟨I2, e2, s2, z2⟩ := ih (k + 1) n I1 (s_dip p od x) (s_dip_ok hp od x ht) (hO.kept (fun b h1 h2 => z1 b (by omega)) (by rw [z1 86 (by omega)])) s1 (by omega) (by omega)
    rw [L_X13_dip__112_0, if_neg (fun q => absurd ((n_le (by omega) (by omega)).mp q) (by omega)), e1, rb_go, n_inc, e2]
    exact ⟨I2, rfl, s2, z1.tr z2⟩
theorem r_cnt_112 (hp : p_ok p) (ht : t_ok p t) (h : rS_112 I p t dp ca) {k : Nat} (hk : 7 ≤ k ∧ k < 14) : ∃ I' : am_I, R_X13_counted_112 I G (Int32.ofNat k) = some (s_tell p t dp ca k, I', G) ∧ rA_112 I' p t ∧ rX_112 I I' := by
  unfold R_X13_counted_112 s_tell
  rcases (show k = 7 ∨ k = 8 ∨ k = 9 ∨ k = 10 ∨ k = 11 ∨ k = 12 ∨ k = 13 by omega) with rfl | rfl | rfl | rfl | rfl | rfl | rfl
  · obtain ⟨I1, e1, a1, x1⟩ := r_ps_112 (G := G) hp ht h.1
    rw [if_pos (by decide), if_neg (by decide), if_neg (by decide), if_neg (by decide), if_neg (by decide), if_neg (by decide), if_neg (by decide), if_neg (by decide), if_pos rfl, e1, rb_go]
    exact ⟨I1, rfl, a1, x1.toX⟩
  · obtain ⟨I1, e1, x1, a1⟩ := r_ct_112 (G := G) hp ht h.1
    rw [if_neg (by decide), if_pos (by decide), if_neg (by decide), if_neg (by decide), if_neg (by decide), if_neg (by decide), if_neg (by decide), if_neg (by decide), if_neg (by decide), if_neg (by decide), if_pos rfl, e1, rb_go]
    exact ⟨I1, rfl, a1, x1.toX⟩
  · obtain ⟨I1, e1, x1, a1⟩ := r_mn_112 (G := G) hp ht h.1
    rw [if_neg (by decide), if_neg (by decide), if_pos (by decide), if_neg (by decide), if_neg (by decide), if_neg (by decide), if_neg (by decide), if_neg (by decide), if_neg (by decide), if_neg (by decide), if_neg (by decide), if_neg (by decide), if_pos rfl, e1, rb_go]
    exact ⟨I1, rfl, a1, x1.toX⟩
  · obtain ⟨I1, e1, x1, a1⟩ := r_mx_112 (G := G) hp ht h.1
    rw [if_neg (by decide), if_neg (by decide), if_neg (by decide), if_pos (by decide), if_neg (by decide), if_neg (by decide), if_neg (by decide), if_neg (by decide), if_neg (by decide), if_neg (by decide), if_neg (by decide), if_neg (by decide), if_neg (by decide), if_neg (by decide), if_pos rfl, e1, rb_go]
    exact ⟨I1, rfl, a1, x1.toX⟩
  · rw [if_neg (by decide), if_neg (by decide), if_neg (by decide), if_neg (by decide), if_pos (by decide), if_neg (by decide), if_neg (by decide), if_neg (by decide), if_neg (by decide), if_neg (by decide), if_neg (by decide), if_neg (by decide), if_neg (by decide), if_neg (by decide), if_neg (by decide), if_neg (by decide), if_pos rfl, h.1.2.1.1.1]
    exact ⟨I, rfl, h.1, rX_112.rf I⟩
  · rw [if_neg (by decide), if_neg (by decide), if_neg (by decide), if_neg (by decide), if_neg (by decide), if_pos (by decide), if_neg (by decide), if_neg (by decide), if_neg (by decide), if_neg (by decide), if_neg (by decide), if_neg (by decide), if_neg (by decide), if_neg (by decide), if_neg (by decide), if_neg (by decide), if_neg (by decide), if_neg (by decide), if_pos rfl, h.1.2.1.1.2]
    exact ⟨I, rfl, h.1, rX_112.rf I⟩
  · rw [if_neg (by decide), if_neg (by decide), if_neg (by decide), if_neg (by decide), if_neg (by decide), if_neg (by decide), if_neg (by decide), if_neg (by decide), if_neg (by decide), if_neg (by decide), if_neg (by decide), if_neg (by decide), if_neg (by decide), if_neg (by decide), if_neg (by decide), if_neg (by decide), if_neg (by decide), if_neg (by decide), if_neg (by decide), h.2.2]
    exact ⟨I, rfl, h.1, rX_112.rf I⟩
end MTR112
