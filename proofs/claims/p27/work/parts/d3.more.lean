/-! the class alone: its other calls (blocks of whole, without the reference) -/
theorem i_8 : (8 : Int32).toInt = 8 := rfl
theorem i_n1 : (1 : Int32).toInt = 1 := rfl
theorem i_20 : (20 : Int32).toInt = 20 := rfl
theorem n_ofs {x : Int32} {n : Nat} (h : 0 ≤ x.toInt ∧ x.toInt < n) : ∃ j, j < n ∧ x = Int32.ofNat j := ⟨x.toInt.toNat, by omega, n_ex h.1⟩
theorem n_ofl {x : Int32} {n : Nat} (h : 0 ≤ x.toInt ∧ x.toInt ≤ n) : ∃ j, j ≤ n ∧ x = Int32.ofNat j := ⟨x.toInt.toNat, by omega, n_ex h.1⟩
theorem cA_53.kept {I I' : am_I} {p t : sP} {dp ca : Int32} (h : cA_53 I p t dp ca) (hk : ∀ b, (7 ≤ b ∧ b ≤ 15) ∨ b = 26 ∨ b = 27 ∨ (53 ≤ b ∧ b ≤ 65) → I' b = I b) : cA_53 I' p t dp ca := by
  obtain ⟨⟨a1, a2⟩, ⟨a3, a4, a5⟩, a6, a7⟩ := h
  have e53 := hk 53 (by omega)
  refine ⟨⟨a1.kept (fun b h1 h2 => hk b (by omega)), a2.kept (hk 26 (by omega)) (hk 27 (by omega))⟩, ⟨a3.kept ⟨by rw [e53], by rw [e53]⟩ ⟨hk 54 (by omega), hk 55 (by omega), hk 56 (by omega)⟩, ?_, ?_⟩, by rw [e53]; exact a6, by rw [e53]; exact a7⟩
  · unfold cF_53
    rw [e53, hk 57 (by omega), hk 58 (by omega), hk 59 (by omega)]
    exact a4
  · unfold cQ_53
    rw [e53, hk 60 (by omega), hk 61 (by omega), hk 62 (by omega)]
    exact a5
def s_mn (p t : sP) : Nat → Int32
  | 0 => 999
  | k + 1 => if s_ht p t k < s_mn p t k then s_ht p t k else s_mn p t k
def s_mx (p t : sP) : Nat → Int32
  | 0 => 0
  | k + 1 => if s_mx p t k < s_ht p t k then s_ht p t k else s_mx p t k
theorem s_spot_dm {p : sP} (hp : p_ok p) (x y : Int32) : s_spot p x y % p 0 0 = s_md x.toInt (p 0 0) ∧ s_spot p x y / p 0 0 = s_md y.toInt (p 0 1) := s_dm (s_md_lt _ (by have := hp.1; omega))
noncomputable def s_tell (p t : sP) (dp ca : Int32) (k : Nat) : Int32 := if k = 0 then dp else if k = 1 then Int32.ofNat (p 0 0) else if k = 2 then Int32.ofNat (p 0 1) else if k = 3 then Int32.ofNat (p 0 2) else if k = 4 then Int32.ofNat (p 0 3) else if k = 5 then Int32.ofNat (p 0 4) else if k = 6 then Int32.ofNat (p 0 5) else if k = 7 then Int32.ofNat (s_pat (p 0 0) (s_S p) (s_ik p t) (s_S p)) else if k = 8 then Int32.ofNat (s_cts (p 0 0) (s_S p) (s_ik p t) (s_S p)) else if k = 9 then s_mn p t (s_S p) else if k = 10 then s_mx p t (s_S p) else if k = 11 then Int32.ofNat (t 0 0) else if k = 12 then Int32.ofNat (t 0 1) else ca
def s_dps (p : sP) (od : sO) : Nat → sP × Int32 × Int32 → sP × Int32 × Int32
  | 0, x => x
  | m + 1, x => s_dps p od m (s_dip p od x)
theorem s_dps_ok {p : sP} (hp : p_ok p) (od : sO) : ∀ (m : Nat) (x : sP × Int32 × Int32), t_ok p x.1 → t_ok p (s_dps p od m x).1
  | 0, _, h => h
  | m + 1, x, h => s_dps_ok hp od m _ (s_dip_ok hp od x h)
theorem k14 {k : Nat} (h : k < 14) : k = 0 ∨ k = 1 ∨ k = 2 ∨ k = 3 ∨ k = 4 ∨ k = 5 ∨ k = 6 ∨ k = 7 ∨ k = 8 ∨ k = 9 ∨ k = 10 ∨ k = 11 ∨ k = 12 ∨ k = 13 := by omega
theorem am_z_row {α : Type} (f : Nat → Nat → α) {a b : Nat} (z : α) (h : b ≠ a) : am_z f a z b = f b := by
  funext j
  unfold am_z
  rw [am_beq, beq_eq_false_iff_ne.mpr h]
  rfl
theorem am_cp_row (I : am_I) {a b n c : Nat} (h : c ≠ b) : am_cp I a b n c = I c := by
  funext j
  unfold am_cp
  rw [if_neg (fun q => h q.1)]
theorem am_cp_in (I : am_I) {a b n j : Nat} (h : j < n) : am_cp I a b n b j = I a j := by
  unfold am_cp
  rw [if_pos ⟨rfl, h⟩]
section MTL53
variable {p t : sP} {dp ca : Int32} {I : am_I} {G : am_G}
theorem c_smL_53 (hp : p_ok p) (h : cA_53 I p t dp ca) (hf : ¬ I 53 14 = 0) : ∀ (m k n : Nat), k + m = s_S p → m < n → L_X7_smallestHeight_53 n 0 I G (s_mn p t k) (Int32.ofNat k) = some (s_mn p t (s_S p), I, G) := by
  have hS := s_S_le hp
  have e9 := h.1.1.1.1
  have e10 := h.1.1.1.2.1
  intro m
  induction m with
  | zero =>
    intro k n hk hn
    obtain ⟨n, rfl⟩ : ∃ n', n = n' + 1 := ⟨n - 1, by omega⟩
    rw [L_X7_smallestHeight_53_0, e9, e10, n_mul, if_pos ((n_le (by show s_S p < _; omega) (by omega)).mpr (by show s_S p ≤ k; omega)), show k = s_S p by omega]
  | succ m ih =>
    intro k n hk hn
    obtain ⟨n, rfl⟩ : ∃ n', n = n' + 1 := ⟨n - 1, by omega⟩
    rw [L_X7_smallestHeight_53_0, e9, e10, n_mul, if_neg (fun q => absurd ((n_le (by show s_S p < _; omega) (by omega)).mp q) (by show ¬ s_S p ≤ k; omega)), n_gAt (by omega) (by omega), ((h.2.1.2.1 hf).1 k (by omega)).1, n_inc]
    exact ih (k + 1) n (by omega) (by omega)
theorem c_gmL_53 (hp : p_ok p) (h : cA_53 I p t dp ca) (hf : ¬ I 53 14 = 0) : ∀ (m k n : Nat), k + m = s_S p → m < n → L_X7_greatestHeight_53 n 0 I G (s_mx p t k) (Int32.ofNat k) = some (s_mx p t (s_S p), I, G) := by
  have hS := s_S_le hp
  have e9 := h.1.1.1.1
  have e10 := h.1.1.1.2.1
  intro m
  induction m with
  | zero =>
    intro k n hk hn
    obtain ⟨n, rfl⟩ : ∃ n', n = n' + 1 := ⟨n - 1, by omega⟩
    rw [L_X7_greatestHeight_53_0, e9, e10, n_mul, if_pos ((n_le (by show s_S p < _; omega) (by omega)).mpr (by show s_S p ≤ k; omega)), show k = s_S p by omega]
  | succ m ih =>
    intro k n hk hn
    obtain ⟨n, rfl⟩ : ∃ n', n = n' + 1 := ⟨n - 1, by omega⟩
    rw [L_X7_greatestHeight_53_0, e9, e10, n_mul, if_neg (fun q => absurd ((n_le (by show s_S p < _; omega) (by omega)).mp q) (by show ¬ s_S p ≤ k; omega)), n_gAt (by omega) (by omega), ((h.2.1.2.1 hf).1 k (by omega)).1, n_inc]
    exact ih (k + 1) n (by omega) (by omega)
theorem c_tell_53 (hp : p_ok p) (h : cA_53 I p t dp ca) (hO : I 16 8 = Int32.ofNat (p 0 5)) {k : Nat} (hk : k < 14) (h9 : k = 9 ∨ k = 10 → ¬ I 53 14 = 0) (h7 : k = 7 ∨ k = 8 → ¬ I 53 15 = 0) : R_X7_tell_53 I G (Int32.ofNat k) = some (s_tell p t dp ca k, I, G) := by
  have hS := s_S_le hp
  unfold R_X7_tell_53 s_tell
  rcases k14 hk with rfl | rfl | rfl | rfl | rfl | rfl | rfl | rfl | rfl | rfl | rfl | rfl | rfl | rfl
  · rw [if_pos (by decide), if_pos rfl, h.2.2.1]
  · rw [if_neg (by decide), if_pos (by decide), if_neg (by decide), if_pos rfl, h.1.1.1.1]
  · rw [if_neg (by decide), if_neg (by decide), if_pos (by decide), if_neg (by decide), if_neg (by decide), if_pos rfl, h.1.1.1.2.1]
  · rw [if_neg (by decide), if_neg (by decide), if_neg (by decide), if_pos (by decide), if_neg (by decide), if_neg (by decide), if_neg (by decide), if_pos rfl, h.1.1.1.2.2.1]
  · rw [if_neg (by decide), if_neg (by decide), if_neg (by decide), if_neg (by decide), if_pos (by decide), if_neg (by decide), if_neg (by decide), if_neg (by decide), if_neg (by decide), if_pos rfl, h.1.1.1.2.2.2.1]
  · rw [if_neg (by decide), if_neg (by decide), if_neg (by decide), if_neg (by decide), if_neg (by decide), if_pos (by decide), if_neg (by decide), if_neg (by decide), if_neg (by decide), if_neg (by decide), if_neg (by decide), if_pos rfl, h.1.1.1.2.2.2.2]
  · rw [if_neg (by decide), if_neg (by decide), if_neg (by decide), if_neg (by decide), if_neg (by decide), if_neg (by decide), if_pos (by decide), if_neg (by decide), if_neg (by decide), if_neg (by decide), if_neg (by decide), if_neg (by decide), if_neg (by decide), if_pos rfl, hO]
  · rw [if_neg (by decide), if_neg (by decide), if_neg (by decide), if_neg (by decide), if_neg (by decide), if_neg (by decide), if_neg (by decide), if_pos (by decide), if_neg (by decide), if_neg (by decide), if_neg (by decide), if_neg (by decide), if_neg (by decide), if_neg (by decide), if_neg (by decide), if_pos rfl, (h.2.1.2.2 (h7 (Or.inl rfl))).2.1]
  · rw [if_neg (by decide), if_neg (by decide), if_neg (by decide), if_neg (by decide), if_neg (by decide), if_neg (by decide), if_neg (by decide), if_neg (by decide), if_pos (by decide), if_neg (by decide), if_neg (by decide), if_neg (by decide), if_neg (by decide), if_neg (by decide), if_neg (by decide), if_neg (by decide), if_neg (by decide), if_pos rfl, (h.2.1.2.2 (h7 (Or.inr rfl))).2.2.1]
  · rw [if_neg (by decide), if_neg (by decide), if_neg (by decide), if_neg (by decide), if_neg (by decide), if_neg (by decide), if_neg (by decide), if_neg (by decide), if_neg (by decide), if_pos (by decide), if_neg (by decide), if_neg (by decide), if_neg (by decide), if_neg (by decide), if_neg (by decide), if_neg (by decide), if_neg (by decide), if_neg (by decide), if_neg (by decide), if_pos rfl]
    unfold R_X7_smallestHeight_53
    rw [show L_X7_smallestHeight_53 FU 0 I G (999 : Int32) (0 : Int32) = _ from c_smL_53 hp h (h9 (Or.inl rfl)) (s_S p) 0 FU (by omega) (by unfold FU; omega), rb_go]
  · rw [if_neg (by decide), if_neg (by decide), if_neg (by decide), if_neg (by decide), if_neg (by decide), if_neg (by decide), if_neg (by decide), if_neg (by decide), if_neg (by decide), if_neg (by decide), if_pos (by decide), if_neg (by decide), if_neg (by decide), if_neg (by decide), if_neg (by decide), if_neg (by decide), if_neg (by decide), if_neg (by decide), if_neg (by decide), if_neg (by decide), if_neg (by decide), if_pos rfl]
    unfold R_X7_greatestHeight_53
    rw [show L_X7_greatestHeight_53 FU 0 I G (0 : Int32) (0 : Int32) = _ from c_gmL_53 hp h (h9 (Or.inr rfl)) (s_S p) 0 FU (by omega) (by unfold FU; omega), rb_go]
  · rw [if_neg (by decide), if_neg (by decide), if_neg (by decide), if_neg (by decide), if_neg (by decide), if_neg (by decide), if_neg (by decide), if_neg (by decide), if_neg (by decide), if_neg (by decide), if_neg (by decide), if_pos (by decide), if_neg (by decide), if_neg (by decide), if_neg (by decide), if_neg (by decide), if_neg (by decide), if_neg (by decide), if_neg (by decide), if_neg (by decide), if_neg (by decide), if_neg (by decide), if_neg (by decide), if_pos rfl, h.2.1.1.1.1]
  · rw [if_neg (by decide), if_neg (by decide), if_neg (by decide), if_neg (by decide), if_neg (by decide), if_neg (by decide), if_neg (by decide), if_neg (by decide), if_neg (by decide), if_neg (by decide), if_neg (by decide), if_neg (by decide), if_pos (by decide), if_neg (by decide), if_neg (by decide), if_neg (by decide), if_neg (by decide), if_neg (by decide), if_neg (by decide), if_neg (by decide), if_neg (by decide), if_neg (by decide), if_neg (by decide), if_neg (by decide), if_neg (by decide), if_pos rfl, h.2.1.1.1.2]
  · rw [if_neg (by decide), if_neg (by decide), if_neg (by decide), if_neg (by decide), if_neg (by decide), if_neg (by decide), if_neg (by decide), if_neg (by decide), if_neg (by decide), if_neg (by decide), if_neg (by decide), if_neg (by decide), if_neg (by decide), if_neg (by decide), if_neg (by decide), if_neg (by decide), if_neg (by decide), if_neg (by decide), if_neg (by decide), if_neg (by decide), if_neg (by decide), if_neg (by decide), if_neg (by decide), if_neg (by decide), if_neg (by decide), if_neg (by decide), h.2.2.2]
end MTL53
section MTL66
variable {p t : sP} {dp ca : Int32} {I : am_I} {G : am_G}
theorem c_smL_66 (hp : p_ok p) (h : cA_66 I p t dp ca) (hf : ¬ I 66 14 = 0) : ∀ (m k n : Nat), k + m = s_S p → m < n → L_X7_smallestHeight_66 n 0 I G (s_mn p t k) (Int32.ofNat k) = some (s_mn p t (s_S p), I, G) := by
  have hS := s_S_le hp
  have e9 := h.1.1.1.1
  have e10 := h.1.1.1.2.1
  intro m
  induction m with
  | zero =>
    intro k n hk hn
    obtain ⟨n, rfl⟩ : ∃ n', n = n' + 1 := ⟨n - 1, by omega⟩
    rw [L_X7_smallestHeight_66_0, e9, e10, n_mul, if_pos ((n_le (by show s_S p < _; omega) (by omega)).mpr (by show s_S p ≤ k; omega)), show k = s_S p by omega]
  | succ m ih =>
    intro k n hk hn
    obtain ⟨n, rfl⟩ : ∃ n', n = n' + 1 := ⟨n - 1, by omega⟩
    rw [L_X7_smallestHeight_66_0, e9, e10, n_mul, if_neg (fun q => absurd ((n_le (by show s_S p < _; omega) (by omega)).mp q) (by show ¬ s_S p ≤ k; omega)), n_gAt (by omega) (by omega), ((h.2.1.2.1 hf).1 k (by omega)).1, n_inc]
    exact ih (k + 1) n (by omega) (by omega)
theorem c_gmL_66 (hp : p_ok p) (h : cA_66 I p t dp ca) (hf : ¬ I 66 14 = 0) : ∀ (m k n : Nat), k + m = s_S p → m < n → L_X7_greatestHeight_66 n 0 I G (s_mx p t k) (Int32.ofNat k) = some (s_mx p t (s_S p), I, G) := by
  have hS := s_S_le hp
  have e9 := h.1.1.1.1
  have e10 := h.1.1.1.2.1
  intro m
  induction m with
  | zero =>
    intro k n hk hn
    obtain ⟨n, rfl⟩ : ∃ n', n = n' + 1 := ⟨n - 1, by omega⟩
    rw [L_X7_greatestHeight_66_0, e9, e10, n_mul, if_pos ((n_le (by show s_S p < _; omega) (by omega)).mpr (by show s_S p ≤ k; omega)), show k = s_S p by omega]
  | succ m ih =>
    intro k n hk hn
    obtain ⟨n, rfl⟩ : ∃ n', n = n' + 1 := ⟨n - 1, by omega⟩
    rw [L_X7_greatestHeight_66_0, e9, e10, n_mul, if_neg (fun q => absurd ((n_le (by show s_S p < _; omega) (by omega)).mp q) (by show ¬ s_S p ≤ k; omega)), n_gAt (by omega) (by omega), ((h.2.1.2.1 hf).1 k (by omega)).1, n_inc]
    exact ih (k + 1) n (by omega) (by omega)
theorem c_tell_66 (hp : p_ok p) (h : cA_66 I p t dp ca) (hO : I 16 8 = Int32.ofNat (p 0 5)) {k : Nat} (hk : k < 14) (h9 : k = 9 ∨ k = 10 → ¬ I 66 14 = 0) (h7 : k = 7 ∨ k = 8 → ¬ I 66 15 = 0) : R_X7_tell_66 I G (Int32.ofNat k) = some (s_tell p t dp ca k, I, G) := by
  have hS := s_S_le hp
  unfold R_X7_tell_66 s_tell
  rcases k14 hk with rfl | rfl | rfl | rfl | rfl | rfl | rfl | rfl | rfl | rfl | rfl | rfl | rfl | rfl
  · rw [if_pos (by decide), if_pos rfl, h.2.2.1]
  · rw [if_neg (by decide), if_pos (by decide), if_neg (by decide), if_pos rfl, h.1.1.1.1]
  · rw [if_neg (by decide), if_neg (by decide), if_pos (by decide), if_neg (by decide), if_neg (by decide), if_pos rfl, h.1.1.1.2.1]
  · rw [if_neg (by decide), if_neg (by decide), if_neg (by decide), if_pos (by decide), if_neg (by decide), if_neg (by decide), if_neg (by decide), if_pos rfl, h.1.1.1.2.2.1]
  · rw [if_neg (by decide), if_neg (by decide), if_neg (by decide), if_neg (by decide), if_pos (by decide), if_neg (by decide), if_neg (by decide), if_neg (by decide), if_neg (by decide), if_pos rfl, h.1.1.1.2.2.2.1]
  · rw [if_neg (by decide), if_neg (by decide), if_neg (by decide), if_neg (by decide), if_neg (by decide), if_pos (by decide), if_neg (by decide), if_neg (by decide), if_neg (by decide), if_neg (by decide), if_neg (by decide), if_pos rfl, h.1.1.1.2.2.2.2]
  · rw [if_neg (by decide), if_neg (by decide), if_neg (by decide), if_neg (by decide), if_neg (by decide), if_neg (by decide), if_pos (by decide), if_neg (by decide), if_neg (by decide), if_neg (by decide), if_neg (by decide), if_neg (by decide), if_neg (by decide), if_pos rfl, hO]
  · rw [if_neg (by decide), if_neg (by decide), if_neg (by decide), if_neg (by decide), if_neg (by decide), if_neg (by decide), if_neg (by decide), if_pos (by decide), if_neg (by decide), if_neg (by decide), if_neg (by decide), if_neg (by decide), if_neg (by decide), if_neg (by decide), if_neg (by decide), if_pos rfl, (h.2.1.2.2 (h7 (Or.inl rfl))).2.1]
  · rw [if_neg (by decide), if_neg (by decide), if_neg (by decide), if_neg (by decide), if_neg (by decide), if_neg (by decide), if_neg (by decide), if_neg (by decide), if_pos (by decide), if_neg (by decide), if_neg (by decide), if_neg (by decide), if_neg (by decide), if_neg (by decide), if_neg (by decide), if_neg (by decide), if_neg (by decide), if_pos rfl, (h.2.1.2.2 (h7 (Or.inr rfl))).2.2.1]
  · rw [if_neg (by decide), if_neg (by decide), if_neg (by decide), if_neg (by decide), if_neg (by decide), if_neg (by decide), if_neg (by decide), if_neg (by decide), if_neg (by decide), if_pos (by decide), if_neg (by decide), if_neg (by decide), if_neg (by decide), if_neg (by decide), if_neg (by decide), if_neg (by decide), if_neg (by decide), if_neg (by decide), if_neg (by decide), if_pos rfl]
    unfold R_X7_smallestHeight_66
    rw [show L_X7_smallestHeight_66 FU 0 I G (999 : Int32) (0 : Int32) = _ from c_smL_66 hp h (h9 (Or.inl rfl)) (s_S p) 0 FU (by omega) (by unfold FU; omega), rb_go]
  · rw [if_neg (by decide), if_neg (by decide), if_neg (by decide), if_neg (by decide), if_neg (by decide), if_neg (by decide), if_neg (by decide), if_neg (by decide), if_neg (by decide), if_neg (by decide), if_pos (by decide), if_neg (by decide), if_neg (by decide), if_neg (by decide), if_neg (by decide), if_neg (by decide), if_neg (by decide), if_neg (by decide), if_neg (by decide), if_neg (by decide), if_neg (by decide), if_pos rfl]
    unfold R_X7_greatestHeight_66
    rw [show L_X7_greatestHeight_66 FU 0 I G (0 : Int32) (0 : Int32) = _ from c_gmL_66 hp h (h9 (Or.inr rfl)) (s_S p) 0 FU (by omega) (by unfold FU; omega), rb_go]
  · rw [if_neg (by decide), if_neg (by decide), if_neg (by decide), if_neg (by decide), if_neg (by decide), if_neg (by decide), if_neg (by decide), if_neg (by decide), if_neg (by decide), if_neg (by decide), if_neg (by decide), if_pos (by decide), if_neg (by decide), if_neg (by decide), if_neg (by decide), if_neg (by decide), if_neg (by decide), if_neg (by decide), if_neg (by decide), if_neg (by decide), if_neg (by decide), if_neg (by decide), if_neg (by decide), if_pos rfl, h.2.1.1.1.1]
  · rw [if_neg (by decide), if_neg (by decide), if_neg (by decide), if_neg (by decide), if_neg (by decide), if_neg (by decide), if_neg (by decide), if_neg (by decide), if_neg (by decide), if_neg (by decide), if_neg (by decide), if_neg (by decide), if_pos (by decide), if_neg (by decide), if_neg (by decide), if_neg (by decide), if_neg (by decide), if_neg (by decide), if_neg (by decide), if_neg (by decide), if_neg (by decide), if_neg (by decide), if_neg (by decide), if_neg (by decide), if_neg (by decide), if_pos rfl, h.2.1.1.1.2]
  · rw [if_neg (by decide), if_neg (by decide), if_neg (by decide), if_neg (by decide), if_neg (by decide), if_neg (by decide), if_neg (by decide), if_neg (by decide), if_neg (by decide), if_neg (by decide), if_neg (by decide), if_neg (by decide), if_neg (by decide), if_neg (by decide), if_neg (by decide), if_neg (by decide), if_neg (by decide), if_neg (by decide), if_neg (by decide), if_neg (by decide), if_neg (by decide), if_neg (by decide), if_neg (by decide), if_neg (by decide), if_neg (by decide), if_neg (by decide), h.2.2.2]
end MTL66
theorem c_dps_53 {p : sP} {od : sO} {G : am_G} (hp : p_ok p) (ho : o_ok p od) {N : Nat} (hN : N ≤ 20) (v2 : Int32) : ∀ (m k n : Nat) (I : am_I) (x : sP × Int32 × Int32), t_ok p x.1 → cO I p od → cA_53 I p x.1 x.2.1 x.2.2 → k + m = N → m < n → ∃ I' : am_I, L_X11_dip_0 n 0 I G (Int32.ofNat N) v2 (Int32.ofNat k) = some (.inl ((s_dps p od m x).2.2 - v2), I', G) ∧ cA_53 I' p (s_dps p od m x).1 (s_dps p od m x).2.1 (s_dps p od m x).2.2 ∧ cZ_53 I I' := by
  intro m
  induction m with
  | zero =>
    intro k n I x ht hO h hk hn
    obtain ⟨n, rfl⟩ : ∃ n', n = n' + 1 := ⟨n - 1, by omega⟩
    rw [L_X11_dip_0_0, if_pos ((n_le (by omega) (by omega)).mpr (by omega)), h.2.2.2]
    exact ⟨I, rfl, h, cZ_53.rf I⟩
  | succ m ih =>
    intro k n I x ht hO h hk hn
    obtain ⟨n, rfl⟩ : ∃ n', n = n' + 1 := ⟨n - 1, by omega⟩
    obtain ⟨I1, e1, s1, z1⟩ := c_dp_53 (G := G) hp ho ht hO h
    obtain ⟨I2, e2, s2, z2⟩ := ih (k + 1) n I1 (s_dip p od x) (s_dip_ok hp od x ht) (hO.kept (fun b h1 h2 => z1 b (by omega) (by omega) (by omega))) s1 (by omega) (by omega)
    rw [L_X11_dip_0_0, if_neg (fun q => absurd ((n_le (by omega) (by omega)).mp q) (by omega)), e1, rb_go, n_inc, e2]
    exact ⟨I2, rfl, s2, z1.tr z2⟩
noncomputable def s_F (p t : sP) (dp ca : Int32) (ln k : Nat) : Int32 := if k = 14 then Int32.ofNat ln else s_tell p t dp ca k
/-- a run: m steps from k on -/
def s_run {α : Type} (g : Nat → α → α) : Nat → Nat → α → α
  | 0, _, d => d
  | m + 1, k, d => s_run g m (k + 1) (g k d)
theorem c_meL {p t : sP} {dp ca : Int32} {I : am_I} {G : am_G} (hp : p_ok p) (h : cA_53 I p t dp ca) (hf : ¬ I 53 14 = 0) : ∀ (m k n : Nat) (a : Int32), k + m = s_S p → m < n → L_X11_mean_0 n 0 I G (Int32.ofNat (s_S p)) a (Int32.ofNat k) = some (FP.ddiv (FP.i2d (s_run (fun k a => a + s_ht p t k) m k a)) (FP.i2d (Int32.ofNat (s_S p))), I, G) := by
  have hS := s_S_le hp
  have hS1 := s_S_pos hp
  intro m
  induction m with
  | zero =>
    intro k n a hk hn
    obtain ⟨n, rfl⟩ : ∃ n', n = n' + 1 := ⟨n - 1, by omega⟩
    rw [L_X11_mean_0_0, if_pos ((n_le (by omega) (by omega)).mpr (by omega)), if_neg (n_nle0 (by omega) (by omega)), rg_pos (am_meanN a (by omega) (by omega))]
    rfl
  | succ m ih =>
    intro k n a hk hn
    obtain ⟨n, rfl⟩ : ∃ n', n = n' + 1 := ⟨n - 1, by omega⟩
    rw [L_X11_mean_0_0, if_neg (fun q => absurd ((n_le (by omega) (by omega)).mp q) (by omega)), n_gAt (by omega) (by omega), ((h.2.1.2.1 hf).1 k (by omega)).1, n_inc]
    exact ih (k + 1) n _ (by omega) (by omega)
def s_to (p t : sP) (o w : Nat) : Int32 := if w = 0 then Int32.ofNat (p 1 o) else if w = 1 then Int32.ofNat (p 2 o) else if w = 2 then Int32.ofNat (p 3 o) else Int32.ofNat (t 1 o)
def s_tc (p t : sP) (c w : Nat) : Int32 := if w = 0 then Int32.ofNat (p 4 c) else if w = 1 then Int32.ofNat (p 5 c) else Int32.ofNat (t 2 c)
noncomputable def gT (p t : sP) (dp ca : Int32) (ln k : Nat) (d : Int64) : Int64 := d * 31 + (s_F p t dp ca ln k).toInt64
def gO (p t : sP) (o : Nat) (d : Int64) : Int64 := s_run (fun w d => d * 31 + (s_to p t o w).toInt64) 4 0 d
def gC (p t : sP) (c : Nat) (d : Int64) : Int64 := s_run (fun w d => d * 31 + (s_tc p t c w).toInt64) 3 0 d
def gK (p t : sP) (j : Nat) (d : Int64) : Int64 := d * 31 + (Int32.ofNat (s_shr p t j (s_S p))).toInt64
def gH (p t : sP) (k : Nat) (d : Int64) : Int64 := d * 31 + (s_ht p t k).toInt64
noncomputable def s_dg (p t : sP) (dp ca : Int32) (ln : Nat) : Int64 := s_run (gH p t) (s_S p) 0 (s_run (gK p t) (p 0 4 + 1) 0 (s_run (gC p t) (p 0 3) 0 (s_run (gO p t) (p 0 2) 0 (s_run (gT p t dp ca ln) 15 0 937))))
section DGC
variable {p t : sP} {dp ca : Int32} {ln : Nat} {I : am_I} {G : am_G}
theorem c_to (h : cA_53 I p t dp ca) (hp : p_ok p) {o w : Nat} (ho : o < p 0 2) (hw : w < 4) : f_X7_tellOctave_53 I G (Int32.ofNat o) (Int32.ofNat w) = s_to p t o w := by
  have h0 := hp.1
  unfold f_X7_tellOctave_53 s_to
  rw [n_gAt (by omega) (by omega), n_gAt (by omega) (by omega), n_gAt (by omega) (by omega), n_gAt (by omega) (by omega), (h.1.1.2.1 o ho).1, (h.1.1.2.1 o ho).2.1, (h.1.1.2.1 o ho).2.2.1, h.2.1.1.2.1 o ho]
  rcases (show w = 0 ∨ w = 1 ∨ w = 2 ∨ w = 3 by omega) with rfl | rfl | rfl | rfl <;> rfl
theorem c_tc (h : cA_53 I p t dp ca) (hp : p_ok p) {c w : Nat} (hc : c < p 0 3) (hw : w < 3) : f_X7_tellComb_53 I G (Int32.ofNat c) (Int32.ofNat w) = s_tc p t c w := by
  have h0 := hp.1
  unfold f_X7_tellComb_53 s_tc
  rw [n_gAt (by omega) (by omega), n_gAt (by omega) (by omega), n_gAt (by omega) (by omega), (h.1.1.2.2.1 c hc).1, (h.1.1.2.2.1 c hc).2.1, (h.2.1.1.2.2 c hc).1]
  rcases (show w = 0 ∨ w = 1 ∨ w = 2 by omega) with rfl | rfl | rfl <;> rfl
theorem c_dg6 (h : cA_53 I p t dp ca) (hp : p_ok p) (hf : ¬ I 53 14 = 0) : ∀ (m k n : Nat) (d : Int64), k + m = s_S p → L_X11_digest_0 (n + m + 1) 6 I G d (Int32.ofNat k) 0 = some (s_run (gH p t) m k d, I, G) := by
  have hS := s_S_le hp
  intro m
  induction m with
  | zero =>
    intro k n d hk
    rw [L_X11_digest_0_6, h.1.1.1.1, h.1.1.1.2.1, n_mul, if_pos ((n_le (by show s_S p < _; omega) (by omega)).mpr (by show s_S p ≤ k; omega))]
    rfl
  | succ m ih =>
    intro k n d hk
    rw [show n + (m + 1) + 1 = (n + m + 1) + 1 by omega, L_X11_digest_0_6, h.1.1.1.1, h.1.1.1.2.1, n_mul, if_neg (fun q => absurd ((n_le (by show s_S p < _; omega) (by omega)).mp q) (by show ¬ s_S p ≤ k; omega)), n_gAt (by omega) (by omega), ((h.2.1.2.1 hf).1 k (by omega)).1, n_inc]
    exact ih (k + 1) n _ (by omega)
theorem c_dg5 (h : cA_53 I p t dp ca) (hp : p_ok p) (hf : ¬ I 53 14 = 0) : ∀ (m k n : Nat) (d : Int64), k + m = p 0 4 + 1 → L_X11_digest_0 (n + m + 1) 5 I G d (Int32.ofNat k) 0 = L_X11_digest_0 n 6 I G (s_run (gK p t) m k d) (Int32.ofNat 0) 0 := by
  have h0 := hp.1
  intro m
  induction m with
  | zero =>
    intro k n d hk
    rw [L_X11_digest_0_5, h.1.1.1.2.2.2.2, if_pos ((n_lt (by omega) (by omega)).mpr (by omega))]
    rfl
  | succ m ih =>
    intro k n d hk
    rw [show n + (m + 1) + 1 = (n + m + 1) + 1 by omega, L_X11_digest_0_5, h.1.1.1.2.2.2.2, if_neg (fun q => absurd ((n_lt (by omega) (by omega)).mp q) (by omega)), n_gAt (by omega) (by omega), (h.2.1.2.1 hf).2 k (by omega), n_inc]
    exact ih (k + 1) n _ (by omega)
theorem c_dg4 (h : cA_53 I p t dp ca) (hp : p_ok p) {c : Nat} (hc : c < p 0 3) : ∀ (m w n : Nat) (d : Int64), w + m = 3 → L_X11_digest_0 (n + m + 1) 4 I G d (Int32.ofNat c) (Int32.ofNat w) = L_X11_digest_0 n 3 I G (s_run (fun w d => d * 31 + (s_tc p t c w).toInt64) m w d) (Int32.ofNat (c + 1)) 0 := by
  intro m
  induction m with
  | zero =>
    intro w n d hk
    rw [L_X11_digest_0_4, if_pos (show (2 : Int32) < Int32.ofNat w from (n_lt (a := 2) (by omega) (by omega)).mpr (by omega)), n_inc]
    rfl
  | succ m ih =>
    intro w n d hk
    rw [show n + (m + 1) + 1 = (n + m + 1) + 1 by omega, L_X11_digest_0_4, if_neg (show ¬ (2 : Int32) < Int32.ofNat w from fun q => absurd ((n_lt (a := 2) (by omega) (by omega)).mp q) (by omega)), c_tc h hp hc (by omega), n_inc]
    exact ih (w + 1) n _ (by omega)
theorem c_dg3 (h : cA_53 I p t dp ca) (hp : p_ok p) : ∀ (m c n : Nat) (d : Int64), c + m = p 0 3 → L_X11_digest_0 (n + 5 * m + 1) 3 I G d (Int32.ofNat c) 0 = L_X11_digest_0 n 5 I G (s_run (gC p t) m c d) (Int32.ofNat 0) 0 := by
  have h0 := hp.1
  intro m
  induction m with
  | zero =>
    intro c n d hk
    rw [L_X11_digest_0_3, h.1.1.1.2.2.2.1, if_pos ((n_le (by omega) (by omega)).mpr (by omega))]
    rfl
  | succ m ih =>
    intro c n d hk
    rw [show n + 5 * (m + 1) + 1 = ((n + 5 * m + 1) + 3 + 1) + 1 by omega, L_X11_digest_0_3, h.1.1.1.2.2.2.1, if_neg (fun q => absurd ((n_le (by omega) (by omega)).mp q) (by omega)), show (0 : Int32) = Int32.ofNat 0 from rfl, c_dg4 h hp (by omega) 3 0 _ d (by omega)]
    exact ih (c + 1) n _ (by omega)
theorem c_dg2 (h : cA_53 I p t dp ca) (hp : p_ok p) {o : Nat} (ho : o < p 0 2) : ∀ (m w n : Nat) (d : Int64), w + m = 4 → L_X11_digest_0 (n + m + 1) 2 I G d (Int32.ofNat o) (Int32.ofNat w) = L_X11_digest_0 n 1 I G (s_run (fun w d => d * 31 + (s_to p t o w).toInt64) m w d) (Int32.ofNat (o + 1)) 0 := by
  intro m
  induction m with
  | zero =>
    intro w n d hk
    rw [L_X11_digest_0_2, if_pos (show (3 : Int32) < Int32.ofNat w from (n_lt (a := 3) (by omega) (by omega)).mpr (by omega)), n_inc]
    rfl
  | succ m ih =>
    intro w n d hk
    rw [show n + (m + 1) + 1 = (n + m + 1) + 1 by omega, L_X11_digest_0_2, if_neg (show ¬ (3 : Int32) < Int32.ofNat w from fun q => absurd ((n_lt (a := 3) (by omega) (by omega)).mp q) (by omega)), c_to h hp ho (by omega), n_inc]
    exact ih (w + 1) n _ (by omega)
theorem c_dg1 (h : cA_53 I p t dp ca) (hp : p_ok p) : ∀ (m o n : Nat) (d : Int64), o + m = p 0 2 → L_X11_digest_0 (n + 6 * m + 1) 1 I G d (Int32.ofNat o) 0 = L_X11_digest_0 n 3 I G (s_run (gO p t) m o d) (Int32.ofNat 0) 0 := by
  have h0 := hp.1
  intro m
  induction m with
  | zero =>
    intro o n d hk
    rw [L_X11_digest_0_1, h.1.1.1.2.2.1, if_pos ((n_le (by omega) (by omega)).mpr (by omega))]
    rfl
  | succ m ih =>
    intro o n d hk
    rw [show n + 6 * (m + 1) + 1 = ((n + 6 * m + 1) + 4 + 1) + 1 by omega, L_X11_digest_0_1, h.1.1.1.2.2.1, if_neg (fun q => absurd ((n_le (by omega) (by omega)).mp q) (by omega)), show (0 : Int32) = Int32.ofNat 0 from rfl, c_dg2 h hp (by omega) 4 0 _ d (by omega)]
    exact ih (o + 1) n _ (by omega)
theorem c_dg0 (h : cA_53 I p t dp ca) (hp : p_ok p) (hO : I 16 8 = Int32.ofNat (p 0 5)) (hl : I 1 5 = Int32.ofNat ln) (hf : ¬ I 53 14 = 0) (hg : ¬ I 53 15 = 0) : ∀ (m k n : Nat) (d : Int64), k + m = 14 → L_X11_digest_0 (n + m + 1) 0 I G d (Int32.ofNat k) 0 = L_X11_digest_0 n 1 I G (s_run (gT p t dp ca ln) (m + 1) k d) (Int32.ofNat 0) 0 := by
  intro m
  induction m with
  | zero =>
    intro k n d hk
    obtain rfl : k = 14 := by omega
    rw [L_X11_digest_0_0, if_pos (by decide), hl]
    rfl
  | succ m ih =>
    intro k n d hk
    have hF : s_F p t dp ca ln k = s_tell p t dp ca k := by unfold s_F; rw [if_neg (by omega)]
    rw [show n + (m + 1) + 1 = (n + m + 1) + 1 by omega, L_X11_digest_0_0, if_neg (show ¬ (14 : Int32) ≤ Int32.ofNat k from fun q => absurd ((n_le (a := 14) (by omega) (by omega)).mp q) (by omega)), c_tell_53 hp h hO (by omega) (fun _ => hf) (fun _ => hg), rb_go, n_inc, ← hF]
    exact ih (k + 1) n _ (by omega)
end DGC
theorem cA_53.to66 {p t : sP} {dp ca : Int32} {I : am_I} {G : am_G} (hp : p_ok p) (ht : t_ok p t) (h : cA_53 I p t dp ca) : ∃ I' : am_I, R_X7_take_66_53 I G = some ((), I', G) ∧ cA_66 I' p t dp ca ∧ cZ_66 I I' := by
  have h0 := hp.1
  obtain ⟨⟨h1, h2⟩, ⟨h3, h4, h5⟩, h6, h7⟩ := h
  obtain ⟨J, hJ⟩ : ∃ J : am_I, J = (am_up (am_up (am_up (am_up I 66 10 (I 53 10)) 66 11 (I 53 11)) 66 12 (I 53 12)) 66 13 (I 53 13)) := ⟨_, rfl⟩
  have eJ : ∀ b, b ≠ 66 → J b = I b := fun b hb => by rw [hJ, up_row _ _ _ hb, up_row _ _ _ hb, up_row _ _ _ hb, up_row _ _ _ hb]
  have j10 : J 66 10 = I 53 10 := by rw [hJ, up_in, if_neg (by omega), up_in, if_neg (by omega), up_in, if_neg (by omega), up_in, if_pos rfl]
  have j11 : J 66 11 = I 53 11 := by rw [hJ, up_in, if_neg (by omega), up_in, if_neg (by omega), up_in, if_pos rfl]
  have j12 : J 66 12 = I 53 12 := by rw [hJ, up_in, if_neg (by omega), up_in, if_pos rfl]
  have j13 : J 66 13 = I 53 13 := by rw [hJ, up_in, if_pos rfl]
  obtain ⟨K, k1, k2, k3⟩ := c_tp_66 (I := J) (G := G) (u := t 2) (h1.kept (fun b z1 z2 => eJ b (by omega))) hp (fun c => (ht.2.2 c).2) (fun c hc => by rw [eJ 54 (by omega)]; exact (h3.2.2 c hc).1)
  obtain ⟨s1, s2, s3, s4⟩ := c_spl_66 (G := G) (am_cp K 56 69 4)
  have eK : ∀ b, b ≠ 66 → b ≠ 67 → b ≠ 68 → b ≠ 69 → g_X7_spoil_66 (am_cp K 56 69 4) G b = I b := fun b z1 z2 z3 z4 => by rw [s4 b z1, am_cp_row _ z4, k2 b z2 z3, eJ b z1]
  have e66 : ∀ k, k ≠ 14 → k ≠ 15 → g_X7_spoil_66 (am_cp K 56 69 4) G 66 k = J 66 k := fun k z1 z2 => by rw [s3 k z1 z2, am_cp_row _ (by omega), k2 66 (by omega) (by omega)]
  refine ⟨g_X7_spoil_66 (am_cp K 56 69 4) G, ?_, ⟨⟨h1.kept (fun b z1 z2 => eK b (by omega) (by omega) (by omega) (by omega)), h2.kept (eK 26 (by omega) (by omega) (by omega) (by omega)) (eK 27 (by omega) (by omega) (by omega) (by omega))⟩, ⟨⟨⟨by rw [e66 10 (by omega) (by omega), j10]; exact h3.1.1, by rw [e66 11 (by omega) (by omega), j11]; exact h3.1.2⟩, fun o ho => ?_, fun c hc => ⟨?_, fun l hl => ?_⟩⟩, fun z => absurd s1 z, fun z => absurd s2 z⟩, by rw [e66 12 (by omega) (by omega), j12]; exact h6, by rw [e66 13 (by omega) (by omega), j13]; exact h7⟩, fun b z1 z2 z3 => eK b (by omega) (by omega) (by omega) (by omega)⟩
  · unfold R_X7_take_66_53
    rw [← hJ, k1, rb_go]
  · rw [s4 69 (by omega), am_cp_in _ (by omega), k2 56 (by omega) (by omega), eJ 56 (by omega)]
    exact h3.2.1 o ho
  · rw [s4 67 (by omega), am_cp_row _ (by omega)]
    exact (k3 c hc).1
  · rw [s4 68 (by omega), am_cp_row _ (by omega)]
    exact (k3 c hc).2 l hl
theorem c_foL {p : sP} {od : sO} {G : am_G} (hp : p_ok p) (ho : o_ok p od) {N w : Nat} (hN : N ≤ 20) (hw : 7 ≤ w ∧ w < 14) : ∀ (m k n : Nat) (I : am_I) (x : sP × Int32 × Int32), t_ok p x.1 → cO I p od → cA_66 I p x.1 x.2.1 x.2.2 → k + m = N → m < n → ∃ I' : am_I, L_X11_foresee_0 n 0 I G (Int32.ofNat N) (Int32.ofNat w) (Int32.ofNat k) = some (.inl (s_tell p (s_dps p od m x).1 (s_dps p od m x).2.1 (s_dps p od m x).2.2 w), I', G) ∧ cW I' p ∧ cZ_66 I I' := by
  have i10 : (10 : Int32).toInt = 10 := rfl
  intro m
  induction m with
  | zero =>
    intro k n I x ht hO h hk hn
    obtain ⟨n, rfl⟩ : ∃ n', n = n' + 1 := ⟨n - 1, by omega⟩
    rw [L_X11_foresee_0_0, if_pos ((n_le (by omega) (by omega)).mpr (by omega))]
    by_cases h10 : 10 < w
    · rw [if_pos (by rw [i_lt, i10, n_ti (by omega)]; omega), c_tell_66 hp h hO.1 (by omega) (fun z => by omega) (fun z => by omega), rb_go]
      exact ⟨I, rfl, h.1.2, cZ_66.rf I⟩
    · obtain ⟨I1, e1, c1, z1, f1, g1⟩ := c_grA_66 (G := G) hp ht h
      rw [if_neg (by rw [i_lt, i10, n_ti (by omega)]; omega), e1, rb_go, c_tell_66 hp c1 (by rw [z1 16 (by omega) (by omega) (by omega)]; exact hO.1) (by omega) (fun _ => f1) (fun _ => g1), rb_go]
      exact ⟨I1, rfl, c1.1.2, z1⟩
  | succ m ih =>
    intro k n I x ht hO h hk hn
    obtain ⟨n, rfl⟩ : ∃ n', n = n' + 1 := ⟨n - 1, by omega⟩
    obtain ⟨I1, e1, s1, z1⟩ := c_dp_66 (G := G) hp ho ht hO h
    obtain ⟨I2, e2, w2, z2⟩ := ih (k + 1) n I1 (s_dip p od x) (s_dip_ok hp od x ht) (hO.kept (fun b h1 h2 => z1 b (by omega) (by omega) (by omega))) s1 (by omega) (by omega)
    rw [L_X11_foresee_0_0, if_neg (fun q => absurd ((n_le (by omega) (by omega)).mp q) (by omega)), e1, rb_go, n_inc, e2]
    exact ⟨I2, rfl, w2, z1.tr z2⟩
/-- the first dip at which the spot has the ink -/
def s_unt (p : sP) (od : sO) (q j : Nat) : Nat → Nat → sP × Int32 × Int32 → Int32
  | 0, _, _ => -1
  | m + 1, k, x => if s_ik p x.1 q = j then Int32.ofNat k else s_unt p od q j m (k + 1) (s_dip p od x)
theorem c_unL {p : sP} {od : sO} {G : am_G} (hp : p_ok p) (ho : o_ok p od) {q j : Nat} (hq : q < s_S p) (hj : j ≤ p 0 4) (v1 v2 : Int32) : ∀ (m k n : Nat) (I : am_I) (x : sP × Int32 × Int32), 1 ≤ k → t_ok p x.1 → cO I p od → cA_66 I p x.1 x.2.1 x.2.2 → k + m = 21 → m < n → ∃ I' : am_I, L_X11_until_0 n 0 I G v1 v2 (Int32.ofNat j) (Int32.ofNat q) (Int32.ofNat k) = some (.inl (s_unt p od q j m k (s_dip p od x)), I', G) ∧ cW I' p ∧ cZ_66 I I' := by
  have h0 := hp.1
  have hS := s_S_le hp
  intro m
  induction m with
  | zero =>
    intro k n I x h1 ht hO h hk hn
    obtain ⟨n, rfl⟩ : ∃ n', n = n' + 1 := ⟨n - 1, by omega⟩
    rw [L_X11_until_0_0, if_pos (show (20 : Int32) < Int32.ofNat k from (n_lt (a := 20) (by omega) (by omega)).mpr (by omega))]
    exact ⟨I, rfl, h.1.2, cZ_66.rf I⟩
  | succ m ih =>
    intro k n I x h1 ht hO h hk hn
    obtain ⟨n, rfl⟩ : ∃ n', n = n' + 1 := ⟨n - 1, by omega⟩
    have ht1 := s_dip_ok hp od x ht
    obtain ⟨I1, e1, s1, z1⟩ := c_dp_66 (G := G) hp ho ht hO h
    obtain ⟨I2, e2, c2, z2, f2⟩ := c_rfA_66 (G := G) hp ht1 s1
    have z12 := z1.tr z2
    have hik := s_ik_b p (s_dip p od x).1 q
    rw [L_X11_until_0_0, if_neg (show ¬ (20 : Int32) < Int32.ofNat k from fun z => absurd ((n_lt (a := 20) (by omega) (by omega)).mp z) (by omega)), if_neg (n_nle0 (by omega) (by omega)), e1, rb_go, e2, rb_go, n_gAt (by omega) (by omega), ((c2.2.1.2.1 f2).1 q hq).2, n_inc]
    unfold s_unt
    by_cases hz : s_ik p (s_dip p od x).1 q = j
    · rw [if_pos hz, if_pos (by rw [hz])]
      exact ⟨I2, rfl, c2.1.2, z12⟩
    · rw [if_neg hz, if_neg (fun z => hz ((n_eq (by omega) (by omega)).mp z))]
      obtain ⟨I3, e3, w3, z3⟩ := ih (k + 1) n I2 (s_dip p od x) (by omega) ht1 (hO.kept (fun b h1 h2 => z12 b (by omega) (by omega) (by omega))) c2 (by omega) (by omega)
      exact ⟨I3, e3, w3, z12.tr z3⟩
/-- the best pull -/
noncomputable def s_pn (p t : sP) : Nat := s_pat (p 0 0) (s_S p) (s_ik p t) (s_S p)
noncomputable def s_adv (p : sP) (c : Nat) : Nat → Nat → Nat → Nat → sP → Nat
  | 0, _, best, _, _ => best
  | m + 1, k, best, few, t => if s_pn p (if t 2 c = k then t else am_up t 2 c k) < few then s_adv p c m (k + 1) k (s_pn p (if t 2 c = k then t else am_up t 2 c k)) (if t 2 c = k then t else am_up t 2 c k) else s_adv p c m (k + 1) best few (if t 2 c = k then t else am_up t 2 c k)
theorem s_pn_le {p : sP} (hp : p_ok p) (t : sP) : s_pn p t ≤ 576 := Nat.le_trans (s_num_le _ _) (s_S_le hp)
theorem c_adL {p : sP} {dp ca : Int32} {G : am_G} (hp : p_ok p) {c : Nat} (hc : c < p 0 3) : ∀ (m k n : Nat) (I : am_I) (t : sP) (best few : Nat), t_ok p t → cA_66 I p t dp ca → best ≤ 16 → few ≤ 577 → k + m = 17 → m < n → ∃ I' : am_I, L_X11_advise_0 n 0 I G (Int32.ofNat c) (Int32.ofNat best) (Int32.ofNat few) (Int32.ofNat k) = some (.inl (Int32.ofNat (s_adv p c m k best few t)), I', G) ∧ cW I' p ∧ cZ_66 I I' := by
  intro m
  induction m with
  | zero =>
    intro k n I t best few ht h hb hf hk hn
    obtain ⟨n, rfl⟩ : ∃ n', n = n' + 1 := ⟨n - 1, by omega⟩
    rw [L_X11_advise_0_0, if_pos (show (16 : Int32) < Int32.ofNat k from (n_lt (a := 16) (by omega) (by omega)).mpr (by omega))]
    exact ⟨I, rfl, h.1.2, cZ_66.rf I⟩
  | succ m ih =>
    intro k n I t best few ht h hb hf hk hn
    obtain ⟨n, rfl⟩ : ∃ n', n = n' + 1 := ⟨n - 1, by omega⟩
    obtain ⟨I1, e1, c1, z1⟩ := c_cp_66 (G := G) hp ht h hc (x := k) (by omega)
    have ht1 : t_ok p (if t 2 c = k then t else am_up t 2 c k) := by
      split
      · exact ht
      · exact t_up2 ht (by omega)
    obtain ⟨I2, e2, c2, z2, f2, g2⟩ := c_grA_66 (G := G) hp ht1 c1
    have z12 := z1.tr z2
    have en : I2 73 4 = Int32.ofNat (s_pn p (if t 2 c = k then t else am_up t 2 c k)) := (c2.2.1.2.2 g2).2.1
    have hpn := s_pn_le hp (if t 2 c = k then t else am_up t 2 c k)
    rw [L_X11_advise_0_0, if_neg (show ¬ (16 : Int32) < Int32.ofNat k from fun z => absurd ((n_lt (a := 16) (by omega) (by omega)).mp z) (by omega)), e1, rb_go, e2, rb_go, en, n_inc]
    unfold s_adv
    by_cases hq : s_pn p (if t 2 c = k then t else am_up t 2 c k) < few
    · rw [if_pos hq, if_neg (fun z => absurd ((n_le (by omega) (by omega)).mp z) (by omega))]
      obtain ⟨I3, e3, w3, z3⟩ := ih (k + 1) n I2 _ k (s_pn p (if t 2 c = k then t else am_up t 2 c k)) ht1 c2 (by omega) (by omega) (by omega) (by omega)
      exact ⟨I3, e3, w3, z12.tr z3⟩
    · rw [if_neg hq, if_pos ((n_le (by omega) (by omega)).mpr (by omega))]
      obtain ⟨I3, e3, w3, z3⟩ := ih (k + 1) n I2 _ best few ht1 c2 hb hf (by omega) (by omega)
      exact ⟨I3, e3, w3, z12.tr z3⟩
section D3
variable {p t : sP} {od : sO} {dp ca : Int32} {ln : Nat} {I I1 : am_I} {G : am_G}
theorem kJ.stepD {t' : sP} {dp' ca' : Int32} (h : kJ p t od dp ca ln I G) (hz : zc I I1) (hc : cA_53 I1 p t' dp' ca') (ht : t_ok p t') : kJ p t' od dp' ca' ln I1 G := by
  obtain ⟨⟨a0, -, a1⟩, a2, -, ⟨a4, a5⟩, a6, a7⟩ := h
  refine ⟨⟨a0, ht, a1⟩, ?_, hc, ⟨by rw [hz 1 (by decide) (by decide) (by decide)]; exact a4, a5⟩, fun k hk => by rw [hz 2 (by decide) (by decide) (by decide)]; exact a6 k hk, a7⟩
  exact a2.kept (fun b _ _ => hz b (by omega) (by omega) (by omega))
theorem kJ.ahead (h : kJ p t od dp ca ln I G) (z1 : cZ_66 I I1) (hW : cW I1 p) : kJ p t od dp ca ln I1 G := by
  refine h.step z1.toc ?_
  obtain ⟨⟨a1, a2⟩, ⟨a3, a4, a5⟩, a6, a7⟩ := h.2.2.1
  have e : ∀ b, 53 ≤ b → b ≤ 65 → I1 b = I b := fun b y1 y2 => z1 b (by omega) (by omega) (by omega)
  refine ⟨⟨a1.kept (fun b y1 y2 => z1 b (by omega) (by omega) (by omega)), hW⟩, ⟨a3.kept ⟨by rw [e 53 (by omega) (by omega)], by rw [e 53 (by omega) (by omega)]⟩ ⟨e 54 (by omega) (by omega), e 55 (by omega) (by omega), e 56 (by omega) (by omega)⟩, ?_, ?_⟩, by rw [e 53 (by omega) (by omega)]; exact a6, by rw [e 53 (by omega) (by omega)]; exact a7⟩
  · unfold cF_53
    rw [e 53 (by omega) (by omega), e 57 (by omega) (by omega), e 58 (by omega) (by omega), e 59 (by omega) (by omega)]
    exact a4
  · unfold cQ_53
    rw [e 53 (by omega) (by omega), e 60 (by omega) (by omega), e 61 (by omega) (by omega), e 62 (by omega) (by omega)]
    exact a5
theorem j_setSeed (h : kJ p t od dp ca ln I G) {o u : Nat} (ho : o < p 0 2) (hu : u ≤ 999) : ∃ I1, R_X11_setSeed_0 I G (Int32.ofNat o) (Int32.ofNat u) = some (.inl (Int32.ofNat (t 1 o)), I1, G) ∧ kJ p (if t 1 o = u then t else am_up t 1 o u) od dp ca ln I1 G ∧ zc I I1 := by
  have hp := h.1.1
  have h0 := hp.1
  have e11 := h.2.2.1.1.1.1.2.2.1
  obtain ⟨-, c1, z1⟩ := c_cs_53 (G := G) hp h.1.2.1 h.2.2.1 ho hu
  have ht' : t_ok p (if t 1 o = u then t else am_up t 1 o u) := by
    split
    · exact h.1.2.1
    · exact t_up1 h.1.2.1 hu
  refine ⟨g_X7_changeSeed_53 I G (Int32.ofNat o) (Int32.ofNat u), ?_, h.stepT z1.toc c1 ht', z1.toc⟩
  unfold R_X11_setSeed_0
  rw [if_neg (n_nlt0 o (by omega)), e11, if_pos ((n_lt (by omega) (by omega)).mpr ho), if_neg (n_nlt0 u (by omega)), if_pos (by rw [i_le, i_999, n_ti (by omega)]; omega), n_gAt (by omega) (by omega), h.2.2.1.2.1.1.2.1 o ho]
theorem j_count (h : kJ p t od dp ca ln I G) {k : Nat} (hk : k ≤ 14) : ∃ I1, R_X11_count_0 I G (Int32.ofNat k) = some (.inl (s_F p t dp ca ln k), I1, G) ∧ kJ p t od dp ca ln I1 G ∧ zc I I1 := by
  have hp := h.1.1
  have i14 : (14 : Int32).toInt = 14 := rfl
  have i7 : (7 : Int32).toInt = 7 := rfl
  have i10 : (10 : Int32).toInt = 10 := rfl
  have key : ∃ I1, R_X11_count_0 I G (Int32.ofNat k) = some (.inl (s_F p t dp ca ln k), I1, G) ∧ cA_53 I1 p t dp ca ∧ cZ_53 I I1 := by
    unfold R_X11_count_0
    rw [if_neg (n_nlt0 k (by omega)), if_pos (by rw [i_le, i14, n_ti (by omega)]; omega)]
    have hn14 : k ≠ 14 → ¬ Int32.ofNat k = (14 : Int32) := fun z q => z ((n_eq (b := 14) (by omega) (by omega)).mp q)
    have hF : k ≠ 14 → s_F p t dp ca ln k = s_tell p t dp ca k := fun z => by unfold s_F; rw [if_neg z]
    by_cases h7 : k < 7
    · rw [if_pos (by rw [i_lt, i7, n_ti (by omega)]; omega), if_neg (hn14 (by omega)), c_tell_53 hp h.2.2.1 h.2.1.1 (by omega) (fun z => by omega) (fun z => by omega), rb_go, hF (by omega)]
      exact ⟨I, rfl, h.2.2.1, cZ_53.rf I⟩
    · rw [if_neg (by rw [i_lt, i7, n_ti (by omega)]; omega)]
      by_cases h10 : 10 < k
      · rw [if_pos (by rw [i_lt, i10, n_ti (by omega)]; omega)]
        by_cases h14 : k = 14
        · subst h14
          rw [if_pos (by decide), h.2.2.2.1.1]
          exact ⟨I, rfl, h.2.2.1, cZ_53.rf I⟩
        · rw [if_neg (hn14 h14), c_tell_53 hp h.2.2.1 h.2.1.1 (by omega) (fun z => by omega) (fun z => by omega), rb_go, hF h14]
          exact ⟨I, rfl, h.2.2.1, cZ_53.rf I⟩
      · obtain ⟨I1, e1, c1, z1, f1, g1⟩ := c_grA_53 (G := G) hp h.1.2.1 h.2.2.1
        rw [if_neg (by rw [i_lt, i10, n_ti (by omega)]; omega), e1, rb_go, if_neg (hn14 (by omega)), c_tell_53 hp c1 (by rw [z1 16 (by omega) (by omega) (by omega)]; exact h.2.1.1) (by omega) (fun _ => f1) (fun _ => g1), rb_go, hF (by omega)]
        exact ⟨I1, rfl, c1, z1⟩
  obtain ⟨I1, e1, c1, z1⟩ := key
  exact ⟨I1, e1, h.step z1.toc c1, z1.toc⟩
theorem j_mean (h : kJ p t od dp ca ln I G) : ∃ I1, R_X11_mean_0 I G = some (FP.ddiv (FP.i2d (s_run (fun k a => a + s_ht p t k) (s_S p) 0 0)) (FP.i2d (Int32.ofNat (s_S p))), I1, G) ∧ kJ p t od dp ca ln I1 G ∧ zc I I1 := by
  have hp := h.1.1
  have hS := s_S_le hp
  obtain ⟨I1, e1, c1, z1, f1⟩ := c_rfA_53 (G := G) hp h.1.2.1 h.2.2.1
  refine ⟨I1, ?_, h.step z1.toc c1, z1.toc⟩
  unfold R_X11_mean_0
  rw [e1, rb_go, c1.1.1.1.1, c1.1.1.1.2.1, n_mul]
  exact c_meL hp c1 f1 (s_S p) 0 FU 0 (by omega) (by unfold FU; omega)
theorem j_dip (h : kJ p t od dp ca ln I G) {N : Nat} (hN1 : 1 ≤ N) (hN : N ≤ 20) : ∃ I1, R_X11_dip_0 I G (Int32.ofNat N) = some (.inl ((s_dps p od N (t, dp, ca)).2.2 - ca), I1, G) ∧ kJ p (s_dps p od N (t, dp, ca)).1 od (s_dps p od N (t, dp, ca)).2.1 (s_dps p od N (t, dp, ca)).2.2 ln I1 G ∧ zc I I1 := by
  have hp := h.1.1
  obtain ⟨I1, e1, c1, z1⟩ := c_dps_53 (G := G) hp h.1.2.2 hN (I 53 13) N 0 FU I (t, dp, ca) h.1.2.1 h.2.1 h.2.2.1 (by omega) (by unfold FU; omega)
  refine ⟨I1, ?_, h.stepD z1.toc c1 (s_dps_ok hp od N (t, dp, ca) h.1.2.1), z1.toc⟩
  unfold R_X11_dip_0
  rw [if_neg (by rw [i_lt, i_n1, n_ti (by omega)]; omega), if_pos (by rw [i_le, i_20, n_ti (by omega)]; omega)]
  rw [h.2.2.1.2.2.2] at e1 ⊢
  exact e1
theorem j_digest (h : kJ p t od dp ca ln I G) : ∃ I1, R_X11_digest_0 I G = some (s_dg p t dp ca ln, I1, G) ∧ kJ p t od dp ca ln I1 G ∧ zc I I1 := by
  have hp := h.1.1
  have h0 := hp.1
  have hS := s_S_le hp
  obtain ⟨I1, e1, c1, z1, f1, g1⟩ := c_grA_53 (G := G) hp h.1.2.1 h.2.2.1
  obtain ⟨n1, hn1⟩ : ∃ n1, FU = ((((n1 + s_S p + 1) + (p 0 4 + 1) + 1) + 5 * p 0 3 + 1) + 6 * p 0 2 + 1) + 14 + 1 := ⟨FU - (((((0 + s_S p + 1) + (p 0 4 + 1) + 1) + 5 * p 0 3 + 1) + 6 * p 0 2 + 1) + 14 + 1), by unfold FU; omega⟩
  refine ⟨I1, ?_, h.step z1.toc c1, z1.toc⟩
  unfold R_X11_digest_0
  rw [e1, rb_go, hn1, show (0 : Int32) = Int32.ofNat 0 from rfl]
  rw [show L_X11_digest_0 (((((n1 + s_S p + 1) + (p 0 4 + 1) + 1) + 5 * p 0 3 + 1) + 6 * p 0 2 + 1) + 14 + 1) 0 I1 G 937 (Int32.ofNat 0) (Int32.ofNat 0) = _ from c_dg0 c1 hp (by rw [z1 16 (by omega) (by omega) (by omega)]; exact h.2.1.1) (by rw [z1 1 (by omega) (by omega) (by omega)]; exact h.2.2.2.1.1) f1 g1 14 0 _ 937 (by omega)]
  rw [c_dg1 c1 hp (p 0 2) 0 _ _ (by omega), c_dg3 c1 hp (p 0 3) 0 _ _ (by omega), c_dg5 c1 hp f1 (p 0 4 + 1) 0 _ _ (by omega), c_dg6 c1 hp f1 (s_S p) 0 _ _ (by omega)]
  rfl
theorem j_foresee (h : kJ p t od dp ca ln I G) {N w : Nat} (hN1 : 1 ≤ N) (hN : N ≤ 20) (hw7 : 7 ≤ w) (hw : w ≤ 13) : ∃ I1, R_X11_foresee_0 I G (Int32.ofNat N) (Int32.ofNat w) = some (.inl (s_tell p (s_dps p od N (t, dp, ca)).1 (s_dps p od N (t, dp, ca)).2.1 (s_dps p od N (t, dp, ca)).2.2 w), I1, G) ∧ kJ p t od dp ca ln I1 G ∧ zc I I1 := by
  have hp := h.1.1
  have i7 : (7 : Int32).toInt = 7 := rfl
  have i13 : (13 : Int32).toInt = 13 := rfl
  obtain ⟨I0, e0, c0, z0⟩ := h.2.2.1.to66 (G := G) hp h.1.2.1
  obtain ⟨I1, e1, w1, z1⟩ := c_foL (G := G) hp h.1.2.2 hN (w := w) ⟨hw7, by omega⟩ N 0 FU I0 (t, dp, ca) h.1.2.1 (h.2.1.kept (fun b h1 h2 => z0 b (by omega) (by omega) (by omega))) c0 (by omega) (by unfold FU; omega)
  have zz := z0.tr z1
  refine ⟨I1, ?_, h.ahead zz w1, zz.toc⟩
  unfold R_X11_foresee_0
  rw [if_neg (by rw [i_lt, i_n1, n_ti (by omega)]; omega), if_pos (by rw [i_le, i_20, n_ti (by omega)]; omega), if_neg (by rw [i_lt, i7, n_ti (by omega)]; omega), if_pos (by rw [i_le, i13, n_ti (by omega)]; omega), e0, rb_go]
  exact e1
theorem j_until (h : kJ p t od dp ca ln I G) (x y : Int32) {j : Nat} (hj : j ≤ p 0 4) : ∃ I1, R_X11_until_0 I G x y (Int32.ofNat j) = some (.inl (s_unt p od (s_spot p x y) j 21 0 (t, dp, ca)), I1, G) ∧ kJ p t od dp ca ln I1 G ∧ zc I I1 := by
  have hp := h.1.1
  have ho := h.1.2.2
  have h0 := hp.1
  have hS := s_S_le hp
  have hsp := s_spot_lt hp x y
  have e13 := h.2.2.1.1.1.1.2.2.2.2
  obtain ⟨I0, e0, c0, z0⟩ := h.2.2.1.to66 (G := G) hp h.1.2.1
  have hO0 : cO I0 p od := h.2.1.kept (fun b h1 h2 => z0 b (by omega) (by omega) (by omega))
  obtain ⟨I1, e1, w1, z1⟩ : ∃ I' : am_I, L_X11_until_0 FU 0 I0 G x y (Int32.ofNat j) (Int32.ofNat (s_spot p x y)) (0 : Int32) = some (.inl (s_unt p od (s_spot p x y) j 21 0 (t, dp, ca)), I', G) ∧ cW I' p ∧ cZ_66 I0 I' := by
    obtain ⟨n0, hn0⟩ : ∃ n0, FU = n0 + 1 := ⟨FU - 1, by unfold FU; omega⟩
    obtain ⟨I2, e2, c2, z2, f2⟩ := c_rfA_66 (G := G) hp h.1.2.1 c0
    have hik := s_ik_b p t (s_spot p x y)
    rw [hn0, L_X11_until_0_0, if_neg (by decide), if_pos (by decide), e2, rb_go, n_gAt (by omega) (by omega), ((c2.2.1.2.1 f2).1 _ hsp).2]
    unfold s_unt
    by_cases hq : s_ik p t (s_spot p x y) = j
    · rw [if_pos hq, if_pos (by rw [hq])]
      exact ⟨I2, rfl, c2.1.2, z2⟩
    · rw [if_neg hq, if_neg (fun w => hq ((n_eq (by omega) (by omega)).mp w))]
      obtain ⟨I3, e3, w3, z3⟩ := c_unL (G := G) hp ho hsp hj x y 20 1 n0 I2 (t, dp, ca) (by omega) h.1.2.1 (hO0.kept (fun b h1 h2 => z2 b (by omega) (by omega) (by omega))) c2 (by omega) (by unfold FU at hn0; omega)
      exact ⟨I3, e3, w3, z2.tr z3⟩
  have zz := z0.tr z1
  refine ⟨I1, ?_, h.ahead zz w1, zz.toc⟩
  unfold R_X11_until_0
  rw [if_neg (n_nlt0 j (by omega)), e13, if_pos ((n_le (by omega) (by omega)).mpr hj), e0, rb_go, show f_X5_spot_7 I G x y = Int32.ofNat (s_spot p x y) from c_spot h.2.2.1.1.1 hp x y]
  exact e1
theorem s_adv_le {p : sP} {c : Nat} : ∀ (m k best few : Nat) (t : sP), best ≤ 16 → k + m = 17 → s_adv p c m k best few t ≤ 16
  | 0, _, _, _, _, h, _ => h
  | m + 1, k, best, few, t, h, hk => by
    unfold s_adv
    generalize (if t 2 c = k then t else am_up t 2 c k) = t'
    split
    · exact s_adv_le m (k + 1) k _ _ (by omega) (by omega)
    · exact s_adv_le m (k + 1) best few _ h (by omega)
theorem j_advise (h : kJ p t od dp ca ln I G) {c : Nat} (hc : c < p 0 3) : ∃ I1 b, b ≤ 16 ∧ R_X11_advise_0 I G (Int32.ofNat c) = some (.inl (Int32.ofNat b), I1, G) ∧ kJ p t od dp ca ln I1 G ∧ zc I I1 := by
  have hp := h.1.1
  have h0 := hp.1
  have e12 := h.2.2.1.1.1.1.2.2.2.1
  obtain ⟨I0, e0, c0, z0⟩ := h.2.2.1.to66 (G := G) hp h.1.2.1
  obtain ⟨I1, e1, w1, z1⟩ := c_adL (G := G) hp hc 17 0 FU I0 t 0 577 h.1.2.1 c0 (by omega) (by omega) (by omega) (by unfold FU; omega)
  have zz := z0.tr z1
  refine ⟨I1, s_adv p c 17 0 0 577 t, s_adv_le 17 0 0 577 t (by omega) (by omega), ?_, h.ahead zz w1, zz.toc⟩
  unfold R_X11_advise_0
  rw [if_neg (n_nlt0 c (by omega)), e12, if_pos ((n_lt (by omega) (by omega)).mpr hc), e0, rb_go]
  exact e1
end D3
