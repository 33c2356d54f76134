/-! values of octaves that are kept -/
def cW (I : am_I) (p : sP) : Prop := ∀ o, o < p 0 2 → ∀ s, s < 8 → ¬ I 27 (o * 8 + s) = 0 → ∀ k, k < s_S p → I 26 ((o * 8 + s) * 576 + k) = s_v p o s k
theorem cW.kept {I I' : am_I} {p : sP} (h : cW I p) (h1 : I' 26 = I 26) (h2 : I' 27 = I 27) : cW I' p := by
  unfold cW
  rw [h1, h2]
  exact h
theorem s_dm {C x y : Nat} (hx : x < C) : (y * C + x) % C = x ∧ (y * C + x) / C = y := by
  constructor
  · rw [Nat.mul_comm, Nat.mul_add_mod, Nat.mod_eq_of_lt hx]
  · rw [Nat.mul_comm, Nat.mul_add_div (by omega), Nat.div_eq_of_lt hx, Nat.add_zero]
section MW
variable {p : sP}
theorem c_sheetOf {I : am_I} {G : am_G} {o seed : Nat} (ho : o < 4) (hs : seed ≤ 999) : f_X10_sheetOf I G (Int32.ofNat o) (Int32.ofNat seed) = Int32.ofNat (o * 8 + seed % 8) := by
  unfold f_X10_sheetOf
  rw [show (8 : Int32) = Int32.ofNat 8 from rfl, n_mod (by omega) (by omega), n_mul, n_add]
theorem c_kept {I : am_I} {G : am_G} (hW : cW I p) (hp : p_ok p) {o seed q : Nat} (ho : o < p 0 2) (hs : seed ≤ 999) (hK : ¬ I 27 (o * 8 + seed % 8) = 0) (hq : q < s_S p) : f_X10_valueKept_25 I G (Int32.ofNat o) (Int32.ofNat seed) (Int32.ofNat q) = s_v p o seed q := by
  have h0 := hp.1
  have hS := s_S_le hp
  have h8 := Nat.mod_lt seed (show 0 < 8 by omega)
  unfold f_X10_valueKept_25
  rw [c_sheetOf (by omega) hs, show (576 : Int32) = Int32.ofNat 576 from rfl, n_mul, n_add, n_gAt (by omega) (by omega), hW o ho _ h8 hK q hq]
  exact s_val_mod _ _ _ _ _ _ _
theorem c_prep1 (hp : p_ok p) {o seed y sh : Nat} (ho : o < p 0 2) (hs : seed ≤ 999) (hy : y < p 0 1) (hsh : sh < 32) : ∀ (m x n : Nat) (I : am_I) (G : am_G), cP I p → x + m = p 0 0 → m < n →
    ∃ I' : am_I, L_X10_prepare_25 n 1 I G (Int32.ofNat o) (Int32.ofNat seed) (Int32.ofNat sh) (Int32.ofNat (sh * 576 + (y * p 0 0 + x))) (Int32.ofNat y) (Int32.ofNat x) = L_X10_prepare_25 (n - m - 1) 0 I' G (Int32.ofNat o) (Int32.ofNat seed) (Int32.ofNat sh) (Int32.ofNat (sh * 576 + (y * p 0 0 + p 0 0))) (Int32.ofNat (y + 1)) 0 ∧ (∀ b, b ≠ 26 → I' b = I b) ∧
      ∀ j, I' 26 j = if sh * 576 + (y * p 0 0 + x) ≤ j ∧ j < sh * 576 + (y * p 0 0 + p 0 0) then s_v p o seed (j - sh * 576) else I 26 j := by
  have h0 := hp.1
  have hS := s_S_le hp
  have hyC : y * p 0 0 + p 0 0 ≤ s_S p := by
    have : (y + 1) * p 0 0 ≤ p 0 1 * p 0 0 := Nat.mul_le_mul_right _ hy
    rw [Nat.succ_mul] at this
    unfold s_S
    rw [Nat.mul_comm (p 0 0)]; exact this
  intro m
  induction m with
  | zero =>
    intro x n I G h hk hn
    obtain ⟨n, rfl⟩ : ∃ n', n = n' + 1 := ⟨n - 1, by omega⟩
    rw [L_X10_prepare_25_1, h.1.1, if_pos ((n_le (by omega) (by omega)).mpr (by omega)), n_inc, show n + 1 - 0 - 1 = n by omega, show x = p 0 0 by omega]
    exact ⟨I, rfl, fun b _ => rfl, fun j => by rw [if_neg (by omega)]⟩
  | succ m ih =>
    intro x n I G h hk hn
    obtain ⟨n, rfl⟩ : ∃ n', n = n' + 1 := ⟨n - 1, by omega⟩
    have hx : x < p 0 0 := by omega
    obtain ⟨dm1, dm2⟩ := s_dm (y := y) hx
    rw [L_X10_prepare_25_1, h.1.1, if_neg (fun z => absurd ((n_le (by omega) (by omega)).mp z) (by omega)), c_val h hp ho hs hx hy, n_gPut (by omega) (by omega), n_inc, n_inc]
    obtain ⟨I', b1, b2, b3⟩ := ih (x + 1) n (am_up I 26 (sh * 576 + (y * p 0 0 + x)) (s_val (p 0 0) (p 0 1) (p 1 o) (p 2 o) seed x y)) G (h.kept (fun b h1 h2 => up_row _ _ _ (by omega))) (by omega) (by omega)
    refine ⟨I', ?_, fun b h1 => (b2 b h1).trans (up_row _ _ _ h1), fun j => ?_⟩
    · rw [show sh * 576 + (y * p 0 0 + x) + 1 = sh * 576 + (y * p 0 0 + (x + 1)) by omega, b1, show n + 1 - (m + 1) - 1 = n - m - 1 by omega]
    · rw [b3, up_in]
      by_cases hj : j = sh * 576 + (y * p 0 0 + x)
      · subst hj
        rw [if_neg (by omega), if_pos rfl, if_pos (by omega), show sh * 576 + (y * p 0 0 + x) - sh * 576 = y * p 0 0 + x by omega, s_v, dm1, dm2]
      · rw [if_neg hj]
        by_cases h2 : sh * 576 + (y * p 0 0 + (x + 1)) ≤ j ∧ j < sh * 576 + (y * p 0 0 + p 0 0)
        · rw [if_pos h2, if_pos (by omega)]
        · rw [if_neg h2, if_neg (by omega)]
theorem c_prep0 (hp : p_ok p) {o seed sh : Nat} (ho : o < p 0 2) (hs : seed ≤ 999) (hsh : sh < 32) : ∀ (m y n : Nat) (I : am_I) (G : am_G), cP I p → y + m = p 0 1 → m * 26 < n →
    ∃ I' : am_I, L_X10_prepare_25 n 0 I G (Int32.ofNat o) (Int32.ofNat seed) (Int32.ofNat sh) (Int32.ofNat (sh * 576 + y * p 0 0)) (Int32.ofNat y) 0 = some ((), am_up I' 27 sh 1, G) ∧ (∀ b, b ≠ 26 → I' b = I b) ∧
      ∀ j, I' 26 j = if sh * 576 + y * p 0 0 ≤ j ∧ j < sh * 576 + s_S p then s_v p o seed (j - sh * 576) else I 26 j := by
  have h0 := hp.1
  have hS := s_S_le hp
  intro m
  induction m with
  | zero =>
    intro y n I G h hk hn
    obtain ⟨n, rfl⟩ : ∃ n', n = n' + 1 := ⟨n - 1, by omega⟩
    have e : s_S p = y * p 0 0 := by unfold s_S; rw [show y = p 0 1 by omega, Nat.mul_comm]
    rw [L_X10_prepare_25_0, h.1.2.1, if_pos ((n_le (by omega) (by omega)).mpr (by omega)), n_gPut (by omega) (by omega)]
    exact ⟨I, rfl, fun b _ => rfl, fun j => by rw [e, if_neg (by omega)]⟩
  | succ m ih =>
    intro y n I G h hk hn
    obtain ⟨n, rfl⟩ : ∃ n', n = n' + 1 := ⟨n - 1, by omega⟩
    have hyC : y * p 0 0 + p 0 0 ≤ s_S p := by
      have : (y + 1) * p 0 0 ≤ p 0 1 * p 0 0 := Nat.mul_le_mul_right _ (by omega)
      rw [Nat.succ_mul] at this
      unfold s_S
      rw [Nat.mul_comm (p 0 0)]; exact this
    rw [L_X10_prepare_25_0, h.1.2.1, if_neg (fun z => absurd ((n_le (by omega) (by omega)).mp z) (by omega))]
    obtain ⟨I1, a1, a2, a3⟩ := c_prep1 hp ho hs (y := y) (by omega) hsh (p 0 0) 0 n I G h (by omega) (by omega)
    rw [Nat.add_zero] at a1
    rw [show (0 : Int32) = Int32.ofNat 0 from rfl] at a1 ⊢
    rw [a1]
    obtain ⟨I', b1, b2, b3⟩ := ih (y + 1) (n - p 0 0 - 1) I1 G (h.kept (fun b h1 h2 => a2 b (by omega))) (by omega) (by omega)
    rw [Nat.succ_mul] at b1 b3
    refine ⟨I', b1, fun b h1 => (b2 b h1).trans (a2 b h1), fun j => ?_⟩
    rw [b3, a3]
    by_cases h1 : sh * 576 + (y * p 0 0 + p 0 0) ≤ j ∧ j < sh * 576 + s_S p
    · rw [if_pos h1, if_pos (by omega)]
    · rw [if_neg h1]
      by_cases h2 : sh * 576 + (y * p 0 0 + 0) ≤ j ∧ j < sh * 576 + (y * p 0 0 + p 0 0)
      · rw [if_pos h2, if_pos (by omega)]
      · rw [if_neg h2, if_neg (by omega)]
/-- prepare -/
theorem c_prep {I : am_I} {G : am_G} (h : cP I p) (hp : p_ok p) (hW : cW I p) {o seed : Nat} (ho : o < p 0 2) (hs : seed ≤ 999) :
    ∃ I' : am_I, R_X10_prepare_25 I G (Int32.ofNat o) (Int32.ofNat seed) = some ((), I', G) ∧ (∀ b, b ≠ 26 → b ≠ 27 → I' b = I b) ∧ cW I' p ∧ ¬ I' 27 (o * 8 + seed % 8) = 0 ∧ ∀ j, ¬ I 27 j = 0 → ¬ I' 27 j = 0 := by
  have h0 := hp.1
  have hS := s_S_le hp
  have h8 := Nat.mod_lt seed (show 0 < 8 by omega)
  unfold R_X10_prepare_25
  rw [c_sheetOf (by omega) hs, n_gAt (by omega) (by omega)]
  by_cases hk : I 27 (o * 8 + seed % 8) = 0
  · rw [if_pos hk, show (576 : Int32) = Int32.ofNat 576 from rfl, n_mul]
    obtain ⟨I', b1, b2, b3⟩ := c_prep0 hp ho hs (sh := o * 8 + seed % 8) (by omega) (p 0 1) 0 FU I G h (by omega) (by unfold FU; omega)
    rw [Nat.zero_mul, Nat.add_zero] at b1 b3
    refine ⟨am_up I' 27 (o * 8 + seed % 8) 1, b1, fun b h1 h2 => (up_row _ _ _ h2).trans (b2 b h1), ?_, by rw [up_in, if_pos rfl]; decide, fun j hj => ?_⟩
    · intro o' ho' s hs' hkn k hkS
      rw [up_row _ _ _ (by omega), b3]
      by_cases he : o' * 8 + s = o * 8 + seed % 8
      · have e1 : o' = o := by omega
        have e2 : s = seed % 8 := by omega
        subst e1; subst e2
        rw [if_pos (by omega), show (o' * 8 + seed % 8) * 576 + k - (o' * 8 + seed % 8) * 576 = k by omega]
        exact (s_val_mod _ _ _ _ _ _ _).symm
      · rw [up_in, if_neg he, b2 27 (by omega)] at hkn
        rw [if_neg (by omega)]
        exact hW o' ho' s hs' hkn k hkS
    · rw [up_in]
      split
      · decide
      · rw [b2 27 (by omega)]; exact hj
  · rw [if_neg hk]
    exact ⟨I, rfl, fun b _ _ => rfl, hW, hk, fun j hj => hj⟩
end MW
/-! the sheet 53: shifts, whence, heights -/
def cT_53 (I : am_I) (p t : sP) : Prop := (I 53 10 = Int32.ofNat (t 0 0) ∧ I 53 11 = Int32.ofNat (t 0 1)) ∧ (∀ o, o < p 0 2 → I 56 o = Int32.ofNat (t 1 o)) ∧ (∀ c, c < p 0 3 → I 54 c = Int32.ofNat (t 2 c) ∧ ∀ l, l < s_lines p c → I 55 (c * 24 + l) = Int32.ofNat (s_shift p t c l))
theorem cT_53.kept {I I' : am_I} {p t : sP} (h : cT_53 I p t) (h1 : I' 53 10 = I 53 10 ∧ I' 53 11 = I 53 11) (hk : I' 54 = I 54 ∧ I' 55 = I 55 ∧ I' 56 = I 56) : cT_53 I' p t := by
  unfold cT_53
  rw [h1.1, h1.2, hk.1, hk.2.1, hk.2.2]
  exact h
/-- heights, inks and shares, if they are fresh -/
def cF_53 (I : am_I) (p t : sP) : Prop := ¬ I 53 14 = 0 → (∀ k, k < s_S p → I 57 k = s_ht p t k ∧ I 58 k = Int32.ofNat (s_ik p t k)) ∧ ∀ j, j ≤ p 0 4 → I 59 j = Int32.ofNat (s_shr p t j (s_S p))
section MC53
variable {p t : sP}
theorem c_rsL_53 {c lines teeth pull : Nat} (hc : c < 4) (hl : 4 ≤ lines ∧ lines ≤ 24) (ht : teeth ≤ 8) (hu : pull ≤ 16) : ∀ (m l n : Nat) (I : am_I) (G : am_G), l + m = lines → m < n →
    ∃ I' : am_I, L_X7_reckonShifts_53 n 0 I G (Int32.ofNat c) (Int32.ofNat lines) (Int32.ofNat teeth) (Int32.ofNat pull) (Int32.ofNat l) = some ((), I', G) ∧ (∀ b, b ≠ 55 → I' b = I b) ∧ ∀ j, I' 55 j = if c * 24 + l ≤ j ∧ j < c * 24 + lines then Int32.ofNat (s_sh lines teeth pull (j - c * 24)) else I 55 j := by
  intro m
  induction m with
  | zero =>
    intro l n I G hk hn
    obtain ⟨n, rfl⟩ : ∃ n', n = n' + 1 := ⟨n - 1, by omega⟩
    rw [L_X7_reckonShifts_53_0, if_pos ((n_le (by omega) (by omega)).mpr (by omega))]
    exact ⟨I, rfl, fun b _ => rfl, fun j => by rw [if_neg (by omega)]⟩
  | succ m ih =>
    intro l n I G hk hn
    obtain ⟨n, rfl⟩ : ∃ n', n = n' + 1 := ⟨n - 1, by omega⟩
    rw [L_X7_reckonShifts_53_0, if_neg (fun q => absurd ((n_le (by omega) (by omega)).mp q) (by omega))]
    have hlt : l * teeth ≤ 24 * 8 := Nat.mul_le_mul (by omega) ht
    have hm := Nat.mod_lt (l * teeth) (show 0 < lines by omega)
    have hsh := s_sh_b (teeth := teeth) (pull := pull) (line := l) (show 0 < lines by omega)
    have eW : gWr (Int32.ofNat l * Int32.ofNat teeth).toInt64.toInt (Int32.ofNat lines) = Int32.ofNat (l * teeth % lines) := by
      rw [n_l, n_mul, n_ti (by omega), n_gWr (by omega) (by omega), s_md_nat]
    have eV : gQu ((Int32.ofNat pull * (2 : Int32)) * (if (Int32.ofNat lines - Int32.ofNat (l * teeth % lines)) < Int32.ofNat (l * teeth % lines) then (Int32.ofNat lines - Int32.ofNat (l * teeth % lines)) else Int32.ofNat (l * teeth % lines))) (Int32.ofNat lines) = Int32.ofNat (s_sh lines teeth pull l) := by
      rw [n_sub (by omega), show (2 : Int32) = Int32.ofNat 2 from rfl, n_mul]
      unfold s_sh
      by_cases hq : lines - l * teeth % lines < l * teeth % lines
      · have hb : pull * 2 * (lines - l * teeth % lines) ≤ 32 * 24 := Nat.mul_le_mul (by omega) (by omega)
        rw [if_pos ((n_lt (by omega) (by omega)).mpr hq), if_pos hq, n_mul, n_gQu (by omega) (by omega) (by omega)]
      · have hb : pull * 2 * (l * teeth % lines) ≤ 32 * 24 := Nat.mul_le_mul (by omega) (by omega)
        rw [if_neg (fun z => hq ((n_lt (by omega) (by omega)).mp z)), if_neg hq, n_mul, n_gQu (by omega) (by omega) (by omega)]
    rw [eW, eV, show (24 : Int32) = Int32.ofNat 24 from rfl, n_mul, n_add, n_gPut (by omega) (by omega), n_inc]
    obtain ⟨I', h1, h2, h3⟩ := ih (l + 1) n (am_up I 55 (c * 24 + l) (Int32.ofNat (s_sh lines teeth pull l))) G (by omega) (by omega)
    refine ⟨I', h1, fun b hb => (h2 b hb).trans (up_row I _ _ hb), fun j => ?_⟩
    rw [h3 j, up_in]
    by_cases hj : j = c * 24 + l
    · subst hj
      rw [if_neg (by omega), if_pos rfl, if_pos (by omega), show c * 24 + l - c * 24 = l by omega]
    · rw [if_neg hj]
      by_cases hj2 : c * 24 + (l + 1) ≤ j ∧ j < c * 24 + lines
      · rw [if_pos hj2, if_pos (by omega)]
      · rw [if_neg hj2, if_neg (by omega)]
theorem c_rs_53 {I : am_I} {G : am_G} (h : cP I p) (hp : p_ok p) {c u : Nat} (hc : c < p 0 3) (hu : u ≤ 16) (hI : I 54 c = Int32.ofNat u) :
    ∃ I' : am_I, R_X7_reckonShifts_53 I G (Int32.ofNat c) = some ((), I', G) ∧ (∀ b, b ≠ 55 → I' b = I b) ∧ ∀ j, I' 55 j = if c * 24 ≤ j ∧ j < c * 24 + s_lines p c then Int32.ofNat (s_sh (s_lines p c) (p 5 c) u (j - c * 24)) else I 55 j := by
  have h0 := hp.1
  have h1 := hp.2.1 c
  have hl := s_lines_b hp c
  unfold R_X7_reckonShifts_53
  rw [c_lines h hp hc, n_gAt (by omega) (by omega), n_gAt (by omega) (by omega), (h.2.2.1 c hc).2.1, hI, n_0]
  exact c_rsL_53 (by omega) hl (by omega) hu (s_lines p c) 0 FU I G (by omega) (by unfold FU; omega)
theorem c_tpL_53 {u : Nat → Nat} (hp : p_ok p) (hu : ∀ c, u c ≤ 16) : ∀ (m c n : Nat) (I : am_I) (G : am_G), cP I p → (∀ c, c < p 0 3 → I 14 c = Int32.ofNat (u c)) → c + m = p 0 3 → m < n →
    ∃ I' : am_I, L_X7_takePulls_53_14 n 0 I G (Int32.ofNat c) = some ((), I', G) ∧ (∀ b, b ≠ 54 → b ≠ 55 → I' b = I b) ∧ (∀ c', c ≤ c' → c' < p 0 3 → I' 54 c' = Int32.ofNat (u c') ∧ ∀ l, l < s_lines p c' → I' 55 (c' * 24 + l) = Int32.ofNat (s_sh (s_lines p c') (p 5 c') (u c') l)) ∧ (∀ c', c' < c → I' 54 c' = I 54 c' ∧ ∀ l, l < 24 → I' 55 (c' * 24 + l) = I 55 (c' * 24 + l)) := by
  have h0 := hp.1
  intro m
  induction m with
  | zero =>
    intro c n I G h hI hk hn
    obtain ⟨n, rfl⟩ : ∃ n', n = n' + 1 := ⟨n - 1, by omega⟩
    rw [L_X7_takePulls_53_14_0, h.1.2.2.2.1, if_pos ((n_le (by omega) (by omega)).mpr (by omega))]
    exact ⟨I, rfl, fun b _ _ => rfl, fun c' h1 h2 => absurd h1 (by omega), fun c' _ => ⟨rfl, fun l _ => rfl⟩⟩
  | succ m ih =>
    intro c n I G h hI hk hn
    obtain ⟨n, rfl⟩ : ∃ n', n = n' + 1 := ⟨n - 1, by omega⟩
    rw [L_X7_takePulls_53_14_0, h.1.2.2.2.1, if_neg (fun q => absurd ((n_le (by omega) (by omega)).mp q) (by omega)), n_gAt (by omega) (by omega), hI c (by omega), n_gPut (by omega) (by omega)]
    have hA : cP (am_up I 54 c (Int32.ofNat (u c))) p := h.kept (fun b h1 h2 => up_row I _ _ (by omega))
    obtain ⟨I1, a1, a2, a3⟩ := c_rs_53 (G := G) hA hp (c := c) (by omega) (hu c) (am_up_self _ _ _ _)
    rw [a1, rb_go, n_inc]
    have hl := s_lines_b hp c
    obtain ⟨I', b1, b2, b3, b4⟩ := ih (c + 1) n I1 G (hA.kept (fun b h1 h2 => a2 b (by omega))) (fun c' hc' => by rw [a2 14 (by omega), up_row I _ _ (by omega)]; exact hI c' hc') (by omega) (by omega)
    refine ⟨I', b1, fun b h1 h2 => by rw [b2 b h1 h2, a2 b h2, up_row I _ _ h1], fun c' h1 h2 => ?_, fun c' h1 => ?_⟩
    · by_cases hcc : c' = c
      · subst hcc
        refine ⟨by rw [(b4 c' (by omega)).1, a2 54 (by omega), am_up_self], fun l hl2 => ?_⟩
        rw [(b4 c' (by omega)).2 l (by omega), a3, if_pos (by omega), show c' * 24 + l - c' * 24 = l by omega]
      · exact b3 c' (by omega) h2
    · refine ⟨by rw [(b4 c' (by omega)).1, a2 54 (by omega), am_up_k _ _ (by omega)], fun l hl2 => ?_⟩
      rw [(b4 c' (by omega)).2 l hl2, a3, if_neg (by omega), up_row I _ _ (by omega)]
/-- all pulls are taken, and the shifts reckoned -/
theorem c_tp_53 {I : am_I} {G : am_G} (h : cP I p) (hp : p_ok p) {u : Nat → Nat} (hu : ∀ c, u c ≤ 16) (hI : ∀ c, c < p 0 3 → I 14 c = Int32.ofNat (u c)) :
    ∃ I' : am_I, R_X7_takePulls_53_14 I G = some ((), I', G) ∧ (∀ b, b ≠ 54 → b ≠ 55 → I' b = I b) ∧ ∀ c, c < p 0 3 → I' 54 c = Int32.ofNat (u c) ∧ ∀ l, l < s_lines p c → I' 55 (c * 24 + l) = Int32.ofNat (s_sh (s_lines p c) (p 5 c) (u c) l) := by
  have h0 := hp.1
  obtain ⟨I', b1, b2, b3, b4⟩ := c_tpL_53 hp hu (p 0 3) 0 FU I G h hI (by omega) (by unfold FU; omega)
  exact ⟨I', b1, b2, fun c hc => b3 c (by omega) hc⟩
theorem c_shf_53 {I : am_I} {G : am_G} (hT : cT_53 I p t) (hp : p_ok p) {c l : Nat} (hc : c < p 0 3) (hl : l < s_lines p c) : f_X7_shiftOf_53 I G (Int32.ofNat c) (Int32.ofNat l) = Int32.ofNat (s_shift p t c l) := by
  have h0 := hp.1
  have h1 := s_lines_b hp c
  unfold f_X7_shiftOf_53
  rw [show (24 : Int32) = Int32.ofNat 24 from rfl, n_mul, n_add, n_gAt (by omega) (by omega), (hT.2.2 c hc).2 l hl]
theorem c_srcL_53 {I : am_I} {G : am_G} (h : cP I p) (hp : p_ok p) (hT : cT_53 I p t) (ht : t_ok p t) (v1 v2 : Int32) : ∀ (c n x y : Nat), c < n → c ≤ p 0 3 → x < p 0 0 → y < p 0 1 →
    L_X7_source_53 n 0 I G v1 v2 (Int32.ofNat x) (Int32.ofNat y) (Int32.ofNat c + (-1 : Int32)) = some (Int32.ofNat (s_md (((s_back p t c x y).2 : Int) - (t 0 1 : Int)) (p 0 1) * p 0 0 + s_md (((s_back p t c x y).1 : Int) - (t 0 0 : Int)) (p 0 0)), I, G) := by
  have h0 := hp.1
  intro c
  induction c with
  | zero =>
    intro n x y hn hc hx hy
    obtain ⟨n, rfl⟩ : ∃ n', n = n' + 1 := ⟨n - 1, by omega⟩
    rw [L_X7_source_53_0, if_pos (show Int32.ofNat 0 + (-1 : Int32) < 0 by decide), c_spot h hp, hT.1.1, hT.1.2, n_sti (by omega) (by have := ht.1; have := ht.2.1; omega), n_sti (by omega) (by have := ht.1; have := ht.2.1; omega)]
    rfl
  | succ c ih =>
    intro n x y hn hc hx hy
    obtain ⟨n, rfl⟩ : ∃ n', n = n' + 1 := ⟨n - 1, by omega⟩
    have h1 := hp.2.1 c
    rw [L_X7_source_53_0, n_decm, if_neg (n_nlt0 c (by omega)), n_gAt (by omega) (by omega), (h.2.2.1 c (by omega)).1, s_back]
    by_cases hw : p 4 c = 0
    · have hb := s_shift_b hp ht c y
      rw [if_pos (by rw [hw]; rfl), if_pos hw, c_shf_53 hT hp (by omega) (by unfold s_lines; rw [if_pos hw]; exact hy), n_l, n_sti (by omega) (by omega), h.1.1, n_gWr (by omega) (by omega)]
      exact ih n _ y (by omega) (by omega) (s_md_lt _ (by omega)) hy
    · have hb := s_shift_b hp ht c x
      rw [if_neg (by rw [n_0, n_eq (by omega) (by omega)]; exact hw), if_neg hw, c_shf_53 hT hp (by omega) (by unfold s_lines; rw [if_neg hw]; exact hx), n_l, n_sti (by omega) (by omega), h.1.2.1, n_gWr (by omega) (by omega)]
      exact ih n x _ (by omega) (by omega) hx (s_md_lt _ (by omega))
theorem c_src_53 {I : am_I} {G : am_G} (h : cP I p) (hp : p_ok p) (hT : cT_53 I p t) (ht : t_ok p t) (x y : Int32) : R_X7_source_53 I G x y = some (Int32.ofNat (s_src p t (s_md x.toInt (p 0 0)) (s_md y.toInt (p 0 1))), I, G) := by
  have h0 := hp.1
  unfold R_X7_source_53
  rw [n_l, n_l, h.1.1, h.1.2.1, n_gWr (by omega) (by omega), n_gWr (by omega) (by omega), h.1.2.2.2.1, Int32.sub_eq_add_neg, show -(1 : Int32) = (-1 : Int32) from rfl]
  exact c_srcL_53 h hp hT ht x y (p 0 3) FU _ _ (by unfold FU; omega) (Nat.le_refl _) (s_md_lt _ (by omega)) (s_md_lt _ (by omega))
/-- the values of all octaves are known -/
theorem c_hfL_53 {I : am_I} {G : am_G} (h : cP I p) (hp : p_ok p) (hT : cT_53 I p t) (ht : t_ok p t) (hW : cW I p) (hK : ∀ o, o < p 0 2 → ¬ I 27 (o * 8 + t 1 o % 8) = 0) {q : Nat} (hq : q < s_S p) : ∀ (m o n : Nat), o + m = p 0 2 → m < n →
    L_X7_heightFrom_53 n 0 I G (Int32.ofNat q) (s_sum p t q o) (Int32.ofNat o) = some (s_hq p t q, I, G) := by
  have h0 := hp.1
  have hS := s_S_le hp
  intro m
  induction m with
  | zero =>
    intro o n hk hn
    obtain ⟨n, rfl⟩ : ∃ n', n = n' + 1 := ⟨n - 1, by omega⟩
    rw [L_X7_heightFrom_53_0, h.1.2.2.1, if_pos ((n_le (by omega) (by omega)).mpr (by omega)), rg_pos (by decide), show o = p 0 2 by omega]
    rfl
  | succ m ih =>
    intro o n hk hn
    obtain ⟨n, rfl⟩ : ∃ n', n = n' + 1 := ⟨n - 1, by omega⟩
    have hs := (ht.2.2 o).1
    rw [L_X7_heightFrom_53_0, h.1.2.2.1, if_neg (fun z => absurd ((n_le (by omega) (by omega)).mp z) (by omega)), n_gAt (by omega) (by omega), (h.2.1 o (by omega)).2.2.1, n_gAt (by omega) (by omega), hT.2.1 o (by omega),
      c_kept hW hp (by omega) hs (hK o (by omega)) hq, n_inc]
    exact ih (o + 1) n (by omega) (by omega)
theorem c_hf_53 {I : am_I} {G : am_G} (h : cP I p) (hp : p_ok p) (hT : cT_53 I p t) (ht : t_ok p t) (hW : cW I p) (hK : ∀ o, o < p 0 2 → ¬ I 27 (o * 8 + t 1 o % 8) = 0) {q : Nat} (hq : q < s_S p) : R_X7_heightFrom_53 I G (Int32.ofNat q) = some (s_hq p t q, I, G) := by
  have h0 := hp.1
  exact c_hfL_53 h hp hT ht hW hK hq (p 0 2) 0 FU (by omega) (by unfold FU; omega)
theorem c_rf0_53 (hp : p_ok p) (ht : t_ok p t) : ∀ (m o n : Nat) (I : am_I) (G : am_G), cP I p → cT_53 I p t → cW I p → (∀ o', o' < o → ¬ I 27 (o' * 8 + t 1 o' % 8) = 0) → o + m = p 0 2 → m < n →
    ∃ I' : am_I, L_X7_refresh_53 n 0 I G (Int32.ofNat o) 0 0 = L_X7_refresh_53 (n - m - 1) 1 I' G 0 0 0 ∧ (∀ b, b ≠ 26 → b ≠ 27 → I' b = I b) ∧ cW I' p ∧ ∀ o', o' < p 0 2 → ¬ I' 27 (o' * 8 + t 1 o' % 8) = 0 := by
  have h0 := hp.1
  intro m
  induction m with
  | zero =>
    intro o n I G h hT hW hK hk hn
    obtain ⟨n, rfl⟩ : ∃ n', n = n' + 1 := ⟨n - 1, by omega⟩
    rw [L_X7_refresh_53_0, h.1.2.2.1, if_pos ((n_le (by omega) (by omega)).mpr (by omega)), show n + 1 - 0 - 1 = n by omega]
    exact ⟨I, rfl, fun b _ _ => rfl, hW, fun o' ho => hK o' (by omega)⟩
  | succ m ih =>
    intro o n I G h hT hW hK hk hn
    obtain ⟨n, rfl⟩ : ∃ n', n = n' + 1 := ⟨n - 1, by omega⟩
    have hs := (ht.2.2 o).1
    rw [L_X7_refresh_53_0, h.1.2.2.1, if_neg (fun z => absurd ((n_le (by omega) (by omega)).mp z) (by omega)), n_gAt (by omega) (by omega), hT.2.1 o (by omega)]
    obtain ⟨I1, a1, a2, a3, a4, a5⟩ := c_prep (G := G) h hp hW (o := o) (seed := t 1 o) (by omega) hs
    rw [a1, rb_go, n_inc]
    obtain ⟨I', b1, b2, b3, b4⟩ := ih (o + 1) n I1 G (h.kept (fun b h1 h2 => a2 b (by omega) (by omega))) (hT.kept ⟨by rw [a2 53 (by omega) (by omega)], by rw [a2 53 (by omega) (by omega)]⟩ ⟨a2 _ (by omega) (by omega), a2 _ (by omega) (by omega), a2 _ (by omega) (by omega)⟩) a3 (fun o' ho' => by
      by_cases he : o' = o
      · subst he; exact a4
      · exact a5 _ (hK o' (by omega))) (by omega) (by omega)
    refine ⟨I', by rw [b1, show n + 1 - (m + 1) - 1 = n - m - 1 by omega], fun b h1 h2 => (b2 b h1 h2).trans (a2 b h1 h2), b3, b4⟩
theorem c_rf1_53 : ∀ (m j n : Nat) (I : am_I) (G : am_G), j + m = 6 → m < n →
    ∃ I' : am_I, L_X7_refresh_53 n 1 I G (Int32.ofNat j) 0 0 = L_X7_refresh_53 (n - m - 1) 2 I' G 0 0 0 ∧ (∀ b, b ≠ 59 → I' b = I b) ∧ ∀ i, I' 59 i = if j ≤ i ∧ i < 6 then 0 else I 59 i := by
  intro m
  induction m with
  | zero =>
    intro j n I G hk hn
    obtain ⟨n, rfl⟩ : ∃ n', n = n' + 1 := ⟨n - 1, by omega⟩
    rw [L_X7_refresh_53_1, if_pos ((n_le (by omega) (by omega)).mpr (by omega)), show n + 1 - 0 - 1 = n by omega]
    exact ⟨I, rfl, fun b _ => rfl, fun i => by rw [if_neg (by omega)]⟩
  | succ m ih =>
    intro j n I G hk hn
    obtain ⟨n, rfl⟩ : ∃ n', n = n' + 1 := ⟨n - 1, by omega⟩
    rw [L_X7_refresh_53_1, if_neg (fun z => absurd ((n_le (by omega) (by omega)).mp z) (by omega)), rg_pos ((n_in (by omega)).mpr (by omega)), n_cl (by omega), n_inc]
    obtain ⟨I', b1, b2, b3⟩ := ih (j + 1) n (am_up I 59 j 0) G (by omega) (by omega)
    refine ⟨I', by rw [b1, show n + 1 - (m + 1) - 1 = n - m - 1 by omega], fun b h1 => (b2 b h1).trans (up_row I _ _ h1), fun i => ?_⟩
    rw [b3, up_in]
    by_cases hi : i = j
    · rw [if_neg (by omega), if_pos hi, if_pos (by omega)]
    · rw [if_neg hi]
      by_cases h2 : j + 1 ≤ i ∧ i < 6
      · rw [if_pos h2, if_pos (by omega)]
      · rw [if_neg h2, if_neg (by omega)]
/-- what is known of the first k spots -/
def cG_53 (I : am_I) (p t : sP) (k : Nat) : Prop := (∀ j, j < k → I 57 j = s_ht p t j ∧ I 58 j = Int32.ofNat (s_ik p t j)) ∧ ∀ j, j < 6 → I 59 j = Int32.ofNat (s_shr p t j k)
theorem c_rf3_53 (hp : p_ok p) (ht : t_ok p t) {y : Nat} (hy : y < p 0 1) : ∀ (m x n : Nat) (I : am_I) (G : am_G), cP I p → cT_53 I p t → cW I p → (∀ o', o' < p 0 2 → ¬ I 27 (o' * 8 + t 1 o' % 8) = 0) → cG_53 I p t (y * p 0 0 + x) → x + m = p 0 0 → m < n →
    ∃ I' : am_I, L_X7_refresh_53 n 3 I G (Int32.ofNat (y * p 0 0 + x)) (Int32.ofNat y) (Int32.ofNat x) = L_X7_refresh_53 (n - m - 1) 2 I' G (Int32.ofNat (y * p 0 0 + p 0 0)) (Int32.ofNat (y + 1)) 0 ∧ (∀ b, b ≠ 57 → b ≠ 58 → b ≠ 59 → I' b = I b) ∧ cG_53 I' p t (y * p 0 0 + p 0 0) := by
  have h0 := hp.1
  have hS := s_S_le hp
  have hyC : y * p 0 0 + p 0 0 ≤ s_S p := by
    have : (y + 1) * p 0 0 ≤ p 0 1 * p 0 0 := Nat.mul_le_mul_right _ hy
    rw [Nat.succ_mul] at this
    unfold s_S
    rw [Nat.mul_comm (p 0 0)]; exact this
  intro m
  induction m with
  | zero =>
    intro x n I G h hT hW hK hG hk hn
    obtain ⟨n, rfl⟩ : ∃ n', n = n' + 1 := ⟨n - 1, by omega⟩
    have hx : x = p 0 0 := by omega
    rw [L_X7_refresh_53_3, h.1.1, if_pos ((n_le (by omega) (by omega)).mpr (by omega)), n_inc, show n + 1 - 0 - 1 = n by omega, hx]
    exact ⟨I, rfl, fun b _ _ _ => rfl, by rw [hx] at hG; exact hG⟩
  | succ m ih =>
    intro x n I G h hT hW hK hG hk hn
    obtain ⟨n, rfl⟩ : ∃ n', n = n' + 1 := ⟨n - 1, by omega⟩
    have hx : x < p 0 0 := by omega
    obtain ⟨dm1, dm2⟩ := s_dm (y := y) hx
    have hsr := s_src_b (t := t) hp x y
    have hin : s_cnt p (s_hq p t (s_src p t x y)) (p 0 4) ≤ p 0 4 := s_cnt_b _ _ _
    have e1 : s_hq p t (s_src p t x y) = s_ht p t (y * p 0 0 + x) := by unfold s_ht; rw [dm1, dm2]
    have e2 : s_cnt p (s_ht p t (y * p 0 0 + x)) (p 0 4) = s_ik p t (y * p 0 0 + x) := rfl
    rw [L_X7_refresh_53_3, h.1.1, if_neg (fun z => absurd ((n_le (by omega) (by omega)).mp z) (by omega)), c_src_53 h hp hT ht, n_ti (by omega), n_ti (by omega), s_md_id hx, s_md_id hy, rb_go, c_hf_53 h hp hT ht hW hK hsr, rb_go, c_ink h hp, rb_go]
    rw [e1] at hin ⊢
    rw [e2] at hin ⊢
    have hb := s_shr_b p t (s_ik p t (y * p 0 0 + x)) (y * p 0 0 + x)
    rw [n_gPut (a := 57) (by omega) (by omega), n_gPut (a := 58) (by omega) (by omega), n_gAt (by omega) (by omega), up_row _ _ _ (by omega), up_row _ _ _ (by omega), hG.2 _ (by omega), n_gPut (a := 59) (by omega) (by omega), n_inc, n_inc, n_inc]
    obtain ⟨I', b1, b2, b3⟩ := ih (x + 1) n (am_up (am_up (am_up I 57 (y * p 0 0 + x) (s_ht p t (y * p 0 0 + x))) 58 (y * p 0 0 + x) (Int32.ofNat (s_ik p t (y * p 0 0 + x)))) 59 (s_ik p t (y * p 0 0 + x)) (Int32.ofNat (s_shr p t (s_ik p t (y * p 0 0 + x)) (y * p 0 0 + x) + 1))) G
      (h.kept (fun b h1 h2 => by rw [up_row _ _ _ (by omega), up_row _ _ _ (by omega), up_row _ _ _ (by omega)]))
      (hT.kept ⟨by rw [up_row _ _ _ (by omega), up_row _ _ _ (by omega), up_row _ _ _ (by omega)], by rw [up_row _ _ _ (by omega), up_row _ _ _ (by omega), up_row _ _ _ (by omega)]⟩ ⟨by rw [up_row _ _ _ (by omega), up_row _ _ _ (by omega), up_row _ _ _ (by omega)], by rw [up_row _ _ _ (by omega), up_row _ _ _ (by omega), up_row _ _ _ (by omega)], by rw [up_row _ _ _ (by omega), up_row _ _ _ (by omega), up_row _ _ _ (by omega)]⟩)
      (hW.kept (by rw [up_row _ _ _ (by omega), up_row _ _ _ (by omega), up_row _ _ _ (by omega)]) (by rw [up_row _ _ _ (by omega), up_row _ _ _ (by omega), up_row _ _ _ (by omega)]))
      (fun o' ho => by rw [up_row _ _ _ (by omega), up_row _ _ _ (by omega), up_row _ _ _ (by omega)]; exact hK o' ho)
      ⟨fun j hj => by
        refine ⟨?_, ?_⟩
        · rw [up_row _ _ _ (by omega), up_row _ _ _ (by omega), up_in]
          by_cases hjj : j = y * p 0 0 + x
          · rw [if_pos hjj, hjj]
          · rw [if_neg hjj]; exact (hG.1 j (by omega)).1
        · rw [up_row _ _ _ (by omega), up_in]
          by_cases hjj : j = y * p 0 0 + x
          · rw [if_pos hjj, hjj]
          · rw [if_neg hjj, up_row _ _ _ (by omega)]; exact (hG.1 j (by omega)).2,
       fun j hj => by
        rw [up_in, show y * p 0 0 + (x + 1) = (y * p 0 0 + x) + 1 by omega, s_shr]
        by_cases hjj : j = s_ik p t (y * p 0 0 + x)
        · subst hjj; rw [if_pos rfl, if_pos rfl]
        · rw [if_neg hjj, if_neg (fun z => hjj z.symm), up_row _ _ _ (by omega), up_row _ _ _ (by omega)]; exact hG.2 j hj⟩ (by omega) (by omega)
    refine ⟨I', ?_, fun b h1 h2 h3 => by rw [b2 b h1 h2 h3, up_row _ _ _ h3, up_row _ _ _ h2, up_row _ _ _ h1], b3⟩
    rw [show y * p 0 0 + x + 1 = y * p 0 0 + (x + 1) by omega, b1, show n + 1 - (m + 1) - 1 = n - m - 1 by omega]
theorem c_rf2_53 (hp : p_ok p) (ht : t_ok p t) : ∀ (m y n : Nat) (I : am_I) (G : am_G), cP I p → cT_53 I p t → cW I p → (∀ o', o' < p 0 2 → ¬ I 27 (o' * 8 + t 1 o' % 8) = 0) → cG_53 I p t (y * p 0 0) → y + m = p 0 1 → m * 26 < n →
    ∃ I' : am_I, L_X7_refresh_53 n 2 I G (Int32.ofNat (y * p 0 0)) (Int32.ofNat y) 0 = some ((), am_up I' 53 14 1, G) ∧ (∀ b, b ≠ 57 → b ≠ 58 → b ≠ 59 → I' b = I b) ∧ cG_53 I' p t (s_S p) := by
  have h0 := hp.1
  intro m
  induction m with
  | zero =>
    intro y n I G h hT hW hK hG hk hn
    obtain ⟨n, rfl⟩ : ∃ n', n = n' + 1 := ⟨n - 1, by omega⟩
    rw [L_X7_refresh_53_2, h.1.2.1, if_pos ((n_le (by omega) (by omega)).mpr (by omega)), rg_pos (Or.inr rfl)]
    refine ⟨I, rfl, fun b _ _ _ => rfl, ?_⟩
    rw [show s_S p = y * p 0 0 by unfold s_S; rw [show y = p 0 1 by omega, Nat.mul_comm]]
    exact hG
  | succ m ih =>
    intro y n I G h hT hW hK hG hk hn
    obtain ⟨n, rfl⟩ : ∃ n', n = n' + 1 := ⟨n - 1, by omega⟩
    rw [L_X7_refresh_53_2, h.1.2.1, if_neg (fun z => absurd ((n_le (by omega) (by omega)).mp z) (by omega))]
    obtain ⟨I1, a1, a2, a3⟩ := c_rf3_53 hp ht (y := y) (by omega) (p 0 0) 0 n I G h hT hW hK hG (by omega) (by omega)
    rw [show (0 : Int32) = Int32.ofNat 0 from rfl] at a1 ⊢
    rw [Nat.add_zero] at a1
    rw [a1]
    obtain ⟨I', b1, b2, b3⟩ := ih (y + 1) (n - p 0 0 - 1) I1 G (h.kept (fun b h1 h2 => a2 b (by omega) (by omega) (by omega))) (hT.kept ⟨by rw [a2 53 (by omega) (by omega) (by omega)], by rw [a2 53 (by omega) (by omega) (by omega)]⟩ ⟨a2 _ (by omega) (by omega) (by omega), a2 _ (by omega) (by omega) (by omega), a2 _ (by omega) (by omega) (by omega)⟩)
      (hW.kept (a2 _ (by omega) (by omega) (by omega)) (a2 _ (by omega) (by omega) (by omega))) (fun o' ho => by rw [a2 27 (by omega) (by omega) (by omega)]; exact hK o' ho) (by rw [Nat.succ_mul]; exact a3) (by omega) (by omega)
    rw [Nat.succ_mul] at b1
    exact ⟨I', b1, fun b h1 h2 h3 => (b2 b h1 h2 h3).trans (a2 b h1 h2 h3), b3⟩
/-- refresh -/
theorem c_rf_53 {I : am_I} {G : am_G} (h : cP I p) (hp : p_ok p) (hT : cT_53 I p t) (ht : t_ok p t) (hW : cW I p) (hF : cF_53 I p t) :
    ∃ I' : am_I, R_X7_refresh_53 I G = some ((), I', G) ∧ (∀ b, b ≠ 26 → b ≠ 27 → b ≠ 57 → b ≠ 58 → b ≠ 59 → b ≠ 53 → I' b = I b) ∧ (∀ k, k ≠ 14 → I' 53 k = I 53 k) ∧ cW I' p ∧ cF_53 I' p t ∧ ¬ I' 53 14 = 0 ∧ (¬ I 53 14 = 0 → I' = I) := by
  have h0 := hp.1
  unfold R_X7_refresh_53
  by_cases hf : I 53 14 = 0
  · rw [if_pos hf]
    obtain ⟨I1, a1, a2, a3, a4⟩ := c_rf0_53 hp ht (p 0 2) 0 FU I G h hT hW (fun o' ho => absurd ho (by omega)) (by omega) (by unfold FU; omega)
    obtain ⟨I2, b1, b2, b3⟩ := c_rf1_53 6 0 (FU - p 0 2 - 1) I1 G (by omega) (by unfold FU; omega)
    have h2 : ∀ b, b ≠ 26 → b ≠ 27 → b ≠ 59 → I2 b = I b := fun b z1 z2 z3 => (b2 b z3).trans (a2 b z1 z2)
    obtain ⟨I3, d1, d2, d3⟩ := c_rf2_53 hp ht (p 0 1) 0 (FU - p 0 2 - 1 - 6 - 1) I2 G (h.kept (fun b z1 z2 => h2 b (by omega) (by omega) (by omega))) (hT.kept ⟨by rw [h2 53 (by omega) (by omega) (by omega)], by rw [h2 53 (by omega) (by omega) (by omega)]⟩ ⟨h2 _ (by omega) (by omega) (by omega), h2 _ (by omega) (by omega) (by omega), h2 _ (by omega) (by omega) (by omega)⟩)
      (a3.kept (b2 _ (by omega)) (b2 _ (by omega))) (fun o' ho => by rw [b2 27 (by omega)]; exact a4 o' ho) ⟨fun j hj => absurd hj (by omega), fun j hj => by rw [b3, if_pos (by omega), Nat.zero_mul]; rfl⟩ (by omega) (by unfold FU; omega)
    rw [Nat.zero_mul] at d1
    refine ⟨am_up I3 53 14 1, ?_, fun b z1 z2 z3 z4 z5 z6 => by rw [up_row _ _ _ z6, d2 b z3 z4 z5, h2 b z1 z2 z5], fun k hk => by rw [up_in, if_neg hk, d2 53 (by omega) (by omega) (by omega), h2 53 (by omega) (by omega) (by omega)], ?_, ?_, ?_, fun z => absurd hf z⟩
    · exact a1.trans (b1.trans d1)
    · exact (a3.kept (b2 _ (by omega)) (b2 _ (by omega))).kept (by rw [up_row _ _ _ (by omega), d2 _ (by omega) (by omega) (by omega)]) (by rw [up_row _ _ _ (by omega), d2 _ (by omega) (by omega) (by omega)])
    · intro _
      refine ⟨fun k hk => ?_, fun j hj => ?_⟩
      · rw [up_row _ _ _ (by omega), up_row _ _ _ (by omega)]; exact d3.1 k hk
      · rw [up_row _ _ _ (by omega)]; exact d3.2 j (by omega)
    · rw [up_in, if_pos rfl]; decide
  · rw [if_neg hf]
    exact ⟨I, rfl, fun b _ _ _ _ _ _ => rfl, fun k _ => rfl, hW, hF, hf, fun _ => rfl⟩
end MC53
/-! the sheet 66: shifts, whence, heights -/
def cT_66 (I : am_I) (p t : sP) : Prop := (I 66 10 = Int32.ofNat (t 0 0) ∧ I 66 11 = Int32.ofNat (t 0 1)) ∧ (∀ o, o < p 0 2 → I 69 o = Int32.ofNat (t 1 o)) ∧ (∀ c, c < p 0 3 → I 67 c = Int32.ofNat (t 2 c) ∧ ∀ l, l < s_lines p c → I 68 (c * 24 + l) = Int32.ofNat (s_shift p t c l))
theorem cT_66.kept {I I' : am_I} {p t : sP} (h : cT_66 I p t) (h1 : I' 66 10 = I 66 10 ∧ I' 66 11 = I 66 11) (hk : I' 67 = I 67 ∧ I' 68 = I 68 ∧ I' 69 = I 69) : cT_66 I' p t := by
  unfold cT_66
  rw [h1.1, h1.2, hk.1, hk.2.1, hk.2.2]
  exact h
/-- heights, inks and shares, if they are fresh -/
def cF_66 (I : am_I) (p t : sP) : Prop := ¬ I 66 14 = 0 → (∀ k, k < s_S p → I 70 k = s_ht p t k ∧ I 71 k = Int32.ofNat (s_ik p t k)) ∧ ∀ j, j ≤ p 0 4 → I 72 j = Int32.ofNat (s_shr p t j (s_S p))
section MC66
variable {p t : sP}
theorem c_rsL_66 {c lines teeth pull : Nat} (hc : c < 4) (hl : 4 ≤ lines ∧ lines ≤ 24) (ht : teeth ≤ 8) (hu : pull ≤ 16) : ∀ (m l n : Nat) (I : am_I) (G : am_G), l + m = lines → m < n →
    ∃ I' : am_I, L_X7_reckonShifts_66 n 0 I G (Int32.ofNat c) (Int32.ofNat lines) (Int32.ofNat teeth) (Int32.ofNat pull) (Int32.ofNat l) = some ((), I', G) ∧ (∀ b, b ≠ 68 → I' b = I b) ∧ ∀ j, I' 68 j = if c * 24 + l ≤ j ∧ j < c * 24 + lines then Int32.ofNat (s_sh lines teeth pull (j - c * 24)) else I 68 j := by
  intro m
  induction m with
  | zero =>
    intro l n I G hk hn
    obtain ⟨n, rfl⟩ : ∃ n', n = n' + 1 := ⟨n - 1, by omega⟩
    rw [L_X7_reckonShifts_66_0, if_pos ((n_le (by omega) (by omega)).mpr (by omega))]
    exact ⟨I, rfl, fun b _ => rfl, fun j => by rw [if_neg (by omega)]⟩
  | succ m ih =>
    intro l n I G hk hn
    obtain ⟨n, rfl⟩ : ∃ n', n = n' + 1 := ⟨n - 1, by omega⟩
    rw [L_X7_reckonShifts_66_0, if_neg (fun q => absurd ((n_le (by omega) (by omega)).mp q) (by omega))]
    have hlt : l * teeth ≤ 24 * 8 := Nat.mul_le_mul (by omega) ht
    have hm := Nat.mod_lt (l * teeth) (show 0 < lines by omega)
    have hsh := s_sh_b (teeth := teeth) (pull := pull) (line := l) (show 0 < lines by omega)
    have eW : gWr (Int32.ofNat l * Int32.ofNat teeth).toInt64.toInt (Int32.ofNat lines) = Int32.ofNat (l * teeth % lines) := by
      rw [n_l, n_mul, n_ti (by omega), n_gWr (by omega) (by omega), s_md_nat]
    have eV : gQu ((Int32.ofNat pull * (2 : Int32)) * (if (Int32.ofNat lines - Int32.ofNat (l * teeth % lines)) < Int32.ofNat (l * teeth % lines) then (Int32.ofNat lines - Int32.ofNat (l * teeth % lines)) else Int32.ofNat (l * teeth % lines))) (Int32.ofNat lines) = Int32.ofNat (s_sh lines teeth pull l) := by
      rw [n_sub (by omega), show (2 : Int32) = Int32.ofNat 2 from rfl, n_mul]
      unfold s_sh
      by_cases hq : lines - l * teeth % lines < l * teeth % lines
      · have hb : pull * 2 * (lines - l * teeth % lines) ≤ 32 * 24 := Nat.mul_le_mul (by omega) (by omega)
        rw [if_pos ((n_lt (by omega) (by omega)).mpr hq), if_pos hq, n_mul, n_gQu (by omega) (by omega) (by omega)]
      · have hb : pull * 2 * (l * teeth % lines) ≤ 32 * 24 := Nat.mul_le_mul (by omega) (by omega)
        rw [if_neg (fun z => hq ((n_lt (by omega) (by omega)).mp z)), if_neg hq, n_mul, n_gQu (by omega) (by omega) (by omega)]
    rw [eW, eV, show (24 : Int32) = Int32.ofNat 24 from rfl, n_mul, n_add, n_gPut (by omega) (by omega), n_inc]
    obtain ⟨I', h1, h2, h3⟩ := ih (l + 1) n (am_up I 68 (c * 24 + l) (Int32.ofNat (s_sh lines teeth pull l))) G (by omega) (by omega)
    refine ⟨I', h1, fun b hb => (h2 b hb).trans (up_row I _ _ hb), fun j => ?_⟩
    rw [h3 j, up_in]
    by_cases hj : j = c * 24 + l
    · subst hj
      rw [if_neg (by omega), if_pos rfl, if_pos (by omega), show c * 24 + l - c * 24 = l by omega]
    · rw [if_neg hj]
      by_cases hj2 : c * 24 + (l + 1) ≤ j ∧ j < c * 24 + lines
      · rw [if_pos hj2, if_pos (by omega)]
      · rw [if_neg hj2, if_neg (by omega)]
theorem c_rs_66 {I : am_I} {G : am_G} (h : cP I p) (hp : p_ok p) {c u : Nat} (hc : c < p 0 3) (hu : u ≤ 16) (hI : I 67 c = Int32.ofNat u) :
    ∃ I' : am_I, R_X7_reckonShifts_66 I G (Int32.ofNat c) = some ((), I', G) ∧ (∀ b, b ≠ 68 → I' b = I b) ∧ ∀ j, I' 68 j = if c * 24 ≤ j ∧ j < c * 24 + s_lines p c then Int32.ofNat (s_sh (s_lines p c) (p 5 c) u (j - c * 24)) else I 68 j := by
  have h0 := hp.1
  have h1 := hp.2.1 c
  have hl := s_lines_b hp c
  unfold R_X7_reckonShifts_66
  rw [c_lines h hp hc, n_gAt (by omega) (by omega), n_gAt (by omega) (by omega), (h.2.2.1 c hc).2.1, hI, n_0]
  exact c_rsL_66 (by omega) hl (by omega) hu (s_lines p c) 0 FU I G (by omega) (by unfold FU; omega)
theorem c_tpL_66 {u : Nat → Nat} (hp : p_ok p) (hu : ∀ c, u c ≤ 16) : ∀ (m c n : Nat) (I : am_I) (G : am_G), cP I p → (∀ c, c < p 0 3 → I 54 c = Int32.ofNat (u c)) → c + m = p 0 3 → m < n →
    ∃ I' : am_I, L_X7_takePulls_66_54 n 0 I G (Int32.ofNat c) = some ((), I', G) ∧ (∀ b, b ≠ 67 → b ≠ 68 → I' b = I b) ∧ (∀ c', c ≤ c' → c' < p 0 3 → I' 67 c' = Int32.ofNat (u c') ∧ ∀ l, l < s_lines p c' → I' 68 (c' * 24 + l) = Int32.ofNat (s_sh (s_lines p c') (p 5 c') (u c') l)) ∧ (∀ c', c' < c → I' 67 c' = I 67 c' ∧ ∀ l, l < 24 → I' 68 (c' * 24 + l) = I 68 (c' * 24 + l)) := by
  have h0 := hp.1
  intro m
  induction m with
  | zero =>
    intro c n I G h hI hk hn
    obtain ⟨n, rfl⟩ : ∃ n', n = n' + 1 := ⟨n - 1, by omega⟩
    rw [L_X7_takePulls_66_54_0, h.1.2.2.2.1, if_pos ((n_le (by omega) (by omega)).mpr (by omega))]
    exact ⟨I, rfl, fun b _ _ => rfl, fun c' h1 h2 => absurd h1 (by omega), fun c' _ => ⟨rfl, fun l _ => rfl⟩⟩
  | succ m ih =>
    intro c n I G h hI hk hn
    obtain ⟨n, rfl⟩ : ∃ n', n = n' + 1 := ⟨n - 1, by omega⟩
    rw [L_X7_takePulls_66_54_0, h.1.2.2.2.1, if_neg (fun q => absurd ((n_le (by omega) (by omega)).mp q) (by omega)), n_gAt (by omega) (by omega), hI c (by omega), n_gPut (by omega) (by omega)]
    have hA : cP (am_up I 67 c (Int32.ofNat (u c))) p := h.kept (fun b h1 h2 => up_row I _ _ (by omega))
    obtain ⟨I1, a1, a2, a3⟩ := c_rs_66 (G := G) hA hp (c := c) (by omega) (hu c) (am_up_self _ _ _ _)
    rw [a1, rb_go, n_inc]
    have hl := s_lines_b hp c
    obtain ⟨I', b1, b2, b3, b4⟩ := ih (c + 1) n I1 G (hA.kept (fun b h1 h2 => a2 b (by omega))) (fun c' hc' => by rw [a2 54 (by omega), up_row I _ _ (by omega)]; exact hI c' hc') (by omega) (by omega)
    refine ⟨I', b1, fun b h1 h2 => by rw [b2 b h1 h2, a2 b h2, up_row I _ _ h1], fun c' h1 h2 => ?_, fun c' h1 => ?_⟩
    · by_cases hcc : c' = c
      · subst hcc
        refine ⟨by rw [(b4 c' (by omega)).1, a2 67 (by omega), am_up_self], fun l hl2 => ?_⟩
        rw [(b4 c' (by omega)).2 l (by omega), a3, if_pos (by omega), show c' * 24 + l - c' * 24 = l by omega]
      · exact b3 c' (by omega) h2
    · refine ⟨by rw [(b4 c' (by omega)).1, a2 67 (by omega), am_up_k _ _ (by omega)], fun l hl2 => ?_⟩
      rw [(b4 c' (by omega)).2 l hl2, a3, if_neg (by omega), up_row I _ _ (by omega)]
/-- all pulls are taken, and the shifts reckoned -/
theorem c_tp_66 {I : am_I} {G : am_G} (h : cP I p) (hp : p_ok p) {u : Nat → Nat} (hu : ∀ c, u c ≤ 16) (hI : ∀ c, c < p 0 3 → I 54 c = Int32.ofNat (u c)) :
    ∃ I' : am_I, R_X7_takePulls_66_54 I G = some ((), I', G) ∧ (∀ b, b ≠ 67 → b ≠ 68 → I' b = I b) ∧ ∀ c, c < p 0 3 → I' 67 c = Int32.ofNat (u c) ∧ ∀ l, l < s_lines p c → I' 68 (c * 24 + l) = Int32.ofNat (s_sh (s_lines p c) (p 5 c) (u c) l) := by
  have h0 := hp.1
  obtain ⟨I', b1, b2, b3, b4⟩ := c_tpL_66 hp hu (p 0 3) 0 FU I G h hI (by omega) (by unfold FU; omega)
  exact ⟨I', b1, b2, fun c hc => b3 c (by omega) hc⟩
theorem c_shf_66 {I : am_I} {G : am_G} (hT : cT_66 I p t) (hp : p_ok p) {c l : Nat} (hc : c < p 0 3) (hl : l < s_lines p c) : f_X7_shiftOf_66 I G (Int32.ofNat c) (Int32.ofNat l) = Int32.ofNat (s_shift p t c l) := by
  have h0 := hp.1
  have h1 := s_lines_b hp c
  unfold f_X7_shiftOf_66
  rw [show (24 : Int32) = Int32.ofNat 24 from rfl, n_mul, n_add, n_gAt (by omega) (by omega), (hT.2.2 c hc).2 l hl]
theorem c_srcL_66 {I : am_I} {G : am_G} (h : cP I p) (hp : p_ok p) (hT : cT_66 I p t) (ht : t_ok p t) (v1 v2 : Int32) : ∀ (c n x y : Nat), c < n → c ≤ p 0 3 → x < p 0 0 → y < p 0 1 →
    L_X7_source_66 n 0 I G v1 v2 (Int32.ofNat x) (Int32.ofNat y) (Int32.ofNat c + (-1 : Int32)) = some (Int32.ofNat (s_md (((s_back p t c x y).2 : Int) - (t 0 1 : Int)) (p 0 1) * p 0 0 + s_md (((s_back p t c x y).1 : Int) - (t 0 0 : Int)) (p 0 0)), I, G) := by
  have h0 := hp.1
  intro c
  induction c with
  | zero =>
    intro n x y hn hc hx hy
    obtain ⟨n, rfl⟩ : ∃ n', n = n' + 1 := ⟨n - 1, by omega⟩
    rw [L_X7_source_66_0, if_pos (show Int32.ofNat 0 + (-1 : Int32) < 0 by decide), c_spot h hp, hT.1.1, hT.1.2, n_sti (by omega) (by have := ht.1; have := ht.2.1; omega), n_sti (by omega) (by have := ht.1; have := ht.2.1; omega)]
    rfl
  | succ c ih =>
    intro n x y hn hc hx hy
    obtain ⟨n, rfl⟩ : ∃ n', n = n' + 1 := ⟨n - 1, by omega⟩
    have h1 := hp.2.1 c
    rw [L_X7_source_66_0, n_decm, if_neg (n_nlt0 c (by omega)), n_gAt (by omega) (by omega), (h.2.2.1 c (by omega)).1, s_back]
    by_cases hw : p 4 c = 0
    · have hb := s_shift_b hp ht c y
      rw [if_pos (by rw [hw]; rfl), if_pos hw, c_shf_66 hT hp (by omega) (by unfold s_lines; rw [if_pos hw]; exact hy), n_l, n_sti (by omega) (by omega), h.1.1, n_gWr (by omega) (by omega)]
      exact ih n _ y (by omega) (by omega) (s_md_lt _ (by omega)) hy
    · have hb := s_shift_b hp ht c x
      rw [if_neg (by rw [n_0, n_eq (by omega) (by omega)]; exact hw), if_neg hw, c_shf_66 hT hp (by omega) (by unfold s_lines; rw [if_neg hw]; exact hx), n_l, n_sti (by omega) (by omega), h.1.2.1, n_gWr (by omega) (by omega)]
      exact ih n x _ (by omega) (by omega) hx (s_md_lt _ (by omega))
theorem c_src_66 {I : am_I} {G : am_G} (h : cP I p) (hp : p_ok p) (hT : cT_66 I p t) (ht : t_ok p t) (x y : Int32) : R_X7_source_66 I G x y = some (Int32.ofNat (s_src p t (s_md x.toInt (p 0 0)) (s_md y.toInt (p 0 1))), I, G) := by
  have h0 := hp.1
  unfold R_X7_source_66
  rw [n_l, n_l, h.1.1, h.1.2.1, n_gWr (by omega) (by omega), n_gWr (by omega) (by omega), h.1.2.2.2.1, Int32.sub_eq_add_neg, show -(1 : Int32) = (-1 : Int32) from rfl]
  exact c_srcL_66 h hp hT ht x y (p 0 3) FU _ _ (by unfold FU; omega) (Nat.le_refl _) (s_md_lt _ (by omega)) (s_md_lt _ (by omega))
/-- the values of all octaves are known -/
theorem c_hfL_66 {I : am_I} {G : am_G} (h : cP I p) (hp : p_ok p) (hT : cT_66 I p t) (ht : t_ok p t) (hW : cW I p) (hK : ∀ o, o < p 0 2 → ¬ I 27 (o * 8 + t 1 o % 8) = 0) {q : Nat} (hq : q < s_S p) : ∀ (m o n : Nat), o + m = p 0 2 → m < n →
    L_X7_heightFrom_66 n 0 I G (Int32.ofNat q) (s_sum p t q o) (Int32.ofNat o) = some (s_hq p t q, I, G) := by
  have h0 := hp.1
  have hS := s_S_le hp
  intro m
  induction m with
  | zero =>
    intro o n hk hn
    obtain ⟨n, rfl⟩ : ∃ n', n = n' + 1 := ⟨n - 1, by omega⟩
    rw [L_X7_heightFrom_66_0, h.1.2.2.1, if_pos ((n_le (by omega) (by omega)).mpr (by omega)), rg_pos (by decide), show o = p 0 2 by omega]
    rfl
  | succ m ih =>
    intro o n hk hn
    obtain ⟨n, rfl⟩ : ∃ n', n = n' + 1 := ⟨n - 1, by omega⟩
    have hs := (ht.2.2 o).1
    rw [L_X7_heightFrom_66_0, h.1.2.2.1, if_neg (fun z => absurd ((n_le (by omega) (by omega)).mp z) (by omega)), n_gAt (by omega) (by omega), (h.2.1 o (by omega)).2.2.1, n_gAt (by omega) (by omega), hT.2.1 o (by omega),
      c_kept hW hp (by omega) hs (hK o (by omega)) hq, n_inc]
    exact ih (o + 1) n (by omega) (by omega)
theorem c_hf_66 {I : am_I} {G : am_G} (h : cP I p) (hp : p_ok p) (hT : cT_66 I p t) (ht : t_ok p t) (hW : cW I p) (hK : ∀ o, o < p 0 2 → ¬ I 27 (o * 8 + t 1 o % 8) = 0) {q : Nat} (hq : q < s_S p) : R_X7_heightFrom_66 I G (Int32.ofNat q) = some (s_hq p t q, I, G) := by
  have h0 := hp.1
  exact c_hfL_66 h hp hT ht hW hK hq (p 0 2) 0 FU (by omega) (by unfold FU; omega)
theorem c_rf0_66 (hp : p_ok p) (ht : t_ok p t) : ∀ (m o n : Nat) (I : am_I) (G : am_G), cP I p → cT_66 I p t → cW I p → (∀ o', o' < o → ¬ I 27 (o' * 8 + t 1 o' % 8) = 0) → o + m = p 0 2 → m < n →
    ∃ I' : am_I, L_X7_refresh_66 n 0 I G (Int32.ofNat o) 0 0 = L_X7_refresh_66 (n - m - 1) 1 I' G 0 0 0 ∧ (∀ b, b ≠ 26 → b ≠ 27 → I' b = I b) ∧ cW I' p ∧ ∀ o', o' < p 0 2 → ¬ I' 27 (o' * 8 + t 1 o' % 8) = 0 := by
  have h0 := hp.1
  intro m
  induction m with
  | zero =>
    intro o n I G h hT hW hK hk hn
    obtain ⟨n, rfl⟩ : ∃ n', n = n' + 1 := ⟨n - 1, by omega⟩
    rw [L_X7_refresh_66_0, h.1.2.2.1, if_pos ((n_le (by omega) (by omega)).mpr (by omega)), show n + 1 - 0 - 1 = n by omega]
    exact ⟨I, rfl, fun b _ _ => rfl, hW, fun o' ho => hK o' (by omega)⟩
  | succ m ih =>
    intro o n I G h hT hW hK hk hn
    obtain ⟨n, rfl⟩ : ∃ n', n = n' + 1 := ⟨n - 1, by omega⟩
    have hs := (ht.2.2 o).1
    rw [L_X7_refresh_66_0, h.1.2.2.1, if_neg (fun z => absurd ((n_le (by omega) (by omega)).mp z) (by omega)), n_gAt (by omega) (by omega), hT.2.1 o (by omega)]
    obtain ⟨I1, a1, a2, a3, a4, a5⟩ := c_prep (G := G) h hp hW (o := o) (seed := t 1 o) (by omega) hs
    rw [a1, rb_go, n_inc]
    obtain ⟨I', b1, b2, b3, b4⟩ := ih (o + 1) n I1 G (h.kept (fun b h1 h2 => a2 b (by omega) (by omega))) (hT.kept ⟨by rw [a2 66 (by omega) (by omega)], by rw [a2 66 (by omega) (by omega)]⟩ ⟨a2 _ (by omega) (by omega), a2 _ (by omega) (by omega), a2 _ (by omega) (by omega)⟩) a3 (fun o' ho' => by
      by_cases he : o' = o
      · subst he; exact a4
      · exact a5 _ (hK o' (by omega))) (by omega) (by omega)
    refine ⟨I', by rw [b1, show n + 1 - (m + 1) - 1 = n - m - 1 by omega], fun b h1 h2 => (b2 b h1 h2).trans (a2 b h1 h2), b3, b4⟩
theorem c_rf1_66 : ∀ (m j n : Nat) (I : am_I) (G : am_G), j + m = 6 → m < n →
    ∃ I' : am_I, L_X7_refresh_66 n 1 I G (Int32.ofNat j) 0 0 = L_X7_refresh_66 (n - m - 1) 2 I' G 0 0 0 ∧ (∀ b, b ≠ 72 → I' b = I b) ∧ ∀ i, I' 72 i = if j ≤ i ∧ i < 6 then 0 else I 72 i := by
  intro m
  induction m with
  | zero =>
    intro j n I G hk hn
    obtain ⟨n, rfl⟩ : ∃ n', n = n' + 1 := ⟨n - 1, by omega⟩
    rw [L_X7_refresh_66_1, if_pos ((n_le (by omega) (by omega)).mpr (by omega)), show n + 1 - 0 - 1 = n by omega]
    exact ⟨I, rfl, fun b _ => rfl, fun i => by rw [if_neg (by omega)]⟩
  | succ m ih =>
    intro j n I G hk hn
    obtain ⟨n, rfl⟩ : ∃ n', n = n' + 1 := ⟨n - 1, by omega⟩
    rw [L_X7_refresh_66_1, if_neg (fun z => absurd ((n_le (by omega) (by omega)).mp z) (by omega)), rg_pos ((n_in (by omega)).mpr (by omega)), n_cl (by omega), n_inc]
    obtain ⟨I', b1, b2, b3⟩ := ih (j + 1) n (am_up I 72 j 0) G (by omega) (by omega)
    refine ⟨I', by rw [b1, show n + 1 - (m + 1) - 1 = n - m - 1 by omega], fun b h1 => (b2 b h1).trans (up_row I _ _ h1), fun i => ?_⟩
    rw [b3, up_in]
    by_cases hi : i = j
    · rw [if_neg (by omega), if_pos hi, if_pos (by omega)]
    · rw [if_neg hi]
      by_cases h2 : j + 1 ≤ i ∧ i < 6
      · rw [if_pos h2, if_pos (by omega)]
      · rw [if_neg h2, if_neg (by omega)]
/-- what is known of the first k spots -/
def cG_66 (I : am_I) (p t : sP) (k : Nat) : Prop := (∀ j, j < k → I 70 j = s_ht p t j ∧ I 71 j = Int32.ofNat (s_ik p t j)) ∧ ∀ j, j < 6 → I 72 j = Int32.ofNat (s_shr p t j k)
theorem c_rf3_66 (hp : p_ok p) (ht : t_ok p t) {y : Nat} (hy : y < p 0 1) : ∀ (m x n : Nat) (I : am_I) (G : am_G), cP I p → cT_66 I p t → cW I p → (∀ o', o' < p 0 2 → ¬ I 27 (o' * 8 + t 1 o' % 8) = 0) → cG_66 I p t (y * p 0 0 + x) → x + m = p 0 0 → m < n →
    ∃ I' : am_I, L_X7_refresh_66 n 3 I G (Int32.ofNat (y * p 0 0 + x)) (Int32.ofNat y) (Int32.ofNat x) = L_X7_refresh_66 (n - m - 1) 2 I' G (Int32.ofNat (y * p 0 0 + p 0 0)) (Int32.ofNat (y + 1)) 0 ∧ (∀ b, b ≠ 70 → b ≠ 71 → b ≠ 72 → I' b = I b) ∧ cG_66 I' p t (y * p 0 0 + p 0 0) := by
  have h0 := hp.1
  have hS := s_S_le hp
  have hyC : y * p 0 0 + p 0 0 ≤ s_S p := by
    have : (y + 1) * p 0 0 ≤ p 0 1 * p 0 0 := Nat.mul_le_mul_right _ hy
    rw [Nat.succ_mul] at this
    unfold s_S
    rw [Nat.mul_comm (p 0 0)]; exact this
  intro m
  induction m with
  | zero =>
    intro x n I G h hT hW hK hG hk hn
    obtain ⟨n, rfl⟩ : ∃ n', n = n' + 1 := ⟨n - 1, by omega⟩
    have hx : x = p 0 0 := by omega
    rw [L_X7_refresh_66_3, h.1.1, if_pos ((n_le (by omega) (by omega)).mpr (by omega)), n_inc, show n + 1 - 0 - 1 = n by omega, hx]
    exact ⟨I, rfl, fun b _ _ _ => rfl, by rw [hx] at hG; exact hG⟩
  | succ m ih =>
    intro x n I G h hT hW hK hG hk hn
    obtain ⟨n, rfl⟩ : ∃ n', n = n' + 1 := ⟨n - 1, by omega⟩
    have hx : x < p 0 0 := by omega
    obtain ⟨dm1, dm2⟩ := s_dm (y := y) hx
    have hsr := s_src_b (t := t) hp x y
    have hin : s_cnt p (s_hq p t (s_src p t x y)) (p 0 4) ≤ p 0 4 := s_cnt_b _ _ _
    have e1 : s_hq p t (s_src p t x y) = s_ht p t (y * p 0 0 + x) := by unfold s_ht; rw [dm1, dm2]
    have e2 : s_cnt p (s_ht p t (y * p 0 0 + x)) (p 0 4) = s_ik p t (y * p 0 0 + x) := rfl
    rw [L_X7_refresh_66_3, h.1.1, if_neg (fun z => absurd ((n_le (by omega) (by omega)).mp z) (by omega)), c_src_66 h hp hT ht, n_ti (by omega), n_ti (by omega), s_md_id hx, s_md_id hy, rb_go, c_hf_66 h hp hT ht hW hK hsr, rb_go, c_ink h hp, rb_go]
    rw [e1] at hin ⊢
    rw [e2] at hin ⊢
    have hb := s_shr_b p t (s_ik p t (y * p 0 0 + x)) (y * p 0 0 + x)
    rw [n_gPut (a := 70) (by omega) (by omega), n_gPut (a := 71) (by omega) (by omega), n_gAt (by omega) (by omega), up_row _ _ _ (by omega), up_row _ _ _ (by omega), hG.2 _ (by omega), n_gPut (a := 72) (by omega) (by omega), n_inc, n_inc, n_inc]
    obtain ⟨I', b1, b2, b3⟩ := ih (x + 1) n (am_up (am_up (am_up I 70 (y * p 0 0 + x) (s_ht p t (y * p 0 0 + x))) 71 (y * p 0 0 + x) (Int32.ofNat (s_ik p t (y * p 0 0 + x)))) 72 (s_ik p t (y * p 0 0 + x)) (Int32.ofNat (s_shr p t (s_ik p t (y * p 0 0 + x)) (y * p 0 0 + x) + 1))) G
      (h.kept (fun b h1 h2 => by rw [up_row _ _ _ (by omega), up_row _ _ _ (by omega), up_row _ _ _ (by omega)]))
      (hT.kept ⟨by rw [up_row _ _ _ (by omega), up_row _ _ _ (by omega), up_row _ _ _ (by omega)], by rw [up_row _ _ _ (by omega), up_row _ _ _ (by omega), up_row _ _ _ (by omega)]⟩ ⟨by rw [up_row _ _ _ (by omega), up_row _ _ _ (by omega), up_row _ _ _ (by omega)], by rw [up_row _ _ _ (by omega), up_row _ _ _ (by omega), up_row _ _ _ (by omega)], by rw [up_row _ _ _ (by omega), up_row _ _ _ (by omega), up_row _ _ _ (by omega)]⟩)
      (hW.kept (by rw [up_row _ _ _ (by omega), up_row _ _ _ (by omega), up_row _ _ _ (by omega)]) (by rw [up_row _ _ _ (by omega), up_row _ _ _ (by omega), up_row _ _ _ (by omega)]))
      (fun o' ho => by rw [up_row _ _ _ (by omega), up_row _ _ _ (by omega), up_row _ _ _ (by omega)]; exact hK o' ho)
      ⟨fun j hj => by
        refine ⟨?_, ?_⟩
        · rw [up_row _ _ _ (by omega), up_row _ _ _ (by omega), up_in]
          by_cases hjj : j = y * p 0 0 + x
          · rw [if_pos hjj, hjj]
          · rw [if_neg hjj]; exact (hG.1 j (by omega)).1
        · rw [up_row _ _ _ (by omega), up_in]
          by_cases hjj : j = y * p 0 0 + x
          · rw [if_pos hjj, hjj]
          · rw [if_neg hjj, up_row _ _ _ (by omega)]; exact (hG.1 j (by omega)).2,
       fun j hj => by
        rw [up_in, show y * p 0 0 + (x + 1) = (y * p 0 0 + x) + 1 by omega, s_shr]
        by_cases hjj : j = s_ik p t (y * p 0 0 + x)
        · subst hjj; rw [if_pos rfl, if_pos rfl]
        · rw [if_neg hjj, if_neg (fun z => hjj z.symm), up_row _ _ _ (by omega), up_row _ _ _ (by omega)]; exact hG.2 j hj⟩ (by omega) (by omega)
    refine ⟨I', ?_, fun b h1 h2 h3 => by rw [b2 b h1 h2 h3, up_row _ _ _ h3, up_row _ _ _ h2, up_row _ _ _ h1], b3⟩
    rw [show y * p 0 0 + x + 1 = y * p 0 0 + (x + 1) by omega, b1, show n + 1 - (m + 1) - 1 = n - m - 1 by omega]
theorem c_rf2_66 (hp : p_ok p) (ht : t_ok p t) : ∀ (m y n : Nat) (I : am_I) (G : am_G), cP I p → cT_66 I p t → cW I p → (∀ o', o' < p 0 2 → ¬ I 27 (o' * 8 + t 1 o' % 8) = 0) → cG_66 I p t (y * p 0 0) → y + m = p 0 1 → m * 26 < n →
    ∃ I' : am_I, L_X7_refresh_66 n 2 I G (Int32.ofNat (y * p 0 0)) (Int32.ofNat y) 0 = some ((), am_up I' 66 14 1, G) ∧ (∀ b, b ≠ 70 → b ≠ 71 → b ≠ 72 → I' b = I b) ∧ cG_66 I' p t (s_S p) := by
  have h0 := hp.1
  intro m
  induction m with
  | zero =>
    intro y n I G h hT hW hK hG hk hn
    obtain ⟨n, rfl⟩ : ∃ n', n = n' + 1 := ⟨n - 1, by omega⟩
    rw [L_X7_refresh_66_2, h.1.2.1, if_pos ((n_le (by omega) (by omega)).mpr (by omega)), rg_pos (Or.inr rfl)]
    refine ⟨I, rfl, fun b _ _ _ => rfl, ?_⟩
    rw [show s_S p = y * p 0 0 by unfold s_S; rw [show y = p 0 1 by omega, Nat.mul_comm]]
    exact hG
  | succ m ih =>
    intro y n I G h hT hW hK hG hk hn
    obtain ⟨n, rfl⟩ : ∃ n', n = n' + 1 := ⟨n - 1, by omega⟩
    rw [L_X7_refresh_66_2, h.1.2.1, if_neg (fun z => absurd ((n_le (by omega) (by omega)).mp z) (by omega))]
    obtain ⟨I1, a1, a2, a3⟩ := c_rf3_66 hp ht (y := y) (by omega) (p 0 0) 0 n I G h hT hW hK hG (by omega) (by omega)
    rw [show (0 : Int32) = Int32.ofNat 0 from rfl] at a1 ⊢
    rw [Nat.add_zero] at a1
    rw [a1]
    obtain ⟨I', b1, b2, b3⟩ := ih (y + 1) (n - p 0 0 - 1) I1 G (h.kept (fun b h1 h2 => a2 b (by omega) (by omega) (by omega))) (hT.kept ⟨by rw [a2 66 (by omega) (by omega) (by omega)], by rw [a2 66 (by omega) (by omega) (by omega)]⟩ ⟨a2 _ (by omega) (by omega) (by omega), a2 _ (by omega) (by omega) (by omega), a2 _ (by omega) (by omega) (by omega)⟩)
      (hW.kept (a2 _ (by omega) (by omega) (by omega)) (a2 _ (by omega) (by omega) (by omega))) (fun o' ho => by rw [a2 27 (by omega) (by omega) (by omega)]; exact hK o' ho) (by rw [Nat.succ_mul]; exact a3) (by omega) (by omega)
    rw [Nat.succ_mul] at b1
    exact ⟨I', b1, fun b h1 h2 h3 => (b2 b h1 h2 h3).trans (a2 b h1 h2 h3), b3⟩
/-- refresh -/
theorem c_rf_66 {I : am_I} {G : am_G} (h : cP I p) (hp : p_ok p) (hT : cT_66 I p t) (ht : t_ok p t) (hW : cW I p) (hF : cF_66 I p t) :
    ∃ I' : am_I, R_X7_refresh_66 I G = some ((), I', G) ∧ (∀ b, b ≠ 26 → b ≠ 27 → b ≠ 70 → b ≠ 71 → b ≠ 72 → b ≠ 66 → I' b = I b) ∧ (∀ k, k ≠ 14 → I' 66 k = I 66 k) ∧ cW I' p ∧ cF_66 I' p t ∧ ¬ I' 66 14 = 0 ∧ (¬ I 66 14 = 0 → I' = I) := by
  have h0 := hp.1
  unfold R_X7_refresh_66
  by_cases hf : I 66 14 = 0
  · rw [if_pos hf]
    obtain ⟨I1, a1, a2, a3, a4⟩ := c_rf0_66 hp ht (p 0 2) 0 FU I G h hT hW (fun o' ho => absurd ho (by omega)) (by omega) (by unfold FU; omega)
    obtain ⟨I2, b1, b2, b3⟩ := c_rf1_66 6 0 (FU - p 0 2 - 1) I1 G (by omega) (by unfold FU; omega)
    have h2 : ∀ b, b ≠ 26 → b ≠ 27 → b ≠ 72 → I2 b = I b := fun b z1 z2 z3 => (b2 b z3).trans (a2 b z1 z2)
    obtain ⟨I3, d1, d2, d3⟩ := c_rf2_66 hp ht (p 0 1) 0 (FU - p 0 2 - 1 - 6 - 1) I2 G (h.kept (fun b z1 z2 => h2 b (by omega) (by omega) (by omega))) (hT.kept ⟨by rw [h2 66 (by omega) (by omega) (by omega)], by rw [h2 66 (by omega) (by omega) (by omega)]⟩ ⟨h2 _ (by omega) (by omega) (by omega), h2 _ (by omega) (by omega) (by omega), h2 _ (by omega) (by omega) (by omega)⟩)
      (a3.kept (b2 _ (by omega)) (b2 _ (by omega))) (fun o' ho => by rw [b2 27 (by omega)]; exact a4 o' ho) ⟨fun j hj => absurd hj (by omega), fun j hj => by rw [b3, if_pos (by omega), Nat.zero_mul]; rfl⟩ (by omega) (by unfold FU; omega)
    rw [Nat.zero_mul] at d1
    refine ⟨am_up I3 66 14 1, ?_, fun b z1 z2 z3 z4 z5 z6 => by rw [up_row _ _ _ z6, d2 b z3 z4 z5, h2 b z1 z2 z5], fun k hk => by rw [up_in, if_neg hk, d2 66 (by omega) (by omega) (by omega), h2 66 (by omega) (by omega) (by omega)], ?_, ?_, ?_, fun z => absurd hf z⟩
    · exact a1.trans (b1.trans d1)
    · exact (a3.kept (b2 _ (by omega)) (b2 _ (by omega))).kept (by rw [up_row _ _ _ (by omega), d2 _ (by omega) (by omega) (by omega)]) (by rw [up_row _ _ _ (by omega), d2 _ (by omega) (by omega) (by omega)])
    · intro _
      refine ⟨fun k hk => ?_, fun j hj => ?_⟩
      · rw [up_row _ _ _ (by omega), up_row _ _ _ (by omega)]; exact d3.1 k hk
      · rw [up_row _ _ _ (by omega)]; exact d3.2 j (by omega)
    · rw [up_in, if_pos rfl]; decide
  · rw [if_neg hf]
    exact ⟨I, rfl, fun b _ _ _ _ _ _ => rfl, fun k _ => rfl, hW, hF, hf, fun _ => rfl⟩
end MC66
