/-! the reference: what a token says -/
section RIT
variable {B : Nat → Nat} {ln : Nat} {T : Nat} {G : am_G}
def itW (K C : Nat → Nat) (X : sX) (W : Nat → Nat × Nat) (q : Nat × Nat) : Nat → Nat × Nat := if q.1 = 14 then (fun k => if k = X.1.1 0 5 then (K q.2, (W k).2) else W k) else if q.1 = 15 then (fun k => if k = X.1.1 0 5 - 1 then ((W k).1, (nmL C X.1.2 9 q.2).getD 0) else W k) else if q.1 = 16 then (fun k => if k = X.1.1 0 5 - 1 then ((W k).1, (nmL C X.1.2 6 q.2).getD 0) else W k) else if q.1 = 17 then (fun k => if k = X.1.1 0 5 - 1 then ((W k).1, K q.2 - 3) else W k) else W
/-- what is told so far, in the reference's cells -/
def rZ (I : am_I) (X : sX) (W : Nat → Nat × Nat) : Prop := (I 123 0 = Int32.ofNat (X.1.1 0 0) ∧ I 123 1 = Int32.ofNat (X.1.1 0 1) ∧ I 123 2 = Int32.ofNat (X.1.1 0 2) ∧ I 123 3 = Int32.ofNat (X.1.1 0 3) ∧ I 123 4 = Int32.ofNat (X.1.1 0 4) ∧ I 123 13 = Int32.ofNat (X.1.1 0 5)) ∧
  ((∀ k, I 124 k = Int32.ofNat (X.1.1 1 k)) ∧ (∀ k, I 125 k = Int32.ofNat (X.1.1 2 k)) ∧ (∀ k, I 126 k = Int32.ofNat (X.1.1 3 k)) ∧ (∀ k, I 127 k = Int32.ofNat (X.1.1 7 k)) ∧ (∀ k, I 128 k = Int32.ofNat (X.1.1 4 k)) ∧ (∀ k, I 129 k = Int32.ofNat (X.1.1 5 k)) ∧ (∀ k, I 130 k = Int32.ofNat (X.1.1 8 k)) ∧ ∀ k, I 131 k = Int32.ofNat (X.1.1 6 k)) ∧
  (∀ k, X.1.1 6 k ≤ 999999) ∧ (∀ k, I 132 k = Int32.ofNat (W k).1 ∧ I 133 k = Int32.ofNat (W k).2) ∧ ∀ a k, X.2.2 a = some k → I 85 a = Int32.ofNat k
def xl (X : sX) : Prop := (X.1.1 0 2 = (X.1.2 6).length ∧ X.1.1 0 2 ≤ 4) ∧ (X.1.1 0 3 = (X.1.2 9).length ∧ X.1.1 0 3 ≤ 4) ∧ (X.1.1 0 4 = (X.1.2 16).length ∧ X.1.1 0 4 ≤ 5) ∧ X.1.1 0 5 ≤ 20
/-- an item that a line may hold -/
def iw (K : Nat → Nat) (X : sX) (q : Nat × Nat) : Prop := ((q.1 = 1 ∨ q.1 = 2 ∨ q.1 = 4 ∨ q.1 = 5 ∨ q.1 = 6 ∨ q.1 = 7 ∨ q.1 = 10 ∨ q.1 = 11 ∨ q.1 = 13) → K q.2 = 40) ∧ ((q.1 = 3 ∨ q.1 = 8 ∨ q.1 = 12 ∨ q.1 = 15 ∨ q.1 = 16 ∨ q.1 = 18 ∨ q.1 = 19 ∨ q.1 = 20) → K q.2 = 39) ∧ ((q.1 = 9 ∨ q.1 = 17) → K q.2 = 3 ∨ K q.2 = 4) ∧ (q.1 = 14 → K q.2 = 9 ∨ K q.2 = 6 ∨ K q.2 = 12) ∧ ((q.1 = 4 ∨ q.1 = 5 ∨ q.1 = 6 ∨ q.1 = 7) → 1 ≤ X.1.1 0 2) ∧ ((q.1 = 9 ∨ q.1 = 10 ∨ q.1 = 11) → 1 ≤ X.1.1 0 3) ∧ (q.1 = 13 → 1 ≤ X.1.1 0 4) ∧ ((q.1 = 15 ∨ q.1 = 16 ∨ q.1 = 17) → 1 ≤ X.1.1 0 5) ∧ 1 ≤ q.1 ∧ q.1 ≤ 20
def rfe (I I' : am_I) : Prop := (∀ b, b ≠ 85 → b ≠ 123 → (b < 124 ∨ 133 < b) → I' b = I b) ∧ ∀ k, 4 < k → k ≠ 13 → I' 123 k = I 123 k
theorem rfe.rf (I : am_I) : rfe I I := ⟨fun _ _ _ _ => rfl, fun _ _ _ => rfl⟩
theorem rfe.tr {I I1 I2 : am_I} (h1 : rfe I I1) (h2 : rfe I1 I2) : rfe I I2 := ⟨fun b z1 z2 z3 => (h2.1 b z1 z2 z3).trans (h1.1 b z1 z2 z3), fun k z1 z2 => (h2.2 k z1 z2).trans (h1.2 k z1 z2)⟩
theorem rfe.up (I : am_I) {b : Nat} (hb : b = 85 ∨ (124 ≤ b ∧ b ≤ 133)) (k : Nat) (x : Int32) : rfe I (am_up I b k x) := ⟨fun b' z1 z2 z3 => up_row _ _ _ (by omega), fun k z1 z2 => by rw [up_row _ _ _ (by omega)]⟩
theorem rfe.u3 (I : am_I) {j : Nat} (hj : j ≤ 4 ∨ j = 13) (x : Int32) : rfe I (am_up I 123 j x) := ⟨fun b' z1 z2 z3 => up_row _ _ _ z2, fun k z1 z2 => by rw [up_in, if_neg (by omega)]⟩
theorem rTK.e {ρ : Nat → Nat} {I I' : am_I} (h : rTK B ln T ρ I) (hf : rfe I I') : rTK B ln T ρ I' := by
  obtain ⟨a, b, c, d⟩ := h
  refine ⟨a.kept (by rw [hf.1 79 (by omega) (by omega) (by omega)]) (hf.1 80 (by omega) (by omega) (by omega)), b, ?_, ?_⟩
  · rw [hf.1 81 (by omega) (by omega) (by omega), hf.1 82 (by omega) (by omega) (by omega), hf.1 83 (by omega) (by omega) (by omega)]
    exact c
  · rw [hf.1 84 (by omega) (by omega) (by omega)]
    exact d
theorem r_inR {I : am_I} {ρ : Nat → Nat} (h : rTK B ln T ρ I) {p : Nat} (hp : p ≤ T) (kp : tKK B ln p = 40) {lo hi : Nat} (hlo : lo ≤ 1999999) (hhi : hi ≤ 999999) {x y : Int32} (hx : x = Int32.ofNat lo) (hy : y = Int32.ofNat hi) : R_X14_inRange_79 I G (Int32.ofNat p) x y = some ((if lo ≤ bV B ln p ∧ bV B ln p ≤ hi then 0 else 5), I, G) := by
  have hv := bV_le h.1 p
  unfold R_X14_inRange_79
  rw [r_numV h hp kp, rb_go, isIn_b, hx, hy, n_ti (by omega), n_ti (by omega), n_ti (by omega)]
  by_cases hc : lo ≤ bV B ln p ∧ bV B ln p ≤ hi
  · rw [if_pos (show ((lo : Int) ≤ (bV B ln p : Int) ∧ (bV B ln p : Int) ≤ (hi : Int)) by omega), if_neg (by decide), if_pos hc]
  · rw [if_neg (show ¬ ((lo : Int) ≤ (bV B ln p : Int) ∧ (bV B ln p : Int) ≤ (hi : Int)) by omega), if_pos rfl, if_neg hc]
theorem r_isNew {I : am_I} {ρ : Nat → Nat} (h : rTK B ln T ρ I) {a as cap : Nat} {l : List Nat} (ha : a ≤ T) (hρ : ρ a = as) (ka : tKK B ln a = 39) (has : as ≤ 20) (hn : ∀ k, k < a → ρ k = as → tKK B ln k = 39) (hl : l = rls ρ as 0 a) (hc : l.length ≤ cap) (hcap : cap ≤ 5) {x y : Int32} (hx : x = Int32.ofNat l.length) (hy : y = Int32.ofNat cap) : R_X14_isNew_79 I G (Int32.ofNat a) x y = some (Int32.ofNat (nwE (bC B ln) l cap a), I, G) := by
  have hT := h.2.1
  have hfl : ∀ j, fnd (bC B ln) a l 0 = some j → j < 100 := fun j hj => by have := fnd_lt _ _ _ _ _ hj; omega
  unfold R_X14_isNew_79
  rw [rg_pos ((n_in (by omega)).mpr (by omega)), n_cl (by omega), (h.2.2.2 a ha).1, hρ, r_told0 h ha ka has hn, rb_go, ← hl, hx, hy]
  unfold nwE
  cases hq : fnd (bC B ln) a l 0 with
  | none =>
    rw [if_pos (show fi none = (-1 : Int32) from rfl), if_pos rfl]
    by_cases hlt : l.length < cap
    · rw [if_neg (fun z => absurd ((n_eq (by omega) (by omega)).mp z) (by omega)), if_pos hlt]
      rfl
    · rw [if_pos (by rw [show l.length = cap by omega]), if_neg hlt]
      rfl
  | some j =>
    have hj := hfl j hq
    rw [if_neg (show ¬ fi (some j) = (-1 : Int32) from fun z => by
      have z2 : Int32.ofNat j = (-1 : Int32) := z
      have z3 := (i_eq _ _).mp z2
      rw [n_ti (by omega)] at z3
      have z4 : ((-1 : Int32)).toInt = -1 := rfl
      omega), if_neg (by intro z; cases z)]
    rfl
theorem r_look {I : am_I} {ρ : Nat → Nat} (h : rTK B ln T ρ I) {a as : Nat} {l : List Nat} (ha : a ≤ T) (ka : tKK B ln a = 39) (has : as ≤ 20) (hn : ∀ k, k < a → ρ k = as → tKK B ln k = 39) (hl : l = rls ρ as 0 a) (hc : l.length ≤ 5) {x : Int32} (hx : x = Int32.ofNat as) : R_X14_look_79 I G (Int32.ofNat a) x = some ((if fnd (bC B ln) a l 0 = none then 3 else 0), am_up I 85 a (fi (fnd (bC B ln) a l 0)), G) := by
  have hT := h.2.1
  have hin : vp_in (Int32.ofNat a) 401 := (n_in (by omega)).mpr (by omega)
  unfold R_X14_look_79
  rw [hx, r_told0 h ha ka has hn, rb_go, ← hl, rg_pos hin, rg_pos hin, n_cl (by omega), am_up_self]
  cases hq : fnd (bC B ln) a l 0 with
  | none => rw [if_pos (show fi none = (-1 : Int32) from rfl), if_pos rfl]
  | some j =>
    have hj := fnd_lt _ _ _ _ _ hq
    rw [if_neg (show ¬ fi (some j) = (-1 : Int32) from fun z => by
      have z2 : Int32.ofNat j = (-1 : Int32) := z
      have z3 := (i_eq _ _).mp z2
      rw [n_ti (by omega)] at z3
      have z4 : ((-1 : Int32)).toInt = -1 := rfl
      omega), if_neg (by intro z; cases z)]
theorem r_nm124 {I : am_I} {ρ : Nat → Nat} (h : rTK B ln T ρ I) {p i : Nat} (hp : p ≤ T) (kp : tKK B ln p = 40) (hi : i < 4) {lo hi2 : Nat} (hlo : lo ≤ 1999999) (hhi : hi2 ≤ 999999) {z x y : Int32} (hz : z = Int32.ofNat i) (hx : x = Int32.ofNat lo) (hy : y = Int32.ofNat hi2) : R_X14_number_79_124 I G (Int32.ofNat p) z x y = some ((if lo ≤ bV B ln p ∧ bV B ln p ≤ hi2 then 0 else 5), am_up I 124 i (Int32.ofNat (bV B ln p)), G) := by
  unfold R_X14_number_79_124
  rw [r_numV h hp kp, rb_go, hz, rg_pos ((n_in (by omega)).mpr hi), n_cl (by omega), r_inR (h.e (rfe.up I (Or.inr ⟨by omega, by omega⟩) _ _)) hp kp hlo hhi hx hy, rb_go]
theorem r_nm125 {I : am_I} {ρ : Nat → Nat} (h : rTK B ln T ρ I) {p i : Nat} (hp : p ≤ T) (kp : tKK B ln p = 40) (hi : i < 4) {lo hi2 : Nat} (hlo : lo ≤ 1999999) (hhi : hi2 ≤ 999999) {z x y : Int32} (hz : z = Int32.ofNat i) (hx : x = Int32.ofNat lo) (hy : y = Int32.ofNat hi2) : R_X14_number_79_125 I G (Int32.ofNat p) z x y = some ((if lo ≤ bV B ln p ∧ bV B ln p ≤ hi2 then 0 else 5), am_up I 125 i (Int32.ofNat (bV B ln p)), G) := by
  unfold R_X14_number_79_125
  rw [r_numV h hp kp, rb_go, hz, rg_pos ((n_in (by omega)).mpr hi), n_cl (by omega), r_inR (h.e (rfe.up I (Or.inr ⟨by omega, by omega⟩) _ _)) hp kp hlo hhi hx hy, rb_go]
theorem r_nm126 {I : am_I} {ρ : Nat → Nat} (h : rTK B ln T ρ I) {p i : Nat} (hp : p ≤ T) (kp : tKK B ln p = 40) (hi : i < 4) {lo hi2 : Nat} (hlo : lo ≤ 1999999) (hhi : hi2 ≤ 999999) {z x y : Int32} (hz : z = Int32.ofNat i) (hx : x = Int32.ofNat lo) (hy : y = Int32.ofNat hi2) : R_X14_number_79_126 I G (Int32.ofNat p) z x y = some ((if lo ≤ bV B ln p ∧ bV B ln p ≤ hi2 then 0 else 5), am_up I 126 i (Int32.ofNat (bV B ln p)), G) := by
  unfold R_X14_number_79_126
  rw [r_numV h hp kp, rb_go, hz, rg_pos ((n_in (by omega)).mpr hi), n_cl (by omega), r_inR (h.e (rfe.up I (Or.inr ⟨by omega, by omega⟩) _ _)) hp kp hlo hhi hx hy, rb_go]
theorem r_nm127 {I : am_I} {ρ : Nat → Nat} (h : rTK B ln T ρ I) {p i : Nat} (hp : p ≤ T) (kp : tKK B ln p = 40) (hi : i < 4) {lo hi2 : Nat} (hlo : lo ≤ 1999999) (hhi : hi2 ≤ 999999) {z x y : Int32} (hz : z = Int32.ofNat i) (hx : x = Int32.ofNat lo) (hy : y = Int32.ofNat hi2) : R_X14_number_79_127 I G (Int32.ofNat p) z x y = some ((if lo ≤ bV B ln p ∧ bV B ln p ≤ hi2 then 0 else 5), am_up I 127 i (Int32.ofNat (bV B ln p)), G) := by
  unfold R_X14_number_79_127
  rw [r_numV h hp kp, rb_go, hz, rg_pos ((n_in (by omega)).mpr hi), n_cl (by omega), r_inR (h.e (rfe.up I (Or.inr ⟨by omega, by omega⟩) _ _)) hp kp hlo hhi hx hy, rb_go]
theorem r_nm129 {I : am_I} {ρ : Nat → Nat} (h : rTK B ln T ρ I) {p i : Nat} (hp : p ≤ T) (kp : tKK B ln p = 40) (hi : i < 4) {lo hi2 : Nat} (hlo : lo ≤ 1999999) (hhi : hi2 ≤ 999999) {z x y : Int32} (hz : z = Int32.ofNat i) (hx : x = Int32.ofNat lo) (hy : y = Int32.ofNat hi2) : R_X14_number_79_129 I G (Int32.ofNat p) z x y = some ((if lo ≤ bV B ln p ∧ bV B ln p ≤ hi2 then 0 else 5), am_up I 129 i (Int32.ofNat (bV B ln p)), G) := by
  unfold R_X14_number_79_129
  rw [r_numV h hp kp, rb_go, hz, rg_pos ((n_in (by omega)).mpr hi), n_cl (by omega), r_inR (h.e (rfe.up I (Or.inr ⟨by omega, by omega⟩) _ _)) hp kp hlo hhi hx hy, rb_go]
theorem r_nm130 {I : am_I} {ρ : Nat → Nat} (h : rTK B ln T ρ I) {p i : Nat} (hp : p ≤ T) (kp : tKK B ln p = 40) (hi : i < 4) {lo hi2 : Nat} (hlo : lo ≤ 1999999) (hhi : hi2 ≤ 999999) {z x y : Int32} (hz : z = Int32.ofNat i) (hx : x = Int32.ofNat lo) (hy : y = Int32.ofNat hi2) : R_X14_number_79_130 I G (Int32.ofNat p) z x y = some ((if lo ≤ bV B ln p ∧ bV B ln p ≤ hi2 then 0 else 5), am_up I 130 i (Int32.ofNat (bV B ln p)), G) := by
  unfold R_X14_number_79_130
  rw [r_numV h hp kp, rb_go, hz, rg_pos ((n_in (by omega)).mpr hi), n_cl (by omega), r_inR (h.e (rfe.up I (Or.inr ⟨by omega, by omega⟩) _ _)) hp kp hlo hhi hx hy, rb_go]
theorem r_nm131 {I : am_I} {ρ : Nat → Nat} (h : rTK B ln T ρ I) {p i : Nat} (hp : p ≤ T) (kp : tKK B ln p = 40) (hi : i < 5) {lo hi2 : Nat} (hlo : lo ≤ 1999999) (hhi : hi2 ≤ 999999) {z x y : Int32} (hz : z = Int32.ofNat i) (hx : x = Int32.ofNat lo) (hy : y = Int32.ofNat hi2) : R_X14_number_79_131 I G (Int32.ofNat p) z x y = some ((if lo ≤ bV B ln p ∧ bV B ln p ≤ hi2 then 0 else 5), am_up I 131 i (Int32.ofNat (bV B ln p)), G) := by
  unfold R_X14_number_79_131
  rw [r_numV h hp kp, rb_go, hz, rg_pos ((n_in (by omega)).mpr hi), n_cl (by omega), r_inR (h.e (rfe.up I (Or.inr ⟨by omega, by omega⟩) _ _)) hp kp hlo hhi hx hy, rb_go]
end RIT
