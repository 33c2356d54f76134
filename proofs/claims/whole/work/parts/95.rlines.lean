/-! the reference's lines -/
section RLN
variable {K V : Nat → Nat} {T : Nat} {G : am_G}
theorem pts_r (q : Nat) : ∀ l : List (Nat × Nat), pts K (.inr q) l = .inr q
  | [] => rfl
  | _ :: r => pts_r q r
/-- the reference stands at p, with these roles -/
def rSt (T : Nat) (I J : am_I) (p : Nat) (l : List (Nat × Nat)) : Prop := J 79 9 = Int32.ofNat p ∧ p ≤ T ∧ J 84 = s_ov l (I 84) ∧ (∀ b, b ≠ 79 → b ≠ 84 → J b = I b) ∧ ∀ k, k ≠ 9 → J 79 k = I 79 k
def rEn (I I' : am_I) (T : Nat) (r : sR) (v : Int32) : Prop := match r with
  | .inl (p, l) => v = 1 ∧ rSt T I I' p l
  | .inr q => v = 0 ∧ I' 79 9 = Int32.ofNat q ∧ q ≤ T ∧ (∀ b, b ≠ 79 → b ≠ 84 → I' b = I b) ∧ ∀ k, k ≠ 9 → I' 79 k = I 79 k
def rGo (T : Nat) (G : am_G) (I : am_I) (E : Option (Int32 × am_I × am_G)) (r : sR) : Prop := ∃ (v : Int32) (I' : am_I), E = some (v, I', G) ∧ rEn I I' T r v
theorem rSt.fr {I J : am_I} {p : Nat} {l : List (Nat × Nat)} (h : rSt T I J p l) : rfr I J := ⟨fun b z1 z2 _ _ _ => h.2.2.2.1 b z1 z2, fun k z1 _ => h.2.2.2.2 k z1, fun k _ _ => by rw [h.2.2.2.1 123 (by omega) (by omega)]⟩
theorem s_ov_1 (l : List (Nat × Nat)) (r p : Nat) (f : Nat → Int32) : s_ov (l ++ [(r, p)]) f = w1 (s_ov l f) p (Int32.ofNat r) := by rw [s_ov_app]; rfl
theorem g_as {I J : am_I} (hX : rX K V T I G) {p k r : Nat} {l rest : List (Nat × Nat)} {w x : Int32} (h : rSt T I J p l) (hw : w = Int32.ofNat (rk k)) (hk : k ≤ 40) (hx : x = Int32.ofNat r) (hr : r ≠ 0) {F : am_I → am_G → Option (Int32 × am_I × am_G)} (hF : ∀ J', rSt T I J' (p + 1) (l ++ [(r, p)]) → rGo T G I (F J' G) (pts K (.inl (p + 1, l ++ [(r, p)])) rest)) : rGo T G I (rb (R_X14_eatAs_79 J G w x) (fun r1 I1 G1 => if r1 = 0 then some ((0 : Int32), I1, G1) else F I1 G1)) (pts K (.inl (p, l)) ((k, r) :: rest)) := by
  have hT := hX.1.1
  have hp := h.2.1
  have e9 := h.1
  have hXJ := hX.kept h.fr
  obtain ⟨J1, hJ1⟩ : ∃ J1 : am_I, J1 = am_up J 84 (J 79 9).toNatClampNeg x := ⟨_, rfl⟩
  have e1 : J1 = am_up J 84 p (Int32.ofNat r) := by rw [hJ1, e9, n_cl (by omega), hx]
  have j9 : J1 79 9 = Int32.ofNat p := by rw [e1, up_row _ _ _ (by omega)]; exact e9
  have hX1 : rX K V T J1 G := hXJ.kept ⟨fun b z1 z2 _ _ _ => by rw [e1, up_row _ _ _ z2], fun k _ _ => by rw [e1, up_row _ _ _ (by omega)], fun k _ _ => by rw [e1, up_row _ _ _ (by omega)]⟩
  have s1 : rSt T I J1 p (l ++ [(r, p)]) := ⟨j9, hp, by rw [e1, up_w1, s_ov_1, h.2.2.1], fun b z1 z2 => by rw [e1, up_row _ _ _ z2]; exact h.2.2.2.1 b z1 z2, fun k z => by rw [e1, up_row _ _ _ (by omega)]; exact h.2.2.2.2 k z⟩
  unfold R_X14_eatAs_79
  rw [rg_pos (r_tq e9 (by omega)), ← hJ1, rg_pos (r_q3 j9 (by omega) _)]
  show rGo T G I _ (pts K (stp K (.inl (p, l)) (k, r)) rest)
  by_cases hkp : K p = k
  · obtain ⟨f1, f2⟩ := r_eat1 j9 (r_isY hX1 j9 hp hw hkp)
    rw [f1, f2, rg_pos (Or.inr rfl), rb_go, if_neg (by decide), stp_y (mk_y hkp (by omega)), if_neg hr]
    have hlt := hX.1.lt hp (by omega)
    exact hF _ ⟨am_up_self _ _ _ _, by omega, by rw [up_row _ _ _ (by omega)]; exact s1.2.2.1, fun b z1 z2 => by rw [up_row _ _ _ z1]; exact s1.2.2.2.1 b z1 z2, fun k z => by rw [up_in, if_neg z]; exact s1.2.2.2.2 k z⟩
  · obtain ⟨f1, f2⟩ := r_eat0 (r_is0 hX1 j9 hp hw (by omega) hkp)
    rw [f1, f2, rg_pos (Or.inl rfl), rb_go, if_pos rfl, stp_n (mk_n hkp (by omega)), pts_r]
    exact ⟨0, J1, rfl, rfl, j9, hp, s1.2.2.2.1, s1.2.2.2.2⟩
theorem g_eat {I J : am_I} (hX : rX K V T I G) {p k : Nat} {l rest : List (Nat × Nat)} {w : Int32} (h : rSt T I J p l) (hw : w = Int32.ofNat (rk k)) (hk : k ≤ 40) {F : Option (Int32 × am_I × am_G)} (hF : rSt T I (g_X14_eat_79 J G w) (p + 1) l → rGo T G I F (pts K (.inl (p + 1, l)) rest)) : rGo T G I (rg (q_X14_eat_79 J G w) (if (f_X14_eat_79 J G w) = 0 then some ((0 : Int32), (g_X14_eat_79 J G w), G) else F)) (pts K (.inl (p, l)) ((k, 0) :: rest)) := by
  have hT := hX.1.1
  have hp := h.2.1
  have e9 := h.1
  have hXJ := hX.kept h.fr
  rw [rg_pos (r_q3 e9 (by omega) _)]
  show rGo T G I _ (pts K (stp K (.inl (p, l)) (k, 0)) rest)
  by_cases hkp : K p = k
  · obtain ⟨f1, f2⟩ := r_eat1 e9 (r_isY hXJ e9 hp hw hkp)
    rw [f1, if_neg (by decide), stp_y (mk_y hkp (by omega)), if_pos rfl]
    have hlt := hX.1.lt hp (by omega)
    refine hF ?_
    rw [f2]
    exact ⟨am_up_self _ _ _ _, by omega, by rw [up_row _ _ _ (by omega)]; exact h.2.2.1, fun b z1 z2 => by rw [up_row _ _ _ z1]; exact h.2.2.2.1 b z1 z2, fun k z => by rw [up_in, if_neg z]; exact h.2.2.2.2 k z⟩
  · obtain ⟨f1, f2⟩ := r_eat0 (r_is0 hXJ e9 hp hw (by omega) hkp)
    rw [f1, f2, if_pos rfl, stp_n (mk_n hkp (by omega)), pts_r]
    exact ⟨0, J, rfl, rfl, e9, hp, h.2.2.2.1, h.2.2.2.2⟩
theorem r_way {I J : am_I} (hX : rX K V T I G) {p r : Nat} {l : List (Nat × Nat)} {x : Int32} (h : rSt T I J p l) (hx : x = Int32.ofNat r) : q_X14_isWay_79 J G x ∧ ((K p = 3 ∨ K p = 4) → ¬ f_X14_isWay_79 J G x = 0 ∧ f_X14_isWay_79 J G x = 1 ∧ rSt T I (g_X14_isWay_79 J G x) (p + 1) (l ++ [(r, p)])) ∧ (¬ (K p = 3 ∨ K p = 4) → f_X14_isWay_79 J G x = 0 ∧ rSt T I (g_X14_isWay_79 J G x) p (l ++ [(r, p)])) := by
  have hT := hX.1.1
  have hp := h.2.1
  have e9 := h.1
  have hXJ := hX.kept h.fr
  obtain ⟨J1, hJ1⟩ : ∃ J1 : am_I, J1 = am_up J 84 (J 79 9).toNatClampNeg x := ⟨_, rfl⟩
  have e1 : J1 = am_up J 84 p (Int32.ofNat r) := by rw [hJ1, e9, n_cl (by omega), hx]
  have j9 : J1 79 9 = Int32.ofNat p := by rw [e1, up_row _ _ _ (by omega)]; exact e9
  have hX1 : rX K V T J1 G := hXJ.kept ⟨fun b z1 z2 _ _ _ => by rw [e1, up_row _ _ _ z2], fun k _ _ => by rw [e1, up_row _ _ _ (by omega)], fun k _ _ => by rw [e1, up_row _ _ _ (by omega)]⟩
  have s1 : rSt T I J1 p (l ++ [(r, p)]) := ⟨j9, hp, by rw [e1, up_w1, s_ov_1, h.2.2.1], fun b z1 z2 => by rw [e1, up_row _ _ _ z2]; exact h.2.2.2.1 b z1 z2, fun k z => by rw [e1, up_row _ _ _ (by omega)]; exact h.2.2.2.2 k z⟩
  have s2 : p < T → rSt T I (am_up J1 79 9 (Int32.ofNat (p + 1))) (p + 1) (l ++ [(r, p)]) := fun hlt => ⟨am_up_self _ _ _ _, by omega, by rw [up_row _ _ _ (by omega)]; exact s1.2.2.1, fun b z1 z2 => by rw [up_row _ _ _ z1]; exact s1.2.2.2.1 b z1 z2, fun k z => by rw [up_in, if_neg z]; exact s1.2.2.2.2 k z⟩
  have n3 : ¬ K p = 3 → f_X14_eat_79 J1 G (3 : Int32) = 0 ∧ g_X14_eat_79 J1 G (3 : Int32) = J1 := fun hk => r_eat0 (r_is0 (k := 3) hX1 j9 hp rfl (by omega) hk)
  refine ⟨⟨r_tq e9 (by omega), ?_⟩, fun hk => ?_, fun hk => ?_⟩
  · rw [← hJ1]
    refine ⟨r_q3 j9 (by omega) _, fun z => ⟨?_, trivial⟩, fun _ => trivial⟩
    by_cases h3 : K p = 3
    · exact absurd z (by rw [(r_eat1 (w := (3 : Int32)) j9 (r_isY (k := 3) hX1 j9 hp rfl h3)).1]; decide)
    · rw [(n3 h3).2]; exact r_q3 j9 (by omega) _
  · have hlt := hX.1.lt hp (by omega)
    unfold f_X14_isWay_79 g_X14_isWay_79
    rw [← hJ1]
    by_cases h3 : K p = 3
    · obtain ⟨f1, f2⟩ := r_eat1 (w := (3 : Int32)) j9 (r_isY (k := 3) hX1 j9 hp rfl h3)
      rw [if_neg (by rw [f1]; decide), if_neg (by rw [f1]; decide), f2]
      exact ⟨by decide, rfl, s2 hlt⟩
    · obtain ⟨f1, f2⟩ := n3 h3
      obtain ⟨f3, f4⟩ := r_eat1 (w := (4 : Int32)) j9 (r_isY (k := 4) hX1 j9 hp rfl (by omega))
      rw [if_pos f1, if_pos f1, f2, if_neg (by rw [f3]; decide), f4]
      exact ⟨by decide, rfl, s2 hlt⟩
  · unfold f_X14_isWay_79 g_X14_isWay_79
    rw [← hJ1]
    obtain ⟨f1, f2⟩ := n3 (fun z => hk (Or.inl z))
    obtain ⟨f3, f4⟩ := r_eat0 (I := J1) (w := (4 : Int32)) (r_is0 (k := 4) hX1 j9 hp rfl (by omega) (fun z => hk (Or.inr z)))
    rw [if_pos f1, if_pos f1, f2, if_pos f3, f4]
    exact ⟨rfl, s1⟩
theorem g_way {I J : am_I} (hX : rX K V T I G) {p r : Nat} {l rest : List (Nat × Nat)} {x : Int32} (h : rSt T I J p l) (hx : x = Int32.ofNat r) (hr : r ≠ 0) {F : Option (Int32 × am_I × am_G)} (hF : rSt T I (g_X14_isWay_79 J G x) (p + 1) (l ++ [(r, p)]) → rGo T G I F (pts K (.inl (p + 1, l ++ [(r, p)])) rest)) : rGo T G I (rg (q_X14_isWay_79 J G x) (if (f_X14_isWay_79 J G x) = 0 then some ((0 : Int32), (g_X14_isWay_79 J G x), G) else F)) (pts K (.inl (p, l)) ((100, r) :: rest)) := by
  obtain ⟨w1', w2, w3⟩ := r_way hX h hx
  rw [rg_pos w1']
  show rGo T G I _ (pts K (stp K (.inl (p, l)) (100, r)) rest)
  by_cases hk : K p = 3 ∨ K p = 4
  · obtain ⟨a1, _, a2⟩ := w2 hk
    rw [if_neg a1, stp_y (by rw [if_pos rfl]; exact hk), if_neg hr]
    exact hF a2
  · obtain ⟨a1, a2⟩ := w3 hk
    rw [if_pos a1, stp_n (by rw [if_pos rfl]; exact hk), pts_r]
    exact ⟨0, _, rfl, rfl, a2.1, a2.2.1, a2.2.2.2.1, a2.2.2.2.2⟩
theorem g_end {I J : am_I} {p : Nat} {l : List (Nat × Nat)} (h : rSt T I J p l) : rGo T G I (some ((1 : Int32), J, G)) (pts K (.inl (p, l)) []) := ⟨1, J, rfl, rfl, h⟩
theorem g_st {I : am_I} {p : Nat} (h9 : I 79 9 = Int32.ofNat p) (hp : p < T) : rSt T I (am_up I 79 9 ((I 79 9) + (1 : Int32))) (p + 1) [] := by
  rw [h9, n_inc]
  exact ⟨am_up_self _ _ _ _, by omega, up_row _ _ _ (by omega), fun b z1 _ => up_row _ _ _ z1, fun k z => by rw [up_in, if_neg z]⟩
theorem r_lpap {I : am_I} {p : Nat} (hX : rX K V T I G) (h9 : I 79 9 = Int32.ofNat p) (hp : p < T) : rGo T G I (R_X14_isPaper_79 I G) (pts K (.inl (p + 1, [])) (lpat 0)) := by
  have s0 := g_st h9 hp
  unfold R_X14_isPaper_79
  show rGo T G I _ (pts K (.inl (p + 1, [])) [(40, 1), (1, 0), (40, 2)])
  refine g_as (k := 40) (r := 1) (w := (41 : Int32)) (x := (1 : Int32)) hX s0 rfl (by omega) rfl (by omega) (fun J1 s1 => ?_)
  refine g_eat (k := 1) (w := (1 : Int32)) hX s1 rfl (by omega) (fun s2 => ?_)
  refine g_as (k := 40) (r := 2) (w := (41 : Int32)) (x := (2 : Int32)) hX s2 rfl (by omega) rfl (by omega) (fun J3 s3 => ?_)
  exact g_end s3
theorem r_loct {I : am_I} {p : Nat} (hX : rX K V T I G) (h9 : I 79 9 = Int32.ofNat p) (hp : p < T) : rGo T G I (R_X14_isOctaveLine_79 I G) (pts K (.inl (p + 1, [])) (lpat 2)) := by
  have s0 := g_st h9 hp
  unfold R_X14_isOctaveLine_79
  show rGo T G I _ (pts K (.inl (p + 1, [])) [(39, 3), (3, 0), (40, 4), (4, 0), (40, 5), (5, 0), (40, 6), (6, 0), (40, 7)])
  refine g_as (k := 39) (r := 3) (w := (40 : Int32)) (x := (3 : Int32)) hX s0 rfl (by omega) rfl (by omega) (fun J1 s1 => ?_)
  refine g_eat (k := 3) (w := (3 : Int32)) hX s1 rfl (by omega) (fun s2 => ?_)
  refine g_as (k := 40) (r := 4) (w := (41 : Int32)) (x := (4 : Int32)) hX s2 rfl (by omega) rfl (by omega) (fun J3 s3 => ?_)
  refine g_eat (k := 4) (w := (4 : Int32)) hX s3 rfl (by omega) (fun s4 => ?_)
  refine g_as (k := 40) (r := 5) (w := (41 : Int32)) (x := (5 : Int32)) hX s4 rfl (by omega) rfl (by omega) (fun J5 s5 => ?_)
  refine g_eat (k := 5) (w := (5 : Int32)) hX s5 rfl (by omega) (fun s6 => ?_)
  refine g_as (k := 40) (r := 6) (w := (41 : Int32)) (x := (6 : Int32)) hX s6 rfl (by omega) rfl (by omega) (fun J7 s7 => ?_)
  refine g_eat (k := 6) (w := (6 : Int32)) hX s7 rfl (by omega) (fun s8 => ?_)
  refine g_as (k := 40) (r := 7) (w := (41 : Int32)) (x := (7 : Int32)) hX s8 rfl (by omega) rfl (by omega) (fun J9 s9 => ?_)
  exact g_end s9
theorem r_lcom {I : am_I} {p : Nat} (hX : rX K V T I G) (h9 : I 79 9 = Int32.ofNat p) (hp : p < T) : rGo T G I (R_X14_isCombLine_79 I G) (pts K (.inl (p + 1, [])) (lpat 7)) := by
  have s0 := g_st h9 hp
  unfold R_X14_isCombLine_79
  show rGo T G I _ (pts K (.inl (p + 1, [])) [(39, 8), (100, 9), (8, 0), (40, 10), (9, 0), (40, 11)])
  refine g_as (k := 39) (r := 8) (w := (40 : Int32)) (x := (8 : Int32)) hX s0 rfl (by omega) rfl (by omega) (fun J1 s1 => ?_)
  refine g_way (r := 9) (x := (9 : Int32)) hX s1 rfl (by omega) (fun s2 => ?_)
  refine g_eat (k := 8) (w := (8 : Int32)) hX s2 rfl (by omega) (fun s3 => ?_)
  refine g_as (k := 40) (r := 10) (w := (41 : Int32)) (x := (10 : Int32)) hX s3 rfl (by omega) rfl (by omega) (fun J4 s4 => ?_)
  refine g_eat (k := 9) (w := (9 : Int32)) hX s4 rfl (by omega) (fun s5 => ?_)
  refine g_as (k := 40) (r := 11) (w := (41 : Int32)) (x := (11 : Int32)) hX s5 rfl (by omega) rfl (by omega) (fun J6 s6 => ?_)
  exact g_end s6
theorem r_link {I : am_I} {p : Nat} (hX : rX K V T I G) (h9 : I 79 9 = Int32.ofNat p) (hp : p < T) : rGo T G I (R_X14_isInkLine_79 I G) (pts K (.inl (p + 1, [])) (lpat 10)) := by
  have s0 := g_st h9 hp
  unfold R_X14_isInkLine_79
  show rGo T G I _ (pts K (.inl (p + 1, [])) [(39, 12), (11, 0), (40, 13)])
  refine g_as (k := 39) (r := 12) (w := (40 : Int32)) (x := (12 : Int32)) hX s0 rfl (by omega) rfl (by omega) (fun J1 s1 => ?_)
  refine g_eat (k := 11) (w := (11 : Int32)) hX s1 rfl (by omega) (fun s2 => ?_)
  refine g_as (k := 40) (r := 13) (w := (41 : Int32)) (x := (13 : Int32)) hX s2 rfl (by omega) rfl (by omega) (fun J3 s3 => ?_)
  exact g_end s3
end RLN
