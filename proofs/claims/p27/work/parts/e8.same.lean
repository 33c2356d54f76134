/-! the two papers side by side; the comparison at the end -/
theorem glS {α : Type} (n : Nat) (f : Nat → α) : gl n f f = f := by
  funext b
  unfold gl
  split <;> rfl
theorem kJ.cg {p t : sP} {od : sO} {dp ca : Int32} {ln : Nat} {I J : am_I} {G : am_G} (h : kJ p t od dp ca ln I G) (hI : ∀ b, b < 79 → J b = I b) : kJ p t od dp ca ln J G := by
  obtain ⟨a1, a2, a3, ⟨a4, a5⟩, a6, a7⟩ := h
  refine ⟨a1, a2.kept (fun b _ _ => hI b (by omega)), ?_, ⟨by rw [hI 1 (by omega)]; exact a4, a5⟩, fun k hk => by rw [hI 2 (by omega)]; exact a6 k hk, a7⟩
  unfold cA_53 cP cW cT_53 cF_53 cQ_53 at a3 ⊢
  simp only [hI 7 (by omega), hI 8 (by omega), hI 9 (by omega), hI 10 (by omega), hI 11 (by omega), hI 12 (by omega), hI 13 (by omega), hI 14 (by omega), hI 15 (by omega), hI 26 (by omega), hI 27 (by omega), hI 53 (by omega), hI 54 (by omega), hI 55 (by omega), hI 56 (by omega), hI 57 (by omega), hI 58 (by omega), hI 59 (by omega), hI 60 (by omega), hI 61 (by omega), hI 62 (by omega)]
  exact a3
theorem iS.cg {p t : sP} {dp ca : Int32} {I J : am_I} (h : iS p t dp ca I) (hI : ∀ b, 79 ≤ b → J b = I b) : iS p t dp ca J := by
  obtain ⟨h1, h2, h3, h4⟩ := h
  refine ⟨by rw [hI _ (by omega)]; exact h1, fun j hj => by rw [hI _ (by omega)]; exact h2 j hj, fun j hj => by rw [hI _ (by omega)]; exact h3 j hj, fun j hj => by rw [hI _ (by omega)]; exact h4 j hj⟩
theorem iO.cg {p : sP} {q : Nat → Nat → Nat} {I J : am_I} (h : iO p q I) (hI : ∀ b, 79 ≤ b → J b = I b) : iO p q J := fun k hk j hj => by rw [hI _ (by omega)]; exact h k hk j hj
def w_ok (p : sP) (q : Nat → Nat → Nat) : Prop := p_ok p ∧ s_S p ≤ 200 ∧ (1 ≤ p 0 2 ∧ p 0 2 ≤ 3) ∧ p 0 3 ≤ 3 ∧ (1 ≤ p 0 4 ∧ p 0 4 ≤ 4) ∧ p 0 5 ≤ 5 ∧ q_ok p q
/-- both papers are the same -/
def jJ (p t : sP) (q : Nat → Nat → Nat) (dp ca : Int32) (I : am_I) (G : am_G) : Prop := kJ p t (oq p q) dp ca 0 I G ∧ iS p t dp ca I ∧ iO p q I
section E8
variable {p t : sP} {q : Nat → Nat → Nat} {dp ca : Int32} {I : am_I} {G : am_G}
theorem jJ.call (hj : jJ p t q dp ca I G) {α : Type} {x : Option (α × am_I × am_G)} {v : α} (h : ∃ I1, x = some (v, I1, G) ∧ kJ p t (oq p q) dp ca 0 I1 G ∧ zc I I1) : ∃ I2, clR x I G = some (v, I2, G) ∧ jJ p t q dp ca I2 G := by
  obtain ⟨I1, e, h1, -⟩ := h
  refine ⟨gl 79 I1 I, ?_, h1.cg (fun b hb => gl_lt _ _ hb), hj.2.1.cg (fun b hb => gl_ge _ _ hb), hj.2.2.cg (fun b hb => gl_ge _ _ hb)⟩
  rw [e, clR_go, glS]
theorem jJ.callX (hj : jJ p t q dp ca I G) {x : Option ((Int32 ⊕ Nat) × am_I × am_G)} {v : Int32} (h : ∃ I1, x = some (.inl v, I1, G) ∧ kJ p t (oq p q) dp ca 0 I1 G ∧ zc I I1) : ∃ I2, clX x I G = some (v, I2, G) ∧ jJ p t q dp ca I2 G := by
  obtain ⟨I1, e, h1, -⟩ := h
  refine ⟨gl 79 I1 I, ?_, h1.cg (fun b hb => gl_lt _ _ hb), hj.2.1.cg (fun b hb => gl_ge _ _ hb), hj.2.2.cg (fun b hb => gl_ge _ _ hb)⟩
  rw [e, clX_go, glS]
/-- a call that brings both apart -/
theorem jJ.callT (hj : jJ p t q dp ca I G) {x : Option ((Int32 ⊕ Nat) × am_I × am_G)} {v : Int32} {t' : sP} {dp' ca' : Int32} (h : ∃ I1, x = some (.inl v, I1, G) ∧ kJ p t' (oq p q) dp' ca' 0 I1 G ∧ zc I I1) : ∃ I2, clX x I G = some (v, I2, G) ∧ kJ p t' (oq p q) dp' ca' 0 I2 G ∧ iS p t dp ca I2 ∧ iO p q I2 := by
  obtain ⟨I1, e, h1, -⟩ := h
  refine ⟨gl 79 I1 I, ?_, h1.cg (fun b hb => gl_lt _ _ hb), hj.2.1.cg (fun b hb => gl_ge _ _ hb), hj.2.2.cg (fun b hb => gl_ge _ _ hb)⟩
  rw [e, clX_go, glS]
theorem J_whence (hj : jJ p t q dp ca I G) (x y : Int32) : ∃ I2, clR (R_X11_whence_0 I G x y) I G = some (Int32.ofNat (s_src p t (s_md x.toInt (p 0 0)) (s_md y.toInt (p 0 1))), I2, G) ∧ jJ p t q dp ca I2 G := hj.call ⟨I, j_whence hj.1 x y, hj.1, zc.rf I⟩
theorem J_height (hj : jJ p t q dp ca I G) (x y : Int32) : ∃ I2, clR (R_X11_height_0 I G x y) I G = some (s_ht p t (s_spot p x y), I2, G) ∧ jJ p t q dp ca I2 G := hj.call (j_height hj.1 x y)
theorem J_ink (hj : jJ p t q dp ca I G) (x y : Int32) : ∃ I2, clR (R_X11_ink_0 I G x y) I G = some (Int32.ofNat (s_ik p t (s_spot p x y)), I2, G) ∧ jJ p t q dp ca I2 G := hj.call (j_ink hj.1 x y)
theorem J_patch (hj : jJ p t q dp ca I G) (x y : Int32) : ∃ I2, clR (R_X11_patch_0 I G x y) I G = some (Int32.ofNat (s_sz (p 0 0) (s_S p) (s_ik p t) (s_spot p x y)), I2, G) ∧ jJ p t q dp ca I2 G := hj.call (j_patch hj.1 x y)
theorem J_mean (hj : jJ p t q dp ca I G) : ∃ I2, clR (R_X11_mean_0 I G) I G = some (FP.ddiv (FP.i2d (s_run (fun k a => a + s_ht p t k) (s_S p) 0 0)) (FP.i2d (Int32.ofNat (s_S p))), I2, G) ∧ jJ p t q dp ca I2 G := hj.call (j_mean hj.1)
theorem J_digest (hj : jJ p t q dp ca I G) : ∃ I2, clR (R_X11_digest_0 I G) I G = some (s_dg p t dp ca 0, I2, G) ∧ jJ p t q dp ca I2 G := hj.call (j_digest hj.1)
theorem J_share (hj : jJ p t q dp ca I G) {j : Nat} (h : j ≤ p 0 4) : ∃ I2, clX (R_X11_share_0 I G (Int32.ofNat j)) I G = some (Int32.ofNat (s_shr p t j (s_S p)), I2, G) ∧ jJ p t q dp ca I2 G := hj.callX (j_share hj.1 h)
theorem J_count (hj : jJ p t q dp ca I G) {k : Nat} (h : k ≤ 14) : ∃ I2, clX (R_X11_count_0 I G (Int32.ofNat k)) I G = some (s_F p t dp ca 0 k, I2, G) ∧ jJ p t q dp ca I2 G := hj.callX (j_count hj.1 h)
theorem J_octave (hj : jJ p t q dp ca I G) {o w : Nat} (ho : o < p 0 2) (hw : w < 4) : ∃ I2, clX (R_X11_octave_0 I G (Int32.ofNat o) (Int32.ofNat w)) I G = some (s_to p t o w, I2, G) ∧ jJ p t q dp ca I2 G := by
  refine hj.callX ⟨I, ?_, hj.1, zc.rf I⟩
  rw [j_octave hj.1 ho (by rw [n_ti (by omega)]; omega), c_to hj.1.2.2.1 hj.1.1.1 ho hw]
theorem J_comb (hj : jJ p t q dp ca I G) {c w : Nat} (hc : c < p 0 3) (hw : w < 3) : ∃ I2, clX (R_X11_comb_0 I G (Int32.ofNat c) (Int32.ofNat w)) I G = some (s_tc p t c w, I2, G) ∧ jJ p t q dp ca I2 G := by
  refine hj.callX ⟨I, ?_, hj.1, zc.rf I⟩
  rw [j_comb hj.1 hc (by rw [n_ti (by omega)]; omega), c_tc hj.1.2.2.1 hj.1.1.1 hc hw]
theorem J_moves (hj : jJ p t q dp ca I G) {j : Nat} (h : j < p 0 3) (w : Int32) : ∃ I2, clX (R_X11_moves_0 I G (Int32.ofNat j) w) I G = some (Int32.ofNat (s_shift p t j (s_md w.toInt (s_lines p j))), I2, G) ∧ jJ p t q dp ca I2 G := hj.callX ⟨I, j_moves hj.1 h w, hj.1, zc.rf I⟩
theorem iS.to (h : iS p t dp ca I) {o w : Nat} (ho : o < p 0 2) (hw : w < 4) : I (84 + o) w = s_to p t o w := by
  obtain ⟨a0, a1, a2, a3⟩ := h.2.1 o ho
  rcases (by omega : w = 0 ∨ w = 1 ∨ w = 2 ∨ w = 3) with rfl | rfl | rfl | rfl
  · exact a0
  · exact a1
  · exact a2
  · exact a3
theorem iS.tc (h : iS p t dp ca I) {c w : Nat} (hc : c < p 0 3) (hw : w < 3) : I (84 + p 0 2 + c) w = s_tc p t c w := by
  obtain ⟨a0, a1, a2⟩ := h.2.2.1 c hc
  rcases (by omega : w = 0 ∨ w = 1 ∨ w = 2) with rfl | rfl | rfl
  · exact a0
  · exact a1
  · exact a2
theorem sp_nat {a b : Nat} (hp : p_ok p) (ha : a < p 0 0) (hb : b < p 0 1) : s_spot p (Int32.ofNat a) (Int32.ofNat b) = b * p 0 0 + a := by
  have h0 := hp.1
  unfold s_spot
  rw [n_ti (by omega), n_ti (by omega), s_md_id ha, s_md_id hb]
theorem md_sub (a : Int) (n : Nat) : s_md (a - (n : Int)) n = s_md a n := by
  unfold s_md
  rw [show a - (n : Int) = a + (n : Int) * (-1) by omega, Int.add_mul_emod_self_left]
theorem md_plus (a : Int) (n : Nat) : s_md (a + (n : Int)) n = s_md a n := by
  unfold s_md
  rw [show a + (n : Int) = a + (n : Int) * 1 by omega, Int.add_mul_emod_self_left]
theorem n_ati {a b : Nat} (ha : a < 1000000000) (hb : b < 1000000000) : (Int32.ofNat a + Int32.ofNat b).toInt = (a : Int) + (b : Int) := by
  rw [n_add, n_ti (by omega)]
  omega
theorem sp_xy {k : Nat} (hp : p_ok p) (hk : k < s_S p) : k % p 0 0 < p 0 0 ∧ k / p 0 0 < p 0 1 ∧ s_spot p (Int32.ofNat (k % p 0 0)) (Int32.ofNat (k / p 0 0)) = k := by
  have h0 := hp.1
  have h1 := Nat.mod_lt k (show 0 < p 0 0 by omega)
  have h2 : k / p 0 0 < p 0 1 := s_y_lt hk
  refine ⟨h1, h2, ?_⟩
  rw [sp_nat hp h1 h2]
  exact (s_xy (p 0 0) k (by omega)).1.symm
theorem sp_back {k : Nat} (hp : p_ok p) (hk : k < s_S p) : s_spot p (Int32.ofNat (k % p 0 0) - Int32.ofNat (p 0 0)) (Int32.ofNat (k / p 0 0) + Int32.ofNat (p 0 1)) = k := by
  have h0 := hp.1
  obtain ⟨h1, h2, h3⟩ := sp_xy hp hk
  refine Eq.trans ?_ h3
  unfold s_spot
  rw [n_sti (by omega) (by omega), n_ati (by omega) (by omega), md_sub, md_plus, n_ti (by omega), n_ti (by omega)]
theorem sp_fore {k : Nat} (hp : p_ok p) (hk : k < s_S p) : s_spot p (Int32.ofNat (k % p 0 0) + Int32.ofNat (p 0 0)) (Int32.ofNat (k / p 0 0) - Int32.ofNat (p 0 1)) = k := by
  have h0 := hp.1
  obtain ⟨h1, h2, h3⟩ := sp_xy hp hk
  refine Eq.trans ?_ h3
  unfold s_spot
  rw [n_sti (by omega) (by omega), n_ati (by omega) (by omega), md_sub, md_plus, n_ti (by omega), n_ti (by omega)]
end E8
theorem m_cmp {v : UInt64} (h : vf_n64 v) : Op.cmpValue (FP.dcmp v v) .l = 0 := by
  have h1 : FP.Core.val64 v ≠ .nan := by
    refine (FP.Core.notNaN_iff v).mp ?_
    cases hd : FP.Core.dIsNaN v with
    | false => rfl
    | true =>
      exfalso
      have h2 := (FP.Core.isNaN_bits v).mp hd
      have h3 : v &&& 0x7fffffffffffffff ≤ 0x7ff0000000000000 := h
      rw [UInt64.le_iff_toNat_le, UInt64.toNat_and, show (0x7fffffffffffffff : UInt64).toNat = 2 ^ 63 - 1 from rfl, Nat.and_two_pow_sub_one_eq_mod, show (0x7ff0000000000000 : UInt64).toNat = 9218868437227405312 from rfl] at h3
      omega
  have h2 : FP.dcmp v v = some .eq := FP.Core.dcmp_self h1
  rw [h2]
  rfl
section E8b
variable {p t : sP} {q : Nat → Nat → Nat} {dp ca : Int32} {G : am_G} {N : Nat} {F0 F1 F2 F3 F4 : Nat → Int32}
/-- what is told of both, at the end of isSame -/
noncomputable def sm (p t : sP) (N : Nat) (G : am_G) (F0 F1 F2 F3 F4 : Nat → Int32) (n hd : Nat) (v3 v7 v8 v9 : Int32) (I : am_I) : Option (Int32 × am_I × am_G) := L_X12_isSame n hd N I G (p 0 4) (p 0 2) (p 0 3) (p 0 5) F0 15 F1 (s_S p) F2 (s_S p) F3 (s_S p) F4 (s_S p) v3 v7 v8 v9
theorem sm6 {n k : Nat} (hp : p_ok p) (hk : k < p 0 3) {v7 : Int32} (K : ∀ I, jJ p t q dp ca I G → ∃ I', sm p t N G F0 F1 F2 F3 F4 n 5 0 v7 (Int32.ofNat (k + 1)) 0 I = some (1, I', G)) : ∀ (m w : Nat) (I : am_I), w + m = 3 → jJ p t q dp ca I G → ∃ I', sm p t N G F0 F1 F2 F3 F4 (n + m + 1) 6 0 v7 (Int32.ofNat k) (Int32.ofNat w) I = some (1, I', G) := by
  have h0 := hp.1
  intro m
  induction m with
  | zero =>
    intro w I hw hj
    unfold sm at K ⊢
    rw [L_X12_isSame_6, show (3 : Int32) = Int32.ofNat 3 from rfl, if_pos ((n_le (by omega) (by omega)).mpr (by omega)), n_inc]
    exact K I hj
  | succ m ih =>
    intro w I hw hj
    have hw3 : w < 3 := by omega
    obtain ⟨I2, e, h2⟩ := J_comb hj hk hw3
    have ih2 := ih (w + 1) I2 (by omega) h2
    unfold sm at ih2 ⊢
    rw [show n + (m + 1) + 1 = (n + m + 1) + 1 by omega, L_X12_isSame_6, show (3 : Int32) = Int32.ofNat 3 from rfl, if_neg (fun z => absurd ((n_le (by omega) (by omega)).mp z) (by omega)), e, Option.bind_some]
    dsimp only
    rw [rg_pos ((n_in (by omega)).mpr hk), rg_pos ((n_in (by omega)).mpr hw3), n_cl (by omega), n_cl (by omega), if_pos (h2.2.1.tc hk hw3).symm, n_inc]
    exact ih2
theorem sm5 {n : Nat} (hp : p_ok p) : ∀ (m k : Nat) (I : am_I), k + m = p 0 3 → jJ p t q dp ca I G → ∃ I', sm p t N G F0 F1 F2 F3 F4 (n + 5 * m + 1) 5 0 (s_run (fun k a => a + s_ht p t k) (s_S p) 0 0) (Int32.ofNat k) 0 I = some (1, I', G) := by
  have h0 := hp.1
  have hS := s_S_le hp
  have hS1 := s_S_pos hp
  intro m
  induction m with
  | zero =>
    intro k I hk hj
    obtain ⟨I2, e, h2⟩ := J_mean hj
    unfold sm
    rw [L_X12_isSame_5, if_pos ((n_le (by omega) (by omega)).mpr (by omega)), e, Option.bind_some]
    dsimp only
    have hn := am_meanN (s_run (fun k a => a + s_ht p t k) (s_S p) 0 0) (n := s_S p) (by omega) (by omega)
    rw [rg_pos hn, if_pos (m_cmp hn)]
    exact ⟨_, rfl⟩
  | succ m ih =>
    intro k I hk hj
    have := sm6 (q := q) (dp := dp) (ca := ca) (N := N) (F0 := F0) (F1 := F1) (F2 := F2) (F3 := F3) (F4 := F4) (n := n + 5 * m + 1) (k := k) hp (by omega) (fun I hj => ih (k + 1) I (by omega) hj) 3 0 I rfl hj
    unfold sm at this ⊢
    rw [show n + 5 * (m + 1) + 1 = (n + 5 * m + 1 + 3 + 1) + 1 by omega, L_X12_isSame_5, if_neg (fun z => absurd ((n_le (by omega) (by omega)).mp z) (by omega))]
    exact this
theorem sm4 {n k : Nat} (hp : p_ok p) (hk : k < p 0 2) {v7 : Int32} (K : ∀ I, jJ p t q dp ca I G → ∃ I', sm p t N G F0 F1 F2 F3 F4 n 3 0 v7 (Int32.ofNat (k + 1)) 0 I = some (1, I', G)) : ∀ (m w : Nat) (I : am_I), w + m = 4 → jJ p t q dp ca I G → ∃ I', sm p t N G F0 F1 F2 F3 F4 (n + m + 1) 4 0 v7 (Int32.ofNat k) (Int32.ofNat w) I = some (1, I', G) := by
  have h0 := hp.1
  intro m
  induction m with
  | zero =>
    intro w I hw hj
    unfold sm at K ⊢
    rw [L_X12_isSame_4, show (4 : Int32) = Int32.ofNat 4 from rfl, if_pos ((n_le (by omega) (by omega)).mpr (by omega)), n_inc]
    exact K I hj
  | succ m ih =>
    intro w I hw hj
    have hw3 : w < 4 := by omega
    obtain ⟨I2, e, h2⟩ := J_octave hj hk hw3
    have ih2 := ih (w + 1) I2 (by omega) h2
    unfold sm at ih2 ⊢
    rw [show n + (m + 1) + 1 = (n + m + 1) + 1 by omega, L_X12_isSame_4, show (4 : Int32) = Int32.ofNat 4 from rfl, if_neg (fun z => absurd ((n_le (by omega) (by omega)).mp z) (by omega)), e, Option.bind_some]
    dsimp only
    rw [rg_pos ((n_in (by omega)).mpr hk), rg_pos ((n_in (by omega)).mpr hw3), n_cl (by omega), n_cl (by omega), if_pos (h2.2.1.to hk hw3).symm, n_inc]
    exact ih2
theorem sm3 {n : Nat} (hp : p_ok p) {v7 : Int32} (K : ∀ I, jJ p t q dp ca I G → ∃ I', sm p t N G F0 F1 F2 F3 F4 n 5 0 v7 (Int32.ofNat 0) 0 I = some (1, I', G)) : ∀ (m k : Nat) (I : am_I), k + m = p 0 2 → jJ p t q dp ca I G → ∃ I', sm p t N G F0 F1 F2 F3 F4 (n + 6 * m + 1) 3 0 v7 (Int32.ofNat k) 0 I = some (1, I', G) := by
  have h0 := hp.1
  intro m
  induction m with
  | zero =>
    intro k I hk hj
    have := K I hj
    unfold sm at this ⊢
    rw [L_X12_isSame_3, if_pos ((n_le (by omega) (by omega)).mpr (by omega))]
    exact this
  | succ m ih =>
    intro k I hk hj
    have := sm4 (q := q) (dp := dp) (ca := ca) (N := N) (F0 := F0) (F1 := F1) (F2 := F2) (F3 := F3) (F4 := F4) (n := n + 6 * m + 1) (k := k) (v7 := v7) hp (by omega) (fun I hj => ih (k + 1) I (by omega) hj) 4 0 I rfl hj
    unfold sm at this ⊢
    rw [show n + 6 * (m + 1) + 1 = (n + 6 * m + 1 + 4 + 1) + 1 by omega, L_X12_isSame_3, if_neg (fun z => absurd ((n_le (by omega) (by omega)).mp z) (by omega))]
    exact this
theorem sm2 {n : Nat} (hp : p_ok p) {v7 : Int32} (h3 : ∀ y, y < s_S p → F3 y = Int32.ofNat (s_ik p t y)) (K : ∀ I, jJ p t q dp ca I G → ∃ I', sm p t N G F0 F1 F2 F3 F4 n 3 0 v7 (Int32.ofNat 0) 0 I = some (1, I', G)) : ∀ (m k : Nat) (I : am_I), k + m = p 0 4 + 1 → jJ p t q dp ca I G → ∃ I', sm p t N G F0 F1 F2 F3 F4 (n + m + 1) 2 0 v7 (Int32.ofNat k) 0 I = some (1, I', G) := by
  have h0 := hp.1
  have hS := s_S_le hp
  intro m
  induction m with
  | zero =>
    intro k I hk hj
    have := K I hj
    unfold sm at this ⊢
    rw [L_X12_isSame_2, if_pos ((n_lt (by omega) (by omega)).mpr (by omega))]
    exact this
  | succ m ih =>
    intro k I hk hj
    obtain ⟨I2, e, h2⟩ := J_share hj (show k ≤ p 0 4 by omega)
    have ih2 := ih (k + 1) I2 (by omega) h2
    unfold sm at ih2 ⊢
    rw [show n + (m + 1) + 1 = (n + m + 1) + 1 by omega, L_X12_isSame_2, if_neg (fun z => absurd ((n_lt (by omega) (by omega)).mp z) (by omega)), e, Option.bind_some]
    dsimp only
    rw [i_many (a := N + 3) (na := s_S p) (by omega) (Int32.ofNat k) (fun y => s_ik p t y = k) (fun y hy => by
      have := s_ik_b p t y
      rw [am_row_ne _ _ (by omega), am_row_self, h3 y hy]; exact n_eq (by omega) (by omega)), Option.bind_some, ← s_shr_num, if_pos rfl, n_inc]
    exact ih2
theorem sm1 {n : Nat} (hp : p_ok p) {g : Nat → Nat} (h1 : ∀ y, y < s_S p → F1 y = Int32.ofNat (s_src p t (y % p 0 0) (y / p 0 0))) (h2 : ∀ y, y < s_S p → F2 y = s_ht p t y) (h3 : ∀ y, y < s_S p → F3 y = Int32.ofNat (s_ik p t y)) (h4 : ∀ y, y < s_S p → F4 y = Int32.ofNat (g y) ∧ g y < s_S p) (hg : ∀ x y, x < s_S p → y < s_S p → (g x = g y ↔ s_con (p 0 0) (s_S p) (s_ik p t) x y))
    (K : ∀ I, jJ p t q dp ca I G → ∃ I', sm p t N G F0 F1 F2 F3 F4 n 2 0 (s_run (fun k a => a + s_ht p t k) (s_S p) 0 0) (Int32.ofNat 0) 0 I = some (1, I', G)) : ∀ (m k : Nat) (v7 : Int32) (I : am_I), k + m = s_S p → s_run (fun k a => a + s_ht p t k) m k v7 = s_run (fun k a => a + s_ht p t k) (s_S p) 0 0 → jJ p t q dp ca I G → ∃ I', sm p t N G F0 F1 F2 F3 F4 (n + m + 1) 1 0 v7 (Int32.ofNat k) 0 I = some (1, I', G) := by
  have h0 := hp.1
  have hS := s_S_le hp
  intro m
  induction m with
  | zero =>
    intro k v7 I hk hv hj
    have := K I hj
    have hv : v7 = s_run (fun k a => a + s_ht p t k) (s_S p) 0 0 := hv
    rw [hv]
    unfold sm at this ⊢
    rw [L_X12_isSame_1, if_pos ((n_le (by omega) (by omega)).mpr (by omega))]
    exact this
  | succ m ih =>
    intro k v7 I hk hv hj
    have hkS : k < s_S p := by omega
    obtain ⟨hx, hy, hsp⟩ := sp_xy hp hkS
    obtain ⟨I1, e1, j1⟩ := J_whence hj (Int32.ofNat (k % p 0 0)) (Int32.ofNat (k / p 0 0))
    rw [n_ti (by omega), n_ti (by omega), s_md_id hx, s_md_id hy] at e1
    obtain ⟨I2, e2, j2⟩ := J_height j1 (Int32.ofNat (k % p 0 0)) (Int32.ofNat (k / p 0 0))
    rw [hsp] at e2
    obtain ⟨I3, e3, j3⟩ := J_ink j2 (Int32.ofNat (k % p 0 0)) (Int32.ofNat (k / p 0 0))
    rw [hsp] at e3
    have hv2 : s_run (fun k a => a + s_ht p t k) m (k + 1) (v7 + s_ht p t k) = s_run (fun k a => a + s_ht p t k) (s_S p) 0 0 := hv
    have ih2 := fun I hj => ih (k + 1) (v7 + s_ht p t k) I (by omega) hv2 hj
    unfold sm at ih2 ⊢
    rw [show n + (m + 1) + 1 = (n + m + 1) + 1 by omega, L_X12_isSame_1, if_neg (fun z => absurd ((n_le (by omega) (by omega)).mp z) (by omega)), hj.2.1.1.1, rg_pos (n_ne0 (by omega) (by omega)), rg_pos (n_ne0 (by omega) (by omega)), n_mod (by omega) (by omega), n_div (by omega) (by omega), e1, Option.bind_some]
    dsimp only
    rw [rg_pos ((n_in (by omega)).mpr hkS), n_cl (by omega), h1 k hkS, if_pos rfl, e2, Option.bind_some]
    dsimp only
    rw [rg_pos ((n_in (by omega)).mpr hkS), if_pos (h2 k hkS).symm, h2 k hkS, e3, Option.bind_some]
    dsimp only
    rw [rg_pos ((n_in (by omega)).mpr hkS), h3 k hkS, if_pos rfl, n_inc]
    by_cases c : Int32.ofNat k - Int32.ofNat k / (7 : Int32) * (7 : Int32) = I3 79 8 - I3 79 8 / (7 : Int32) * (7 : Int32)
    · rw [if_pos c]
      obtain ⟨I4, e4, j4⟩ := J_patch j3 (Int32.ofNat (k % p 0 0) - Int32.ofNat (p 0 0)) (Int32.ofNat (k / p 0 0) + Int32.ofNat (p 0 1))
      rw [sp_back hp hkS] at e4
      rw [j3.2.1.1.1, j3.2.1.1.2.1, e4, Option.bind_some]
      dsimp only
      rw [rg_pos ((n_in (by omega)).mpr hkS), i_many (a := N + 4) (na := s_S p) (by omega) (F4 k) (fun y => s_con (p 0 0) (s_S p) (s_ik p t) k y) (fun y hy => by
        have b1 := (h4 y hy).2
        have b2 := (h4 k hkS).2
        rw [am_row_self, (h4 y hy).1, (h4 k hkS).1, n_eq (by omega) (by omega), ← hg k y hkS hy]
        exact eq_comm), Option.bind_some]
      rw [show Int32.ofNat (s_num (fun y => s_con (p 0 0) (s_S p) (s_ik p t) k y) (s_S p)) = Int32.ofNat (s_sz (p 0 0) (s_S p) (s_ik p t) k) from rfl, if_pos rfl, rg_pos ((n_in (by omega)).mpr hkS)]
      exact ih2 I4 j4
    · rw [if_neg c, rg_pos ((n_in (by omega)).mpr hkS)]
      exact ih2 I3 j3
end E8b
section E8c
variable {p t : sP} {q : Nat → Nat → Nat} {dp ca : Int32} {I : am_I} {G : am_G} {N : Nat}
theorem sm0 {n : Nat} {F0 : Nat → Int32} (hp : p_ok p) (hF : ∀ k, k < 15 → F0 k = s_F p t dp ca 0 k) {Z : Option (Int32 × am_I × am_G) → Prop}
    (K : ∀ (I : am_I), jJ p t q dp ca I G → Z (L_X12_isSame (n + 1) 0 N I G (p 0 4) (p 0 2) (p 0 3) (p 0 5) F0 15 (fun _ => 0) 0 (fun _ => 0) 0 (fun _ => 0) 0 (fun _ => 0) 0 (15 : Int32) 0 0 0)) : ∀ (m k : Nat) (I : am_I), k + m = 15 → jJ p t q dp ca I G → Z (L_X12_isSame (n + m + 1) 0 N I G (p 0 4) (p 0 2) (p 0 3) (p 0 5) F0 15 (fun _ => 0) 0 (fun _ => 0) 0 (fun _ => 0) 0 (fun _ => 0) 0 (Int32.ofNat k) 0 0 0) := by
  intro m
  induction m with
  | zero =>
    intro k I hk hj
    obtain rfl : k = 15 := by omega
    exact K I hj
  | succ m ih =>
    intro k I hk hj
    obtain ⟨I2, e, h2⟩ := J_count hj (show k ≤ 14 by omega)
    rw [show n + (m + 1) + 1 = (n + m + 1) + 1 by omega, L_X12_isSame_0, show (15 : Int32) = Int32.ofNat 15 from rfl, if_neg (fun z => absurd ((n_le (by omega) (by omega)).mp z) (by omega)), e, Option.bind_some]
    dsimp only
    rw [rg_pos ((n_in (by omega)).mpr (by omega)), n_cl (by omega), hF k (by omega), if_pos rfl, n_inc]
    exact ih (k + 1) I2 (by omega) h2
theorem i_same (hw : w_ok p q) (hN : 84 + p 0 2 + p 0 3 ≤ N) (hj : jJ p t q dp ca I G) : ∃ I', R_X12_isSame N I G (p 0 4) (p 0 2) (p 0 3) (p 0 5) = some (1, I', G) := by
  obtain ⟨hp, hS2, ho, hc, hi, hd, hq⟩ := hw
  have h0 := hp.1
  have hS := s_S_le hp
  have ht := hj.1.1.2.1
  obtain ⟨F0, e0, f0, f1, f2⟩ := i_ct (nd := p 0 5) hp ht hS2 hj.2.1 hN
  unfold R_X12_isSame
  rw [e0, Option.bind_some]
  dsimp only
  have hF : ∀ k, k < 15 → F0 k = s_F p t dp ca 0 k := fun k hk => by
    obtain ⟨a0, a1, a2, a3, a4, a5, a6⟩ := f0
    obtain ⟨b0, b1, b2, b3⟩ := f1
    obtain ⟨c0, c1, c2, c3⟩ := f2
    by_cases k14' : k = 14
    · rw [k14', c3]; rfl
    · rcases k14 (show k < 14 by omega) with rfl | rfl | rfl | rfl | rfl | rfl | rfl | rfl | rfl | rfl | rfl | rfl | rfl | rfl
      · rw [a0]; rfl
      · rw [a1]; rfl
      · rw [a2]; rfl
      · rw [a3]; rfl
      · rw [a4]; rfl
      · rw [a5]; rfl
      · rw [a6]; rfl
      · rw [b0]; rfl
      · rw [b1]; rfl
      · rw [b2]; rfl
      · rw [b3]; rfl
      · rw [c0]; rfl
      · rw [c1]; rfl
      · rw [c2]; rfl
  obtain ⟨n0, hn⟩ : ∃ n0, FU = ((((n0 + 5 * p 0 3 + 1) + 6 * p 0 2 + 1) + (p 0 4 + 1) + 1) + s_S p + 1) + 15 + 1 := ⟨FU - (((((5 * p 0 3 + 1) + 6 * p 0 2 + 1) + (p 0 4 + 1) + 1) + s_S p + 1) + 15 + 1), by unfold FU; omega⟩
  rw [hn]
  refine sm0 (q := q) (Z := fun z => ∃ I', z = some (1, I', G)) hp hF (fun I hj => ?_) 15 0 I rfl hj
  obtain ⟨F1, e1, g1⟩ := i_cm (ni := p 0 4) (nd := p 0 5) (N := N + 1) hp ht hS2 (hj.2.1.row (f := F0) hN) (by omega)
  obtain ⟨F2, e2, g2⟩ := i_hs (ni := p 0 4) (nd := p 0 5) (N := N + 2) hp ht hS2 ((hj.2.1.row (f := F0) hN).row (N := N + 1) (f := F1) (by omega)) (by omega)
  have r2 := ((hj.2.1.row (f := F0) hN).row (N := N + 1) (f := F1) (by omega)).row (N := N + 2) (f := F2) (by omega)
  obtain ⟨F3, e3, g3⟩ := i_in_ (no := p 0 2) (nc := p 0 3) (nd := p 0 5) (N := N + 3) (a := N + 2) (na := s_S p) hp r2 hS2 (by omega)
  have g3' : ∀ y, y < s_S p → F3 y = Int32.ofNat (s_ik p t y) := fun y hy => by
    rw [g3 y hy, am_row_self, g2 y hy]
    rfl
  have r3 := r2.row (N := N + 3) (f := F3) (by omega)
  obtain ⟨F4, g, e4, g4, g5, -⟩ := i_pt (ni := p 0 4) (no := p 0 2) (nc := p 0 3) (nd := p 0 5) (N := N + 4) (a := N + 3) (k := s_ik p t) hp hS2 r3 (by omega) (by omega) (fun y hy => by
    have := s_ik_b p t y
    rw [am_row_self]
    exact ⟨g3' y hy, by omega⟩)
  rw [L_X12_isSame_0, if_pos (by decide), e1, Option.bind_some]
  dsimp only
  rw [e2, Option.bind_some]
  dsimp only
  rw [e3, Option.bind_some]
  dsimp only
  rw [e4, Option.bind_some]
  dsimp only
  have := sm1 (N := N) (F0 := F0) hp g1 g2 g3' g4 g5 (fun I hj => sm2 (N := N) (F0 := F0) (F1 := F1) (F2 := F2) (F4 := F4) hp g3' (fun I hj => sm3 (N := N) (F0 := F0) (F1 := F1) (F2 := F2) (F3 := F3) (F4 := F4) hp (fun I hj => sm5 (n := n0) (N := N) (F0 := F0) (F1 := F1) (F2 := F2) (F3 := F3) (F4 := F4) hp (p 0 3) 0 I (by omega) hj) (p 0 2) 0 I (by omega) hj) (p 0 4 + 1) 0 I (by omega) hj) (s_S p) 0 0 I (by omega) rfl hj
  exact this
end E8c
