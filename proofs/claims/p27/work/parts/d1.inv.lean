/-! the class alone: the invariant between calls, looks at spots (a draft, not built; after whole's 73, 74) -/
def kJ (p t : sP) (od : sO) (dp ca : Int32) (ln : Nat) (I : am_I) (G : am_G) : Prop :=
  (p_ok p ∧ t_ok p t ∧ o_ok p od) ∧ cO I p od ∧ cA_53 I p t dp ca ∧ (I 1 5 = Int32.ofNat ln ∧ ln ≤ 2000) ∧ (∀ k, k < ln → 0 ≤ (I 2 k).toInt ∧ (I 2 k).toInt ≤ 255) ∧ ∀ k, k < 24 → G 3 k = kwL.getD k 0
def zc (I I' : am_I) : Prop := ∀ b, b ≠ 26 → b ≠ 27 → (b < 53 ∨ 78 < b) → I' b = I b
theorem zc.rf (I : am_I) : zc I I := fun _ _ _ _ => rfl
theorem zc.tr {I I1 I2 : am_I} (h1 : zc I I1) (h2 : zc I1 I2) : zc I I2 := fun b z1 z2 z3 => (h2 b z1 z2 z3).trans (h1 b z1 z2 z3)
theorem cZ_53.toc {I I' : am_I} (h : cZ_53 I I') : zc I I' := fun b z1 z2 z3 => h b z1 z2 (by omega)
theorem cZ_66.toc {I I' : am_I} (h : cZ_66 I I') : zc I I' := fun b z1 z2 z3 => h b z1 z2 (by omega)
section D1
variable {p t : sP} {od : sO} {dp ca : Int32} {ln : Nat} {I I1 : am_I} {G : am_G}
theorem kJ.step (h : kJ p t od dp ca ln I G) (hz : zc I I1) (hc : cA_53 I1 p t dp ca) : kJ p t od dp ca ln I1 G := by
  obtain ⟨a1, a2, -, ⟨a4, a5⟩, a6, a7⟩ := h
  refine ⟨a1, ?_, hc, ⟨by rw [hz 1 (by decide) (by decide) (by decide)]; exact a4, a5⟩, fun k hk => by rw [hz 2 (by decide) (by decide) (by decide)]; exact a6 k hk, a7⟩
  exact a2.kept (fun b _ _ => hz b (by omega) (by omega) (by omega))
theorem j_height (h : kJ p t od dp ca ln I G) (x y : Int32) : ∃ I1, R_X11_height_0 I G x y = some (s_ht p t (s_spot p x y), I1, G) ∧ kJ p t od dp ca ln I1 G ∧ zc I I1 := by
  obtain ⟨I1, e1, c1, z1, f1⟩ := c_rfA_53 (G := G) h.1.1 h.1.2.1 h.2.2.1
  have hS := s_S_le h.1.1
  have hsp := s_spot_lt h.1.1 x y
  refine ⟨I1, ?_, h.step z1.toc c1, z1.toc⟩
  unfold R_X11_height_0
  rw [e1, rb_go, show f_X5_spot_7 I1 G x y = Int32.ofNat (s_spot p x y) from c_spot c1.1.1 h.1.1 x y, n_gAt (by omega) (by omega), ((c1.2.1.2.1 f1).1 _ hsp).1]
theorem j_ink (h : kJ p t od dp ca ln I G) (x y : Int32) : ∃ I1, R_X11_ink_0 I G x y = some (Int32.ofNat (s_ik p t (s_spot p x y)), I1, G) ∧ kJ p t od dp ca ln I1 G ∧ zc I I1 := by
  obtain ⟨I1, e1, c1, z1, f1⟩ := c_rfA_53 (G := G) h.1.1 h.1.2.1 h.2.2.1
  have hS := s_S_le h.1.1
  have hsp := s_spot_lt h.1.1 x y
  refine ⟨I1, ?_, h.step z1.toc c1, z1.toc⟩
  unfold R_X11_ink_0
  rw [e1, rb_go, show f_X5_spot_7 I1 G x y = Int32.ofNat (s_spot p x y) from c_spot c1.1.1 h.1.1 x y, n_gAt (by omega) (by omega), ((c1.2.1.2.1 f1).1 _ hsp).2]
theorem j_patch (h : kJ p t od dp ca ln I G) (x y : Int32) : ∃ I1, R_X11_patch_0 I G x y = some (Int32.ofNat (s_sz (p 0 0) (s_S p) (s_ik p t) (s_spot p x y)), I1, G) ∧ kJ p t od dp ca ln I1 G ∧ zc I I1 := by
  obtain ⟨I1, e1, c1, z1, f1, g1⟩ := c_grA_53 (G := G) h.1.1 h.1.2.1 h.2.2.1
  have hS := s_S_le h.1.1
  have hsp := s_spot_lt h.1.1 x y
  obtain ⟨-, -, -, q⟩ := c1.2.1.2.2 g1
  obtain ⟨m, m1, m2, m3⟩ := q _ hsp
  refine ⟨I1, ?_, h.step z1.toc c1, z1.toc⟩
  unfold R_X11_patch_0
  rw [e1, rb_go, show f_X5_spot_7 I1 G x y = Int32.ofNat (s_spot p x y) from c_spot c1.1.1 h.1.1 x y]
  unfold f_X4_sizeAt_60
  rw [n_gAt (by omega) (by omega), m2, n_gAt m1 (by omega), m3]
theorem j_whence (h : kJ p t od dp ca ln I G) (x y : Int32) : R_X11_whence_0 I G x y = some (Int32.ofNat (s_src p t (s_md x.toInt (p 0 0)) (s_md y.toInt (p 0 1))), I, G) := by
  unfold R_X11_whence_0
  rw [c_src_53 h.2.2.1.1.1 h.1.1 h.2.2.1.2.1.1 h.1.2.1, rb_go]
theorem j_share (h : kJ p t od dp ca ln I G) {j : Nat} (hj : j ≤ p 0 4) : ∃ I1, R_X11_share_0 I G (Int32.ofNat j) = some (.inl (Int32.ofNat (s_shr p t j (s_S p))), I1, G) ∧ kJ p t od dp ca ln I1 G ∧ zc I I1 := by
  have hp := h.1.1
  have h0 := hp.1
  have e13 := h.2.2.1.1.1.1.2.2.2.2
  obtain ⟨I1, e1, c1, z1, f1⟩ := c_rfA_53 (G := G) hp h.1.2.1 h.2.2.1
  refine ⟨I1, ?_, h.step z1.toc c1, z1.toc⟩
  unfold R_X11_share_0
  rw [if_neg (n_nlt0 j (by omega)), e13, if_pos ((n_le (by omega) (by omega)).mpr hj), e1, rb_go, n_gAt (by omega) (by omega), (c1.2.1.2.1 f1).2 j hj]
end D1
