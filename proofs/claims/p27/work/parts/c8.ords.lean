/-! list: its loop over orders -/
section AMP8
variable {X : am_X} {o : Nat} {cc : ByteArray} {nL : Nat} {ini : Bool} {ret : Option FieldType} {d : Nat}
variable {cells slots MC MS : Nat} {Q : State → Prop} {sh sh' shA : List am_Sh} {ad : Nat → Nat} {pc : Nat} {L : am_L} {st rest : List Value} {I I' IA : am_I} {G G' : am_G} {P P' : am_P} {m : Nat} {T S : List Nat}
/-- an append of a String that is answered, static or made: it is forgotten then -/
theorem ap_Pm (hX : am_okz X ad) (hi : am_info X o cc nL ini ret d) (hm : am_mem X MC MS) {idx : Nat} (hl0 : am_lnk o idx mJ4_append_15ec4.1 false = true) (hd : decode cc pc = .ok (.invokevirtual idx, 3)) (hd6 : 6 ≤ d) {r : Option Value} (hp : pStr sh S I G P r sh' I' G' P') (hst : st = r.toList ++ .ref 0 :: rest) (hr8 : (rest.map fun v => v.category).sum ≤ 8) (hroom : cells + 1 ≤ MC ∧ slots + 4096 ≤ MS)
    (hF : aF shA IA sh I) (hB : sB sh I P 0 1 m T) (hn : T.length + S.length ≤ 2000) (hl : sh.length + 2 < 1000) (hR : lR sh.length sh P) (hV : lV 1 0 sh P) (hL : am_kqL sh.length L) (hrest : am_kqS sh.length rest) (hLv : am_nqL 1 L) (hSv : am_nqS 1 rest)
    (kk : ∀ (ad1 : Nat → Nat) (m1 : Nat) (sh1 : List am_Sh) (I1 : am_I), (∀ j, j ≠ 1 → j < sh.length ∨ 1000 ≤ j → ad1 j = ad j) → am_okz X ad1 → aF shA IA sh1 I1 → sB sh1 I1 P 0 1 m1 (T ++ S) → lR sh1.length sh1 P → lV 1 0 sh1 P → am_V X (cells + 1) (slots + 4096) Q sh1 ad1 (pc + 3, L, .ref 0 :: rest, I1, G, P)) : am_V X cells slots Q sh' ad (pc, L, st, I', G', P') := by
  obtain ⟨q, w, rfl, rfl, ⟨rfl, rfl, rfl, hxs⟩ | ⟨rfl, rfl, rfl, hA, h60, f, hf, rfl, rfl⟩⟩ := hp
  · exact ap_Sm hX hi hm hl0 hd hd6 hst hr8 hroom hF hB (hxs _ _ _) hn (by omega) hR hV hL hrest hLv hSv kk
  · have hB0 := hB
    obtain ⟨s1, s2, s3, s4, s5, s6, s7, s8, s9, s10⟩ := hB
    have l0 := am_at_lt s1
    have l1 := am_at_lt s2
    have hx := xS_new (sh := sh) (I := I) (P := P) (T := S) (f := f) (ex := []) hA (by omega) hf (fun _ _ => rfl) (fun _ _ => rfl)
    rw [List.append_nil] at hx
    have hV2 : lV 1 0 (sh ++ [(.inl 0 : am_Sh), .inr (4, S.length)]) (am_up (am_z P sh.length .null) sh.length 0 (.ref (sh.length + 1))) := by
      refine ⟨fun k c j h1 h2 h3 => ?_, fun k n j h1 h2 => ?_⟩
      · rcases at2 h1 with e | ⟨rfl, -⟩ | ⟨-, e⟩
        · have := am_at_lt e
          rw [am_up_rowb _ _ _ (by omega), am_z_ne _ _ (by omega)]; exact hV.1 k c j e h2 h3
        · by_cases h9 : j = 0
          · rw [h9, am_up_self]; exact ref_ne (by omega)
          · rw [am_up_k _ _ h9, am_z_self]; exact fun z => by cases z
        · cases e
      · rcases at2 h1 with e | ⟨-, e⟩ | ⟨-, e⟩
        · have := am_at_lt e
          rw [am_up_rowb _ _ _ (by omega), am_z_ne _ _ (by omega)]; exact hV.2 k n j e h2
        · cases e
        · cases e
    have hB2 : sB (sh ++ [(.inl 0 : am_Sh), .inr (4, S.length)]) (am_row (am_row I sh.length (fun _ => 0)) (sh.length + 1) f) (am_up (am_z P sh.length .null) sh.length 0 (.ref (sh.length + 1))) 0 1 m T := by
      refine ⟨am_at_app s1, am_at_app s2, ?_, ?_, ?_, s6, s7, s8, ?_, ?_⟩
      · rw [am_up_rowb _ _ _ (by omega), am_z_ne _ _ (by omega)]; exact s3
      · rw [am_row_ne _ _ (by omega), am_row_ne _ _ (by omega)]; exact s4
      · rw [am_row_ne _ _ (by omega), am_row_ne _ _ (by omega)]; exact s5
      · rw [am_row_ne _ _ (by omega), am_row_ne _ _ (by omega)]; exact s9
      · rw [am_row_ne _ _ (by omega), am_row_ne _ _ (by omega)]; exact s10
    refine ap_S hX hi hm hl0 hd hd6 hst hr8 hroom hB2 hx hn (by rw [len2]; omega) (by rw [len2]; exact hR.str) hV2 (by rw [len2]; exact am_kqL_le (by omega) hL) (by rw [len2]; exact am_kqS_le (by omega) hrest) hLv hSv (fun ad1 m1 f1 ha hX1 hs => ?_)
    rw [List.set_append_left _ _ l1]
    obtain ⟨-, -, -, -, -, c1, c2, -, c3, c4⟩ := hs
    have e1 : am_up (am_row (am_row (am_row I sh.length (fun _ => 0)) (sh.length + 1) f) 1 f1) 0 3 (Int32.ofNat (T ++ S).length) 1 = f1 := by rw [am_up_rowb _ _ _ (by decide), am_row_self]
    rw [e1] at c3 c4
    refine am_dropK (sh := sh.set 1 (.inr (4, m1))) (I0 := am_up (am_row I 1 f1) 0 3 (Int32.ofNat (T ++ S).length)) (G0 := G') (P0 := P) (fun k hk => ⟨?_, rfl, ?_⟩) ?_
    · rw [List.length_set] at hk
      by_cases e : k = 0
      · subst e
        rw [am_up_row, am_up_row]
        simp only [am_row_ne _ _ (show (0 : Nat) ≠ 1 by decide), am_row_ne _ _ (show (0 : Nat) ≠ sh.length + 1 by omega), am_row_ne _ _ (show (0 : Nat) ≠ sh.length by omega)]
      · rw [am_up_rowb _ _ _ e, am_up_rowb _ _ _ e]
        by_cases e2 : k = 1
        · subst e2; rw [am_row_self, am_row_self]
        · rw [am_row_ne _ _ e2, am_row_ne _ _ e2, am_row_ne _ _ (by omega), am_row_ne _ _ (by omega)]
    · rw [List.length_set] at hk
      rw [am_up_rowb _ _ _ (by omega), am_z_ne _ _ (by omega)]
    · exact kk ad1 m1 _ _ (fun j h1 h2 => ha j h1 (by rw [len2]; omega)) hX1 hF.step (ap_sB hB0 hA c1 c2 c3 c4) (by rw [List.length_set]; exact hR.set s2) (hV.set s2)
end AMP8
theorem sumT_len (k a n : Nat) : (sumT k a n).length ≤ 40 := by
  have h1 := dT_3 a; have h2 := dT_3 (n - 1); have h3 := dT_3 (a + 1)
  unfold sumT
  split <;> simp only [List.length_append, List.length_nil, wl_35, wl_48, wl_50, wl_52, wl_60, wl_62, wl_64, wl_66, wl_68, wl_70, wl_72, wl_74, wl_76, wl_78, wl_80, wl_82, wl_84, wl_104, wl_106, wl_108, wl_118, wl_120, wl_122, wl_124, wl_126, wl_128, wl_130, wl_135, wl_137, wl_139, wl_141, wl_143, wl_145, wl_147, wl_149, wl_151, wl_153, wl_155] <;> omega
theorem testT_len (k a n : Nat) : (testT k a n).length ≤ 60 := by
  have h1 := dT_3 a; have h2 := dT_3 (n - 1); have h3 := dT_3 (440 + 40 * a); have h4 := dT_3 (30 * (a + 1))
  unfold testT
  split <;> simp only [List.length_append, List.length_nil, wl_35, wl_48, wl_50, wl_52, wl_60, wl_62, wl_64, wl_66, wl_68, wl_70, wl_72, wl_74, wl_76, wl_78, wl_80, wl_82, wl_84, wl_104, wl_106, wl_108, wl_118, wl_120, wl_122, wl_124, wl_126, wl_128, wl_130, wl_135, wl_137, wl_139, wl_141, wl_143, wl_145, wl_147, wl_149, wl_151, wl_153, wl_155] <;> omega
theorem tHead_len (c : Nat → Int32) (i : Nat) : (tHead c i).length ≤ 30 := by
  have h1 := dT_3 (pOrd c i 1)
  unfold tHead
  split
  · simp only [List.length_append, List.length_nil, wl_35, wl_48, wl_50, wl_52, wl_60, wl_62, wl_64, wl_66, wl_68, wl_70, wl_72, wl_74, wl_76, wl_78, wl_80, wl_82, wl_84, wl_104, wl_106, wl_108, wl_118, wl_120, wl_122, wl_124, wl_126, wl_128, wl_130, wl_135, wl_137, wl_139, wl_141, wl_143, wl_145, wl_147, wl_149, wl_151, wl_153, wl_155]; omega
  · split
    · simp only [List.length_append, List.length_nil, wl_35, wl_48, wl_50, wl_52, wl_60, wl_62, wl_64, wl_66, wl_68, wl_70, wl_72, wl_74, wl_76, wl_78, wl_80, wl_82, wl_84, wl_104, wl_106, wl_108, wl_118, wl_120, wl_122, wl_124, wl_126, wl_128, wl_130, wl_135, wl_137, wl_139, wl_141, wl_143, wl_145, wl_147, wl_149, wl_151, wl_153, wl_155]; omega
    · split <;> decide
theorem tOrd_len (c : Nat → Int32) : ∀ i : Nat, (tOrd c i).length ≤ 30 + 70 * pNo c + 40 * pNc c + 20 * pNi c + 140 * i
  | 0 => tLev_len c (pNi c)
  | i + 1 => by
    have h := tOrd_len c i
    have h1 := tHead_len c i; have h2 := sumT_len (pOrd c i 2) (pOrd c i 3) (pNi c); have h3 := testT_len (pOrd c i 4) (pOrd c i 5) (pNi c)
    unfold tOrd
    simp only [List.length_append, wl_35, wl_48, wl_50, wl_52, wl_60, wl_62, wl_64, wl_66, wl_68, wl_70, wl_72, wl_74, wl_76, wl_78, wl_80, wl_82, wl_84, wl_104, wl_106, wl_108, wl_118, wl_120, wl_122, wl_124, wl_126, wl_128, wl_130, wl_135, wl_137, wl_139, wl_141, wl_143, wl_145, wl_147, wl_149, wl_151, wl_153, wl_155]
    omega
