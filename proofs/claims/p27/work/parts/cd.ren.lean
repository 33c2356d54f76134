/-! the law's cells in the layout of its loop -/
def fSh (ni no nc nd : Nat) : List am_Sh := gS ++ ([.inl 12, .inr (0, ni), .inr (3, no), .inr (3, nc), .inr (3, nd)] ++ (List.replicate no (.inr (0, 4)) ++ (List.replicate nc (.inr (0, 3)) ++ List.replicate nd (.inr (0, 6)))))
theorem gS_len : gS.length = 79 := by decide
theorem fSh_len (ni no nc nd : Nat) : (fSh ni no nc nd).length = 84 + no + nc + nd := by
  unfold fSh
  simp only [List.length_append, gS_len, List.length_replicate, List.length_cons, List.length_nil]
  omega
theorem rep_at {n k : Nat} {x s : am_Sh} (h : (List.replicate n x)[k]? = some s) : k < n ∧ s = x := by
  have h1 := (List.getElem?_eq_some_iff.mp h).1
  rw [List.length_replicate] at h1
  rw [List.getElem?_replicate, if_pos h1] at h
  exact ⟨h1, (Option.some.inj h).symm⟩
theorem app_at {a b : List am_Sh} {k : Nat} {s : am_Sh} (h : (a ++ b)[k]? = some s) : (k < a.length ∧ a[k]? = some s) ∨ (a.length ≤ k ∧ b[k - a.length]? = some s) := by
  by_cases hk : k < a.length
  · rw [List.getElem?_append_left hk] at h; exact Or.inl ⟨hk, h⟩
  · rw [List.getElem?_append_right (by omega)] at h; exact Or.inr ⟨by omega, h⟩
theorem fSh_at {ni no nc nd k : Nat} {s : am_Sh} (h : (fSh ni no nc nd)[k]? = some s) : (k < 79 ∧ gS[k]? = some s) ∨ (k = 79 ∧ s = .inl 12) ∨ (k = 80 ∧ s = .inr (0, ni)) ∨ (k = 81 ∧ s = .inr (3, no)) ∨ (k = 82 ∧ s = .inr (3, nc)) ∨ (k = 83 ∧ s = .inr (3, nd)) ∨ (∃ j, j < no ∧ k = 84 + j ∧ s = .inr (0, 4)) ∨ (∃ j, j < nc ∧ k = 84 + no + j ∧ s = .inr (0, 3)) ∨ ∃ j, j < nd ∧ k = 84 + no + nc + j ∧ s = .inr (0, 6) := by
  unfold fSh at h
  rcases app_at h with ⟨h1, h2⟩ | ⟨h1, h2⟩
  · rw [gS_len] at h1; exact Or.inl ⟨h1, h2⟩
  · rw [gS_len] at h1 h2
    rcases app_at h2 with ⟨h3, h4⟩ | ⟨h3, h4⟩
    · have h3 : k - 79 < 5 := h3
      rcases (by omega : k - 79 = 0 ∨ k - 79 = 1 ∨ k - 79 = 2 ∨ k - 79 = 3 ∨ k - 79 = 4) with e | e | e | e | e
      · rw [e] at h4; cases h4; exact Or.inr (Or.inl ⟨by omega, rfl⟩)
      · rw [e] at h4; cases h4; exact Or.inr (Or.inr (Or.inl ⟨by omega, rfl⟩))
      · rw [e] at h4; cases h4; exact Or.inr (Or.inr (Or.inr (Or.inl ⟨by omega, rfl⟩)))
      · rw [e] at h4; cases h4; exact Or.inr (Or.inr (Or.inr (Or.inr (Or.inl ⟨by omega, rfl⟩))))
      · rw [e] at h4; cases h4; exact Or.inr (Or.inr (Or.inr (Or.inr (Or.inr (Or.inl ⟨by omega, rfl⟩)))))
    · have h3 : 5 ≤ k - 79 := h3
      have h4 : (List.replicate no (.inr (0, 4)) ++ (List.replicate nc (.inr (0, 3)) ++ List.replicate nd (.inr (0, 6)) : List am_Sh))[k - 79 - 5]? = some s := h4
      rcases app_at h4 with ⟨h5, h6⟩ | ⟨h5, h6⟩
      · obtain ⟨h7, h8⟩ := rep_at h6
        exact Or.inr (Or.inr (Or.inr (Or.inr (Or.inr (Or.inr (Or.inl ⟨k - 79 - 5, h7, by omega, h8⟩))))))
      · rw [List.length_replicate] at h5 h6
        rcases app_at h6 with ⟨h7, h8⟩ | ⟨h7, h8⟩
        · obtain ⟨h9, h10⟩ := rep_at h8
          exact Or.inr (Or.inr (Or.inr (Or.inr (Or.inr (Or.inr (Or.inr (Or.inl ⟨k - 79 - 5 - no, h9, by omega, h10⟩)))))))
        · rw [List.length_replicate] at h7 h8
          obtain ⟨h9, h10⟩ := rep_at h8
          exact Or.inr (Or.inr (Or.inr (Or.inr (Or.inr (Or.inr (Or.inr (Or.inr ⟨k - 79 - 5 - no - nc, h9, by omega, h10⟩)))))))
def fPi (no nc nd k : Nat) : Nat := if k < 79 then k else if k = 79 then 81 else if k = 80 then 86 + 2 * no + 2 * nc else if k = 81 then 79 + gN 7 3 no else if k = 82 then 79 + gN (7 + 2 * no) 4 nc else if k = 83 then 79 + gN (8 + 2 * no + 2 * nc) 6 nd else if k < 84 + no then 86 + 2 * (k - 84) else if k < 84 + no + nc then 86 + 2 * no + 2 * (k - 84 - no) else 87 + 2 * no + 2 * nc + 2 * (k - 84 - no - nc)
def fP (no nc : Nat) : am_P := fun b j => if b < 79 then gP 0 b j else if b = 79 then (if j = 2 then .ref 81 else if j = 3 then .ref 82 else if j = 4 then .ref 80 else if j = 5 then .ref 83 else .null) else if b = 81 then .ref (84 + j) else if b = 82 then .ref (84 + no + j) else if b = 83 then .ref (84 + no + nc + j) else .null
section FPI
variable {ni no nc nd k : Nat}
theorem fPi_c (h : k < 79) : fPi no nc nd k = k := if_pos h
theorem fPi_79 : fPi no nc nd 79 = 81 := rfl
theorem fPi_80 : fPi no nc nd 80 = 86 + 2 * no + 2 * nc := rfl
theorem fPi_81 : fPi no nc nd 81 = 79 + gN 7 3 no := rfl
theorem fPi_82 : fPi no nc nd 82 = 79 + gN (7 + 2 * no) 4 nc := rfl
theorem fPi_83 : fPi no nc nd 83 = 79 + gN (8 + 2 * no + 2 * nc) 6 nd := rfl
theorem fPi_o (h : k < no) : fPi no nc nd (84 + k) = 86 + 2 * k := by
  unfold fPi
  rw [if_neg (by omega), if_neg (by omega), if_neg (by omega), if_neg (by omega), if_neg (by omega), if_neg (by omega), if_pos (by omega)]; omega
theorem fPi_n (h : k < nc) : fPi no nc nd (84 + no + k) = 86 + 2 * no + 2 * k := by
  unfold fPi
  rw [if_neg (by omega), if_neg (by omega), if_neg (by omega), if_neg (by omega), if_neg (by omega), if_neg (by omega), if_neg (by omega), if_pos (by omega)]; omega
theorem fPi_d : fPi no nc nd (84 + no + nc + k) = 87 + 2 * no + 2 * nc + 2 * k := by
  unfold fPi
  rw [if_neg (by omega), if_neg (by omega), if_neg (by omega), if_neg (by omega), if_neg (by omega), if_neg (by omega), if_neg (by omega), if_neg (by omega)]; omega
theorem fPi_cases (h : k < 84 + no + nc + nd) : (k < 79 ∧ fPi no nc nd k = k) ∨ (k = 79 ∧ fPi no nc nd k = 81) ∨ (k = 80 ∧ fPi no nc nd k = 86 + 2 * no + 2 * nc) ∨ (k = 81 ∧ fPi no nc nd k = 79 + gN 7 3 no) ∨ (k = 82 ∧ fPi no nc nd k = 79 + gN (7 + 2 * no) 4 nc) ∨ (k = 83 ∧ fPi no nc nd k = 79 + gN (8 + 2 * no + 2 * nc) 6 nd) ∨ (∃ j, j < no ∧ k = 84 + j ∧ fPi no nc nd k = 86 + 2 * j) ∨ (∃ j, j < nc ∧ k = 84 + no + j ∧ fPi no nc nd k = 86 + 2 * no + 2 * j) ∨ ∃ j, j < nd ∧ k = 84 + no + nc + j ∧ fPi no nc nd k = 87 + 2 * no + 2 * nc + 2 * j := by
  by_cases h1 : k < 79
  · exact Or.inl ⟨h1, fPi_c h1⟩
  · rcases (by omega : k = 79 ∨ k = 80 ∨ k = 81 ∨ k = 82 ∨ k = 83 ∨ 84 ≤ k) with e | e | e | e | e | e
    · subst e; exact Or.inr (Or.inl ⟨rfl, rfl⟩)
    · subst e; exact Or.inr (Or.inr (Or.inl ⟨rfl, rfl⟩))
    · subst e; exact Or.inr (Or.inr (Or.inr (Or.inl ⟨rfl, rfl⟩)))
    · subst e; exact Or.inr (Or.inr (Or.inr (Or.inr (Or.inl ⟨rfl, rfl⟩))))
    · subst e; exact Or.inr (Or.inr (Or.inr (Or.inr (Or.inr (Or.inl ⟨rfl, rfl⟩)))))
    · by_cases h2 : k < 84 + no
      · obtain ⟨j, rfl⟩ : ∃ j, k = 84 + j := ⟨k - 84, by omega⟩
        exact Or.inr (Or.inr (Or.inr (Or.inr (Or.inr (Or.inr (Or.inl ⟨j, by omega, rfl, fPi_o (by omega)⟩))))))
      · by_cases h3 : k < 84 + no + nc
        · obtain ⟨j, rfl⟩ : ∃ j, k = 84 + no + j := ⟨k - 84 - no, by omega⟩
          exact Or.inr (Or.inr (Or.inr (Or.inr (Or.inr (Or.inr (Or.inr (Or.inl ⟨j, by omega, rfl, fPi_n (by omega)⟩)))))))
        · obtain ⟨j, rfl⟩ : ∃ j, k = 84 + no + nc + j := ⟨k - 84 - no - nc, by omega⟩
          exact Or.inr (Or.inr (Or.inr (Or.inr (Or.inr (Or.inr (Or.inr (Or.inr ⟨j, by omega, rfl, fPi_d⟩)))))))
theorem gN_of (L o i : Nat) : (i = 0 ∧ gN L o i = o) ∨ (0 < i ∧ gN L o i = L + 2 * i - 1) := by
  unfold gN
  by_cases h : i = 0
  · exact Or.inl ⟨h, if_pos h⟩
  · exact Or.inr ⟨by omega, if_neg h⟩
theorem fPi_inj {i j : Nat} (hi : i < 84 + no + nc + nd) (hj : j < 84 + no + nc + nd) (h : fPi no nc nd i = fPi no nc nd j) : i = j := by
  rcases gN_of 7 3 no with ⟨g1, g2⟩ | ⟨g1, g2⟩ <;> rcases gN_of (7 + 2 * no) 4 nc with ⟨g3, g4⟩ | ⟨g3, g4⟩ <;> rcases gN_of (8 + 2 * no + 2 * nc) 6 nd with ⟨g5, g6⟩ | ⟨g5, g6⟩ <;> rcases fPi_cases hi with ⟨a, b⟩ | ⟨a, b⟩ | ⟨a, b⟩ | ⟨a, b⟩ | ⟨a, b⟩ | ⟨a, b⟩ | ⟨u, a1, a, b⟩ | ⟨u, a1, a, b⟩ | ⟨u, a1, a, b⟩ <;> rcases fPi_cases hj with ⟨c, d⟩ | ⟨c, d⟩ | ⟨c, d⟩ | ⟨c, d⟩ | ⟨c, d⟩ | ⟨c, d⟩ | ⟨v, c1, c, d⟩ | ⟨v, c1, c, d⟩ | ⟨v, c1, c, d⟩ <;> rw [b, d] at h <;> omega
end FPI
set_option maxRecDepth 20000 in
theorem gS_R : lR 79 gS (gP 0) := by
  have key : (List.range 79).all (fun b => match gS[b]? with
    | some (.inl c) => (List.range (am_ks c).length).all (fun j => match gP 0 b j with
      | .ref k => Nat.blt k 79 || Nat.ble 1000 k
      | _ => true)
    | some (.inr (t, _)) => !(Nat.beq t 3)
    | none => true) = true := by decide +kernel
  refine ⟨fun b c j h1 h2 => ?_, fun b m j h1 h2 => ?_⟩
  · have hb := am_at_lt h1
    rw [gS_len] at hb
    have h3 := List.all_eq_true.mp key b (List.mem_range.mpr hb)
    rw [h1] at h3
    have h4 := List.all_eq_true.mp h3 j (List.mem_range.mpr h2)
    cases hv : gP 0 b j with
    | ref k =>
      rw [hv] at h4
      have h4 : (Nat.blt k 79 || Nat.ble 1000 k) = true := h4
      rw [Bool.or_eq_true, Nat.blt_eq, Nat.ble_eq] at h4
      exact h4
    | _ => trivial
  · have hb := am_at_lt h1
    rw [gS_len] at hb
    have h3 := List.all_eq_true.mp key b (List.mem_range.mpr hb)
    rw [h1] at h3
    cases h3
theorem sf_lt {n b k : Nat} (h : k < b) : sfV n b (.ref k) = .ref (k + n) := if_pos h
theorem sf_ge {n b k : Nat} (h : b < k) : sfV n b (.ref k) = .ref k := (if_neg (Nat.not_lt.mpr (Nat.le_of_lt h))).trans (if_neg (Nat.ne_of_gt h))
theorem sf_eq {n b : Nat} : sfV n b (.ref b) = .ref 0 := (if_neg (Nat.lt_irrefl _)).trans (if_pos rfl)
theorem fH (ni no nc nd : Nat) : lH (fSh ni no nc nd) (fP no nc) ni no nc nd ∧ lG (fSh ni no nc nd) (fP no nc) := by
  have at5 : ∀ k, (fSh ni no nc nd)[79 + k]? = ([.inl 12, .inr (0, ni), .inr (3, no), .inr (3, nc), .inr (3, nd)] ++ (List.replicate no (.inr (0, 4)) ++ (List.replicate nc (.inr (0, 3)) ++ List.replicate nd (.inr (0, 6)))) : List am_Sh)[k]? := fun k => by
    unfold fSh
    rw [List.getElem?_append_right (by rw [gS_len]; omega), gS_len, Nat.add_sub_cancel_left]
  have at6 : ∀ k, (fSh ni no nc nd)[84 + k]? = (List.replicate no (.inr (0, 4)) ++ (List.replicate nc (.inr (0, 3)) ++ List.replicate nd (.inr (0, 6))) : List am_Sh)[k]? := fun k => by
    rw [show 84 + k = 79 + (5 + k) by omega, at5, List.getElem?_append_right (by show 5 ≤ 5 + k; omega)]
    show _[5 + k - 5]? = _
    rw [Nat.add_sub_cancel_left]
  have rp : ∀ {n k : Nat} {x : am_Sh}, k < n → (List.replicate n x)[k]? = some x := fun h => by rw [List.getElem?_replicate, if_pos h]
  refine ⟨⟨at5 0, at5 1, at5 2, at5 3, at5 4, fun k hk => ?_, fun k hk => ?_, fun k hk => ?_, rfl, rfl, rfl, rfl, fun k hk => rfl, fun k hk => rfl, fun k hk => rfl, ?_⟩, ⟨_, rfl⟩, fun b hb => ?_⟩
  · rw [at6, List.getElem?_append_left (by rw [List.length_replicate]; exact hk)]; exact rp hk
  · rw [Nat.add_assoc, at6, List.getElem?_append_right (by rw [List.length_replicate]; omega), List.length_replicate, Nat.add_sub_cancel_left, List.getElem?_append_left (by rw [List.length_replicate]; exact hk)]; exact rp hk
  · rw [Nat.add_assoc, Nat.add_assoc, at6, List.getElem?_append_right (by rw [List.length_replicate]; omega), List.length_replicate, Nat.add_sub_cancel_left, List.getElem?_append_right (by rw [List.length_replicate]; omega), List.length_replicate, Nat.add_sub_cancel_left]; exact rp hk
  · rw [fSh_len]
    refine ⟨fun b c j h1 h2 => ?_, fun b m j h1 h2 => ?_⟩
    · rcases fSh_at h1 with ⟨h3, h4⟩ | ⟨rfl, h4⟩ | ⟨-, h4⟩ | ⟨-, h4⟩ | ⟨-, h4⟩ | ⟨-, h4⟩ | ⟨-, -, -, h4⟩ | ⟨-, -, -, h4⟩ | ⟨-, -, -, h4⟩
      · rw [show fP no nc b j = gP 0 b j from if_pos h3]
        exact (gS_R.1 b c j h4 h2).le (by omega)
      · show am_kr _ (if j = 2 then .ref 81 else if j = 3 then .ref 82 else if j = 4 then .ref 80 else if j = 5 then .ref 83 else .null)
        split
        · exact Or.inl (by omega)
        · split
          · exact Or.inl (by omega)
          · split
            · exact Or.inl (by omega)
            · split
              · exact Or.inl (by omega)
              · trivial
      all_goals cases h4
    · rcases fSh_at h1 with ⟨h3, h4⟩ | ⟨-, h4⟩ | ⟨-, h4⟩ | ⟨rfl, h4⟩ | ⟨rfl, h4⟩ | ⟨rfl, h4⟩ | ⟨-, -, -, h4⟩ | ⟨-, -, -, h4⟩ | ⟨-, -, -, h4⟩
      · rw [show fP no nc b j = gP 0 b j from if_pos h3]
        exact (gS_R.2 b m j h4 h2).le (by omega)
      · cases h4
      · cases h4
      · cases h4; exact Or.inl (by omega)
      · cases h4; exact Or.inl (by omega)
      · cases h4; exact Or.inl (by omega)
      all_goals cases h4
  · funext j; exact if_pos hb
section AMFR
variable {X : am_X} {cells slots : Nat} {Q : State → Prop} {sh2 ex : List am_Sh} {ad : Nat → Nat} {pc : Nat} {I2 I5 : am_I} {G5 : am_G} {P2 P5 : am_P} {c : Nat → Int32}
set_option maxHeartbeats 1000000 in
theorem t_ren (hX : am_okz X ad) (h : lS c sh2 I2 P2) (hg : ∀ b, b < 79 → P5 b = gP 0 b) (hP5 : ∀ k, k < sh2.length → ∀ j, P5 (79 + k) j = sfV 79 sh2.length (P2 k j)) (hI5 : ∀ k, k < sh2.length → I5 (79 + k) = I2 k)
    (kk : ∀ ad1 : Nat → Nat, am_okz X ad1 → (∀ j, 1000 ≤ j → ad1 j = ad j) → am_V X cells slots Q (fSh (pNi c) (pNo c) (pNc c) (pNd c)) ad1 (pc, [(0, .ref 5000), (2, .ref 79), (3, .ref 0)], [], fun k => I5 (fPi (pNo c) (pNc c) (pNd c) k), fun k => G5 (fPi (pNo c) (pNc c) (pNd c) k), fP (pNo c) (pNc c))) : am_V X cells slots Q (gS ++ (sh2 ++ ex)) ad (pc, [(0, .ref 5000), (2, .ref 81), (3, .ref 0)], [], I5, G5, P5) := by
  obtain ⟨m, hl, hB, h2, hI, ho, hn, ⟨v1, v2, v3⟩, hd, hR, hV⟩ := h
  have hno : pNo c ≤ 3 := by have := lbel_lt (c 1) (n := 3) (by decide); show 1 + _ ≤ 3; omega
  have hnc : pNc c ≤ 3 := Nat.lt_succ_iff.mp (lbel_lt (c 2) (n := 4) (by decide))
  have hnd : pNd c ≤ 5 := Nat.lt_succ_iff.mp (lbel_lt (c 4) (n := 6) (by decide))
  generalize hNo : pNo c = no at *
  generalize hNc : pNc c = nc at *
  generalize hNd : pNd c = nd at *
  obtain ⟨ad1, ha1⟩ : ∃ ad1 : Nat → Nat, ad1 = fun k => if k < 1000 then ad (fPi no nc nd k) else ad k := ⟨_, rfl⟩
  have al : ∀ k, k < 1000 → ad1 k = ad (fPi no nc nd k) := fun k hk => by rw [ha1]; exact if_pos hk
  have ag : ∀ k, 1000 ≤ k → ad1 k = ad k := fun k hk => by rw [ha1]; exact if_neg (by omega)
  have ac : ∀ k, k < 79 ∨ 1000 ≤ k → ad1 k = ad k := fun k hk => by
    rcases hk with hk | hk
    · rw [al k (by omega), fPi_c hk]
    · exact ag k hk
  have at2 : ∀ {k : Nat} {s : am_Sh}, sh2[k]? = some s → (gS ++ (sh2 ++ ex))[79 + k]? = some s := fun hk => by
    rw [List.getElem?_append_right (by rw [gS_len]; omega), gS_len, Nat.add_sub_cancel_left]
    exact am_at_app hk
  have lo := am_at_lt ho.2.1
  have ln := am_at_lt hn.2.1
  have ld := am_at_lt hd.2.1
  refine am_ren (fPi no nc nd) (sh1 := fSh (pNi c) no nc nd) (ad1 := ad1) (fun i j h3 h4 h5 => ?_) (fun k s hk => ?_) (fun k hk => ?_) (fun _ _ _ _ _ => rfl) (fun _ _ _ _ _ _ _ => rfl) (fun _ _ _ _ _ => rfl) (fun _ _ _ _ _ => rfl) (fun k c' j t hk hj t0 t1 t3 => ?_) (fun k m' j hk hj => ?_) ?_ rfl (kk ad1 (hX.adr ag) ag)
  · rw [fSh_len] at h3 h4
    exact fPi_inj h3 h4 h5
  · rcases fSh_at hk with ⟨h3, h4⟩ | ⟨rfl, rfl⟩ | ⟨rfl, rfl⟩ | ⟨rfl, rfl⟩ | ⟨rfl, rfl⟩ | ⟨rfl, rfl⟩ | ⟨j, h3, rfl, rfl⟩ | ⟨j, h3, rfl, rfl⟩ | ⟨j, h3, rfl, rfl⟩
    · rw [fPi_c h3]; exact am_at_app h4
    · exact at2 h2
    · rw [fPi_80, show 86 + 2 * no + 2 * nc = 79 + (7 + 2 * no + 2 * nc) by omega]; exact at2 v2
    · rw [fPi_81]; exact at2 ho.2.1
    · rw [fPi_82]; exact at2 hn.2.1
    · rw [fPi_83]; exact at2 hd.2.1
    · rw [fPi_o h3, show 86 + 2 * j = 79 + (7 + 2 * j) by omega]; exact at2 (ho.2.2 j h3).1
    · rw [fPi_n h3, show 86 + 2 * no + 2 * j = 79 + (7 + 2 * no + 2 * j) by omega]; exact at2 (hn.2.2 j h3).1
    · rw [fPi_d, show 87 + 2 * no + 2 * nc + 2 * j = 79 + (8 + 2 * no + 2 * nc + 2 * j) by omega]; exact at2 (hd.2.2 j h3).1
  · rw [fSh_len] at hk
    exact al k (by omega)
  · rcases fSh_at hk with ⟨h3, h4⟩ | ⟨rfl, h4⟩ | ⟨-, h4⟩ | ⟨-, h4⟩ | ⟨-, h4⟩ | ⟨-, h4⟩ | ⟨-, -, -, h4⟩ | ⟨-, -, -, h4⟩ | ⟨-, -, -, h4⟩
    · rw [fPi_c h3, show fP no nc k j = gP 0 k j from if_pos h3, hg k h3]
      exact am_kr_tv (gS_R.1 k c' j h4 (am_at_lt2 hj)) ac
    · cases h4
      have hj9 := am_at_lt2 hj
      have hj9 : j < 10 := hj9
      rw [fPi_79, show (81 : Nat) = 79 + 2 by rfl, hP5 2 (by omega) j]
      rcases (by omega : j = 0 ∨ j = 1 ∨ j = 2 ∨ j = 3 ∨ j = 4 ∨ j = 5 ∨ j = 6 ∨ j = 7 ∨ j = 8 ∨ j = 9) with rfl | rfl | rfl | rfl | rfl | rfl | rfl | rfl | rfl | rfl
      · cases hj; exact absurd rfl t0
      · cases hj; exact absurd rfl t0
      · rw [ho.1, sf_lt lo]
        show Value.ref (ad1 81) = .ref (ad (_ + 79))
        rw [al 81 (by omega), fPi_81, Nat.add_comm]
      · rw [hn.1, sf_lt ln]
        show Value.ref (ad1 82) = .ref (ad (_ + 79))
        rw [al 82 (by omega), fPi_82, Nat.add_comm]
      · rw [v1, sf_lt (by omega)]
        show Value.ref (ad1 80) = .ref (ad (_ + 79))
        rw [al 80 (by omega), fPi_80]
        congr 2
        omega
      · rw [hd.1, sf_lt ld]
        show Value.ref (ad1 83) = .ref (ad (_ + 79))
        rw [al 83 (by omega), fPi_83, Nat.add_comm]
      · cases hj; exact absurd rfl t0
      · cases hj; exact absurd rfl t0
      · cases hj; exact absurd rfl t0
      · cases hj; exact absurd rfl t0
    all_goals cases h4
  · rcases fSh_at hk with ⟨h3, h4⟩ | ⟨-, h4⟩ | ⟨-, h4⟩ | ⟨rfl, h4⟩ | ⟨rfl, h4⟩ | ⟨rfl, h4⟩ | ⟨-, -, -, h4⟩ | ⟨-, -, -, h4⟩ | ⟨-, -, -, h4⟩
    · rw [fPi_c h3, show fP no nc k j = gP 0 k j from if_pos h3, hg k h3]
      exact am_kr_tv (gS_R.2 k m' j h4 hj) ac
    · cases h4
    · cases h4
    · cases h4
      rw [fPi_81, hP5 _ lo j, (ho.2.2 j hj).2.1, sf_lt (am_at_lt (ho.2.2 j hj).1)]
      show Value.ref (ad1 (84 + j)) = .ref (ad (_ + 79))
      rw [al _ (by omega), fPi_o hj]
      congr 2
      omega
    · cases h4
      rw [fPi_82, hP5 _ ln j, (hn.2.2 j hj).2.1, sf_lt (am_at_lt (hn.2.2 j hj).1)]
      show Value.ref (ad1 (84 + no + j)) = .ref (ad (_ + 79))
      rw [al _ (by omega), fPi_n hj]
      congr 2
      omega
    · cases h4
      rw [fPi_83, hP5 _ ld j, (hd.2.2 j hj).2.1, sf_lt (am_at_lt (hd.2.2 j hj).1)]
      show Value.ref (ad1 (84 + no + nc + j)) = .ref (ad (_ + 79))
      rw [al _ (by omega), fPi_d]
      congr 2
      omega
    all_goals cases h4
  · show [(0, Value.ref (ad1 5000)), (2, Value.ref (ad1 79)), (3, Value.ref (ad1 0))] = [(0, Value.ref (ad 5000)), (2, Value.ref (ad 81)), (3, Value.ref (ad 0))]
    rw [ag 5000 (by omega), al 79 (by omega), ac 0 (by omega), fPi_79]
end AMFR
