/-! taught: the text is fed in fives, trimmed and taught -/
/-- byte x of the text, 32 behind its end -/
def by_T (T : List Nat) (x : Nat) : Int32 := if x < T.length then Int32.ofNat (T.getD x 0) else 32
def lt_in (T : List Nat) (at0 : Nat) : Nat → (Nat → Int32) → Nat → Int32
  | 0, f => f
  | j + 1, f => r_up (lt_in T at0 j f) (j / 4) (((lt_in T at0 j f) (j / 4) <<< ((8 : Int32) &&& 31)) ||| by_T T (at0 + j))
noncomputable def lt_go (T : List Nat) : Nat → Nat → am_I → am_G → (Nat → Int32) → Option (am_I × am_G)
  | 0, _, I, G, _ => some (I, G)
  | m + 1, k, I, G, f => (clX (R_X11_feed_0 I G (lt_in T (20 * k) 20 f 0) (lt_in T (20 * k) 20 f 1) (lt_in T (20 * k) 20 f 2) (lt_in T (20 * k) 20 f 3) (lt_in T (20 * k) 20 f 4)) I G).bind fun c => lt_go T m (k + 1) c.2.1 c.2.2 (lt_in T (20 * k) 20 f)
noncomputable def R_L_taught (I : am_I) (G : am_G) (T : List Nat) : Option (Int32 × am_I × am_G) :=
  (clX (R_X11_trim_0 I G 0) I G).bind fun a => (lt_go T ((T.length + 19) / 20) 0 a.2.1 a.2.2 (fun _ => 0)).bind fun b => (clX (R_X11_trim_0 b.1 b.2 (Int32.ofNat T.length)) b.1 b.2).bind fun c => clR (R_X11_teach_0 c.2.1 c.2.2) c.2.1 c.2.2
theorem xS.kept {sh : List am_Sh} {I I2 : am_I} {P : am_P} {q w : Nat} {T : List Nat} {ex : List am_Sh} (h : xS sh I P q w T) (hI : ∀ b, 79 ≤ b → b < sh.length → I2 b = I b) (hq : 79 ≤ q ∧ 79 ≤ w) : xS (sh ++ ex) I2 P q w T := by
  obtain ⟨h1, h2, h3⟩ := h
  refine ⟨h1, h2, ?_⟩
  rcases h3 with h3 | ⟨a1, a2, a3, a4, a5⟩
  · exact Or.inl h3
  · exact Or.inr ⟨am_at_app a1, am_at_app a2, a3, by rw [hI q hq.1 (am_at_lt a1)]; exact a4, by rw [hI w hq.2 (am_at_lt a2)]; exact a5⟩
section AMTA
variable {sh : List am_Sh} {P : am_P} {q w : Nat} {T : List Nat}
set_option maxHeartbeats 4000000 in
theorem t_in {X : am_X} {ad : Nat → Nat} {Q : State → Prop} {I : am_I} {G : am_G} {f : Nat → Int32} {k : Nat} (hi : am_info X 15 cL_taught 5 false (some FieldType.int) 54) (hX : am_okz X ad) (hT : ∀ g, xS (sh ++ [.inr (0, 5)]) (am_row I sh.length g) P q w T) (hTl : T.length ≤ 1900) (hk : 20 * k < T.length)
    (kk : am_V X 1 5 Q (sh ++ [.inr (0, 5)]) ad (76, [(0, .ref 0), (1, .ref q), (2, .ref sh.length), (3, .int (Int32.ofNat (20 * k))), (4, .int (Int32.ofNat 20))], [], (am_row I sh.length (lt_in T (20 * k) 20 f)), G, P)) : ∀ m j, j + m = 20 → am_V X 1 5 Q (sh ++ [.inr (0, 5)]) ad (23, [(0, .ref 0), (1, .ref q), (2, .ref sh.length), (3, .int (Int32.ofNat (20 * k))), (4, .int (Int32.ofNat j))], [], (am_row I sh.length (lt_in T (20 * k) j f)), G, P) := by
  have hT0 := hT
  intro m
  induction m with
  | zero =>
    intro j hj
    obtain rfl : j = 20 := by omega
    have hT := hT0 (lt_in T (20 * k) 20 f)
    refine am_blk 23 [(.iload 4, 2, 4, 0, .null), (.bipush (20), 2, 0, 0, .int (20 : Int32))] (27, [(0, .ref 0), (1, .ref q), (2, .ref sh.length), (3, .int (Int32.ofNat (20 * k))), (4, .int (Int32.ofNat 20))], [.int (20 : Int32), .int (Int32.ofNat 20)], (am_row I sh.length (lt_in T (20 * k) 20 f)), G, P) True hX hi (by decide +kernel) rfl trivial ?_
    refine am_icmp_ge hX hi (off := 49) (tgt := 76) (by decide +kernel) (by decide) (fun _ => ?_) (fun c => absurd ((n_le (a := 20) (b := 20) (by decide) (by omega)).mpr (by omega)) c)
    exact kk
  | succ m ih =>
    intro j hj
    have hT := hT0 (lt_in T (20 * k) j f)
    refine am_blk 23 [(.iload 4, 2, 4, 0, .null), (.bipush (20), 2, 0, 0, .int (20 : Int32))] (27, [(0, .ref 0), (1, .ref q), (2, .ref sh.length), (3, .int (Int32.ofNat (20 * k))), (4, .int (Int32.ofNat j))], [.int (20 : Int32), .int (Int32.ofNat j)], (am_row I sh.length (lt_in T (20 * k) j f)), G, P) True hX hi (by decide +kernel) rfl trivial ?_
    refine am_icmp_ge hX hi (off := 49) (tgt := 76) (by decide +kernel) (by decide) (fun c => absurd c (fun z => absurd ((n_le (a := 20) (b := j) (by decide) (by omega)).mp z) (by omega))) (fun _ => ?_)
    have d4 : Int32.ofNat j / (4 : Int32) = Int32.ofNat (j / 4) := n_div (b := 4) (by omega) (by decide)
    refine am_blk 30 [(.aload_n 2, 1, 2, 0, .null), (.iload 4, 2, 4, 0, .null), (.iconst (4), 1, 0, 0, .int (4 : Int32)), (.idiv, 1, 0, 0, .null), (.aload_n 2, 1, 2, 0, .null), (.iload 4, 2, 4, 0, .null), (.iconst (4), 1, 0, 0, .int (4 : Int32)), (.idiv, 1, 0, 0, .null)] (40, [(0, .ref 0), (1, .ref q), (2, .ref sh.length), (3, .int (Int32.ofNat (20 * k))), (4, .int (Int32.ofNat j))], [.int ((Int32.ofNat j) / (4 : Int32)), .ref sh.length, .int ((Int32.ofNat j) / (4 : Int32)), .ref sh.length], (am_row I sh.length (lt_in T (20 * k) j f)), G, P) (¬ (4 : Int32) = 0 ∧ ¬ (4 : Int32) = 0 ∧ True) hX hi (by decide +kernel) rfl ⟨(by decide), (by decide), trivial⟩ ?_
    simp only [d4]
    show am_V X 1 5 _ (sh ++ [.inr (0, 5)]) ad (40, [(0, .ref 0), (1, .ref q), (2, .ref sh.length), (3, .int (Int32.ofNat (20 * k))), (4, .int (Int32.ofNat j))], [.int (Int32.ofNat (j / 4)), .ref sh.length, .int (Int32.ofNat (j / 4)), .ref sh.length], (am_row I sh.length (lt_in T (20 * k) j f)), G, P)
    refine am_iaS hX hi (v := ((lt_in T (20 * k) j f) (j / 4))) am_at_end ((n_in (by omega)).mpr (by omega)) (by rw [am_row_self, n_cl (by omega)]) (by decide +kernel) ?_
    refine am_blk 41 [(.bipush (8), 2, 0, 0, .int (8 : Int32)), (.ishl, 1, 0, 0, .null), (.iload_n 3, 1, 3, 0, .null), (.iload 4, 2, 4, 0, .null), (.iadd, 1, 0, 0, .null), (.aload_n 1, 1, 1, 0, .null)] (49, [(0, .ref 0), (1, .ref q), (2, .ref sh.length), (3, .int (Int32.ofNat (20 * k))), (4, .int (Int32.ofNat j))], [.ref q, .int ((Int32.ofNat (20 * k)) + (Int32.ofNat j)), .int (((lt_in T (20 * k) j f) (j / 4)) <<< ((8 : Int32) &&& 31)), .int (Int32.ofNat (j / 4)), .ref sh.length], (am_row I sh.length (lt_in T (20 * k) j f)), G, P) True hX hi (by decide +kernel) rfl trivial ?_
    refine t_call hX hi hT (M := mJ0_length_8abf5) (idx := 15) (d' := 2) (As := []) (rest := [.int ((Int32.ofNat (20 * k)) + (Int32.ofNat j)), .int (((lt_in T (20 * k) j f) (j / 4)) <<< ((8 : Int32) &&& 31)), .int (Int32.ofNat (j / 4)), .ref sh.length]) mkJ0_length_8abf5 miJ0_length_8abf5 mvJ0_length_8abf5 (by decide +kernel) (by decide +kernel) rfl rfl ⟨by decide, by decide, Nat.le_of_ble_eq_true rfl⟩ rfl (k_length hT) ?_
    rintro r9 I9 G9 P9 ⟨e0, e1, e2, e3⟩
    rw [e0, e1, e2, e3]
    show am_V X 1 5 _ (sh ++ [.inr (0, 5)]) ad (52, [(0, .ref 0), (1, .ref q), (2, .ref sh.length), (3, .int (Int32.ofNat (20 * k))), (4, .int (Int32.ofNat j))], [.int (Int32.ofNat T.length), .int ((Int32.ofNat (20 * k)) + (Int32.ofNat j)), .int (((lt_in T (20 * k) j f) (j / 4)) <<< ((8 : Int32) &&& 31)), .int (Int32.ofNat (j / 4)), .ref sh.length], (am_row I sh.length (lt_in T (20 * k) j f)), G, P)
    by_cases h1 : 20 * k + j < T.length
    · have ea : Int32.ofNat (20 * k) + Int32.ofNat j = Int32.ofNat (20 * k + j) := n_add _ _
      rw [ea]
      refine am_icmp_ge hX hi (off := 14) (tgt := 66) (by decide +kernel) (by decide) (fun c => absurd c (fun z => absurd ((n_le (by omega) (by omega)).mp z) (by omega))) (fun _ => ?_)
      refine am_blk 55 [(.aload_n 1, 1, 1, 0, .null), (.iload_n 3, 1, 3, 0, .null), (.iload 4, 2, 4, 0, .null), (.iadd, 1, 0, 0, .null)] (60, [(0, .ref 0), (1, .ref q), (2, .ref sh.length), (3, .int (Int32.ofNat (20 * k))), (4, .int (Int32.ofNat j))], [.int ((Int32.ofNat (20 * k)) + (Int32.ofNat j)), .ref q, .int (((lt_in T (20 * k) j f) (j / 4)) <<< ((8 : Int32) &&& 31)), .int (Int32.ofNat (j / 4)), .ref sh.length], (am_row I sh.length (lt_in T (20 * k) j f)), G, P) True hX hi (by decide +kernel) rfl trivial ?_
      rw [ea]
      show am_V X 1 5 _ (sh ++ [.inr (0, 5)]) ad (60, [(0, .ref 0), (1, .ref q), (2, .ref sh.length), (3, .int (Int32.ofNat (20 * k))), (4, .int (Int32.ofNat j))], [.int (Int32.ofNat (20 * k + j)), .ref q, .int (((lt_in T (20 * k) j f) (j / 4)) <<< ((8 : Int32) &&& 31)), .int (Int32.ofNat (j / 4)), .ref sh.length], (am_row I sh.length (lt_in T (20 * k) j f)), G, P)
      refine t_call hX hi hT (M := mJ0_charAt_5068e) (idx := 21) (d' := 4) (As := [.int (Int32.ofNat (20 * k + j))]) (rest := [.int (((lt_in T (20 * k) j f) (j / 4)) <<< ((8 : Int32) &&& 31)), .int (Int32.ofNat (j / 4)), .ref sh.length]) mkJ0_charAt_5068e miJ0_charAt_5068e mvJ0_charAt_5068e (by decide +kernel) (by decide +kernel) rfl rfl ⟨by decide, by decide, Nat.le_of_ble_eq_true rfl⟩ rfl (k_charAt hT (by rw [n_ti (by omega)]; omega) (by rw [n_ti (by omega)]; omega)) ?_
      rintro r9 I9 G9 P9 ⟨e0, e1, e2, e3⟩
      rw [e0, e1, e2, e3]
      show am_V X 1 5 _ (sh ++ [.inr (0, 5)]) ad (63, [(0, .ref 0), (1, .ref q), (2, .ref sh.length), (3, .int (Int32.ofNat (20 * k))), (4, .int (Int32.ofNat j))], [.int (Int32.ofNat (T.getD (Int32.ofNat (20 * k + j)).toNatClampNeg 0)), .int (((lt_in T (20 * k) j f) (j / 4)) <<< ((8 : Int32) &&& 31)), .int (Int32.ofNat (j / 4)), .ref sh.length], (am_row I sh.length (lt_in T (20 * k) j f)), G, P)
      rw [show (Int32.ofNat (T.getD (Int32.ofNat (20 * k + j)).toNatClampNeg 0)) = by_T T (20 * k + j) from by rw [n_cl (by omega)]; exact (if_pos h1).symm]
      show am_V X 1 5 _ (sh ++ [.inr (0, 5)]) ad (63, [(0, .ref 0), (1, .ref q), (2, .ref sh.length), (3, .int (Int32.ofNat (20 * k))), (4, .int (Int32.ofNat j))], [.int (by_T T (20 * k + j)), .int (((lt_in T (20 * k) j f) (j / 4)) <<< ((8 : Int32) &&& 31)), .int (Int32.ofNat (j / 4)), .ref sh.length], (am_row I sh.length (lt_in T (20 * k) j f)), G, P)
      refine am_blk 63 [(.goto (5), 3, 0, 68, .null), (.ior, 1, 0, 0, .null)] (69, [(0, .ref 0), (1, .ref q), (2, .ref sh.length), (3, .int (Int32.ofNat (20 * k))), (4, .int (Int32.ofNat j))], [.int ((((lt_in T (20 * k) j f) (j / 4)) <<< ((8 : Int32) &&& 31)) ||| (by_T T (20 * k + j))), .int (Int32.ofNat (j / 4)), .ref sh.length], (am_row I sh.length (lt_in T (20 * k) j f)), G, P) True hX hi (by decide +kernel) rfl trivial ?_
      refine am_iasS hX hi (I' := (am_row I sh.length (lt_in T (20 * k) (j + 1) f))) am_at_end ((n_in (by omega)).mpr (by omega)) (by rw [n_cl (by omega), am_row_up, show lt_in T (20 * k) (j + 1) f = _ from rfl]; rfl) (by decide +kernel) ?_
      refine am_blk 70 [(.iinc 4 (1), 3, 4, 0, .int (1 : Int32)), (.goto (-50), 3, 0, 23, .null)] (23, [(0, .ref 0), (1, .ref q), (2, .ref sh.length), (3, .int (Int32.ofNat (20 * k))), (4, .int (Int32.ofNat j + (1 : Int32)))], [], (am_row I sh.length (lt_in T (20 * k) (j + 1) f)), G, P) True hX hi (by decide +kernel) rfl trivial ?_
      rw [show Int32.ofNat j + (1 : Int32) = Int32.ofNat (j + 1) from nI_1 j]
      exact ih (j + 1) (by omega)
    · have ea : Int32.ofNat (20 * k) + Int32.ofNat j = Int32.ofNat (20 * k + j) := n_add _ _
      rw [ea]
      refine am_icmp_ge hX hi (off := 14) (tgt := 66) (by decide +kernel) (by decide) (fun _ => ?_) (fun c => absurd ((n_le (by omega) (by omega)).mpr (by omega)) c)
      refine am_blk 66 [(.bipush (32), 2, 0, 0, .int (32 : Int32))] (68, [(0, .ref 0), (1, .ref q), (2, .ref sh.length), (3, .int (Int32.ofNat (20 * k))), (4, .int (Int32.ofNat j))], [.int (32 : Int32), .int (((lt_in T (20 * k) j f) (j / 4)) <<< ((8 : Int32) &&& 31)), .int (Int32.ofNat (j / 4)), .ref sh.length], (am_row I sh.length (lt_in T (20 * k) j f)), G, P) True hX hi (by decide +kernel) rfl trivial ?_
      rw [show (32 : Int32) = by_T T (20 * k + j) from (if_neg h1).symm]
      show am_V X 1 5 _ (sh ++ [.inr (0, 5)]) ad (68, [(0, .ref 0), (1, .ref q), (2, .ref sh.length), (3, .int (Int32.ofNat (20 * k))), (4, .int (Int32.ofNat j))], [.int (by_T T (20 * k + j)), .int (((lt_in T (20 * k) j f) (j / 4)) <<< ((8 : Int32) &&& 31)), .int (Int32.ofNat (j / 4)), .ref sh.length], (am_row I sh.length (lt_in T (20 * k) j f)), G, P)
      refine am_blk 68 [(.ior, 1, 0, 0, .null)] (69, [(0, .ref 0), (1, .ref q), (2, .ref sh.length), (3, .int (Int32.ofNat (20 * k))), (4, .int (Int32.ofNat j))], [.int ((((lt_in T (20 * k) j f) (j / 4)) <<< ((8 : Int32) &&& 31)) ||| (by_T T (20 * k + j))), .int (Int32.ofNat (j / 4)), .ref sh.length], (am_row I sh.length (lt_in T (20 * k) j f)), G, P) True hX hi (by decide +kernel) rfl trivial ?_
      refine am_iasS hX hi (I' := (am_row I sh.length (lt_in T (20 * k) (j + 1) f))) am_at_end ((n_in (by omega)).mpr (by omega)) (by rw [n_cl (by omega), am_row_up, show lt_in T (20 * k) (j + 1) f = _ from rfl]; rfl) (by decide +kernel) ?_
      refine am_blk 70 [(.iinc 4 (1), 3, 4, 0, .int (1 : Int32)), (.goto (-50), 3, 0, 23, .null)] (23, [(0, .ref 0), (1, .ref q), (2, .ref sh.length), (3, .int (Int32.ofNat (20 * k))), (4, .int (Int32.ofNat j + (1 : Int32)))], [], (am_row I sh.length (lt_in T (20 * k) (j + 1) f)), G, P) True hX hi (by decide +kernel) rfl trivial ?_
      rw [show Int32.ofNat j + (1 : Int32) = Int32.ofNat (j + 1) from nI_1 j]
      exact ih (j + 1) (by omega)
set_option maxHeartbeats 4000000 in
theorem t_go {X : am_X} {ad : Nat → Nat} {Q : State → Prop} {I0 : am_I} {r : am_I × am_G} (hi : am_info X 15 cL_taught 5 false (some FieldType.int) 54) (hX : am_okz X ad) (hg : lG sh P) (h79 : 79 ≤ sh.length) (hTT : ∀ (I : am_I) (g : Nat → Int32), (∀ b, 79 ≤ b → I b = I0 b) → xS (sh ++ [.inr (0, 5)]) (am_row I sh.length g) P q w T) (hTl : T.length ≤ 1900)
    (kk : ∀ (f : Nat → Int32) (k : Nat) (L4 : am_L), (∀ b, 79 ≤ b → r.1 b = I0 b) → am_V X 1 5 Q (sh ++ [.inr (0, 5)]) ad (102, [(0, .ref 0), (1, .ref q), (2, .ref sh.length), (3, .int (Int32.ofNat (20 * k)))], [], am_row r.1 sh.length f, r.2, P)) :
    ∀ m k (I : am_I) (G : am_G) (f : Nat → Int32), lt_go T m k I G f = some r → T.length ≤ 20 * (k + m) → 20 * (k + m) ≤ T.length + 19 → (∀ b, 79 ≤ b → I b = I0 b) → am_V X 1 5 Q (sh ++ [.inr (0, 5)]) ad (12, [(0, .ref 0), (1, .ref q), (2, .ref sh.length), (3, .int (Int32.ofNat (20 * k)))], [], (am_row I sh.length f), G, P) := by
  intro m
  induction m with
  | zero =>
    intro k I G f h h1 h2 hb
    have hT := hTT I f hb
    refine am_blk 12 [(.iload_n 3, 1, 3, 0, .null), (.aload_n 1, 1, 1, 0, .null)] (14, [(0, .ref 0), (1, .ref q), (2, .ref sh.length), (3, .int (Int32.ofNat (20 * k)))], [.ref q, .int (Int32.ofNat (20 * k))], (am_row I sh.length f), G, P) True hX hi (by decide +kernel) rfl trivial ?_
    refine t_call hX hi hT (M := mJ0_length_8abf5) (idx := 15) (d' := 2) (As := []) (rest := [.int (Int32.ofNat (20 * k))]) mkJ0_length_8abf5 miJ0_length_8abf5 mvJ0_length_8abf5 (by decide +kernel) (by decide +kernel) rfl rfl ⟨by decide, by decide, Nat.le_of_ble_eq_true rfl⟩ rfl (k_length hT) ?_
    rintro r9 I9 G9 P9 ⟨e0, e1, e2, e3⟩
    rw [e0, e1, e2, e3]
    show am_V X 1 5 _ (sh ++ [.inr (0, 5)]) ad (17, [(0, .ref 0), (1, .ref q), (2, .ref sh.length), (3, .int (Int32.ofNat (20 * k)))], [.int (Int32.ofNat T.length), .int (Int32.ofNat (20 * k))], (am_row I sh.length f), G, P)
    refine am_icmp_ge hX hi (off := 85) (tgt := 102) (by decide +kernel) (by decide) (fun _ => ?_) (fun c => absurd ((n_le (by omega) (by omega)).mpr (by omega)) c)
    cases h
    exact kk f k [] hb
  | succ m ih =>
    intro k I G f h h1 h2 hb
    have hT := hTT I f hb
    have hlt : 20 * k < T.length := by omega
    refine am_blk 12 [(.iload_n 3, 1, 3, 0, .null), (.aload_n 1, 1, 1, 0, .null)] (14, [(0, .ref 0), (1, .ref q), (2, .ref sh.length), (3, .int (Int32.ofNat (20 * k)))], [.ref q, .int (Int32.ofNat (20 * k))], (am_row I sh.length f), G, P) True hX hi (by decide +kernel) rfl trivial ?_
    refine t_call hX hi hT (M := mJ0_length_8abf5) (idx := 15) (d' := 2) (As := []) (rest := [.int (Int32.ofNat (20 * k))]) mkJ0_length_8abf5 miJ0_length_8abf5 mvJ0_length_8abf5 (by decide +kernel) (by decide +kernel) rfl rfl ⟨by decide, by decide, Nat.le_of_ble_eq_true rfl⟩ rfl (k_length hT) ?_
    rintro r9 I9 G9 P9 ⟨e0, e1, e2, e3⟩
    rw [e0, e1, e2, e3]
    show am_V X 1 5 _ (sh ++ [.inr (0, 5)]) ad (17, [(0, .ref 0), (1, .ref q), (2, .ref sh.length), (3, .int (Int32.ofNat (20 * k)))], [.int (Int32.ofNat T.length), .int (Int32.ofNat (20 * k))], (am_row I sh.length f), G, P)
    refine am_icmp_ge hX hi (off := 85) (tgt := 102) (by decide +kernel) (by decide) (fun c => absurd c (fun z => absurd ((n_le (by omega) (by omega)).mp z) (by omega))) (fun _ => ?_)
    refine am_blk 20 [(.iconst (0), 1, 0, 0, .int (0 : Int32)), (.istore 4, 2, 4, 0, .null)] (23, [(0, .ref 0), (1, .ref q), (2, .ref sh.length), (3, .int (Int32.ofNat (20 * k))), (4, .int (0 : Int32))], [], (am_row I sh.length f), G, P) True hX hi (by decide +kernel) rfl trivial ?_
    refine t_in (k := k) (f := f) hi hX (fun g => hTT I g hb) hTl hlt ?_ 20 0 (by omega)
    show am_V X 1 5 _ (sh ++ [.inr (0, 5)]) ad (76, [(0, .ref 0), (1, .ref q), (2, .ref sh.length), (3, .int (Int32.ofNat (20 * k))), (4, .int (Int32.ofNat 20))], [], (am_row I sh.length (lt_in T (20 * k) 20 f)), G, P)
    refine am_blk 76 [(.aload_n 0, 1, 0, 0, .null), (.aload_n 2, 1, 2, 0, .null), (.iconst (0), 1, 0, 0, .int (0 : Int32))] (79, [(0, .ref 0), (1, .ref q), (2, .ref sh.length), (3, .int (Int32.ofNat (20 * k))), (4, .int (Int32.ofNat 20))], [.int (0 : Int32), .ref sh.length, .ref 0], (am_row I sh.length (lt_in T (20 * k) 20 f)), G, P) True hX hi (by decide +kernel) rfl trivial ?_
    refine am_iaS hX hi (v := ((lt_in T (20 * k) 20 f) 0)) am_at_end ((i_in _ _).mpr (by decide)) (by rw [am_row_self]; rfl) (by decide +kernel) ?_
    refine am_blk 80 [(.aload_n 2, 1, 2, 0, .null), (.iconst (1), 1, 0, 0, .int (1 : Int32))] (82, [(0, .ref 0), (1, .ref q), (2, .ref sh.length), (3, .int (Int32.ofNat (20 * k))), (4, .int (Int32.ofNat 20))], [.int (1 : Int32), .ref sh.length, .int ((lt_in T (20 * k) 20 f) 0), .ref 0], (am_row I sh.length (lt_in T (20 * k) 20 f)), G, P) True hX hi (by decide +kernel) rfl trivial ?_
    refine am_iaS hX hi (v := ((lt_in T (20 * k) 20 f) 1)) am_at_end ((i_in _ _).mpr (by decide)) (by rw [am_row_self]; rfl) (by decide +kernel) ?_
    refine am_blk 83 [(.aload_n 2, 1, 2, 0, .null), (.iconst (2), 1, 0, 0, .int (2 : Int32))] (85, [(0, .ref 0), (1, .ref q), (2, .ref sh.length), (3, .int (Int32.ofNat (20 * k))), (4, .int (Int32.ofNat 20))], [.int (2 : Int32), .ref sh.length, .int ((lt_in T (20 * k) 20 f) 1), .int ((lt_in T (20 * k) 20 f) 0), .ref 0], (am_row I sh.length (lt_in T (20 * k) 20 f)), G, P) True hX hi (by decide +kernel) rfl trivial ?_
    refine am_iaS hX hi (v := ((lt_in T (20 * k) 20 f) 2)) am_at_end ((i_in _ _).mpr (by decide)) (by rw [am_row_self]; rfl) (by decide +kernel) ?_
    refine am_blk 86 [(.aload_n 2, 1, 2, 0, .null), (.iconst (3), 1, 0, 0, .int (3 : Int32))] (88, [(0, .ref 0), (1, .ref q), (2, .ref sh.length), (3, .int (Int32.ofNat (20 * k))), (4, .int (Int32.ofNat 20))], [.int (3 : Int32), .ref sh.length, .int ((lt_in T (20 * k) 20 f) 2), .int ((lt_in T (20 * k) 20 f) 1), .int ((lt_in T (20 * k) 20 f) 0), .ref 0], (am_row I sh.length (lt_in T (20 * k) 20 f)), G, P) True hX hi (by decide +kernel) rfl trivial ?_
    refine am_iaS hX hi (v := ((lt_in T (20 * k) 20 f) 3)) am_at_end ((i_in _ _).mpr (by decide)) (by rw [am_row_self]; rfl) (by decide +kernel) ?_
    refine am_blk 89 [(.aload_n 2, 1, 2, 0, .null), (.iconst (4), 1, 0, 0, .int (4 : Int32))] (91, [(0, .ref 0), (1, .ref q), (2, .ref sh.length), (3, .int (Int32.ofNat (20 * k))), (4, .int (Int32.ofNat 20))], [.int (4 : Int32), .ref sh.length, .int ((lt_in T (20 * k) 20 f) 3), .int ((lt_in T (20 * k) 20 f) 2), .int ((lt_in T (20 * k) 20 f) 1), .int ((lt_in T (20 * k) 20 f) 0), .ref 0], (am_row I sh.length (lt_in T (20 * k) 20 f)), G, P) True hX hi (by decide +kernel) rfl trivial ?_
    refine am_iaS hX hi (v := ((lt_in T (20 * k) 20 f) 4)) am_at_end ((i_in _ _).mpr (by decide)) (by rw [am_row_self]; rfl) (by decide +kernel) ?_
    show am_V X 1 5 _ (sh ++ [.inr (0, 5)]) ad (92, [(0, .ref 0), (1, .ref q), (2, .ref sh.length), (3, .int (Int32.ofNat (20 * k))), (4, .int (Int32.ofNat 20))], [.int ((lt_in T (20 * k) 20 f) 4), .int ((lt_in T (20 * k) 20 f) 3), .int ((lt_in T (20 * k) 20 f) 2), .int ((lt_in T (20 * k) 20 f) 1), .int ((lt_in T (20 * k) 20 f) 0), .ref 0], (am_row I sh.length (lt_in T (20 * k) 20 f)), G, P)
    obtain ⟨c1, hc, h⟩ := ob_some h
    obtain ⟨J1, K1, hc1, hc2, hc3⟩ := clX_some hc
    refine am_callVQ hX hi hg.app (M := mX11_feed) (idx := 25) (d' := 6) (b := 0) (ci := 11) (As := [.int ((lt_in T (20 * k) 20 f) 0), .int ((lt_in T (20 * k) 20 f) 1), .int ((lt_in T (20 * k) 20 f) 2), .int ((lt_in T (20 * k) 20 f) 3), .int ((lt_in T (20 * k) 20 f) 4)]) (rest := []) mkX11_feed miX11_feed mvX11_feed (by decide +kernel) (by decide +kernel) rfl rfl rfl ⟨by decide, by decide, Nat.le_of_ble_eq_true rfl⟩ rfl (Ic := I) (Gc := G) (fun b hb => by rw [am_row_ne _ _ (by omega)]) (fun _ _ => rfl) (c_X11_feed_0 0 I G ((lt_in T (20 * k) 20 f) 0) ((lt_in T (20 * k) 20 f) 1) ((lt_in T (20 * k) 20 f) 2) ((lt_in T (20 * k) 20 f) 3) ((lt_in T (20 * k) 20 f) 4) hc1 ⟨_, rfl⟩) pn9_po ?_
    rw [gl_row (by omega), hc2, hc3]
    show am_V X 1 5 _ (sh ++ [.inr (0, 5)]) ad (95, [(0, .ref 0), (1, .ref q), (2, .ref sh.length), (3, .int (Int32.ofNat (20 * k))), (4, .int (Int32.ofNat 20))], [.int c1.1], (am_row c1.2.1 sh.length (lt_in T (20 * k) 20 f)), c1.2.2, P)
    refine am_blk 95 [(.pop, 1, 0, 0, .null)] (96, [(0, .ref 0), (1, .ref q), (2, .ref sh.length), (3, .int (Int32.ofNat (20 * k))), (4, .int (Int32.ofNat 20))], [], (am_row c1.2.1 sh.length (lt_in T (20 * k) 20 f)), c1.2.2, P) True hX hi (by decide +kernel) rfl trivial ?_
    refine am_blk 96 [(.iinc 3 (20), 3, 3, 0, .int (20 : Int32)), (.goto (-87), 3, 0, 12, .null)] (12, [(0, .ref 0), (1, .ref q), (2, .ref sh.length), (3, .int (Int32.ofNat (20 * k) + (20 : Int32))), (4, .int (Int32.ofNat 20))], [], (am_row c1.2.1 sh.length (lt_in T (20 * k) 20 f)), c1.2.2, P) True hX hi (by decide +kernel) rfl trivial ?_
    rw [show Int32.ofNat (20 * k) + (20 : Int32) = Int32.ofNat (20 * (k + 1)) from n_add (20 * k) 20]
    refine am_sub (L' := [(0, .ref 0), (1, .ref q), (2, .ref sh.length), (3, .int (Int32.ofNat (20 * (k + 1))))]) (fun q hq => by simp at hq ⊢; rcases hq with h | h | h | h <;> simp [h]) ?_
    exact ih (k + 1) _ _ _ h (by omega) (by omega) (fun b hb1 => by rw [← hc2, gl_ge _ _ hb1]; exact hb b hb1)
set_option maxHeartbeats 4000000 in
theorem k_taught (hg : lG sh P) (hR : lR sh.length sh P) {I : am_I} {G : am_G} (hT : xS sh I P q w T) (hq : 79 ≤ q ∧ 79 ≤ w) {y : am_Sh} (hTq : sh[q]? = some y) (hTl : T.length ≤ 1900) (hl : sh.length + 2 < 1000) {out : Int32 × am_I × am_G} (h : R_L_taught I G T = some out) : am_CtM mL_taught 1 5 54 sh [.ref 0, .ref q] I G P (pI out.1 out.2.1 out.2.2 P) := by
  have h79 : 79 ≤ sh.length := by
    obtain ⟨⟨s2, e⟩, -⟩ := hg
    rw [e, List.length_append, show gS.length = 79 from by decide]; omega
  refine am_ofM (by decide +kernel) rfl (by decide) (by decide) (Nat.le_of_ble_eq_true rfl) (fun X ad hX hi hm => ?_)
  have hi : am_info X 15 cL_taught 5 false (some FieldType.int) 54 := hi
  have hm : am_mem X 1 5 := hm
  unfold R_L_taught at h
  show am_V X 0 0 _ sh ad (0, [(0, .ref 0), (1, .ref q)], [], I, G, P)
  refine am_blk 0 [(.iconst (5), 1, 0, 0, .int (5 : Int32))] (1, [(0, .ref 0), (1, .ref q)], [.int (5 : Int32)], I, G, P) True hX hi (by decide +kernel) rfl trivial ?_
  refine am_newS hX hi hm (N := 5) (by decide +kernel) (by decide +kernel) (by decide) rfl (by decide) ⟨by decide, by decide⟩ (by omega) hR (am_kqL_r (Or.inl (by omega)) (am_kqL_r (Or.inl (am_at_lt hTq)) am_kqL_n)) am_kqS_n (fun ad1 ha1 hX1 => ?_)
  have hX := hX1
  show am_V X 1 5 _ (sh ++ [.inr (0, 5)]) ad1 (3, [(0, .ref 0), (1, .ref q)], [.ref sh.length], (am_row I sh.length (fun _ => 0)), G, P)
  refine am_blk 3 [(.astore_n 2, 1, 2, 0, .null), (.aload_n 0, 1, 0, 0, .null), (.iconst (0), 1, 0, 0, .int (0 : Int32))] (6, [(0, .ref 0), (1, .ref q), (2, .ref sh.length)], [.int (0 : Int32), .ref 0], (am_row I sh.length (fun _ => 0)), G, P) True hX hi (by decide +kernel) rfl trivial ?_
  obtain ⟨a1, hc, h⟩ := ob_some h
  obtain ⟨J1, K1, hc1, hc2, hc3⟩ := clX_some hc
  refine am_callVQ hX hi hg.app (M := mX11_trim) (idx := 9) (d' := 6) (b := 0) (ci := 11) (As := [.int (0 : Int32)]) (rest := []) mkX11_trim miX11_trim mvX11_trim (by decide +kernel) (by decide +kernel) rfl rfl rfl ⟨by decide, by decide, Nat.le_of_ble_eq_true rfl⟩ rfl (Ic := I) (Gc := G) (fun b hb => by rw [am_row_ne _ _ (by omega)]) (fun _ _ => rfl) (c_X11_trim_0 0 I G 0 hc1 ⟨_, rfl⟩) pn9_po ?_
  rw [gl_row (by omega), hc2, hc3]
  show am_V X 1 5 _ (sh ++ [.inr (0, 5)]) ad1 (9, [(0, .ref 0), (1, .ref q), (2, .ref sh.length)], [.int a1.1], (am_row a1.2.1 sh.length (fun _ => 0)), a1.2.2, P)
  refine am_blk 9 [(.pop, 1, 0, 0, .null), (.iconst (0), 1, 0, 0, .int (0 : Int32)), (.istore_n 3, 1, 3, 0, .null)] (12, [(0, .ref 0), (1, .ref q), (2, .ref sh.length), (3, .int (0 : Int32))], [], (am_row a1.2.1 sh.length (fun _ => 0)), a1.2.2, P) True hX hi (by decide +kernel) rfl trivial ?_
  obtain ⟨b1, hg1, h⟩ := ob_some h
  have hb0 : ∀ b, 79 ≤ b → a1.2.1 b = I b := fun b hb => by rw [← hc2, gl_ge _ _ hb]
  refine t_go (I0 := I) (r := b1) hi hX hg (by omega) (fun J g hb => hT.kept (fun b hb1 hb2 => by rw [am_row_ne _ _ (by omega)]; exact hb b hb1) hq) hTl ?_ ((T.length + 19) / 20) 0 a1.2.1 a1.2.2 (fun _ => 0) hg1 (by omega) (by omega) hb0
  clear hc1 hc2 hc3
  intro f k _ hb1
  have hT2 : xS (sh ++ [.inr (0, 5)]) (am_row b1.1 sh.length f) P q w T := hT.kept (fun b hb2 hb3 => by rw [am_row_ne _ _ (by omega)]; exact hb1 b hb2) hq
  have hT := hT2
  show am_V X 1 5 _ (sh ++ [.inr (0, 5)]) ad1 (102, [(0, .ref 0), (1, .ref q), (2, .ref sh.length), (3, .int (Int32.ofNat (20 * k)))], [], (am_row b1.1 sh.length f), b1.2, P)
  refine am_blk 102 [(.aload_n 0, 1, 0, 0, .null), (.aload_n 1, 1, 1, 0, .null)] (104, [(0, .ref 0), (1, .ref q), (2, .ref sh.length), (3, .int (Int32.ofNat (20 * k)))], [.ref q, .ref 0], (am_row b1.1 sh.length f), b1.2, P) True hX hi (by decide +kernel) rfl trivial ?_
  refine t_call hX hi hT (M := mJ0_length_8abf5) (idx := 15) (d' := 2) (As := []) (rest := [.ref 0]) mkJ0_length_8abf5 miJ0_length_8abf5 mvJ0_length_8abf5 (by decide +kernel) (by decide +kernel) rfl rfl ⟨by decide, by decide, Nat.le_of_ble_eq_true rfl⟩ rfl (k_length hT) ?_
  rintro r9 I9 G9 P9 ⟨e0, e1, e2, e3⟩
  rw [e0, e1, e2, e3]
  show am_V X 1 5 _ (sh ++ [.inr (0, 5)]) ad1 (107, [(0, .ref 0), (1, .ref q), (2, .ref sh.length), (3, .int (Int32.ofNat (20 * k)))], [.int (Int32.ofNat T.length), .ref 0], (am_row b1.1 sh.length f), b1.2, P)
  obtain ⟨a2, hc, h⟩ := ob_some h
  obtain ⟨J2, K2, hc1, hc2, hc3⟩ := clX_some hc
  refine am_callVQ hX hi hg.app (M := mX11_trim) (idx := 9) (d' := 6) (b := 0) (ci := 11) (As := [.int (Int32.ofNat T.length)]) (rest := []) mkX11_trim miX11_trim mvX11_trim (by decide +kernel) (by decide +kernel) rfl rfl rfl ⟨by decide, by decide, Nat.le_of_ble_eq_true rfl⟩ rfl (Ic := b1.1) (Gc := b1.2) (fun b hb => by rw [am_row_ne _ _ (by omega)]) (fun _ _ => rfl) (c_X11_trim_0 0 b1.1 b1.2 (Int32.ofNat T.length) hc1 ⟨_, rfl⟩) pn9_po ?_
  rw [gl_row (by omega), hc2, hc3]
  show am_V X 1 5 _ (sh ++ [.inr (0, 5)]) ad1 (110, [(0, .ref 0), (1, .ref q), (2, .ref sh.length), (3, .int (Int32.ofNat (20 * k)))], [.int a2.1], (am_row a2.2.1 sh.length f), a2.2.2, P)
  refine am_blk 110 [(.pop, 1, 0, 0, .null), (.aload_n 0, 1, 0, 0, .null)] (112, [(0, .ref 0), (1, .ref q), (2, .ref sh.length), (3, .int (Int32.ofNat (20 * k)))], [.ref 0], (am_row a2.2.1 sh.length f), a2.2.2, P) True hX hi (by decide +kernel) rfl trivial ?_
  have hb2 : ∀ b, 79 ≤ b → a2.2.1 b = I b := fun b hb => by rw [← hc2, gl_ge _ _ hb]; exact hb1 b hb
  clear hc1 hc2 hc3
  obtain ⟨J3, K3, hc1, hc2, hc3⟩ := clR_some h
  refine am_callVQ hX hi hg.app (M := mX11_teach) (idx := 29) (d' := 51) (b := 0) (ci := 11) (As := []) (rest := []) mkX11_teach miX11_teach mvX11_teach (by decide +kernel) (by decide +kernel) rfl rfl rfl ⟨by decide, by decide, Nat.le_of_ble_eq_true rfl⟩ rfl (Ic := a2.2.1) (Gc := a2.2.2) (fun b hb => by rw [am_row_ne _ _ (by omega)]) (fun _ _ => rfl) (c_X11_teach_0 0 a2.2.1 a2.2.2 hc1) (fun _ _ _ _ q => q) ?_
  rw [gl_row (by omega), hc2, hc3]
  show am_V X 1 5 _ (sh ++ [.inr (0, 5)]) ad1 (115, [(0, .ref 0), (1, .ref q), (2, .ref sh.length), (3, .int (Int32.ofNat (20 * k)))], [.int out.1], (am_row out.2.1 sh.length f), out.2.2, P)
  exact am_iretG (I0 := out.2.1) hX hi rfl rfl (by decide +kernel) hR ha1 (fun b hb => am_row_ne _ _ (by omega)) ⟨rfl, rfl, rfl, rfl⟩ ⟨by decide, by decide⟩
end AMTA
