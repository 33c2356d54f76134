/-! cells said under other numbers; clone; texts that are static or made -/
def am_nqL (v : Nat) : am_L → Prop
  | [] => 1 = 1
  | (_, .ref k) :: r => k ≠ v ∧ am_nqL v r
  | (_, _) :: r => am_nqL v r
def am_nqS (v : Nat) : List Value → Prop
  | [] => 1 = 1
  | .ref k :: r => k ≠ v ∧ am_nqS v r
  | _ :: r => am_nqS v r
theorem am_nqL_n {v : Nat} : am_nqL v [] := rfl
theorem am_nqL_r {v i k : Nat} {r : am_L} (h : k ≠ v) (t : am_nqL v r) : am_nqL v ((i, .ref k) :: r) := ⟨h, t⟩
theorem am_nqL_i {v i : Nat} {x : Int32} {r : am_L} (t : am_nqL v r) : am_nqL v ((i, .int x) :: r) := t
theorem am_nqS_n {v : Nat} : am_nqS v [] := rfl
theorem am_nqS_r {v k : Nat} {r : List Value} (h : k ≠ v) (t : am_nqS v r) : am_nqS v (.ref k :: r) := ⟨h, t⟩
theorem am_nqS_i {v : Nat} {x : Int32} {r : List Value} (t : am_nqS v r) : am_nqS v (.int x :: r) := t
theorem am_nqL_at {v : Nat} : ∀ {L : am_L}, am_nqL v L → ∀ q ∈ L, q.2 ≠ .ref v
  | [], _ => fun q hq => by cases hq
  | (i, w) :: r, h => fun q hq => by
    have h9 : am_nqL v r ∧ w ≠ .ref v := by
      cases w <;> first | exact ⟨h.2, fun e => h.1 (Value.ref.inj e)⟩ | exact ⟨h, fun e => by cases e⟩
    rcases List.mem_cons.mp hq with rfl | hq
    · exact h9.2
    · exact am_nqL_at h9.1 q hq
theorem am_nqS_at {v : Nat} : ∀ {L : List Value}, am_nqS v L → ∀ q ∈ L, q ≠ .ref v
  | [], _ => fun q hq => by cases hq
  | w :: r, h => fun q hq => by
    have h9 : am_nqS v r ∧ w ≠ .ref v := by
      cases w <;> first | exact ⟨h.2, fun e => h.1 (Value.ref.inj e)⟩ | exact ⟨h, fun e => by cases e⟩
    rcases List.mem_cons.mp hq with rfl | hq
    · exact h9.2
    · exact am_nqS_at h9.1 q hq
theorem am_tv_of {ad ad' : Nat → Nat} {w : Value} (h : ∀ k, w = .ref k → ad' k = ad k) : am_tv ad' w = am_tv ad w := by
  cases w with
  | ref k => simp only [am_tv]; rw [h k rfl]
  | _ => rfl
section AMREN
variable {X : am_X} {o : Nat} {cc : ByteArray} {nL : Nat} {ini : Bool} {ret : Option FieldType} {d : Nat}
variable {cells slots mc ms MC MS keep : Nat} {Q : State → Prop} {sh sh1 : List am_Sh} {ad ad1 : Nat → Nat} {pc : Nat} {L L1 : am_L} {st st1 : List Value} {I I1 : am_I} {G G1 : am_G} {P P1 : am_P}
theorem am_ren (π : Nat → Nat) (hπ : ∀ i j, i < sh1.length → j < sh1.length → π i = π j → i = j) (hs : ∀ (k : Nat) (s : am_Sh), sh1[k]? = some s → sh[π k]? = some s) (ha : ∀ k, k < sh1.length → ad1 k = ad (π k))
    (hI : ∀ k t n : Nat, sh1[k]? = some (.inr (t, n)) → t ≠ 3 → I1 k = I (π k)) (hIo : ∀ k c j t : Nat, sh1[k]? = some (.inl c) → (am_ks c)[j]? = some t → t = 0 ∨ t = 3 → I1 k j = I (π k) j)
    (hG : ∀ k t n : Nat, sh1[k]? = some (.inr (t, n)) → t = 2 ∨ 5 ≤ t → G1 k = G (π k)) (hGo : ∀ k c j : Nat, sh1[k]? = some (.inl c) → (am_ks c)[j]? = some 1 → G1 k j = G (π k) j)
    (hP : ∀ k c j t : Nat, sh1[k]? = some (.inl c) → (am_ks c)[j]? = some t → t ≠ 0 → t ≠ 1 → t ≠ 3 → am_tv ad1 (P1 k j) = am_tv ad (P (π k) j)) (hP3 : ∀ k m j : Nat, sh1[k]? = some (.inr (3, m)) → j < m → am_tv ad1 (P1 k j) = am_tv ad (P (π k) j))
    (hL : L1.map (am_tl ad1) = L.map (am_tl ad)) (hS : st1.map (am_tv ad1) = st.map (am_tv ad)) (kk : am_V X cells slots Q sh1 ad1 (pc, L1, st1, I1, G1, P1)) : am_V X cells slots Q sh ad (pc, L, st, I, G, P) := by
  obtain ⟨p, l, e, R, s, m, args, below, meth, c, A, D, cys, o', cc', nL', ini'⟩ := X
  intro h1 h2 H locs ls hPP hD hSS hlo
  have key : ∀ (k : Nat) (q : Nat × va_E), (am_ws cys ad1 sh1 I1 G1 P1)[k]? = some q → (am_ws cys ad sh I G P)[π k]? = some q := by
    intro k q hq
    simp only [am_ws, List.getElem?_mapIdx] at hq ⊢
    cases hx : sh1[k]? with
    | none => rw [hx] at hq; cases hq
    | some x =>
      rw [hx] at hq
      rw [hs k x hx]
      have hk := (List.getElem?_eq_some_iff.mp hx).1
      simp only [Option.map_some] at hq ⊢
      rw [← hq, ha k hk]
      congr 2
      cases x with
      | inr y => rcases y with ⟨t, n⟩; match t with
        | 0 => simp only [am_E, hI k _ _ hx (by decide)]
        | 1 => simp only [am_E, hI k _ _ hx (by decide)]
        | 2 => simp only [am_E, hG k _ _ hx (Or.inl rfl)]
        | 3 =>
          have e3 : am_rw ad n (P (π k)) = am_rw ad1 n (P1 k) := by
            funext j
            unfold am_rw
            cases hb : Nat.blt j n with
            | false => rfl
            | true =>
              have e4 := hP3 k n j hx (by rw [Nat.blt_eq] at hb; exact hb)
              show am_ov ad (P (π k) j) = am_ov ad1 (P1 k j)
              cases hv : P (π k) j with
              | ref z =>
                rw [hv] at e4
                cases hw : P1 k j with
                | ref u => rw [hw] at e4; simp only [am_tv] at e4; simp only [am_ov]; rw [Value.ref.inj e4]
                | _ => rw [hw] at e4; simp only [am_tv] at e4; cases e4
              | _ =>
                rw [hv] at e4
                cases hw : P1 k j with
                | ref u => rw [hw] at e4; simp only [am_tv] at e4; cases e4
                | _ => rfl
          simp only [am_E, e3]
        | 4 => simp only [am_E, hI k _ _ hx (by decide)]
        | t + 5 => simp only [am_E, hG k _ _ hx (Or.inr (by omega))]
      | inl c =>
        have : am_fs ad (am_ks c) (I (π k)) (G (π k)) (P (π k)) = am_fs ad1 (am_ks c) (I1 k) (G1 k) (P1 k) := by
          apply List.ext_getElem?
          intro j
          simp only [am_fs, List.getElem?_mapIdx]
          cases hj : (am_ks c)[j]? with
          | none => rfl
          | some t =>
            simp only [Option.map_some]
            match t with
            | 0 => simp only [am_fv, hIo k c j _ hx hj (Or.inl rfl)]
            | 1 => simp only [am_fv, hGo k c j hx hj]
            | 2 => simp only [am_fv, hP k c j _ hx hj (by decide) (by decide) (by decide)]
            | 3 => simp only [am_fv, hIo k c j _ hx hj (Or.inr rfl)]
            | t + 4 => simp only [am_fv, hP k c j _ hx hj (by omega) (by omega) (by omega)]
        simp only [am_E, this]
  rw [← hL] at hlo
  rw [← hS]
  exact kk h1 h2 H locs ls (hPP.by _ key) (hD.by _ key (fun i j hi hj => hπ i j (by rw [am_ws_len] at hi; exact hi) (by rw [am_ws_len] at hj; exact hj))) hSS hlo
/-- no cell but b says v -/
def lV (v b : Nat) (sh : List am_Sh) (P : am_P) : Prop := (∀ k c j : Nat, sh[k]? = some (.inl c) → j < (am_ks c).length → (k ≠ b ∨ j ≠ 0) → P k j ≠ .ref v) ∧ ∀ k m j : Nat, sh[k]? = some (.inr (3, m)) → j < m → P k j ≠ .ref v
/-- a new last row takes the number of an old one -/
theorem am_mv {b v m m' : Nat} {x : am_Sh} (hb : sh[b]? = some (.inl 1)) (hv : sh[v]? = some (.inr (4, m))) (hPb : P b 0 = .ref v) (hV : lV v b sh P) (hR : lR sh.length sh P) (hl : sh.length < 1000) (hL : am_kqL sh.length L) (hS : am_kqS sh.length st) (hLv : am_nqL v L) (hSv : am_nqS v st) (hX : am_okz X ad)
    (hI : ∀ k, k < sh.length → k ≠ v → I1 k = I k) (hIv : I1 v = I sh.length)
    (kk : ∀ ad1 : Nat → Nat, (∀ j, j ≠ v → ad1 j = ad j) → am_okz X ad1 → am_V X cells slots Q (sh.set v (.inr (4, m'))) ad1 (pc, L, st, I1, G, P)) : am_V X cells slots Q (sh ++ [.inr (4, m')]) ad (pc, L, st, I, G, am_up P b 0 (.ref sh.length)) := by
  have hvl := am_at_lt hv
  have hbv : b ≠ v := fun e => by subst e; rw [hb] at hv; cases hv
  have hbl := am_at_lt hb
  have hne : ∀ j, j ≠ v → (fun j => if j = v then ad sh.length else ad j) j = ad j := fun j hj => if_neg hj
  have hsv : (fun j => if j = v then ad sh.length else ad j) v = ad sh.length := if_pos rfl
  have hat : ∀ (k : Nat) (s : am_Sh), (sh.set v (.inr (4, m')))[k]? = some s → (k = v ∧ s = .inr (4, m')) ∨ (k ≠ v ∧ sh[k]? = some s) := fun k s hk => by
    by_cases e : k = v
    · subst e
      rw [List.getElem?_set_self hvl] at hk
      exact Or.inl ⟨rfl, (Option.some.inj hk).symm⟩
    · rw [List.getElem?_set_ne (Ne.symm e)] at hk
      exact Or.inr ⟨e, hk⟩
  have hkr : ∀ w : Value, am_kr sh.length w → w ≠ .ref v → am_tv (fun j => if j = v then ad sh.length else ad j) w = am_tv ad w := fun w _ hw => am_tv_of fun k e => hne k fun e2 => hw (by rw [e, e2])
  refine am_ren (fun k => if k = v then sh.length else k) (sh1 := sh.set v (.inr (4, m'))) (ad1 := fun j => if j = v then ad sh.length else ad j) (I1 := I1) (G1 := G) (P1 := P) (L1 := L) (st1 := st) ?_ ?_ ?_ ?_ ?_ ?_ ?_ ?_ ?_ ?_ ?_ (kk _ hne (hX.adr fun j hj => hne j (by omega)))
  · intro i j hi hj
    rw [List.length_set] at hi hj
    by_cases c1 : i = v <;> by_cases c2 : j = v
    · intro _; rw [c1, c2]
    · rw [if_pos c1, if_neg c2]; omega
    · rw [if_neg c1, if_pos c2]; omega
    · rw [if_neg c1, if_neg c2]; exact id
  · intro k s hk
    rcases hat k s hk with ⟨rfl, rfl⟩ | ⟨h1, h2⟩
    · rw [if_pos rfl]; exact am_at_end
    · rw [if_neg h1]; exact am_at_app h2
  · intro k hk
    by_cases e : k = v
    · rw [if_pos e, if_pos e]
    · rw [if_neg e, if_neg e]
  · intro k t n hk ht
    by_cases e : k = v
    · rw [if_pos e, e]; exact hIv
    · have hkl : k < sh.length := by have := am_at_lt hk; rw [List.length_set] at this; exact this
      rw [if_neg e]; exact hI k hkl e
  · intro k c j t hk _ _
    rcases hat k _ hk with ⟨-, h2⟩ | ⟨h1, h2⟩
    · cases h2
    · rw [if_neg h1, hI k (am_at_lt h2) h1]
  · intro k t n hk ht
    rcases hat k _ hk with ⟨-, h2⟩ | ⟨h1, h2⟩
    · cases h2; omega
    · rw [if_neg h1]
  · intro k c j hk _
    rcases hat k _ hk with ⟨-, h2⟩ | ⟨h1, h2⟩
    · cases h2
    · rw [if_neg h1]
  · intro k c j t hk hjt _ _ _
    have hj := am_at_lt2 hjt
    rcases hat k _ hk with ⟨-, h2⟩ | ⟨h1, h2⟩
    · cases h2
    · rw [if_neg h1]
      by_cases e : k = b ∧ j = 0
      · obtain ⟨rfl, rfl⟩ := e
        rw [am_up_self, hPb]
        exact congrArg Value.ref (if_pos rfl)
      · have e9 : am_up P b 0 (.ref sh.length) k j = P k j := by
          by_cases e8 : k = b
          · subst e8; exact am_up_k P _ (fun z => e ⟨rfl, z⟩)
          · exact am_up_a P _ _ _ e8
        rw [e9]
        exact hkr _ (hR.1 k c j h2 hj) (hV.1 k c j h2 hj (by omega))
  · intro k n j hk hj
    rcases hat k _ hk with ⟨-, h2⟩ | ⟨h1, h2⟩
    · cases h2
    · rw [if_neg h1]
      have e9 : am_up P b 0 (.ref sh.length) k j = P k j := am_up_a P _ _ _ (fun e8 => by subst e8; rw [hb] at h2; cases h2)
      rw [e9]
      exact hkr _ (hR.2 k n j h2 hj) (hV.2 k n j h2 hj)
  · exact List.map_congr_left fun q hq => by
      show (q.1, am_tv _ q.2) = (q.1, am_tv ad q.2)
      rw [hkr _ (am_kqL_kr hL q hq) (am_nqL_at hLv q hq)]
  · exact List.map_congr_left fun w hw => hkr _ (am_kqS_kr hS w hw) (am_nqS_at hSv w hw)
set_option maxRecDepth 100000 in
theorem am_w_cl1 : Cond.methodLink (am_own 23) 310 ⟨"[B", "clone", "()Ljava/lang/Object;"⟩ ∈ am_all := am_good (List.mem_of_getElem? (i := 1377) rfl) rfl
set_option maxRecDepth 100000 in
theorem am_w_cl2 : Cond.sameMethod "[B" "java/lang/Object" "clone" "()Ljava/lang/Object;" ∈ am_all := am_good (List.mem_of_getElem? (i := 1378) rfl) rfl
set_option maxRecDepth 100000 in
theorem am_w_cl3 : Cond.native ⟨"java/lang/Object", "clone", "()Ljava/lang/Object;"⟩ ∈ am_all := am_good (List.mem_of_getElem? (i := 1379) rfl) rfl
set_option maxRecDepth 100000 in
theorem am_w_cl4 : Cond.instanceMethod ⟨"java/lang/Object", "clone", "()Ljava/lang/Object;"⟩ ∈ am_all := am_good (List.mem_of_getElem? (i := 1380) rfl) rfl
set_option maxRecDepth 100000 in
theorem am_w_cl5 : Cond.selects "[B" ⟨"[B", "clone", "()Ljava/lang/Object;"⟩ ⟨"java/lang/Object", "clone", "()Ljava/lang/Object;"⟩ ∈ am_all := am_good (List.mem_of_getElem? (i := 1381) rfl) rfl
set_option maxRecDepth 100000 in
theorem am_w_cl6 : Cond.castable "[B" "java/lang/Cloneable" ∈ lw_tbl := List.mem_of_getElem? (i := 1382) rfl
set_option maxRecDepth 100000 in
theorem am_w_cl7 : Cond.classLink (am_own 23) 311 "[B" ∈ am_all := am_good (List.mem_of_getElem? (i := 1383) rfl) rfl
/-- a row of bytes, again -/
theorem am_clB (hX : am_okz X ad) (hi : am_info X 23 cc nL ini ret d) (hm : am_mem X mc ms) {q N : Nat} (hs : sh[q]? = some (.inr (4, N))) (hfit : ∀ j, fits .byte (.int (I q j)) = true) (hd : decode cc pc = .ok (.invokevirtual 310, 3)) (hd2 : decode cc (pc + 3) = .ok (.checkcast 311, 3)) (hroom : cells + 1 ≤ mc ∧ slots + N ≤ ms) (hr : 2 ≤ d ∧ (st.map fun v => v.category).sum ≤ 8)
    (hl : sh.length < 1000) (hR : lR sh.length sh P) (hL : am_kqL sh.length L) (hS : am_kqS sh.length st)
    (k : ∀ ad' : Nat → Nat, (∀ j, j < sh.length ∨ 1000 ≤ j → ad' j = ad j) → am_okz X ad' → am_V X (cells + 1) (slots + N) Q (sh ++ [.inr (4, N)]) ad' (pc + 3 + 3, L, .ref sh.length :: st, am_row I sh.length (I q), G, P)) : am_V X cells slots Q sh ad (pc, L, .ref q :: st, I, G, P) := by
  have hX0 := hX
  obtain ⟨p, l, e, R, s, m, args, below, meth, c, A, D, cys, o', cc', nL', ini'⟩ := X
  obtain ⟨rfl, rfl, rfl, rfl, -, hR1, hR2⟩ := hi
  obtain ⟨rfl, rfl⟩ := hm
  obtain ⟨⟨hx, hb, hml, hown, hts, hlk, hK, hN2, hA, -⟩, hZ⟩ := hX
  intro h1 h2 H locs ls hP hD hSS hlo
  have hnm : s.vm.findClass "[B" = some cys.2.2.2.2 := (hK.2 4 _ rfl).2
  have hws := am_ws_at (cys := cys) (ad := ad) (I := I) (G := G) (P := P) hs
  refine va_clone hx hb (hml.trans hlo.1.symm) hown (hts _ am_w_cl1) (hts _ am_w_cl2) (hts _ am_w_cl3) (hts _ am_w_cl4) (hts _ am_w_cl5) (hN2 _ am_w_cl6 rfl) hK hP hD hSS hA q 4 hws rfl hnm (va_fit fun i _ => hfit i) (by omega) (by rw [am_cats]; omega) hroom.1 hroom.2 hd (fun q9 H1 hK1 hP1 hD1 hS1 => ?_)
  have ha : ∀ j, j ≠ sh.length → (fun k => if k = sh.length then q9 else ad k) j = ad j := fun j hj => if_neg hj
  have ha2 : ∀ j, j < sh.length ∨ 1000 ≤ j → (fun k => if k = sh.length then q9 else ad k) j = ad j := fun j hj => ha j (by omega)
  obtain ⟨e1, e2⟩ := am_kq_map hL hS ha2
  have e3 : am_ws cys (fun k => if k = sh.length then q9 else ad k) (sh ++ [.inr (4, N)]) (am_row I sh.length (I q)) G P = am_ws cys ad sh I G P ++ [(q9, .inl (cys.2.2.2.2, N, .inl (I q)))] := by
    rw [am_ws_snoc, am_ws_kp (fun b hb => am_row_ne _ _ (by omega)) (Nat.le_refl _) hR ha2, am_row_self]
    simp only [if_pos]
    rfl
  rw [← e3] at hP1 hD1
  have hq9 : q9 = (fun k => if k = sh.length then q9 else ad k) sh.length := (if_pos rfl).symm
  have hw9 := am_ws_at (cys := cys) (ad := fun k => if k = sh.length then q9 else ad k) (I := am_row I sh.length (I q)) (G := G) (P := P) (am_at_end (sh := sh) (s := .inr (4, N)))
  refine va_castA hx hb hown (hts _ am_w_cl7) hP1 sh.length (a := q9) (by have h := hw9; rw [if_pos rfl, am_row_self] at h; exact h) hnm hd2 ?_
  have kk := k (fun k => if k = sh.length then q9 else ad k) ha2 (hX0.adr (fun j hj => ha2 j (Or.inr hj))) hroom.1 hroom.2 H1 locs ls hP1 hD1 hS1 (by rw [e1]; exact hlo)
  have e6 : (Value.ref sh.length :: st).map (am_tv (fun k => if k = sh.length then q9 else ad k)) = .ref q9 :: st.map (am_tv ad) := by
    rw [List.map_cons, e2]
    simp [am_tv]
  rw [e6] at kk
  exact kk
end AMREN
/-! texts -/
def bT (T : List Nat) (f : Nat → Int32) : Prop := ∀ j, j < T.length → f j = Int32.ofNat (T.getD j 0)
def aT (T : List Nat) : Prop := ∀ j, j < T.length → T.getD j 0 < 128
/-- the text T is the String q, its bytes the row w -/
def xS (sh : List am_Sh) (I : am_I) (P : am_P) (q w : Nat) (T : List Nat) : Prop := aT T ∧ T.length ≤ 4096 ∧
  ((∃ (k : Nat) (p : Nat × List Int32), am_tB[k]? = some p ∧ q = 2000 + p.1 ∧ w = 3000 + p.1 ∧ p.2.length = T.length ∧ bT T (fun j => p.2.getD j 0)) ∨
    (sh[q]? = some (.inl 0) ∧ sh[w]? = some (.inr (4, T.length)) ∧ P q 0 = .ref w ∧ I q 1 = 0 ∧ bT T (I w)))
/-- the text T stands in the StringBuilder b, in its row v of m bytes -/
def sB (sh : List am_Sh) (I : am_I) (P : am_P) (b v m : Nat) (T : List Nat) : Prop := sh[b]? = some (.inl 1) ∧ sh[v]? = some (.inr (4, m)) ∧ P b 0 = .ref v ∧ I b 1 = 0 ∧ I b 3 = Int32.ofNat T.length ∧ T.length ≤ m ∧ m ≤ 4096 ∧ aT T ∧ bT T (I v) ∧ sb_Fit (I v)
theorem bT.fit {T : List Nat} {f : Nat → Int32} (h : bT T f) (ha : aT T) {j : Nat} (hj : j < T.length) : fits .byte (.int (f j)) = true := by
  rw [h j hj]
  have h9 := ha j hj
  generalize T.getD j 0 = x at h9
  have : ∀ x, x < 128 → fits .byte (.int (Int32.ofNat x)) = true := by decide +kernel
  exact this x h9
section AMTS
variable {X : am_X} {o : Nat} {cc : ByteArray} {nL : Nat} {ini : Bool} {ret : Option FieldType} {d : Nat}
variable {cells slots mc ms MC MS keep : Nat} {Q : State → Prop} {sh : List am_Sh} {ad : Nat → Nat} {pc : Nat} {L : am_L} {st : List Value} {I : am_I} {G : am_G} {P : am_P} {post : am_Po} {q w : Nat} {T : List Nat}
theorem t_cod (hX : am_okz X ad) (hi : am_info X 0 cc nL ini ret d) (hT : xS sh I P q w T) (hd : decode cc pc = .ok (.getfield 15, 3)) (kk : am_V X cells slots Q sh ad (pc + 3, L, .int 0 :: st, I, G, P)) : am_V X cells slots Q sh ad (pc, L, .ref q :: st, I, G, P) := by
  obtain ⟨-, -, ⟨k, p, h1, rfl, rfl, -⟩ | ⟨h1, h2, h3, h4, h5⟩⟩ := hT
  · exact am_tcod hX hi h1 hd kk
  · exact am_gfB hX hi (c := 0) (b := 1) (idx := 15) h1 rfl (by decide +kernel) h4 hd kk
theorem t_val (hX : am_okz X ad) (hi : am_info X 0 cc nL ini ret d) (hT : xS sh I P q w T) (hd : decode cc pc = .ok (.getfield 9, 3)) (kk : am_V X cells slots Q sh ad (pc + 3, L, .ref w :: st, I, G, P)) : am_V X cells slots Q sh ad (pc, L, .ref q :: st, I, G, P) := by
  obtain ⟨-, -, ⟨k, p, h1, rfl, rfl, -⟩ | ⟨h1, h2, h3, h4, h5⟩⟩ := hT
  · exact am_tval hX hi h1 hd kk
  · exact am_gfP hX hi (c := 0) (b := 0) (idx := 9) h1 rfl (by decide +kernel) h3 hd kk
theorem t_len (hX : am_okz X ad) (hi : am_info X o cc nL ini ret d) (hT : xS sh I P q w T) (hd : decode cc pc = .ok (.arraylength, 1)) (kk : am_V X cells slots Q sh ad (pc + 1, L, .int (Int32.ofNat T.length) :: st, I, G, P)) : am_V X cells slots Q sh ad (pc, L, .ref w :: st, I, G, P) := by
  obtain ⟨-, -, ⟨k, p, h1, rfl, rfl, h4, -⟩ | ⟨h1, h2, h3, h4, h5⟩⟩ := hT
  · exact am_tlen hX hi h1 hd (by rw [h4]; exact kk)
  · exact am_lenS hX hi h2 hd kk
theorem t_b (hX : am_okz X ad) (hi : am_info X o cc nL ini ret d) (hT : xS sh I P q w T) {j : Int32} (hj : vp_in j T.length) (hd : decode cc pc = .ok (.baload, 1)) (kk : am_V X cells slots Q sh ad (pc + 1, L, .int (Int32.ofNat (T.getD j.toNatClampNeg 0)) :: st, I, G, P)) : am_V X cells slots Q sh ad (pc, L, .int j :: .ref w :: st, I, G, P) := by
  obtain ⟨-, -, ⟨k, p, h1, rfl, rfl, h4, h5⟩ | ⟨h1, h2, h3, h4, h5⟩⟩ := hT
  · exact am_tb hX hi h1 (by rw [h4]; exact hj) hd (by rw [show p.2.getD j.toNatClampNeg 0 = _ from h5 _ (vp_lt hj)]; exact kk)
  · exact am_baS hX hi h2 hj (h5 _ (vp_lt hj)) hd kk
theorem t_call (hX : am_okz X ad) (hi : am_info X o cc nL ini ret d) (hT : xS sh I P q w T) {M : am_M} {d' idx : Nat} {As rest : List Value} (hM : am_Mok M) (hin : Cond.instanceMethod M.1 ∈ lw_tbl) (hsl : Cond.selects M.1.cls M.1 M.1 ∈ lw_tbl) (hl : am_lnk o idx M.1 false = true) (hd : decode cc pc = .ok (.invokevirtual idx, 3))
    (hcn : M.1.cls = "java/lang/String") (hn : As.length = M.2.2.2.2.2.1) (hdd : d' + 1 ≤ d ∧ M.2.2.1 ≤ 11 ∧ (rest.map fun v => v.category).sum ≤ 8) (hst : st = As.reverse ++ .ref q :: rest) (hC : am_Ct M d' sh (.ref q :: As) I G P post)
    (kk : ∀ r I' G' P', post r I' G' P' → am_V X cells slots Q sh ad (pc + 3, L, r.toList ++ rest, I', G', P')) : am_V X cells slots Q sh ad (pc, L, st, I, G, P) := by
  obtain ⟨-, -, ⟨k, p, h1, rfl, rfl, h4, h5⟩ | ⟨h1, h2, h3, h4, h5⟩⟩ := hT
  · exact am_callT hX hi hM hin hsl hl hd h1 hcn hn hdd hst hC kk
  · exact am_callV2 hX hi hM hin hsl hl hd h1 (by rw [hcn]; rfl) hn ⟨hdd.1, by omega, hdd.2.2⟩ hst hC kk
theorem t_copy (hX : am_okz X ad) (hi : am_info X o cc nL ini ret d) (hT : xS sh I P q w T) {v m idx : Nat} {n : Nat} (hv : sh[v]? = some (.inr (4, m))) (hm : m ≤ 4096) (hn : n + T.length ≤ m) (hf : sb_Fit (I v)) (hl : Cond.methodLink (am_own o) idx arraycopyName ∈ lw_tbl) (hd : decode cc pc = .ok (.invokestatic idx, 3)) (hr : 2 ≤ d ∧ (st.map fun v => v.category).sum ≤ 8)
    (kk : ∀ f : Nat → Int32, (∀ j, j < n → f j = I v j) → (∀ j, j < T.length → f (n + j) = Int32.ofNat (T.getD j 0)) → sb_Fit f → am_V X cells slots Q sh ad (pc + 3, L, st, am_row I v f, G, P)) : am_V X cells slots Q sh ad (pc, L, .int (Int32.ofNat T.length) :: .int (Int32.ofNat n) :: .ref v :: .int 0 :: .ref w :: st, I, G, P) := by
  have hT0 := hT
  obtain ⟨hA, h40, hc⟩ := hT
  have c1 : (Int32.ofNat T.length).toInt = (T.length : Int) := i_of _ (by omega)
  have c2 : (Int32.ofNat n).toInt = (n : Int) := i_of _ (by omega)
  have e1 : (Int32.ofNat T.length).toNatClampNeg = T.length := by rw [i_cl, c1]; omega
  have e2 : (Int32.ofNat n).toNatClampNeg = n := by rw [i_cl, c2]; omega
  have fin : ∀ g : Nat → Int32, bT T g → am_V X cells slots Q sh ad (pc + 3, L, st, am_row I v (va_cpy g (I v) 0 (Int32.ofNat n).toNatClampNeg (Int32.ofNat T.length).toNatClampNeg), G, P) := fun g hg => by
    rw [e1, e2]
    refine kk _ (fun j hj => ?_) (fun j hj => ?_) (fun j => ?_)
    · exact pk_cpy_out (by omega)
    · rw [pk_cpy_in (by omega) (by omega), show 0 + (n + j - n) = j by omega]
      exact hg j hj
    · by_cases hj : n ≤ j ∧ j < n + T.length
      · rw [pk_cpy_in (by omega) (by omega)]
        exact hg.fit hA (by omega)
      · rw [pk_cpy_out (by omega)]
        exact hf j
  rcases hc with ⟨k, p, h1, rfl, rfl, h4, h5⟩ | ⟨h1, h2, h3, h4, h5⟩
  · exact am_acpT hX hi h1 hv (by omega) (by omega) hl hd hr (fin _ h5)
  · exact am_acpB hX hi h2 hv (by omega) (by omega) (fun i hi9 => h5.fit hA (by rw [e1] at hi9; exact hi9)) hl hd hr (fin _ h5)
end AMTS
