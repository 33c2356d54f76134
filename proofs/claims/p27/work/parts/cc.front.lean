/-! a constructor called over other cells, which stay; the law's beginning -/
section AMCF
variable {p : Program} {l : Launch} {e : Env} {R : Room} {s : State} {m : MethodId} {args : Array Value} {below : List Frame} {meth : Method} {c : Code} {A : Nat → Prop} {D : va_G} {cys : am_C3}
variable {cells slots mc ms keep : Nat} {Q : State → Prop} {sh2 : List am_Sh} {ad : Nat → Nat} {pc : Nat} {I : am_I} {G : am_G} {P : am_P} {H : Heap} {locs : List Loc} {ls : Array Slot}
theorem am_goesAF {st0 rest : List Value} {post : am_PoA} {a : Array Value} {x : am_Sh} {adz : Nat → Nat} {I0 : am_I} {G0 : am_G} {P0 : am_P}
    (he : am_ws cys adz [x] I0 G0 P0 = [(ad sh2.length, am_E cys ad x (I sh2.length) (G sh2.length) (P sh2.length))])
    (hP : va_P D vwCl (am_ws cys ad (sh2 ++ [x]) I G P) H) (hD : va_D A (am_ws cys ad (sh2 ++ [x]) I G P))
    (hr : va_Run p l e R s m args below meth c H locs cells slots mc ms (F0 m pc ls st0) rest (am_QcA D cys adz keep (va_A (am_ws cys adz [x] I0 G0 P0) H.size) post a) (va_A (am_ws cys adz [x] I0 G0 P0) H.size)) (hS : va_S A s.heap H locs) (hA : ∀ q, va_A (am_ws cys adz [x] I0 G0 P0) H.size q → A q)
    (kk : ∀ r sh' ad' I' G' P', post r sh' I' G' P' → (∀ j, j < keep ∨ 1000 ≤ j → ad' j = adz j) → ∀ (H1 : Heap) (locs1 : List Loc), va_P D vwCl (am_ws cys ad' sh' I' G' P' ++ am_ws cys ad sh2 I G P) H1 → va_D A (am_ws cys ad' sh' I' G' P' ++ am_ws cys ad sh2 I G P) → va_S A s.heap H1 locs1 → W p l e R s m args below meth c H1 locs1 (cells + mc) (slots + ms) Q (F0 m (pc + 3) ls ((r.map (am_tv ad')).toList ++ rest))) : W p l e R s m args below meth c H locs cells slots Q (F0 m pc ls st0) := by
  intro T hT X
  obtain ⟨v, st₀, t, T', L, h0, X', hL, e1, e2, ⟨⟨r, sh', ad', I', G', P', hp, had, hv, hPt, hD'⟩, hz, hk⟩, st⟩ := hr T hT X
  cases hv
  rw [h0] at hz hk
  have hS1 : va_S A s.heap T'.heap (locs ++ L) := ⟨Nat.le_trans hS.1 (by rw [e1]; exact hz), fun q h1 h2 => by rw [e1, hk q (Nat.lt_of_lt_of_le h1 hS.1) (fun z => h2 (hA q z))]; exact hS.2.1 q h1 h2, fun q hq => by
      rcases List.mem_append.mp hq with h | h
      · exact hS.2.2 q h
      · exact hA _ (hL q h)⟩
  rw [am_ws_snoc] at hP hD
  have hl2 : (am_ws cys ad sh2 I G P).length = sh2.length := am_ws_len
  have hat : ∀ (k : Nat) (q : Nat × va_E), (am_ws cys ad sh2 I G P)[k]? = some q → (am_ws cys ad sh2 I G P ++ [(ad sh2.length, am_E cys ad x (I sh2.length) (G sh2.length) (P sh2.length))])[k]? = some q := fun k q hq => by
    rw [List.getElem?_append_left (List.getElem?_eq_some_iff.mp hq).1]; exact hq
  have hend : (am_ws cys ad sh2 I G P ++ [(ad sh2.length, am_E cys ad x (I sh2.length) (G sh2.length) (P sh2.length))])[sh2.length]? = some (ad sh2.length, am_E cys ad x (I sh2.length) (G sh2.length) (P sh2.length)) := by
    rw [List.getElem?_append_right (Nat.le_of_eq hl2), hl2, Nat.sub_self]; rfl
  have h2 : va_P D vwCl (am_ws cys ad sh2 I G P) H := fun k q hq => hP k q (hat k q hq)
  have hx : ∀ (k : Nat) (q : Nat × va_E), (am_ws cys ad sh2 I G P)[k]? = some q → ¬ va_A (am_ws cys adz [x] I0 G0 P0) H.size q.1 := by
    intro k q hq hz9
    have hkl := (List.getElem?_eq_some_iff.mp hq).1
    rcases hz9 with ⟨k2, e9, hz9⟩ | hz9
    · rw [he] at hz9
      have hk2 : k2 < 1 := (List.getElem?_eq_some_iff.mp hz9).1
      have hk0 : k2 = 0 := by omega
      rw [hk0] at hz9
      have hq1 : q.1 = ad sh2.length := (congrArg Prod.fst (Option.some.inj hz9)).symm
      have := hD.1 k sh2.length q _ (hat k q hq) hend hq1
      omega
    · have := (h2 k q hq).lt
      omega
  have hPn : va_P D vwCl (am_ws cys ad' sh' I' G' P' ++ am_ws cys ad sh2 I G P) t.heap := hPt.app (h2.kept (fun k q hq => hk q.1 (h2 k q hq).lt (hx k q hq)))
  have hDn : va_D A (am_ws cys ad' sh' I' G' P' ++ am_ws cys ad sh2 I G P) := (hD'.weaken (fun _ _ _ z => hA _ z)).app ⟨fun i j u v hu hv => hD.1 i j u v (hat i u hu) (hat j v hv), fun k q hq => hD.2 k q (hat k q hq)⟩ (fun i j u v hu hv huv => hx j v hv (huv ▸ hD'.2 i u hu))
  obtain ⟨t2, a1, b1⟩ := kk r sh' ad' I' G' P' hp had T'.heap (locs ++ L) (by rw [e1]; exact hPn) hDn hS1 T' rfl X'
  exact ⟨t2, st t2 a1, b1⟩
end AMCF
/-- a reference behind the constructor's cells -/
def sfV (n b : Nat) (v : Value) : Value := match v with
  | .ref k => if k < b then .ref (k + n) else if k = b then .ref 0 else .ref k
  | w => w
def sfA (n : Nat) (ad' ad : Nat → Nat) : Nat → Nat := fun k => if k < n then ad' k else if k < 1000 then ad (k - n) else ad' k
def sfI {α : Type} (n : Nat) (f g : Nat → α) : Nat → α := fun k => if k < n then f k else g (k - n)
theorem sf_tvk {n b k : Nat} {ad' ad : Nat → Nat} (hk : k < b + 1 ∨ 1000 ≤ k) (hn : 0 < n) (hl : n + b ≤ 1000) (h0 : ad' 0 = ad b) (h9 : ∀ j, 1000 ≤ j → ad' j = ad j) : am_tv (sfA n ad' ad) (if k < b then .ref (k + n) else if k = b then .ref 0 else .ref k) = .ref (ad k) := by
  by_cases h1 : k < b
  · rw [if_pos h1]
    show Value.ref (sfA n ad' ad (k + n)) = _
    unfold sfA
    rw [if_neg (by omega), if_pos (by omega), Nat.add_sub_cancel]
  · rw [if_neg h1]
    by_cases h2 : k = b
    · rw [if_pos h2]
      show Value.ref (sfA n ad' ad 0) = _
      unfold sfA
      rw [if_pos hn, h0, h2]
    · rw [if_neg h2]
      have h3 : 1000 ≤ k := by omega
      show Value.ref (sfA n ad' ad k) = _
      unfold sfA
      rw [if_neg (by omega), if_neg (by omega), h9 k h3]
theorem sf_tv {n b : Nat} {ad' ad : Nat → Nat} {v : Value} (h : am_kr (b + 1) v) (hn : 0 < n) (hl : n + b ≤ 1000) (h0 : ad' 0 = ad b) (h9 : ∀ j, 1000 ≤ j → ad' j = ad j) : am_tv (sfA n ad' ad) (sfV n b v) = am_tv ad v := by
  cases v with
  | ref k => exact sf_tvk (k := k) h hn hl h0 h9
  | _ => rfl
theorem am_kqL_sf {b : Nat} : ∀ {L : am_L}, am_kqL b L → ∀ q ∈ L, am_kr b q.2 := fun h => am_kqL_kr h
section AMCF2
variable {X : am_X} {o : Nat} {cc : ByteArray} {nL : Nat} {ini : Bool} {ret : Option FieldType} {d : Nat}
variable {cells slots mc ms MC MS keep : Nat} {Q : State → Prop} {sh2 shN : List am_Sh} {ad : Nat → Nat} {pc : Nat} {L : am_L} {st rest : List Value} {I I0 I1 : am_I} {G G0 G1 : am_G} {P P0 P1 : am_P}
theorem am_callIF (hX : am_okz X ad) (hi : am_info X o cc nL ini ret d) (hm : am_mem X MC MS) {M : am_M} {d' idx ci n : Nat} (hM : am_Mok M) (hin : Cond.instanceMethod M.1 ∈ lw_tbl) (hnm : M.1.name = "<init>") (hret : M.2.2.2.1 = none) (hl : am_lnk o idx M.1 false = true) (hd : decode cc pc = .ok (.invokespecial idx, 3))
    (hn0 : 0 = M.2.2.2.2.2.1) (hdd : d' + 1 ≤ d ∧ 19 + M.2.2.1 + 30 * d' ≤ 30 * d ∧ (rest.map fun v => v.category).sum ≤ 8) (hst : st = .ref sh2.length :: rest) (hroom : cells + mc ≤ MC ∧ slots + ms ≤ MS) (hkeep : 0 < keep) (hN : shN.length = n) (h0n : 0 < n) (hln : n + sh2.length ≤ 1000)
    (hI0 : I0 0 = I sh2.length) (hG0 : G0 0 = G sh2.length) (hP0 : ∀ j, P0 0 j = .null) (hPb : ∀ j, P sh2.length j = .null)
    (hC : am_CtA M d' mc ms keep [.inl ci] [.ref 0] I0 G0 P0 (am_pA shN I1 G1 P1)) (hRN : lR n shN P1) (hR2 : lR sh2.length sh2 P) (hL : am_kqL (sh2.length + 1) L) (hrest : am_kqS (sh2.length + 1) rest)
    (kk : ∀ ad2 : Nat → Nat, am_okz X ad2 → (∀ j, 1000 ≤ j → ad2 j = ad j) → am_V X (cells + mc) (slots + ms) Q (shN ++ sh2) ad2 (pc + 3, L.map (fun q => (q.1, sfV n sh2.length q.2)), rest.map (sfV n sh2.length), sfI n I1 I, sfI n G1 G, sfI n P1 (fun k j => sfV n sh2.length (P k j)))) : am_V X cells slots Q (sh2 ++ [.inl ci]) ad (pc, L, st, I, G, P) := by
  subst hst
  have hX0 := hX
  obtain ⟨y, cb, mL, rt, oM, nA, iniM⟩ := M
  simp only at hret hnm hn0 hdd hin hl
  subst hret
  obtain ⟨p, l, e, R, s, m, args, below, meth, c, A, D, cys, o', cc', nL', ini'⟩ := X
  obtain ⟨rfl, rfl, rfl, rfl, -, hR1, hR2'⟩ := hi
  obtain ⟨rfl, rfl⟩ := hm
  obtain ⟨⟨hx, hb, hml, hown, hts, hlk, hK, hN9, hA, hini, hR3, hR4⟩, hZ⟩ := hX
  intro h1 h2 H locs ls hP hD hS hlo
  obtain ⟨q1, q2, q3, q4, q5⟩ := hM
  have hlw : Cond.methodLink (am_own o') idx y ∈ lw_tbl := by
    have := am_lnk_ok hl
    simpa using this
  have cw : CallB R s args (am_own o') idx y cb mL none (am_wl y cb mL none) (am_rm d' mc ms) mc ms nA ∧ y.name = "<init>" ∧ (Cond.instanceMethod y).before args s = true :=
    ⟨callB_of _ hts (am_goodIn (M := (y, cb, mL, none, oM, nA, iniM)) ⟨q1, q2, q3, q4, q5⟩) rfl rfl rfl (hts _ (am_good q2 rfl)) (hts _ (am_good hlw rfl)) ⟨q3, q4, q5⟩ ⟨by show d' + 1 ≤ R.frames; omega, by show 8 + (mL + 11) + 30 * d' ≤ R.locals; omega⟩, hnm, hts _ (am_good hin rfl)⟩
  obtain ⟨adz, hadz⟩ : ∃ adz : Nat → Nat, adz = fun k => if k = 0 then ad sh2.length else ad k := ⟨_, rfl⟩
  have z0 : adz 0 = ad sh2.length := by rw [hadz]; exact if_pos rfl
  have z9 : ∀ j, 1000 ≤ j → adz j = ad j := fun j hj => by rw [hadz]; exact if_neg (by omega)
  have he : am_ws cys adz [.inl ci] I0 G0 P0 = [(ad sh2.length, am_E cys ad (.inl ci) (I sh2.length) (G sh2.length) (P sh2.length))] := by
    have e1 : am_fs adz (am_ks ci) (I0 0) (G0 0) (P0 0) = am_fs ad (am_ks ci) (I sh2.length) (G sh2.length) (P sh2.length) := by
      rw [hI0, hG0]
      apply List.ext_getElem?
      intro j
      simp only [am_fs, List.getElem?_mapIdx]
      cases hj : (am_ks ci)[j]? with
      | none => rfl
      | some t =>
        simp only [Option.map_some]
        rw [hP0 j, hPb j]
        congr 1
    show [(adz 0, am_E cys adz (.inl ci) (I0 0) (G0 0) (P0 0))] = _
    rw [z0]
    show [(_, Sum.inr (ci, am_fs adz (am_ks ci) (I0 0) (G0 0) (P0 0)))] = [(_, Sum.inr (ci, am_fs ad (am_ks ci) (I sh2.length) (G sh2.length) (P sh2.length)))]
    rw [e1]
  have hsub : ∀ (k : Nat) (q : Nat × va_E), (am_ws cys adz [.inl ci] I0 G0 P0)[k]? = some q → k = 0 ∧ (am_ws cys ad (sh2 ++ [.inl ci]) I G P)[sh2.length]? = some q := fun k q hq => by
    rw [he] at hq
    have hk : k < 1 := (List.getElem?_eq_some_iff.mp hq).1
    have hk0 : k = 0 := by omega
    subst hk0
    refine ⟨rfl, ?_⟩
    rw [am_ws_at am_at_end]
    exact hq
  have hP9 : va_P D vwCl (am_ws cys adz [.inl ci] I0 G0 P0) H := fun k q hq => hP _ q (hsub k q hq).2
  have hD9 : va_D A (am_ws cys adz [.inl ci] I0 G0 P0) := ⟨fun i j u v hu hv _ => by rw [(hsub i u hu).1, (hsub j v hv).1], fun k q hq => hD.2 _ q (hsub k q hq).2⟩
  have hA1 := am_A1 hD9 hS hA
  refine am_goesAF (adz := adz) he hP hD (va_runI (As := []) (b := ad sh2.length) (rest := rest.map (am_tv ad)) ⟨hx, hb, hml, hown, hts⟩ (hC l D cys adz H.size) cw ⟨am_blind, ?_⟩ rfl hn0 hlo.1 ?_ ?_ hd hroom) hS hA1 ?_
  · intro U hU hW
    exact ⟨by rw [← z0]; rfl, by rw [hU], by rw [hU]; exact hP9, va_K.moved hW.alike hK, hD9.weaken (fun _ _ _ _ => trivial), am_nst.warm hW hN9, by rw [hU]; exact ((am_Zs.warm hW (hZ.kept hS.2.1)).adr z9).narrow hA1⟩
  · simp [am_tv]
  · exact lv_room (by rw [am_cats]; exact hdd.2.2)
  · rintro r sh' ad' I' G' P' ⟨rfl, rfl, rfl, rfl, rfl⟩ had H1 locs1 hP1 hD1 hS1
    have a0 : ad' 0 = ad sh2.length := (had 0 (Or.inl hkeep)).trans z0
    have a9 : ∀ j, 1000 ≤ j → ad' j = ad j := fun j hj => (had j (Or.inr hj)).trans (z9 j hj)
    have f9 : ∀ j, 1000 ≤ j → sfA n ad' ad j = ad j := fun j hj => by unfold sfA; rw [if_neg (by omega), if_neg (by omega)]; exact a9 j hj
    have e1 : am_ws cys (sfA n ad' ad) (sh' ++ sh2) (sfI n I' I) (sfI n G' G) (sfI n P' (fun k j => sfV n sh2.length (P k j))) = am_ws cys ad' sh' I' G' P' ++ am_ws cys ad sh2 I G P := by
      rw [am_ws_split]
      congr 1
      · refine am_ws_eq (fun b hb => ?_) (fun b hb => ?_) (fun b hb => ?_) (fun b hb => ?_) (fun b c k t hs hk => ?_) (fun b m j hs hj => ?_)
        · exact if_pos (by omega)
        · exact if_pos (by omega)
        · exact if_pos (by omega)
        · exact if_pos (by omega)
        · exact am_kr_tv (hRN.1 b c k hs (am_at_lt2 hk)) (fun j hj => by
            unfold sfA
            rcases hj with hj | hj
            · rw [if_pos hj]
            · rw [if_neg (by omega), if_neg (by omega)])
        · exact am_kr_tv (hRN.2 b m j hs hj) (fun j hj => by
            unfold sfA
            rcases hj with hj | hj
            · rw [if_pos hj]
            · rw [if_neg (by omega), if_neg (by omega)])
      · apply List.ext_getElem?
        intro j
        simp only [am_ws, List.getElem?_mapIdx]
        cases hs : sh2[j]? with
        | none => rfl
        | some x =>
          have hj := am_at_lt hs
          simp only [Option.map_some]
          have t1 : sfA n ad' ad (j + sh'.length) = ad j := by unfold sfA; rw [if_neg (by omega), if_pos (by omega), hN, Nat.add_sub_cancel]
          have t2 : sfI n I' I (j + sh'.length) = I j := by unfold sfI; rw [if_neg (by omega), hN, Nat.add_sub_cancel]
          have t3 : sfI n G' G (j + sh'.length) = G j := by unfold sfI; rw [if_neg (by omega), hN, Nat.add_sub_cancel]
          have t4 : sfI n P' (fun k j => sfV n sh2.length (P k j)) (j + sh'.length) = fun i => sfV n sh2.length (P j i) := by unfold sfI; rw [if_neg (by omega), hN, Nat.add_sub_cancel]
          rw [t1, t2, t3, t4]
          congr 2
          cases x with
          | inl c =>
            have e2 : am_fs (sfA n ad' ad) (am_ks c) (I j) (G j) (fun i => sfV n sh2.length (P j i)) = am_fs ad (am_ks c) (I j) (G j) (P j) := by
              apply List.ext_getElem?
              intro i
              simp only [am_fs, List.getElem?_mapIdx]
              cases hi : (am_ks c)[i]? with
              | none => rfl
              | some t =>
                have e3 := sf_tv (n := n) (ad' := ad') (ad := ad) ((hR2.1 j c i hs (am_at_lt2 hi)).le (Nat.le_succ _)) h0n hln a0 a9
                simp only [Option.map_some]
                congr 1
                unfold am_fv
                split
                · rfl
                · rfl
                · rfl
                · exact e3
            simp only [am_E, e2]
          | inr y =>
            rcases y with ⟨t, k⟩
            match t with
            | 0 => rfl
            | 1 => rfl
            | 2 => rfl
            | 3 =>
              have e2 : am_rw (sfA n ad' ad) k (fun i => sfV n sh2.length (P j i)) = am_rw ad k (P j) := by
                funext i
                unfold am_rw
                cases hb : Nat.blt i k with
                | false => rfl
                | true =>
                  have e3 := sf_tv (n := n) (ad' := ad') (ad := ad) ((hR2.2 j k i hs (by rw [Nat.blt_eq] at hb; exact hb)).le (Nat.le_succ _)) h0n hln a0 a9
                  show am_ov _ (sfV n sh2.length (P j i)) = am_ov ad (P j i)
                  cases hv : P j i with
                  | ref z =>
                    rw [hv] at e3
                    cases hw : sfV n sh2.length (.ref z) with
                    | ref u => rw [hw] at e3; simp only [am_tv] at e3; simp only [am_ov]; rw [Value.ref.inj e3]
                    | _ => rw [hw] at e3; simp only [am_tv] at e3; cases e3
                  | _ => rfl
              simp only [am_E, e2]
            | 4 => rfl
            | t + 5 => rfl
    rw [← e1] at hP1 hD1
    have e4 : L.map (am_tl ad) = (L.map (fun q => (q.1, sfV n sh2.length q.2))).map (am_tl (sfA n ad' ad)) := by
      rw [List.map_map]
      exact List.map_congr_left fun q hq => by
        show (q.1, am_tv ad q.2) = (q.1, am_tv (sfA n ad' ad) (sfV n sh2.length q.2))
        rw [sf_tv (am_kqL_kr hL q hq) h0n hln a0 a9]
    have e5 : rest.map (am_tv ad) = (rest.map (sfV n sh2.length)).map (am_tv (sfA n ad' ad)) := by
      rw [List.map_map]
      exact List.map_congr_left fun q hq => (sf_tv (am_kqS_kr hrest q hq) h0n hln a0 a9).symm
    rw [e5]
    exact kk (sfA n ad' ad) (hX0.adr f9) f9 hroom.1 hroom.2 H1 locs1 ls hP1 hD1 hS1 (by rw [← e4]; exact hlo)
end AMCF2
