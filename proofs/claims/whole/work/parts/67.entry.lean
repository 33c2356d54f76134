/-! the entry: which exception is none of which class, by the chains of superclasses -/
def cu (vm : Vm) : Nat → ClassId → Option ClassId
  | 0, c => some c
  | k + 1, c => (vm.classes[c]?.bind (fun z => z.super)).bind (cu vm k)
theorem cu_add (vm : Vm) : ∀ (a b : Nat) (c : ClassId), cu vm (a + b) c = (cu vm a c).bind (cu vm b)
  | 0, b, c => by rw [Nat.zero_add]; rfl
  | a + 1, b, c => by
    rw [Nat.add_right_comm]
    show (vm.classes[c]?.bind (fun z => z.super)).bind (cu vm (a + b)) = ((vm.classes[c]?.bind (fun z => z.super)).bind (cu vm a)).bind (cu vm b)
    cases vm.classes[c]?.bind (fun z => z.super) with
    | none => rfl
    | some p => exact cu_add vm a b p
theorem cu_sub (vm : Vm) (t : ClassId) : ∀ (n : Nat) (s : ClassId), vm.isSubclassAux n s t = true ↔ ∃ k, k < n ∧ cu vm k s = some t
  | 0, s => by simp [Vm.isSubclassAux]
  | n + 1, s => by
    unfold Vm.isSubclassAux
    by_cases hst : s = t
    · subst hst
      simp only [beq_self_eq_true, Bool.true_or, true_iff]
      exact ⟨0, Nat.succ_pos _, rfl⟩
    · have h0 : (s == t) = false := beq_eq_false_iff_ne.mpr hst
      rw [h0, Bool.false_or]
      cases hk : vm.classes[s]? with
      | none =>
        simp only [Bool.false_eq_true, false_iff]
        rintro ⟨k, hk1, hk2⟩
        cases k with
        | zero => exact hst (Option.some.inj hk2)
        | succ k => simp [cu, hk] at hk2
      | some z =>
        cases hz : z.super with
        | none =>
          simp only [Bool.false_eq_true, false_iff, hz]
          rintro ⟨k, hk1, hk2⟩
          cases k with
          | zero => exact hst (Option.some.inj hk2)
          | succ k => simp [cu, hk, hz] at hk2
        | some p =>
          simp only [hz]
          rw [cu_sub vm t n p]
          constructor
          · rintro ⟨k, h1, h2⟩
            exact ⟨k + 1, by omega, by simp [cu, hk, hz, h2]⟩
          · rintro ⟨k, h1, h2⟩
            cases k with
            | zero => exact absurd (Option.some.inj h2) hst
            | succ k => exact ⟨k, by omega, by simpa [cu, hk, hz] using h2⟩
theorem cu_per {vm : Vm} {r : ClassId} {p : Nat} (hp : cu vm p r = some r) : ∀ m : Nat, cu vm (m * p) r = some r
  | 0 => by rw [Nat.zero_mul]; rfl
  | m + 1 => by
    rw [Nat.succ_mul, cu_add, cu_per hp m]
    exact hp
theorem cu_no {vm : Vm} {c1 c2 r T O M : ClassId} {n : Nat} (h1 : cu vm 1 c1 = some r) (h2 : cu vm 1 c2 = some r) (hT : ∃ k, k < n ∧ cu vm k c1 = some T) (hTO : cu vm 1 T = some O) (hMO : cu vm 1 M = some O) (hM : ∀ k, k < n → cu vm k M ≠ some c2) (n12 : c1 ≠ c2) (n1T : c1 ≠ T) (n2T : T ≠ c2) : ∀ k, k < n → cu vm k c1 ≠ some c2 := by
  intro j hj hc
  cases j with
  | zero => exact n12 (Option.some.inj hc)
  | succ j =>
    rw [Nat.add_comm, cu_add, h1] at hc
    have hc : cu vm j r = some c2 := hc
    have hp : cu vm (j + 1) r = some r := by rw [cu_add, hc]; exact h2
    obtain ⟨k, hk, hkT⟩ := hT
    cases k with
    | zero => exact n1T (Option.some.inj hkT)
    | succ k =>
      rw [Nat.add_comm, cu_add, h1] at hkT
      have hkT : cu vm k r = some T := hkT
      have e : cu vm (k % (j + 1)) r = some T := by
        have h9 : cu vm (k / (j + 1) * (j + 1) + k % (j + 1)) r = some T := by rw [Nat.div_add_mod']; exact hkT
        rw [cu_add, cu_per hp] at h9
        exact h9
      have ha : k % (j + 1) < j + 1 := Nat.mod_lt _ (Nat.succ_pos _)
      have hb : cu vm (j - k % (j + 1)) T = some c2 := by
        have h9 : cu vm (k % (j + 1) + (j - k % (j + 1))) r = some c2 := by rw [Nat.add_sub_cancel' (by omega)]; exact hc
        rw [cu_add, e] at h9
        exact h9
      generalize hg : j - k % (j + 1) = b at hb
      cases b with
      | zero => exact n2T (Option.some.inj hb)
      | succ b =>
        rw [Nat.add_comm, cu_add, hTO] at hb
        refine hM (1 + b) (by omega) ?_
        rw [cu_add, hMO]
        exact hb
section ENT
variable {s : State} {args : Array Value}
theorem am_fsup {C S : String} (w : (Cond.superclass C S).before args s = true) : ∃ c p k, s.vm.findClass C = some c ∧ s.vm.findClass S = some p ∧ s.vm.classes[c]? = some k ∧ k.kind = .ordinary ∧ k.isInterface = false ∧ cu s.vm 1 c = some p := by
  have h0 : ∃ c, s.vm.findClass C = some c := by
    cases hc : s.vm.findClass C with
    | some c => exact ⟨c, rfl⟩
    | none => simp [Cond.before, Cond.holds, Cond.value, hc] at w
  obtain ⟨c, hc⟩ := h0
  obtain ⟨p, k, kp, h1, h2, h3, h4, h5, h6, h7⟩ := Cond.superclass_spec hc w
  exact ⟨c, p, k, hc, h1, h2, h5, h7, by simp [cu, h2, h4]⟩
theorem am_ids {C K : String} {c t : ClassId} (h1 : s.vm.findClass C = some c) (h2 : s.vm.findClass K = some t) (hn : C ≠ K) : c ≠ t := fun e => by
  subst e
  obtain ⟨k1, a1, a2⟩ := Vm.findClass_spec h1
  obtain ⟨k2, b1, b2⟩ := Vm.findClass_spec h2
  cases a1.symm.trans b1
  exact hn (a2.symm.trans b2)
theorem am_asg {c t : ClassId} {k kt : Class} (hk : s.vm.classes[c]? = some k) (hkt : s.vm.classes[t]? = some kt) (ho : k.kind = .ordinary) (hot : kt.kind = .ordinary) (hi : kt.isInterface = false) (hn : c ≠ t) : s.vm.assignable c t = s.vm.isSubclassAux (s.vm.classes.size + 1) c t := by
  show s.vm.assignableAux (255 + 1) c t = _
  simp [Vm.assignableAux, hn, hk, hkt, ho, hot, hi, Vm.isSubclass]
theorem am_laysA {C O n d : String} (h : (Cond.lays C O n d).before args s = true) : ∃ c t, s.vm.findClass C = some c ∧ s.vm.findClass O = some t ∧ s.vm.assignable c t = true := by
  simp only [Cond.before, Cond.holds, Cond.value] at h
  cases hc : s.vm.findClass C with
  | none => simp [hc] at h
  | some c =>
    cases hf : s.fieldFound? O n d with
    | none => simp [hc, hf] at h
    | some q =>
      obtain ⟨c', k', i, f⟩ := q
      cases hk : s.vm.classes[c]? with
      | none => simp [hc, hf, hk] at h
      | some k =>
        simp [hc, hf, hk] at h
        exact ⟨c, c', rfl, h.1.1.2, h.1.1.1.2⟩
theorem am_noE {E1 E2 : String} (w1 : (Cond.superclass E1 "java/lang/RuntimeException").before args s = true) (w2 : (Cond.superclass E2 "java/lang/RuntimeException").before args s = true) (wT : (Cond.superclass "java/lang/Throwable" "java/lang/Object").before args s = true) (wM : (Cond.superclass "MarbledPaper" "java/lang/Object").before args s = true)
    (wl : (Cond.lays E1 "java/lang/Throwable" "cause" "Ljava/lang/Throwable;").before args s = true) (wn : (Cond.not (.castable "MarbledPaper" E2)).before args s = true) (n12 : E1 ≠ E2) (n1T : E1 ≠ "java/lang/Throwable") (n2T : E2 ≠ "java/lang/Throwable") (n2M : "MarbledPaper" ≠ E2) : va_Nc E1 E2 s := by
  obtain ⟨c1, r, k1, a1, a2, a3, a4, a5, a6⟩ := am_fsup w1
  obtain ⟨c2, r', k2, b1, b2, b3, b4, b5, b6⟩ := am_fsup w2
  cases a2.symm.trans b2
  obtain ⟨T, O, kT, d1, d2, d3, d4, d5, d6⟩ := am_fsup wT
  obtain ⟨M, O', kM, e1, e2, e3, e4, e5, e6⟩ := am_fsup wM
  cases d2.symm.trans e2
  obtain ⟨c1', T', g1, g2, g3⟩ := am_laysA wl
  cases a1.symm.trans g1
  cases d1.symm.trans g2
  obtain ⟨M', c2', f1, f2, f3⟩ := va_Nc.of wn
  cases e1.symm.trans f1
  cases b1.symm.trans f2
  have x12 := am_ids a1 b1 n12
  have x1T := am_ids a1 d1 n1T
  have x2T := am_ids b1 d1 n2T
  have xM2 := am_ids e1 b1 n2M
  rw [am_asg a3 d3 a4 d4 d5 x1T] at g3
  rw [am_asg e3 b3 e4 b4 b5 xM2] at f3
  have hM : ∀ k, k < s.vm.classes.size + 1 → cu s.vm k M ≠ some c2 := fun k hk hc => by
    have := (cu_sub s.vm c2 _ M).mpr ⟨k, hk, hc⟩
    rw [f3] at this; cases this
  have hno := cu_no a6 b6 ((cu_sub s.vm T _ c1).mp g3) d6 e6 hM x12 x1T (Ne.symm x2T)
  refine ⟨c1, c2, a1, b1, ?_⟩
  rw [am_asg a3 b3 a4 b4 b5 x12]
  cases h : s.vm.isSubclassAux (s.vm.classes.size + 1) c1 c2 with
  | false => rfl
  | true =>
    obtain ⟨k, hk, hc⟩ := (cu_sub s.vm c2 _ c1).mp h
    exact absurd hc (hno k hk)
/-- the exceptions' facts at the law's entry -/
theorem am_cast_of (hts : ∀ w ∈ lw_tbl, w.before args s = true) (hg : (Jvm.Cond.and given_1 narrow_1).before args s = true) : am_cast s := by
  have hf := flat_of_before _ hg
  refine ⟨fun w hw => ?_, ?_, ?_⟩
  · have h1 : w ∈ lw_tbl := by
      simp only [am_cw, List.mem_cons, List.not_mem_nil, or_false] at hw
      rcases hw with rfl | rfl | rfl | rfl | rfl | rfl <;> decide +kernel
    exact va_tabs (by
      simp only [am_cw, List.mem_cons, List.not_mem_nil, or_false] at hw
      rcases hw with rfl | rfl | rfl | rfl | rfl | rfl <;> rfl) rfl (hts w h1)
  · exact am_noE (hts _ (by decide +kernel)) (hts _ (by decide +kernel)) (hts _ (by decide +kernel)) (hts _ (by decide +kernel)) (hts _ (by decide +kernel)) (hf _ (by decide +kernel)) (by decide) (by decide) (by decide) (by decide)
  · exact am_noE (hts _ (by decide +kernel)) (hts _ (by decide +kernel)) (hts _ (by decide +kernel)) (hts _ (by decide +kernel)) (hts _ (by decide +kernel)) (hf _ (by decide +kernel)) (by decide) (by decide) (by decide) (by decide)
end ENT
