/-! the reference: places of names get their meanings -/
section RPT
variable {G : am_G}
/-- a code in the row 137 -/
def rcd (f : Nat → Int32) : Nat → List (Nat × Nat) → Prop
  | _, [] => True
  | k, (op, a) :: r => f k = Int32.ofNat (s_rop op) ∧ (if s_two op = true then f (k + 1) = Int32.ofNat a ∧ rcd f (k + 2) r else rcd f (k + 1) r)
/-- where names stand in it -/
def rop (g : Nat → Int32) : Nat → Nat → List (Nat × Nat) → Prop
  | _, _, [] => True
  | os, sz, (op, _) :: r => if s_nmd op = true then g os = Int32.ofNat (sz + 1) ∧ rop g (os + 1) (sz + 2) r else rop g os (sz + (if s_two op = true then 2 else 1)) r
theorem rcd_cg {f g : Nat → Int32} : ∀ (c : List (Nat × Nat)) (k : Nat), (∀ j, k ≤ j → g j = f j) → rcd f k c → rcd g k c
  | [], _, _, _ => trivial
  | (op, a) :: r, k, h, hc => by
    refine ⟨(h k (Nat.le_refl _)).trans hc.1, ?_⟩
    have h2 := hc.2
    by_cases ht : s_two op = true
    · rw [if_pos ht] at h2 ⊢
      exact ⟨(h (k + 1) (by omega)).trans h2.1, rcd_cg r (k + 2) (fun j hj => h j (by omega)) h2.2⟩
    · rw [if_neg ht] at h2 ⊢
      exact rcd_cg r (k + 1) (fun j hj => h j (by omega)) h2
theorem s_cw_lo : ∀ (c : List (Nat × Nat)) (k : Nat) (f : Nat → Int32) (j : Nat), j < k → s_cw k c f j = f j
  | [], _, _, _, _ => rfl
  | (op, a) :: r, k, f, j, hj => by
    show (if s_two op = true then s_cw (k + 2) r (w1 (w1 f k (Int32.ofNat (s_rop op))) (k + 1) (Int32.ofNat a)) else s_cw (k + 1) r (w1 f k (Int32.ofNat (s_rop op)))) j = _
    by_cases ht : s_two op = true
    · rw [if_pos ht, s_cw_lo r (k + 2) _ j (by omega)]
      show (if j = k + 1 then _ else (if j = k then _ else f j)) = _
      rw [if_neg (by omega), if_neg (by omega)]
    · rw [if_neg ht, s_cw_lo r (k + 1) _ j (by omega)]
      show (if j = k then _ else f j) = _
      rw [if_neg (by omega)]
theorem rcd_cw : ∀ (c : List (Nat × Nat)) (k : Nat) (f : Nat → Int32), rcd (s_cw k c f) k c
  | [], _, _ => trivial
  | (op, a) :: r, k, f => by
    have e : s_cw k ((op, a) :: r) f = if s_two op = true then s_cw (k + 2) r (w1 (w1 f k (Int32.ofNat (s_rop op))) (k + 1) (Int32.ofNat a)) else s_cw (k + 1) r (w1 f k (Int32.ofNat (s_rop op))) := rfl
    rw [e]
    by_cases ht : s_two op = true
    · rw [if_pos ht]
      refine ⟨?_, ?_⟩
      · rw [s_cw_lo r (k + 2) _ k (by omega)]
        show (if k = k + 1 then _ else (if k = k then _ else f k)) = _
        rw [if_neg (by omega), if_pos rfl]
      · rw [if_pos ht]
        refine ⟨?_, rcd_cw r (k + 2) _⟩
        rw [s_cw_lo r (k + 2) _ (k + 1) (by omega)]
        show (if k + 1 = k + 1 then _ else _) = _
        rw [if_pos rfl]
    · rw [if_neg ht]
      refine ⟨?_, ?_⟩
      · rw [s_cw_lo r (k + 1) _ k (by omega)]
        show (if k = k then _ else f k) = _
        rw [if_pos rfl]
      · rw [if_neg ht]
        exact rcd_cw r (k + 1) _
theorem s_ow_lo : ∀ (c : List (Nat × Nat)) (os sz : Nat) (f : Nat → Int32) (j : Nat), j < os → s_ow os sz c f j = f j
  | [], _, _, _, _, _ => rfl
  | (op, a) :: r, os, sz, f, j, hj => by
    show (if s_nmd op = true then s_ow (os + 1) (sz + 2) r (w1 f os (Int32.ofNat (sz + 1))) else s_ow os (sz + (if s_two op = true then 2 else 1)) r f) j = _
    by_cases ht : s_nmd op = true
    · rw [if_pos ht, s_ow_lo r (os + 1) _ _ j (by omega)]
      show (if j = os then _ else f j) = _
      rw [if_neg (by omega)]
    · rw [if_neg ht]
      exact s_ow_lo r os _ f j hj
theorem rop_ow : ∀ (c : List (Nat × Nat)) (os sz : Nat) (f : Nat → Int32), rop (s_ow os sz c f) os sz c
  | [], _, _, _ => trivial
  | (op, a) :: r, os, sz, f => by
    have e : s_ow os sz ((op, a) :: r) f = if s_nmd op = true then s_ow (os + 1) (sz + 2) r (w1 f os (Int32.ofNat (sz + 1))) else s_ow os (sz + (if s_two op = true then 2 else 1)) r f := rfl
    rw [e]
    show (if s_nmd op = true then _ else _)
    by_cases ht : s_nmd op = true
    · rw [if_pos ht, if_pos ht]
      refine ⟨?_, rop_ow r _ _ _⟩
      rw [s_ow_lo r (os + 1) _ _ os (by omega)]
      show (if os = os then _ else f os) = _
      rw [if_pos rfl]
    · rw [if_neg ht, if_neg ht]
      exact rop_ow r _ _ _
theorem r_patch {m : Nat → Option Nat} {E : Int32} {NN : Nat} : ∀ (c : List (Nat × Nat)) (os sz n : Nat) (I : am_I), I 123 23 = Int32.ofNat NN → NN = os + s_nn c → NN ≤ 400 → sz + s_el c ≤ 800 → s_nn c < n → rcd (I 137) sz c → rop (I 138) os sz c → (∀ q ∈ c, s_nmd q.1 = true → q.2 ≤ 400 ∧ I 85 q.2 = Int32.ofNat ((m q.2).getD 0)) → ∃ I' : am_I, L_X14_read_79 n 1 I G E (Int32.ofNat os) = some ((0 : Int32), I', G) ∧ (∀ b, b ≠ 137 → I' b = I b) ∧ (∀ j, j < sz → I' 137 j = I 137 j) ∧ rcd (I' 137) sz (c.map (mrs m))
  | [], os, sz, n, I, h23, hNN, hN4, h8, hn, hr, ho, hm => by
    obtain ⟨n, rfl⟩ : ∃ n', n = n' + 1 := ⟨n - 1, by have : s_nn [] = 0 := rfl; omega⟩
    have hNN : NN = os + 0 := hNN
    rw [L_X14_read_79_1, h23, if_pos ((n_le (by omega) (by omega)).mpr (by omega))]
    exact ⟨I, rfl, fun b _ => rfl, fun j _ => rfl, trivial⟩
  | (op, a) :: r, os, sz, n, I, h23, hNN, hN4, h8, hn, hr, ho, hm => by
    have enn : s_nn ((op, a) :: r) = (if s_nmd op = true then 1 else 0) + s_nn r := rfl
    have eel : s_el ((op, a) :: r) = (if s_two op = true then 2 else 1) + s_el r := rfl
    rw [enn] at hNN hn
    rw [eel] at h8
    obtain ⟨r1, r2⟩ := hr
    have ho' : (if s_nmd op = true then I 138 os = Int32.ofNat (sz + 1) ∧ rop (I 138) (os + 1) (sz + 2) r else rop (I 138) os (sz + (if s_two op = true then 2 else 1)) r) := ho
    by_cases hs : s_nmd op = true
    · have ht := s_nmd_two hs
      rw [if_pos hs] at hNN hn ho'
      rw [if_pos ht] at r2 h8
      obtain ⟨n, rfl⟩ : ∃ n', n = n' + 1 := ⟨n - 1, by omega⟩
      obtain ⟨q1, q2⟩ := hm (op, a) List.mem_cons_self hs
      dsimp only at q1 q2
      have hin : vp_in (Int32.ofNat os) 400 := (n_in (by omega)).mpr (by omega)
      have hin8 : vp_in (Int32.ofNat (sz + 1)) 800 := (n_in (by omega)).mpr (by omega)
      have ec : (Int32.ofNat os).toNatClampNeg = os := n_cl (by omega)
      have ec2 : (Int32.ofNat (sz + 1)).toNatClampNeg = sz + 1 := n_cl (by omega)
      obtain ⟨I', e1, e2, e3, e4⟩ := r_patch (m := m) (E := E) (NN := NN) r (os + 1) (sz + 2) n (am_up I 137 (sz + 1) (Int32.ofNat ((m a).getD 0))) (by rw [up_row _ _ _ (by omega)]; exact h23) (by omega) hN4 (by omega) (by omega) (rcd_cg r (sz + 2) (fun j hj => by rw [up_in, if_neg (by omega)]) r2.2) (by rw [up_row _ _ _ (by omega)]; exact ho'.2) (fun q hq hn2 => by rw [up_row _ _ _ (by omega)]; exact hm q (List.mem_cons_of_mem _ hq) hn2)
      refine ⟨I', ?_, fun b hb => by rw [e2 b hb, up_row _ _ _ hb], fun j hj => by rw [e3 j (by omega), up_in, if_neg (by omega)], ?_⟩
      · rw [L_X14_read_79_1, h23, if_neg (fun z => absurd ((n_le (by omega) (by omega)).mp z) (by omega)), rg_pos hin, rg_pos hin, ec, ho'.1, rg_pos hin8, ec2, r2.1, rg_pos ((n_in (by omega)).mpr (by omega)), rg_pos hin8, n_cl (show a < 2147483648 by omega), q2, n_inc]
        exact e1
      · have em : ((op, a) :: r).map (mrs m) = (op, (m a).getD 0) :: r.map (mrs m) := by
          show mrs m (op, a) :: _ = _
          unfold mrs
          rw [if_pos hs]
        rw [em]
        refine ⟨by rw [e3 sz (by omega), up_in, if_neg (by omega)]; exact r1, ?_⟩
        rw [if_pos ht]
        exact ⟨by rw [e3 (sz + 1) (by omega), am_up_self], e4⟩
    · rw [if_neg hs] at hNN hn ho'
      have em : ((op, a) :: r).map (mrs m) = (op, a) :: r.map (mrs m) := by
        show mrs m (op, a) :: _ = _
        unfold mrs
        rw [if_neg hs]
      rw [em]
      by_cases ht : s_two op = true
      · rw [if_pos ht] at r2 h8 ho'
        obtain ⟨I', e1, e2, e3, e4⟩ := r_patch (m := m) (E := E) (NN := NN) r os (sz + 2) n I h23 (by omega) hN4 (by omega) (by omega) r2.2 ho' (fun q hq hn2 => hm q (List.mem_cons_of_mem _ hq) hn2)
        refine ⟨I', e1, e2, fun j hj => e3 j (by omega), by rw [e3 sz (by omega)]; exact r1, ?_⟩
        rw [if_pos ht]
        exact ⟨by rw [e3 (sz + 1) (by omega)]; exact r2.1, e4⟩
      · rw [if_neg ht] at r2 h8 ho'
        obtain ⟨I', e1, e2, e3, e4⟩ := r_patch (m := m) (E := E) (NN := NN) r os (sz + 1) n I h23 (by omega) hN4 (by omega) (by omega) r2 ho' (fun q hq hn2 => hm q (List.mem_cons_of_mem _ hq) hn2)
        refine ⟨I', e1, e2, fun j hj => e3 j (by omega), by rw [e3 sz (by omega)]; exact r1, ?_⟩
        rw [if_neg ht]
        exact e4
theorem rcd_app {f : Nat → Int32} : ∀ (a b : List (Nat × Nat)) (k : Nat), rcd f k (a ++ b) → rcd f k a ∧ rcd f (k + s_el a) b
  | [], _, _, h => ⟨trivial, h⟩
  | (op, x) :: r, b, k, h => by
    have eel : s_el ((op, x) :: r) = (if s_two op = true then 2 else 1) + s_el r := rfl
    have h' : f k = Int32.ofNat (s_rop op) ∧ (if s_two op = true then f (k + 1) = Int32.ofNat x ∧ rcd f (k + 2) (r ++ b) else rcd f (k + 1) (r ++ b)) := h
    rw [eel]
    show (f k = Int32.ofNat (s_rop op) ∧ (if s_two op = true then f (k + 1) = Int32.ofNat x ∧ rcd f (k + 2) r else rcd f (k + 1) r)) ∧ _
    by_cases ht : s_two op = true
    · rw [if_pos ht] at h' ⊢
      obtain ⟨i1, i2⟩ := rcd_app r b (k + 2) h'.2.2
      rw [if_pos ht, ← Nat.add_assoc]
      exact ⟨⟨h'.1, h'.2.1, i1⟩, i2⟩
    · rw [if_neg ht] at h' ⊢
      obtain ⟨i1, i2⟩ := rcd_app r b (k + 1) h'.2
      rw [if_neg ht, ← Nat.add_assoc]
      exact ⟨⟨h'.1, i1⟩, i2⟩
theorem s_el_m (m : Nat → Option Nat) : ∀ c : List (Nat × Nat), s_el (c.map (mrs m)) = s_el c
  | [] => rfl
  | (op, a) :: r => by
    obtain ⟨x, hx⟩ : ∃ x, mrs m (op, a) = (op, x) := by
      unfold mrs
      split
      · exact ⟨_, rfl⟩
      · exact ⟨_, rfl⟩
    show s_el (mrs m (op, a) :: r.map (mrs m)) = _
    rw [hx]
    show (if s_two op = true then 2 else 1) + s_el (r.map (mrs m)) = (if s_two op = true then 2 else 1) + s_el r
    rw [s_el_m m r]
end RPT
