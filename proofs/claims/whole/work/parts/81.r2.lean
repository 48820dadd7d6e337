/-! ===== the same behind a question; rounds ===== -/
section R2
variable {st : Ar} {A : Nat → Nat} {n : Nat}
theorem ns_low {A : Nat → Nat} {f i k : Nat} (h4 : k ≠ 4) (h : k ≠ 5 + 12 * f + i) : ak2 (ak1 A f i) k = A k := (va_up_ne _ _ h4).trans (va_up_ne _ _ h)
theorem NV.askR (h : NV st A n) {p f t : Nat} (hp : p < st.1 2) (hf : f < st.1 1) (hh : heldB st p f = true) (ht : t < 16) : rgt A p f t = rightB st p f t := by
  unfold rgt rightB
  rw [h.rc p f hp hf, cp_bit (h.sp hp hf) (by rw [hh]; rfl) ht]
theorem NV.ask (h : NV st A n) {p f t : Nat} (hp : p < st.1 2) (hf : f < st.1 1) (hh : heldB st p f = true) (ht : t < 16) (hn : n + 1 < 2 ^ 23) : NV (ansS st p f t) (akA A p f t) (n + 1) := by
  have eg := h.askR hp hf hh ht
  have hN := h.N10
  have hK := h.K12
  have hk2 := akA_rK (p := p) (f := f) (t := t) h.k (by omega) (by omega) hn
  have hok := aOk.ans h.ok (p := p) (f := f) (t := t) (by omega) hf
  have hdp := h.2.2.1 p f (by omega) (by omega)
  have hz := h.aw.2
  have hne : st.2.2 7 p < 2 ^ st.1 1 := (h.ok.2.2.2.1 p (by omega)).2
  unfold akA ansS at *
  rw [eg] at *
  cases hr : rightB st p f t with
  | true =>
    rw [if_pos rfl, if_pos rfl]
    rw [hr, if_pos rfl] at hok hk2
    refine ⟨⟨?_, ?_, ?_, ?_⟩, ⟨hok, ?_, ?_⟩, ?_, ?_, hk2⟩
    · obtain ⟨a0, a1, a2, a3, a4⟩ := h.r0
      refine ⟨(ns_low (by omega) (by omega)).trans a0, (ns_low (by omega) (by omega)).trans a1, (ns_low (by omega) (by omega)).trans a2, (ns_low (by omega) (by omega)).trans a3, ?_⟩
      show ak1 A f 1 4 + 1 = st.1 3 + 1
      rw [show ak1 A f 1 4 = A 4 from va_up_ne _ _ (by omega), a4]
    · intro f' hf'
      have hf' : f' < st.1 1 := hf'
      obtain ⟨b0, b1, b2, b3, L, l1, l2, l3, l4⟩ := h.rf f' hf'
      refine ⟨(ns_low (by omega) (by omega)).trans b0, ?_, (ns_low (by omega) (by omega)).trans b2, (ns_low (by omega) (by omega)).trans b3, L, l1, l2, fun k hk => (ns_low (by omega) (by omega)).trans (l3 k hk), l4⟩
      show va_up (va_up A (5 + 12 * f + 1) (rF A f 1 + 1)) 4 _ (5 + 12 * f' + 1) = va_up (st.2.2 2) f (st.2.2 2 f + 1) f'
      rw [va_up_ne _ _ (by omega)]
      by_cases e : f' = f
      · subst e; rw [va_upE, va_upE, b1]
      · rw [va_up_ne _ _ (by omega), va_up_ne _ _ e]; exact b1
    · intro p' hp'
      obtain ⟨b0, L, l1, l2, l3, l4⟩ := h.rp p' hp'
      exact ⟨(ns_low (by omega) (by omega)).trans b0, L, l1, l2, fun k hk => (ns_low (by omega) (by omega)).trans (l3 k hk), l4⟩
    · intro p' f' hp' hf'
      exact (ns_low (by omega) (by omega)).trans (h.rc p' f' hp' hf')
    · intro f' h1 h2
      obtain ⟨z1, z2, z3, z4⟩ := hz.1 f' h1 h2
      have h1 : st.1 1 ≤ f' := h1
      refine ⟨z1, ?_, z3, z4⟩
      show va_up (st.2.2 2) f (st.2.2 2 f + 1) f' = 0
      rw [va_up_ne _ _ (by omega)]
      exact z2
    · exact hz.2
    · exact h.2.2.1
    · exact h.2.2.2.1
  | false =>
    rw [if_neg (by decide), if_neg (by decide)]
    rw [hr, if_neg (by decide)] at hok hk2
    have hc0 : rC (ak2 (ak1 A f 2)) p f = rC A p f := ns_low (by omega) (by omega)
    have low : ∀ k, k ≠ 4 → k ≠ 5 + 12 * f + 2 → k ≠ 125 + 19 * p + 9 + f → ak3 (ak2 (ak1 A f 2)) p f k = A k := fun k q1 q2 q3 => (va_up_ne _ _ q3).trans (ns_low q1 q2)
    have h6 : ∀ p', (aF (aF (aF (aI st 3 (st.1 3 + 1)) 3 (va_up (st.2.2 3) f (st.2.2 3 f + 1))) 6 (va_up (st.2.2 6) p (andn (st.2.2 6 p) (2 ^ f)))) 7 (va_up (st.2.2 7) p (st.2.2 7 p ||| 2 ^ f))).2.2 6 p' = va_up (st.2.2 6) p (andn (st.2.2 6 p) (2 ^ f)) p' := fun _ => rfl
    have h7 : ∀ p', (aF (aF (aF (aI st 3 (st.1 3 + 1)) 3 (va_up (st.2.2 3) f (st.2.2 3 f + 1))) 6 (va_up (st.2.2 6) p (andn (st.2.2 6 p) (2 ^ f)))) 7 (va_up (st.2.2 7) p (st.2.2 7 p ||| 2 ^ f))).2.2 7 p' = va_up (st.2.2 7) p (st.2.2 7 p ||| 2 ^ f) p' := fun _ => rfl
    have hb6 : ∀ p' f', f' < 32 → (va_up (st.2.2 6) p (andn (st.2.2 6 p) (2 ^ f)) p').testBit f' = if p' = p ∧ f' = f then false else heldB st p' f' := by
      intro p' f' hf'
      by_cases e : p' = p
      · subst e
        rw [va_upE, andn_bit (by have := Nat.pow_lt_pow_right (a := 2) (by decide) (show f < 32 by omega); omega) hf', Nat.testBit_two_pow]
        by_cases e2 : f' = f
        · rw [if_pos ⟨rfl, e2⟩, decide_eq_true e2.symm]; simp
        · rw [if_neg (fun q => e2 q.2), decide_eq_false (fun q => e2 q.symm)]; simp [heldB]
      · rw [va_up_ne _ _ e, if_neg (fun q => e q.1)]; rfl
    have hb7 : ∀ p' f', (va_up (st.2.2 7) p (st.2.2 7 p ||| 2 ^ f) p').testBit f' = if p' = p ∧ f' = f then true else brkB st p' f' := by
      intro p' f'
      by_cases e : p' = p
      · subst e
        rw [va_upE, Nat.testBit_or, Nat.testBit_two_pow]
        by_cases e2 : f' = f
        · rw [if_pos ⟨rfl, e2⟩, decide_eq_true e2.symm]; simp
        · rw [if_neg (fun q => e2 q.2), decide_eq_false (fun q => e2 q.symm)]; simp [brkB]
      · rw [va_up_ne _ _ e, if_neg (fun q => e q.1)]; rfl
    refine ⟨⟨?_, ?_, ?_, ?_⟩, ⟨hok, ?_, ?_⟩, ?_, ?_, hk2⟩
    · obtain ⟨a0, a1, a2, a3, a4⟩ := h.r0
      refine ⟨(low _ (by omega) (by omega) (by omega)).trans a0, (low _ (by omega) (by omega) (by omega)).trans a1, (low _ (by omega) (by omega) (by omega)).trans a2, (low _ (by omega) (by omega) (by omega)).trans a3, ?_⟩
      show ak3 (ak2 (ak1 A f 2)) p f 4 = st.1 3 + 1
      unfold ak3
      rw [va_up_ne _ _ (by omega)]
      show ak1 A f 2 4 + 1 = _
      rw [show ak1 A f 2 4 = A 4 from va_up_ne _ _ (by omega), a4]
    · intro f' hf'
      have hf' : f' < st.1 1 := hf'
      obtain ⟨b0, b1, b2, b3, L, l1, l2, l3, l4⟩ := h.rf f' hf'
      refine ⟨(low _ (by omega) (by omega) (by omega)).trans b0, (low _ (by omega) (by omega) (by omega)).trans b1, ?_, (low _ (by omega) (by omega) (by omega)).trans b3, L, l1, l2, fun k hk => (low _ (by omega) (by omega) (by omega)).trans (l3 k hk), l4⟩
      show ak3 (ak2 (ak1 A f 2)) p f (5 + 12 * f' + 2) = va_up (st.2.2 3) f (st.2.2 3 f + 1) f'
      unfold ak3 ak2 ak1
      rw [va_up_ne _ _ (by omega), va_up_ne _ _ (by omega)]
      by_cases e : f' = f
      · subst e; rw [va_upE, va_upE, b2]
      · rw [va_up_ne _ _ (by omega), va_up_ne _ _ e]; exact b2
    · intro p' hp'
      obtain ⟨b0, L, l1, l2, l3, l4⟩ := h.rp p' hp'
      exact ⟨(low _ (by omega) (by omega) (by omega)).trans b0, L, l1, l2, fun k hk => (low _ (by omega) (by omega) (by omega)).trans (l3 k hk), l4⟩
    · intro p' f' hp' hf'
      have hp' : p' < st.1 2 := hp'
      have hf' : f' < st.1 1 := hf'
      show rC (ak3 (ak2 (ak1 A f 2)) p f) p' f' = cpV ((va_up (st.2.2 6) p (andn (st.2.2 6 p) (2 ^ f)) p').testBit f') ((va_up (st.2.2 7) p (st.2.2 7 p ||| 2 ^ f) p').testBit f') (st.2.2 8 (10 * p' + f'))
      rw [hb6 _ _ (by omega), hb7]
      unfold ak3
      rw [hc0]
      rw [rC_put (by omega) (by omega)]
      by_cases e : p' = p ∧ f' = f
      · rw [if_pos e, if_pos e, if_pos e, h.rc p f hp hf, e.1, e.2, hh]
        exact cp_break (h.sp hp hf)
      · rw [if_neg e, if_neg e, if_neg e]
        exact (ns_low (by omega) (by omega)).trans (h.rc p' f' hp' hf')
    · intro f' h1 h2
      have h1 : st.1 1 ≤ f' := h1
      obtain ⟨z1, z2, z3, z4⟩ := hz.1 f' h1 h2
      refine ⟨z1, z2, ?_, z4⟩
      show va_up (st.2.2 3) f (st.2.2 3 f + 1) f' = 0
      rw [va_up_ne _ _ (by omega)]
      exact z3
    · intro p' h1 h2
      have h1 : st.1 2 ≤ p' := h1
      have := hz.2 p' h1 h2
      constructor
      · rw [h6, va_up_ne _ _ (by omega)]; exact this.1
      · rw [h7, va_up_ne _ _ (by omega)]; exact this.2
    · intro p' f' h1 h2
      show ((va_up (st.2.2 6) p (andn (st.2.2 6 p) (2 ^ f)) p').testBit f' && (va_up (st.2.2 7) p (st.2.2 7 p ||| 2 ^ f) p').testBit f') = false
      rw [hb6 _ _ (by omega), hb7]
      by_cases e : p' = p ∧ f' = f
      · rw [if_pos e]; rfl
      · rw [if_neg e, if_neg e]; exact h.2.2.1 p' f' h1 h2
    · intro f' hf'
      have hf' : f' < st.1 1 := hf'
      refine (h.2.2.2.1 f' hf').trans (fb_ct_cong fun p' hp' => ?_)
      show hasB st p' f' = ((va_up (st.2.2 6) p (andn (st.2.2 6 p) (2 ^ f)) p').testBit f' || (va_up (st.2.2 7) p (st.2.2 7 p ||| 2 ^ f) p').testBit f')
      rw [hb6 _ _ (by omega), hb7]
      by_cases e : p' = p ∧ f' = f
      · rw [if_pos e, if_pos e, e.1, e.2]
        unfold hasB
        rw [hh]
        rfl
      · rw [if_neg e, if_neg e]; rfl
theorem rnd_same {q : Ar × Nat} {r : (Nat → Nat) × Nat × Nat} {p : Nat} (h : NV q.1 r.1 n) (hx : q.2 = r.2.1) (hp : p < q.1.1 2) : ∀ j, j ≤ q.1.1 1 → n + j < 2 ^ 23 → NV (rndI q p j).1 (mrI r p j).1 (n + j) ∧ (rndI q p j).2 = (mrI r p j).2.1 ∧ (∀ i, i ≠ 3 → (rndI q p j).1.1 i = q.1.1 i) := by
  intro j
  induction j with
  | zero => intro _ _; exact ⟨h, hx, fun _ _ => rfl⟩
  | succ j ih =>
    intro hj hn
    obtain ⟨k1, k2, k3⟩ := ih (by omega) (by omega)
    rw [rndI, mrI]
    unfold mrS
    have e1 := k3 1 (by decide)
    have e2 := k3 2 (by decide)
    have e0 := k3 0 (by decide)
    generalize rndI q p j = Q at *
    generalize mrI r p j = R at *
    have hT := k1.ok.1
    unfold aT at hT
    have eh : cHeld (rC R.1 p j) = heldB Q.1 p j := k1.held (by omega) (by omega)
    rw [eh]
    by_cases c : heldB Q.1 p j = true
    · rw [if_pos c, if_pos c]
      have ht : nxtX Q.2 / 65536 % Q.1.1 0 < 16 := Nat.lt_of_lt_of_le (Nat.mod_lt _ (by omega)) hT.2
      have a := k1.ask (p := p) (f := j) (t := nxtX Q.2 / 65536 % Q.1.1 0) (by omega) (by omega) c ht (by omega)
      rw [← k2, k1.r0.1]
      exact ⟨a, rfl, fun i hi => (ansS_const hi).trans (k3 i hi)⟩
    · rw [if_neg c, if_neg c]
      exact ⟨k1.mono (by omega) (by omega), k2, k3⟩
theorem rnd_all {x : Nat} (h : NV st A n) : ∀ i, i ≤ st.1 2 → n + 10 * i < 2 ^ 23 → NV (rndO (st, x) i).1 (mrO (A, x, 0) i).1 (n + 10 * i) ∧ (rndO (st, x) i).2 = (mrO (A, x, 0) i).2.1 ∧ (∀ k, k ≠ 3 → (rndO (st, x) i).1.1 k = st.1 k) := by
  intro i
  induction i with
  | zero => intro _ _; exact ⟨h, rfl, fun _ _ => rfl⟩
  | succ i ih =>
    intro hi hn
    obtain ⟨k1, k2, k3⟩ := ih (by omega) (by omega)
    rw [rndO, mrO]
    have e1 : (st, x).1.1 1 = (rndO (st, x) i).1.1 1 := (k3 1 (by decide)).symm
    have e2 : (A, x, 0).1 1 = (rndO (st, x) i).1.1 1 := by rw [k3 1 (by decide)]; exact h.r0.2.1
    rw [e1, e2]
    have hN := k1.N10
    obtain ⟨m1, m2, m3⟩ := rnd_same k1 k2 (p := i) (by rw [k3 2 (by decide)]; omega) _ (Nat.le_refl _) (by omega)
    exact ⟨m1.mono (by omega) (by omega), m2, fun k hk => (m3 k hk).trans (k3 k hk)⟩
end R2
