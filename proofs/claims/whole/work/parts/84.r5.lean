/-! ===== the same behind joining, meeting, a pledge ===== -/
section R5
variable {st : Ar} {A : Nat → Nat} {n : Nat}
theorem joA1_at {A : Nat → Nat} {k : Nat} : ∀ m, joA1 A m k = if 5 + 12 * A 1 ≤ k ∧ k < 5 + 12 * A 1 + m then 0 else A k := by
  intro m
  induction m with
  | zero => rw [if_neg (by omega)]; rfl
  | succ m ih =>
    rw [joA1]
    by_cases e : k = 5 + 12 * A 1 + m
    · rw [e, va_upE, if_pos (by omega)]
    · rw [va_up_ne _ _ e, ih]
      by_cases c : 5 + 12 * A 1 ≤ k ∧ k < 5 + 12 * A 1 + m
      · rw [if_pos c, if_pos (by omega)]
      · rw [if_neg c, if_neg (by omega)]
theorem joA2_at {A B : Nat → Nat} {k : Nat} (hN : A 1 < 10) : ∀ m, joA2 A B m k = if 125 ≤ k ∧ (k - 125) % 19 = 9 + A 1 ∧ (k - 125) / 19 < m then 0 else B k := by
  intro m
  induction m with
  | zero => rw [if_neg (by omega)]; rfl
  | succ m ih =>
    rw [joA2]
    by_cases e : k = 125 + 19 * m + 9 + A 1
    · rw [e, va_upE, if_pos (by omega)]
    · rw [va_up_ne _ _ e, ih]
      by_cases c : 125 ≤ k ∧ (k - 125) % 19 = 9 + A 1 ∧ (k - 125) / 19 < m
      · rw [if_pos c, if_pos (by omega)]
      · rw [if_neg c, if_neg (by omega)]
theorem joA_low {A : Nat → Nat} {r k : Nat} (hN : A 1 < 10) (h1 : k ≠ 1) (h2 : ¬ (5 + 12 * A 1 ≤ k ∧ k < 5 + 12 * A 1 + 12)) (h3 : ¬ (125 ≤ k ∧ (k - 125) % 19 = 9 + A 1 ∧ (k - 125) / 19 < A 2)) : joA A r k = A k := by
  unfold joA
  rw [va_up_ne _ _ h1, joA2_at hN, if_neg h3, va_up_ne _ _ (by omega), joA1_at, if_neg h2]
theorem joA_fam {A : Nat → Nat} {r i : Nat} (hN : A 1 < 10) (hi : i < 12) : joA A r (5 + 12 * A 1 + i) = if i = 0 then r else 0 := by
  unfold joA
  rw [va_up_ne _ _ (by omega), joA2_at hN, if_neg (by omega)]
  by_cases e : i = 0
  · subst e; rw [va_upE, if_pos rfl]
  · rw [va_up_ne _ _ (by omega), joA1_at, if_pos (by omega), if_neg e]
theorem joA_rK {A : Nat → Nat} {n r : Nat} (h : rK A n) (hN : A 1 < 10) (hr : r ≤ 20) : rK (joA A r) n := by
  have hK : A 2 ≤ 12 := h.2.2 2 (by decide)
  have k1 := joA1_rK h hN 12 (Nat.le_refl _)
  have k2 : rK (va_up (joA1 A 12) (5 + 12 * A 1 + 0) r) n := k1.up (by rw [cbd_f hN (by decide), if_pos rfl]; exact hr) (by omega)
  have k3 := joA2_rK k2 hN (A 2) hK
  exact k3.up (by show A 1 + 1 ≤ 10; omega) (by omega)
theorem NV.join (h : NV st A n) {r : Nat} (hN : st.1 1 < 10) (hr : r ≤ 20) : NV (addFamS st (lN 27) r) (joA A r) n := by
  have eN := h.r0.2.1
  have eK := h.r0.2.2.1
  have hA : A 1 < 10 := by rw [eN]; exact hN
  have hK := h.K12
  have z := h.aw.2.1 (st.1 1) (Nat.le_refl _) hN
  have n1 : (addFamS st (lN 27) r).1 1 = st.1 1 + 1 := rfl
  have n2 : (addFamS st (lN 27) r).1 2 = st.1 2 := rfl
  have hh : ∀ p f, heldB (addFamS st (lN 27) r) p f = heldB st p f := fun _ _ => rfl
  have hb : ∀ p f, brkB (addFamS st (lN 27) r) p f = brkB st p f := fun _ _ => rfl
  refine ⟨⟨?_, ?_, ?_, ?_⟩, addFam_ok h.aw (lN 27) hN hr, h.2.2.1, ?_, joA_rK h.k hA hr⟩
  · obtain ⟨a0, a1, a2, a3, a4⟩ := h.r0
    refine ⟨(joA_low hA (by omega) (by omega) (by omega)).trans a0, ?_, (joA_low hA (by omega) (by omega) (by omega)).trans a2, (joA_low hA (by omega) (by omega) (by omega)).trans a3, (joA_low hA (by omega) (by omega) (by omega)).trans a4⟩
    show va_up _ 1 (A 1 + 1) 1 = st.1 1 + 1
    rw [va_upE, a1]
  · intro f hf
    rw [n1] at hf
    by_cases e : f = st.1 1
    · subst e
      have k : ∀ i, i < 12 → joA A r (5 + 12 * st.1 1 + i) = if i = 0 then r else 0 := fun i hi => by rw [← eN]; exact joA_fam hA hi
      refine ⟨?_, ?_, ?_, ?_, [], by decide, (fun c hc => by cases hc), fun i hi => ?_, ?_⟩
      · show joA A r (5 + 12 * st.1 1 + 0) = va_up (st.2.2 0) (st.1 1) r (st.1 1)
        rw [k 0 (by decide), va_upE, if_pos rfl]
      · show joA A r (5 + 12 * st.1 1 + 1) = st.2.2 2 (st.1 1)
        rw [k 1 (by decide), z.2.1]; rfl
      · show joA A r (5 + 12 * st.1 1 + 2) = st.2.2 3 (st.1 1)
        rw [k 2 (by decide), z.2.2.1]; rfl
      · show joA A r (5 + 12 * st.1 1 + 3) = st.2.2 1 (st.1 1)
        rw [k 3 (by decide), z.1]; rfl
      · show joA A r (5 + 12 * st.1 1 + 4 + i) = 0
        rw [show 5 + 12 * st.1 1 + 4 + i = 5 + 12 * st.1 1 + (4 + i) by omega, k (4 + i) (by omega), if_neg (by omega)]
      · show vp_updL (st.2.1 0) (st.1 1) (lN 27) (st.1 1) = _
        unfold vp_updL
        rw [if_pos rfl, if_pos rfl]
    · have hf2 : f < st.1 1 := by omega
      obtain ⟨b0, b1, b2, b3, L, l1, l2, l3, l4⟩ := h.rf f hf2
      have low : ∀ i, i < 12 → joA A r (5 + 12 * f + i) = A (5 + 12 * f + i) := fun i hi => joA_low hA (by omega) (by omega) (by omega)
      refine ⟨?_, (low 1 (by decide)).trans b1, (low 2 (by decide)).trans b2, (low 3 (by decide)).trans b3, L, l1, l2, fun i hi => ?_, ?_⟩
      · show joA A r (5 + 12 * f + 0) = va_up (st.2.2 0) (st.1 1) r f
        rw [low 0 (by decide), va_up_ne _ _ e]
        exact b0
      · have := low (4 + i) (by omega)
        rw [show 5 + 12 * f + (4 + i) = 5 + 12 * f + 4 + i by omega] at this
        exact this.trans (l3 i hi)
      · show vp_updL (st.2.1 0) (st.1 1) (lN 27) f = _
        unfold vp_updL
        rw [if_neg e]
        exact l4
  · intro p hp
    obtain ⟨b0, L, l1, l2, l3, l4⟩ := h.rp p hp
    have low : ∀ i, i < 9 → joA A r (125 + 19 * p + i) = A (125 + 19 * p + i) := fun i hi => joA_low hA (by omega) (by omega) (by omega)
    refine ⟨(low 0 (by decide)).trans b0, L, l1, l2, fun i hi => ?_, l4⟩
    have := low (1 + i) (by omega)
    rw [show 125 + 19 * p + (1 + i) = 125 + 19 * p + 1 + i by omega] at this
    exact this.trans (l3 i hi)
  · intro p f hp hf
    rw [n1] at hf
    have hp : p < st.1 2 := hp
    show joA A r (125 + 19 * p + 9 + f) = cpV (heldB st p f) (brkB st p f) (st.2.2 8 (10 * p + f))
    by_cases e : f = st.1 1
    · subst e
      have h1 : heldB st p (st.1 1) = false := held_hi h (by omega) (Nat.le_refl _)
      have h2 : brkB st p (st.1 1) = false := brk_hi h (by omega) (Nat.le_refl _)
      rw [h1, h2]
      unfold joA
      rw [va_up_ne _ _ (by omega), joA2_at hA, if_pos (by rw [eN, eK]; omega)]
      rfl
    · rw [joA_low hA (by omega) (by omega) (by rw [eN]; omega)]
      exact h.rc p f hp (by omega)
  · intro f hf
    rw [n1] at hf
    show st.2.2 4 f = fb_ct (fun p => hasB st p f) (st.1 2)
    by_cases e : f = st.1 1
    · subst e
      rw [z.2.2.2]
      refine (fb_ct_zero.mpr fun p hp => ?_).symm
      have h1 : heldB st p (st.1 1) = false := held_hi h (by omega) (Nat.le_refl _)
      have h2 : brkB st p (st.1 1) = false := brk_hi h (by omega) (Nat.le_refl _)
      unfold hasB
      rw [h1, h2]
      rfl
    · exact h.2.2.2.1 f (by omega)
theorem NV.meet (h : NV st A n) {a b : Nat} (ha : a < st.1 1) (hb : b < st.1 1) : NV (nbS st a b) (jnA A a b) n := by
  have hN := h.N10
  have low : ∀ k, k ≠ 5 + 12 * a + 3 → k ≠ 5 + 12 * b + 3 → jnA A a b k = A k := fun k q1 q2 => jnA_ne q1 q2
  have r1 : ∀ j, j ≠ 1 → (nbS st a b).2.2 j = st.2.2 j := fun j hj => by simp [nbS, nbS1, aF, va_up, hj]
  refine ⟨⟨?_, ?_, ?_, ?_⟩, nbS_ok h.aw ha hb, ?_, ?_, jnA_rK h.k (by omega) (by omega)⟩
  · obtain ⟨a0, a1, a2, a3, a4⟩ := h.r0
    exact ⟨(low _ (by omega) (by omega)).trans a0, (low _ (by omega) (by omega)).trans a1, (low _ (by omega) (by omega)).trans a2, (low _ (by omega) (by omega)).trans a3, (low _ (by omega) (by omega)).trans a4⟩
  · intro f hf
    have hf : f < st.1 1 := hf
    obtain ⟨b0, b1, b2, b3, L, l1, l2, l3, l4⟩ := h.rf f hf
    rw [r1 0 (by decide), r1 2 (by decide), r1 3 (by decide)]
    refine ⟨(low _ (by omega) (by omega)).trans b0, (low _ (by omega) (by omega)).trans b1, (low _ (by omega) (by omega)).trans b2, ?_, L, l1, l2, fun i hi => (low _ (by omega) (by omega)).trans (l3 i hi), l4⟩
    have ea := (h.rf a ha).2.2.2.1
    have eb := (h.rf b hb).2.2.2.1
    show va_up (va_up A (5 + 12 * a + 3) (rF A a 3 ||| 2 ^ b)) (5 + 12 * b + 3) (rF (va_up A (5 + 12 * a + 3) (rF A a 3 ||| 2 ^ b)) b 3 ||| 2 ^ a) (5 + 12 * f + 3) = va_up (va_up (st.2.2 1) a (st.2.2 1 a ||| 2 ^ b)) b (va_up (st.2.2 1) a (st.2.2 1 a ||| 2 ^ b) b ||| 2 ^ a) f
    have inner : ∀ g, g < st.1 1 → va_up A (5 + 12 * a + 3) (rF A a 3 ||| 2 ^ b) (5 + 12 * g + 3) = va_up (st.2.2 1) a (st.2.2 1 a ||| 2 ^ b) g := by
      intro g hg
      by_cases e : g = a
      · subst e; rw [va_upE, va_upE, ea]
      · rw [va_up_ne _ _ (by omega), va_up_ne _ _ e]; exact (h.rf g hg).2.2.2.1
    by_cases e : f = b
    · subst e
      rw [va_upE, va_upE]
      have : rF (va_up A (5 + 12 * a + 3) (rF A a 3 ||| 2 ^ f)) f 3 = va_up (st.2.2 1) a (st.2.2 1 a ||| 2 ^ f) f := inner f hf
      rw [this]
    · rw [va_up_ne _ _ (by omega), va_up_ne _ _ e]
      exact inner f hf
  · intro p hp
    have hp : p < st.1 2 := hp
    obtain ⟨b0, L, l1, l2, l3, l4⟩ := h.rp p hp
    rw [r1 5 (by decide)]
    exact ⟨(low _ (by omega) (by omega)).trans b0, L, l1, l2, fun i hi => (low _ (by omega) (by omega)).trans (l3 i hi), l4⟩
  · intro p f hp hf
    have hp : p < st.1 2 := hp
    have hf : f < st.1 1 := hf
    unfold heldB brkB
    rw [r1 6 (by decide), r1 7 (by decide), r1 8 (by decide)]
    exact (low _ (by omega) (by omega)).trans (h.rc p f hp hf)
  · intro p f hp hf
    unfold heldB brkB
    rw [r1 6 (by decide), r1 7 (by decide)]
    exact h.2.2.1 p f hp hf
  · intro f hf
    rw [r1 4 (by decide)]
    unfold hasB heldB brkB
    rw [r1 6 (by decide), r1 7 (by decide)]
    exact h.2.2.2.1 f hf
theorem NV.pledge (h : NV st A n) {p x : Nat} (hp : p < st.1 2) (hx : x ≤ 10) : NV (plS st p x) (plA A p x) n := by
  have hK := h.K12
  have hN := h.N10
  have low : ∀ k, k ≠ 125 + 19 * p → plA A p x k = A k := fun k q => va_up_ne _ _ q
  have hrk : rK (plA A p x) n := h.k.up (by
    have := cbd_p (n := n) (p := p) (i := 0) (by omega) (by decide)
    rw [Nat.add_zero] at this
    rw [this, if_pos rfl]; exact hx) (by omega)
  have hok : aOk (plS st p x) := by
    obtain ⟨h1, h2, h3, h4, h5, h6, h7, h8⟩ := h.ok
    refine ⟨h1, h2, h3, h4, h5, h6, h7, fun p' hp' => ?_⟩
    show va_up (st.2.2 5) p x p' ≤ 10
    unfold va_up
    split
    · exact hx
    · exact h8 p' hp'
  refine ⟨⟨?_, ?_, ?_, ?_⟩, ⟨hok, h.aw.2⟩, h.2.2.1, h.2.2.2.1, hrk⟩
  · obtain ⟨a0, a1, a2, a3, a4⟩ := h.r0
    exact ⟨(low _ (by omega)).trans a0, (low _ (by omega)).trans a1, (low _ (by omega)).trans a2, (low _ (by omega)).trans a3, (low _ (by omega)).trans a4⟩
  · intro f hf
    have hf : f < st.1 1 := hf
    obtain ⟨b0, b1, b2, b3, L, l1, l2, l3, l4⟩ := h.rf f hf
    exact ⟨(low _ (by omega)).trans b0, (low _ (by omega)).trans b1, (low _ (by omega)).trans b2, (low _ (by omega)).trans b3, L, l1, l2, fun i hi => (low _ (by omega)).trans (l3 i hi), l4⟩
  · intro p' hp'
    have hp' : p' < st.1 2 := hp'
    obtain ⟨b0, L, l1, l2, l3, l4⟩ := h.rp p' hp'
    refine ⟨?_, L, l1, l2, fun i hi => (low _ (by omega)).trans (l3 i hi), l4⟩
    show va_up A (125 + 19 * p) x (125 + 19 * p') = va_up (st.2.2 5) p x p'
    by_cases e : p' = p
    · subst e; rw [va_upE, va_upE]
    · rw [va_up_ne _ _ (by omega), va_up_ne _ _ e]; exact b0
  · intro p' f hp' hf
    have hp' : p' < st.1 2 := hp'
    have hf : f < st.1 1 := hf
    exact (low _ (by omega)).trans (h.rc p' f hp' hf)
end R5
