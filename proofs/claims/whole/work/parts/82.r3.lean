/-! ===== the same behind a change of one copy: harm, waves, spreading ===== -/
section R3
variable {st : Ar} {A : Nat → Nat} {n : Nat}
theorem NV.cell (h : NV st A n) {p f : Nat} (hp : p < st.1 2) (hf : f < st.1 1) {st' : Ar} {hb bb : Bool} {sp' m : Nat} {A' : Nat → Nat}
    (e1 : ∀ i, i ≠ 4 → st'.1 i = st.1 i) (eL : st'.2.1 = st.2.1) (er : ∀ j, j < 4 ∨ j = 5 → st'.2.2 j = st.2.2 j)
    (e6 : ∀ p', p' ≠ p → st'.2.2 6 p' = st.2.2 6 p') (e7 : ∀ p', p' ≠ p → st'.2.2 7 p' = st.2.2 7 p')
    (b6 : ∀ f', f' < 32 → (st'.2.2 6 p).testBit f' = if f' = f then hb else heldB st p f') (b7 : ∀ f', f' < 32 → (st'.2.2 7 p).testBit f' = if f' = f then bb else brkB st p f')
    (e8 : st'.2.2 8 = va_up (st.2.2 8) (10 * p + f) sp') (hs : sp' < 65536) (hd : (hb && bb) = false) (hm : hasB st p f = true → (hb || bb) = true)
    (e4 : ∀ f', st'.2.2 4 f' = if f' = f ∧ hasB st p f = false ∧ (hb || bb) = true then st.2.2 4 f' + 1 else st.2.2 4 f')
    (hok : aOk st') (hrk : rK A' m) (eA : ∀ k, k ≠ 3 → A' k = va_up A (125 + 19 * p + 9 + f) (cpV hb bb sp') k) (e3 : A' 3 = st'.1 4) : NV st' A' m := by
  have hN := h.N10
  have hK := h.K12
  have low : ∀ k, k ≠ 3 → k ≠ 125 + 19 * p + 9 + f → A' k = A k := fun k q1 q2 => (eA k q1).trans (va_up_ne _ _ q2)
  have B6 : ∀ p' f', f' < 32 → heldB st' p' f' = if p' = p ∧ f' = f then hb else heldB st p' f' := by
    intro p' f' q
    by_cases e : p' = p
    · subst e
      show (st'.2.2 6 p').testBit f' = _
      rw [b6 f' q]
      by_cases e2 : f' = f
      · rw [if_pos e2, if_pos ⟨rfl, e2⟩]
      · rw [if_neg e2, if_neg (fun z => e2 z.2)]
    · rw [if_neg (fun z => e z.1)]
      show (st'.2.2 6 p').testBit f' = _
      rw [e6 p' e]
      rfl
  have B7 : ∀ p' f', f' < 32 → brkB st' p' f' = if p' = p ∧ f' = f then bb else brkB st p' f' := by
    intro p' f' q
    by_cases e : p' = p
    · subst e
      show (st'.2.2 7 p').testBit f' = _
      rw [b7 f' q]
      by_cases e2 : f' = f
      · rw [if_pos e2, if_pos ⟨rfl, e2⟩]
      · rw [if_neg e2, if_neg (fun z => e2 z.2)]
    · rw [if_neg (fun z => e z.1)]
      show (st'.2.2 7 p').testBit f' = _
      rw [e7 p' e]
      rfl
  have z1 := e1 1 (by decide)
  have z2 := e1 2 (by decide)
  refine ⟨⟨?_, ?_, ?_, ?_⟩, ⟨hok, ?_, ?_⟩, ?_, ?_, hrk⟩
  · obtain ⟨a0, a1, a2, a3, a4⟩ := h.r0
    refine ⟨?_, ?_, ?_, e3, ?_⟩
    · rw [low _ (by omega) (by omega), e1 0 (by decide)]; exact a0
    · rw [low _ (by omega) (by omega), z1]; exact a1
    · rw [low _ (by omega) (by omega), z2]; exact a2
    · rw [low _ (by omega) (by omega), e1 3 (by decide)]; exact a4
  · intro f' hf'
    rw [z1] at hf'
    obtain ⟨b0, b1, b2, b3, L, l1, l2, l3, l4⟩ := h.rf f' hf'
    rw [er 0 (by decide), er 1 (by decide), er 2 (by decide), er 3 (by decide), eL]
    exact ⟨(low _ (by omega) (by omega)).trans b0, (low _ (by omega) (by omega)).trans b1, (low _ (by omega) (by omega)).trans b2, (low _ (by omega) (by omega)).trans b3, L, l1, l2, fun k hk => (low _ (by omega) (by omega)).trans (l3 k hk), l4⟩
  · intro p' hp'
    rw [z2] at hp'
    obtain ⟨b0, L, l1, l2, l3, l4⟩ := h.rp p' hp'
    rw [er 5 (by decide), eL]
    exact ⟨(low _ (by omega) (by omega)).trans b0, L, l1, l2, fun k hk => (low _ (by omega) (by omega)).trans (l3 k hk), l4⟩
  · intro p' f' hp' hf'
    rw [z2] at hp'
    rw [z1] at hf'
    rw [B6 _ _ (by omega), B7 _ _ (by omega), e8]
    have : rC A' p' f' = rC (va_up A (125 + 19 * p + 9 + f) (cpV hb bb sp')) p' f' := eA _ (by omega)
    rw [this, rC_put (by omega) (by omega)]
    by_cases e : p' = p ∧ f' = f
    · rw [if_pos e, if_pos e, if_pos e, e.1, e.2, va_upE]
    · rw [if_neg e, if_neg e, if_neg e, va_up_ne _ _ (by omega)]
      exact h.rc p' f' hp' hf'
  · intro f' h1 h2
    rw [z1] at h1
    obtain ⟨q1, q2, q3, q4⟩ := h.aw.2.1 f' h1 h2
    rw [er 1 (by decide), er 2 (by decide), er 3 (by decide), e4, if_neg (by omega)]
    exact ⟨q1, q2, q3, q4⟩
  · intro p' h1 h2
    rw [z2] at h1
    rw [e6 _ (by omega), e7 _ (by omega)]
    exact h.aw.2.2 p' h1 h2
  · intro p' f' h1 h2
    rw [B6 _ _ (by omega), B7 _ _ (by omega)]
    by_cases e : p' = p ∧ f' = f
    · rw [if_pos e, if_pos e]; exact hd
    · rw [if_neg e, if_neg e]; exact h.2.2.1 p' f' h1 h2
  · intro f' hf'
    rw [z1] at hf'
    rw [z2, e4, h.2.2.2.1 f' hf']
    have hasE : ∀ p', hasB st' p' f' = if p' = p ∧ f' = f then (hb || bb) else hasB st p' f' := by
      intro p'
      unfold hasB
      rw [B6 _ _ (by omega), B7 _ _ (by omega)]
      by_cases e : p' = p ∧ f' = f
      · rw [if_pos e, if_pos e, if_pos e]
      · rw [if_neg e, if_neg e, if_neg e]
    by_cases e : f' = f
    · subst e
      have k1 := fb_ct_upd (fun p' => hasB st p' f') (hb || bb) hp
      have k2 : fb_ct (fun k => if k = p then (hb || bb) else (fun p' => hasB st p' f') k) (st.1 2) = fb_ct (fun p' => hasB st' p' f') (st.1 2) := fb_ct_cong fun k _ => by
        rw [hasE]
        by_cases c : k = p
        · rw [if_pos c, if_pos ⟨c, rfl⟩]
        · rw [if_neg c, if_neg (fun q => c q.1)]
      rw [k2] at k1
      cases hh : hasB st p f' with
      | true =>
        rw [hh, hm hh] at k1
        rw [if_neg (by simp)]
        simp at k1
        exact k1.symm
      | false =>
        rw [hh] at k1
        cases hc : (hb || bb) with
        | true =>
          rw [hc] at k1
          rw [if_pos ⟨rfl, rfl, rfl⟩]
          simp at k1
          exact k1.symm
        | false =>
          rw [hc] at k1
          rw [if_neg (by simp)]
          simp at k1
          exact k1.symm
    · rw [if_neg (fun q => e q.1)]
      exact fb_ct_cong fun k _ => by rw [hasE, if_neg (fun q => e q.2)]
/-! harm -/
theorem NV.spoil (h : NV st A n) {f t : Nat} (hf : f < st.1 1) (ht : t < 2 ^ st.1 0) : ∀ j, j ≤ st.1 2 → NV (spoilS st f t j) (haA A f t j) n := by
  have hN := h.N10
  have hK := h.K12
  have hT := h.ok.1
  unfold aT at hT
  have hT2 : 2 ^ st.1 0 ≤ 65536 := pow_le2 (a := st.1 0) (b := 16) hT.2
  intro j
  induction j with
  | zero => intro _; exact h
  | succ j ih =>
    intro hj
    have ih := ih (by omega)
    have s1 : (spoilS st f t j).1 = st.1 := spoilS_1 j
    have hrk := haA_rK (t := t) h.k (show f < 10 by omega) (by omega) (j + 1) (by omega)
    rw [spoilS, haA]
    rw [haA] at hrk
    generalize spoilS st f t j = S at *
    generalize haA A f t j = B at *
    have hp2 : j < S.1 2 := by rw [s1]; omega
    have hf2 : f < S.1 1 := by rw [s1]; exact hf
    have hz := ih.nz hp2 hf2
    by_cases c : hasB S j f = true
    · rw [if_pos c, if_neg (fun q => by rw [hz.mp q] at c; cases c)]
      rw [if_neg (fun q => by rw [hz.mp q] at c; cases c)] at hrk
      have hs := ih.sp hp2 hf2
      have hor : S.2.2 8 (10 * j + f) ||| t < 65536 := Nat.or_lt_two_pow (n := 16) hs (by omega)
      refine ih.cell hp2 hf2 (hb := heldB S j f) (bb := brkB S j f) (sp' := S.2.2 8 (10 * j + f) ||| t) (fun _ _ => rfl) rfl (fun q hq => by
        rcases hq with hq | hq
        · show va_up S.2.2 8 _ q = S.2.2 q
          rw [va_up_ne _ _ (by omega)]
        · show va_up S.2.2 8 _ q = S.2.2 q
          rw [va_up_ne _ _ (by omega)]) (fun _ _ => rfl) (fun _ _ => rfl) (fun f' _ => ?_) (fun f' _ => ?_) rfl hor (ih.2.2.1 j f (by omega) (by omega)) (fun q => q) (fun f' => ?_) ?_ hrk (fun k hk => ?_) ?_
      · show (S.2.2 6 j).testBit f' = _
        split
        · rename_i e; rw [e]; rfl
        · rfl
      · show (S.2.2 7 j).testBit f' = _
        split
        · rename_i e; rw [e]; rfl
        · rfl
      · rw [if_neg (fun q => by rw [c] at q; cases q.2.1)]
        rfl
      · obtain ⟨h1, h2, h3, h4, h5, h6, h7, h8⟩ := ih.ok
        refine ⟨h1, h2, h3, h4, h5, fun i hi => ?_, h7, h8⟩
        show va_up (S.2.2 8) (10 * j + f) (S.2.2 8 (10 * j + f) ||| t) i < 2 ^ S.1 0
        unfold va_up
        split
        · exact Nat.or_lt_two_pow (h6 _ (by omega)) (by rw [s1]; exact ht)
        · exact h6 i hi
      · rw [ih.rc j f hp2 hf2, cp_or hs (by omega) c]
      · rw [va_up_ne _ _ (by omega)]
        exact ih.r0.2.2.2.1
    · have c2 : hasB S j f = false := by simpa using c
      rw [if_neg c, if_pos (hz.mpr c2)]
      exact ih
/-! a copy is mended, or made -/
theorem or_bit {x f f' : Nat} : (x ||| 2 ^ f).testBit f' = if f' = f then true else x.testBit f' := by
  rw [Nat.testBit_or, Nat.testBit_two_pow]
  by_cases e : f' = f
  · rw [if_pos e, decide_eq_true e.symm, Bool.or_true]
  · rw [if_neg e, decide_eq_false (fun q => e q.symm), Bool.or_false]
theorem andn1_bit {x f f' : Nat} (hf : f < 32) (hf' : f' < 32) : (andn x (2 ^ f)).testBit f' = if f' = f then false else x.testBit f' := by
  rw [andn_bit (by have := Nat.pow_lt_pow_right (a := 2) (by decide) hf; omega) hf', Nat.testBit_two_pow]
  by_cases e : f' = f
  · rw [if_pos e, decide_eq_true e.symm]; simp
  · rw [if_neg e, decide_eq_false (fun q => e q.symm)]; simp
theorem NV.mend (h : NV st A n) {p f s m : Nat} (hp : p < st.1 2) (hf : f < st.1 1) (hh : hasB st p f = true) {A' : Nat → Nat} (hrk : rK A' m) (eA : ∀ k, k ≠ 3 → A' k = va_up A (125 + 19 * p + 9 + f) (cpV true false (spAll st p s (st.1 1))) k) (e3 : A' 3 = st.1 4 + 1) : NV (mendS st p f s) A' m := by
  have hN := h.N10
  have hK := h.K12
  have hT := h.ok.1
  unfold aT at hT
  have hT2 : 2 ^ st.1 0 ≤ 65536 := pow_le2 (a := st.1 0) (b := 16) hT.2
  have hl : spAll st p s (st.1 1) < 65536 := Nat.lt_of_lt_of_le (spAll_lt st p _ _) hT2
  have hok := mendS_ok h.ok (p := p) (f := f) (s := s) (by omega) hf
  refine h.cell hp hf (hb := true) (bb := false) (sp' := spAll st p s (st.1 1)) (fun i hi => mendS_const hi) rfl (fun q hq => ?_) (fun p' hp' => ?_) (fun p' hp' => ?_) (fun f' hf' => ?_) (fun f' hf' => ?_) rfl hl rfl (fun _ => rfl) (fun f' => ?_) hok hrk eA e3
  · rcases hq with hq | hq
    · simp [mendS, aF, aI, va_up, show q ≠ 8 by omega, show q ≠ 6 by omega, show q ≠ 7 by omega]
    · subst hq; rfl
  · show va_up (st.2.2 6) p _ p' = _
    exact va_up_ne _ _ hp'
  · show va_up (st.2.2 7) p _ p' = _
    exact va_up_ne _ _ hp'
  · show (va_up (st.2.2 6) p (st.2.2 6 p ||| 2 ^ f) p).testBit f' = _
    rw [va_upE]
    exact or_bit
  · show (va_up (st.2.2 7) p (andn (st.2.2 7 p) (2 ^ f)) p).testBit f' = _
    rw [va_upE]
    exact andn1_bit (by omega) hf'
  · rw [if_neg (fun q => by rw [hh] at q; cases q.2.1)]
    rfl
theorem NV.addC (h : NV st A n) {p f : Nat} (hp : p < st.1 2) (hf : f < st.1 1) (hh : hasB st p f = false) (hl9 : 0 < leftV st f) {sp : Nat} (hsp : sp < 2 ^ st.1 0) {A' : Nat → Nat} {m : Nat} (hrk : rK A' m) (eA : A' = va_up A (125 + 19 * p + 9 + f) (cpV true false sp)) : NV (addCopyS st p f sp) A' m := by
  have hN := h.N10
  have hK := h.K12
  have hT := h.ok.1
  unfold aT at hT
  have hT2 : 2 ^ st.1 0 ≤ 65536 := pow_le2 (a := st.1 0) (b := 16) hT.2
  have hok := addCopyS_ok h.ok (p := p) (f := f) (by omega) hf hsp (by unfold leftV at hl9; omega)
  have hnb : brkB st p f = false := by
    unfold hasB at hh
    rw [Bool.or_eq_false_iff] at hh
    exact hh.2
  refine h.cell hp hf (hb := true) (bb := false) (sp' := sp) (fun i _ => rfl) rfl (fun q hq => ?_) (fun p' hp' => ?_) (fun p' hp' => ?_) (fun f' hf' => ?_) (fun f' hf' => ?_) rfl (by omega) rfl (fun _ => rfl) (fun f' => ?_) hok hrk (fun k _ => by rw [eA]) (by rw [eA, va_up_ne _ _ (by omega)]; exact h.r0.2.2.2.1)
  · rcases hq with hq | hq
    · simp [addCopyS, aF, va_up, show q ≠ 8 by omega, show q ≠ 6 by omega, show q ≠ 4 by omega]
    · subst hq; rfl
  · show va_up (st.2.2 6) p _ p' = _
    exact va_up_ne _ _ hp'
  · rfl
  · show (va_up (st.2.2 6) p (st.2.2 6 p ||| 2 ^ f) p).testBit f' = _
    rw [va_upE]
    exact or_bit
  · show (st.2.2 7 p).testBit f' = _
    split
    · rename_i e; rw [e]; exact hnb
    · rfl
  · show va_up (st.2.2 4) f (st.2.2 4 f + 1) f' = _
    by_cases e : f' = f
    · subst e; rw [va_upE, if_pos ⟨rfl, hh, rfl⟩]
    · rw [va_up_ne _ _ e, if_neg (fun q => e q.1)]
end R3
