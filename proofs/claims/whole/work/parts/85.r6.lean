/-! ===== the same behind a family that leaves ===== -/
section R6
variable {st : Ar} {A : Nat → Nat} {n : Nat}
/-- where what stands in place g behind it stood -/
def shf (f g : Nat) : Nat := if g < f then g else g + 1
theorem shf_lt {f g N : Nat} (h : g < N - 1) : shf f g < N := by
  unfold shf
  split <;> omega
theorem wbV_bit {b f i : Nat} : (wbV b f).testBit i = b.testBit (shf f i) := by
  unfold wbV shf
  rw [Nat.testBit_or, Nat.testBit_and, Nat.testBit_two_pow_sub_one, Nat.testBit_mul_two_pow, Nat.testBit_div_two_pow]
  by_cases c : i < f
  · rw [if_pos c, decide_eq_true c, decide_eq_false (show ¬ f ≤ i by omega), Bool.and_true, Bool.false_and, Bool.or_false]
  · rw [if_neg c, decide_eq_false c, decide_eq_true (show f ≤ i by omega), Bool.and_false, Bool.false_or, Bool.true_and, show i - f + (f + 1) = i + 1 by omega]
theorem mWo_bit {s f i : Nat} (hs : s < 2 ^ 32) (hf : f < 32) : (mWo s f).testBit i = s.testBit (shf f i) := by
  unfold mWo shf
  have e : ∀ i, i < 32 → (4294967295 - (2 ^ f - 1)).testBit i = !(decide (i < f)) := fun i hi => by
    have h1 : 2 ^ f - 1 < 2 ^ 32 := Nat.lt_of_lt_of_le (by have := Nat.two_pow_pos f; omega) (Nat.pow_le_pow_right (by decide) (show f ≤ 32 by omega))
    have := Nat.testBit_two_pow_sub_succ h1 i
    rw [show 2 ^ 32 - (2 ^ f - 1 + 1) = 4294967295 - (2 ^ f - 1) by omega, decide_eq_true hi, Bool.true_and, Nat.testBit_two_pow_sub_one] at this
    exact this
  have hd : s / 2 = s / 2 ^ 1 := by rw [Nat.pow_one]
  rw [Nat.testBit_or, Nat.testBit_and, Nat.testBit_two_pow_sub_one, Nat.testBit_and, hd, Nat.testBit_div_two_pow]
  rcases Nat.lt_or_ge i 32 with q | q
  · rw [e i q]
    by_cases c : i < f
    · rw [if_pos c, decide_eq_true c]; simp
    · rw [if_neg c, decide_eq_false c]; simp
  · rw [if_neg (by omega), decide_eq_false (show ¬ i < f by omega), Bool.and_false, Bool.false_or]
    have : s.testBit (i + 1) = false := Nat.testBit_lt_two_pow (Nat.lt_of_lt_of_le hs (Nat.pow_le_pow_right (by decide) (by omega)))
    rw [this, Bool.false_and]
theorem mWo_eq {s f : Nat} (hs : s < 2 ^ 32) (hf : f < 32) : mWo s f = wbV s f := Nat.eq_of_testBit_eq fun i => by rw [mWo_bit hs hf, wbV_bit]
theorem wbV_lt2 {b f N : Nat} (hb : b < 2 ^ N) (hf : f < N) : wbV b f < 2 ^ (N - 1) := by
  refine Nat.lt_pow_two_of_testBit _ fun i hi => ?_
  rw [wbV_bit]
  exact Nat.testBit_lt_two_pow (Nat.lt_of_lt_of_le hb (Nat.pow_le_pow_right (by decide) (by unfold shf; rw [if_neg (by omega)]; omega)))
theorem drop_at {r : Nat → Nat} {f N k : Nat} (hf : f < N) : dropF r f (N - f - 1) k = if k = N - 1 then 0 else if k < N - 1 then r (shf f k) else r k := by
  unfold dropF shf
  by_cases e : k = N - 1
  · rw [if_pos e, e, show N - 1 = f + (N - f - 1) by omega, va_upE]
  · rw [if_neg e, va_up_ne _ _ (by omega)]
    unfold va_cpy
    by_cases c : f ≤ k ∧ k < f + (N - f - 1)
    · rw [if_pos c, if_pos (by omega), if_neg (by omega)]
      congr 1
      omega
    · rw [if_neg c]
      by_cases d : k < N - 1
      · rw [if_pos d, if_pos (by omega)]
      · rw [if_neg d]
/-! the pictures' rows -/
theorem rmP_67 {st : Ar} {f : Nat} : ∀ m p, (rmP st f m).2.2 6 p = (if p < m then wbV (st.2.2 6 p) f else st.2.2 6 p) ∧ (rmP st f m).2.2 7 p = (if p < m then wbV (st.2.2 7 p) f else st.2.2 7 p) := by
  intro m
  induction m with
  | zero => intro p; rw [if_neg (by omega), if_neg (by omega)]; exact ⟨rfl, rfl⟩
  | succ m ih =>
    intro p
    have e6 : (rmP st f (m + 1)).2.2 6 p = va_up ((rmP st f m).2.2 6) m (wbV ((rmP st f m).2.2 6 m) f) p := rfl
    have e7 : (rmP st f (m + 1)).2.2 7 p = va_up ((rmP st f m).2.2 7) m (wbV ((rmP st f m).2.2 7 m) f) p := rfl
    rw [e6, e7]
    have i1 := ih p
    have i2 := ih m
    rw [if_neg (by omega), if_neg (by omega)] at i2
    by_cases e : p = m
    · subst e
      rw [va_upE, va_upE, if_pos (by omega), if_pos (by omega), i2.1, i2.2]
      exact ⟨rfl, rfl⟩
    · rw [va_up_ne _ _ e, va_up_ne _ _ e, i1.1, i1.2]
      by_cases c : p < m
      · rw [if_pos c, if_pos c, if_pos (by omega), if_pos (by omega)]; exact ⟨rfl, rfl⟩
      · rw [if_neg c, if_neg c, if_neg (by omega), if_neg (by omega)]; exact ⟨rfl, rfl⟩
theorem rmP_8 {st : Ar} {f : Nat} (hf : f < st.1 1) (hN : st.1 1 ≤ 10) : ∀ m, m ≤ 12 → ∀ i, (∀ p, p < m → ∀ g, g < st.1 1 - 1 → i = 10 * p + g → (rmP st f m).2.2 8 i = st.2.2 8 (10 * p + shf f g)) ∧ (10 * m ≤ i → (rmP st f m).2.2 8 i = st.2.2 8 i) ∧ ∃ j, ((rmP st f m).2.2 8 i = st.2.2 8 j ∧ (i < 120 → j < 120)) ∨ (rmP st f m).2.2 8 i = 0 := by
  intro m
  induction m with
  | zero => intro _ i; exact ⟨fun p hp => by omega, fun _ => rfl, i, Or.inl ⟨rfl, fun q => q⟩⟩
  | succ m ih =>
    intro hm i
    have ih := ih (by omega)
    have e8 : (rmP st f (m + 1)).2.2 8 i = va_up (va_cpy ((rmP st f m).2.2 8) ((rmP st f m).2.2 8) (10 * m + (f + 1)) (10 * m + f) (st.1 1 - f - 1)) (10 * m + (st.1 1 - 1)) 0 i := rfl
    rw [e8]
    generalize (rmP st f m).2.2 8 = r at *
    by_cases e : i = 10 * m + (st.1 1 - 1)
    · rw [e, va_upE]
      refine ⟨fun p hp g hg q => by omega, fun q => by omega, 0, Or.inr rfl⟩
    · rw [va_up_ne _ _ e]
      unfold va_cpy
      by_cases c : 10 * m + f ≤ i ∧ i < 10 * m + f + (st.1 1 - f - 1)
      · rw [if_pos c]
        have hj := (ih (10 * m + (f + 1) + (i - (10 * m + f)))).2.1 (by omega)
        rw [hj]
        refine ⟨fun p hp g hg q => ?_, fun q => by omega, 10 * m + (f + 1) + (i - (10 * m + f)), Or.inl ⟨rfl, fun q => by omega⟩⟩
        have : p = m := by omega
        subst this
        exact congrArg (st.2.2 8) (by unfold shf; rw [if_neg (by omega)]; omega)
      · rw [if_neg c]
        have hj := ih i
        refine ⟨fun p hp g hg q => ?_, fun q => hj.2.1 (by omega), hj.2.2⟩
        by_cases pm : p = m
        · subst pm
          rw [hj.2.1 (by omega)]
          exact congrArg (st.2.2 8) (by unfold shf; rw [if_pos (by omega)]; exact q)
        · exact hj.1 p (by omega) g hg q
/-! the families' rows -/
theorem rmQ_row {st : Ar} {f j : Nat} (hf : f < st.1 1) (h6 : j ≠ 6) (h7 : j ≠ 7) (h8 : j ≠ 8) (h5 : j ≠ 5) (hj : j < 5) : (rmQ st f).2.2 j = dropF (st.2.2 j) f (st.1 1 - f - 1) := by
  have ne : ∀ j, j ≠ 6 → j ≠ 7 → j ≠ 8 → (rmP st f (st.1 2)).2.2 j = st.2.2 j := fun j a b c => rmP_ne a b c _
  have : j = 0 ∨ j = 1 ∨ j = 2 ∨ j = 3 ∨ j = 4 := by omega
  rcases this with rfl | rfl | rfl | rfl | rfl
  · rw [← ne 0 (by decide) (by decide) (by decide)]; rfl
  · rw [← ne 1 (by decide) (by decide) (by decide)]; rfl
  · rw [← ne 2 (by decide) (by decide) (by decide)]; rfl
  · rw [← ne 3 (by decide) (by decide) (by decide)]; rfl
  · rw [← ne 4 (by decide) (by decide) (by decide)]; rfl
theorem rmQ_hi {st : Ar} {f j : Nat} (hj : 5 ≤ j) : (rmQ st f).2.2 j = (rmP st f (st.1 2)).2.2 j := by
  simp [rmQ, aF, aI, aL, va_up, show j ≠ 0 by omega, show j ≠ 1 by omega, show j ≠ 2 by omega, show j ≠ 3 by omega, show j ≠ 4 by omega]
theorem rmN_ne {s : Ar} {f j : Nat} (hj : j ≠ 1) : ∀ m, (rmN s f m).2.2 j = s.2.2 j := by
  intro m
  induction m with
  | zero => rfl
  | succ m ih =>
    show va_up (rmN s f m).2.2 1 _ j = _
    rw [va_up_ne _ _ hj, ih]
theorem rmN_at {s : Ar} {f k : Nat} : ∀ m, (rmN s f m).2.2 1 k = if k < m then wbV (s.2.2 1 k) f else s.2.2 1 k := by
  intro m
  induction m with
  | zero => rw [if_neg (by omega)]; rfl
  | succ m ih =>
    have hm : ∀ q, (rmN s f q).2.2 1 q = s.2.2 1 q := by
      intro q
      have key : ∀ r, r ≤ q → (rmN s f r).2.2 1 q = s.2.2 1 q := by
        intro r
        induction r with
        | zero => intro _; rfl
        | succ r ihr =>
          intro hr
          show va_up ((rmN s f r).2.2 1) r _ q = _
          rw [va_up_ne _ _ (by omega), ihr (by omega)]
      exact key q (Nat.le_refl _)
    show va_up ((rmN s f m).2.2 1) m (wbV ((rmN s f m).2.2 1 m) f) k = _
    by_cases e : k = m
    · subst e
      rw [va_upE, if_pos (by omega), hm]
    · rw [va_up_ne _ _ e, ih]
      by_cases c : k < m
      · rw [if_pos c, if_pos (by omega)]
      · rw [if_neg c, if_neg (by omega)]
theorem rmN_2 {s : Ar} {f : Nat} : ∀ m, (rmN s f m).2.1 = s.2.1 := by
  intro m
  induction m with
  | zero => rfl
  | succ m ih => exact ih
theorem rmP_2 {st : Ar} {f : Nat} : ∀ m, (rmP st f m).2.1 = st.2.1 := by
  intro m
  induction m with
  | zero => rfl
  | succ m ih => exact ih
/-! the model's row -/
theorem lv4_at {C : Nat → Nat} {f k : Nat} : ∀ m, (∀ g, g < m → k = 5 + 12 * g + 3 → lv4 C f m k = mWo (C k) f) ∧ ((∀ g, g < m → k ≠ 5 + 12 * g + 3) → lv4 C f m k = C k) := by
  intro m
  induction m with
  | zero => exact ⟨fun g hg => by omega, fun _ => rfl⟩
  | succ m ih =>
    rw [lv4]
    have hm : rF (lv4 C f m) m 3 = C (5 + 12 * m + 3) := by
      have key : ∀ r, r ≤ m → lv4 C f r (5 + 12 * m + 3) = C (5 + 12 * m + 3) := by
        intro r
        induction r with
        | zero => intro _; rfl
        | succ r ihr => intro hr; rw [lv4, va_up_ne _ _ (by omega), ihr (by omega)]
      exact key m (Nat.le_refl _)
    by_cases e : k = 5 + 12 * m + 3
    · rw [e, va_upE, hm]
      exact ⟨fun g hg q => rfl, fun q => absurd rfl (q m (by omega))⟩
    · rw [va_up_ne _ _ e]
      exact ⟨fun g hg q => ih.1 g (by omega) q, fun q => ih.2 (fun g hg => q g (by omega))⟩
theorem lvA_fam {A : Nat → Nat} {f g i : Nat} (hg : g < A 1 - 1) (hN : A 1 ≤ 10) (hi : i < 12) (h3 : i ≠ 3) : lvA A f (5 + 12 * g + i) = A (5 + 12 * shf f g + i) := by
  unfold lvA
  rw [(lv4_at (A 1 - 1)).2 (fun g' _ => by omega)]
  unfold lvB
  rw [va_up_ne _ _ (by omega), lv2_lo _ (by omega)]
  unfold lv1 shf
  by_cases c : g < f
  · rw [if_neg (by omega), if_pos c]
  · rw [if_pos (by omega), if_neg c]
    congr 1
    omega
theorem lvA_near {A : Nat → Nat} {f g : Nat} (hg : g < A 1 - 1) (hN : A 1 ≤ 10) : lvA A f (5 + 12 * g + 3) = mWo (A (5 + 12 * shf f g + 3)) f := by
  unfold lvA
  rw [(lv4_at (A 1 - 1)).1 g hg rfl]
  unfold lvB
  rw [va_up_ne _ _ (by omega), lv2_lo _ (by omega)]
  congr 1
  unfold lv1 shf
  by_cases c : g < f
  · rw [if_neg (by omega), if_pos c]
  · rw [if_pos (by omega), if_neg c]
    exact congrArg A (by omega)
theorem lvA_low {A : Nat → Nat} {f k : Nat} (hk : k < 5) (h1 : k ≠ 1) : lvA A f k = A k := by
  unfold lvA
  rw [lv4_lo hk]
  unfold lvB
  rw [va_up_ne _ _ h1, lv2_lo _ (by omega), lv1_hi (by omega)]
theorem lvA_pic {A : Nat → Nat} {f p i : Nat} (hN : A 1 ≤ 10) (hi : i < 9) : lvA A f (125 + 19 * p + i) = A (125 + 19 * p + i) := by
  unfold lvA
  rw [(lv4_at (A 1 - 1)).2 (fun g' hg => by omega)]
  unfold lvB
  rw [va_up_ne _ _ (by omega)]
  unfold lv2
  rw [if_neg (by omega), lv1_hi (by omega)]
theorem lvA_copy {A : Nat → Nat} {f p g : Nat} (hp : p < A 2) (hg : g < A 1 - 1) (hN : A 1 ≤ 10) : rC (lvA A f) p g = rC A p (shf f g) := by
  unfold lvA rC
  rw [(lv4_at (A 1 - 1)).2 (fun g' hg => by omega)]
  unfold lvB
  rw [va_up_ne _ _ (by omega)]
  unfold lv2 shf
  by_cases c : g < f
  · rw [if_neg (by omega), if_pos c, lv1_hi (by omega)]
  · rw [if_pos (by omega), if_neg (by omega), if_neg c, lv1_hi (by omega)]
    congr 1
theorem NV.leave (h : NV st A n) {f : Nat} (hf : f < st.1 1) (h2 : 2 < st.1 1) : NV (rmS st f) (lvA A f) n := by
  have hN := h.N10
  have hK := h.K12
  have eN := h.r0.2.1
  have eK := h.r0.2.2.1
  have hA1 : A 1 ≤ 10 := by omega
  have s1 : (rmS st f).1 = (aI st 1 (st.1 1 - 1)).1 := by
    unfold rmS
    rw [rmN_1]
    show (aI (rmP st f (st.1 2)) 1 (st.1 1 - 1)).1 = _
    show va_up (rmP st f (st.1 2)).1 1 _ = _
    rw [rmP_1]
    rfl
  have n1 : (rmS st f).1 1 = st.1 1 - 1 := by rw [s1]; show va_up st.1 1 (st.1 1 - 1) 1 = _; exact va_upE _ _ _
  have nO : ∀ i, i ≠ 1 → (rmS st f).1 i = st.1 i := fun i hi => by rw [s1]; show va_up st.1 1 (st.1 1 - 1) i = _; exact va_up_ne _ _ hi
  have n2 := nO 2 (by decide)
  have rowL : ∀ j, j = 0 ∨ j = 2 ∨ j = 3 ∨ j = 4 → (rmS st f).2.2 j = dropF (st.2.2 j) f (st.1 1 - f - 1) := fun j hj => by
    unfold rmS
    rw [rmN_ne (by omega)]
    exact rmQ_row hf (by omega) (by omega) (by omega) (by omega) (by omega)
  have row1 : ∀ k, (rmS st f).2.2 1 k = if k < st.1 1 - 1 then wbV (st.2.2 1 (shf f k)) f else if k = st.1 1 - 1 then 0 else st.2.2 1 k := fun k => by
    unfold rmS
    rw [rmN_at, rmQ_row hf (by decide) (by decide) (by decide) (by decide) (by decide), drop_at hf]
    by_cases c : k < st.1 1 - 1
    · rw [if_pos c, if_pos c, if_neg (by omega), if_pos c]
    · rw [if_neg c, if_neg c, if_neg c]
  have row5 : (rmS st f).2.2 5 = st.2.2 5 := by
    unfold rmS
    rw [rmN_ne (by decide), rmQ_hi (by decide)]
    exact rmP_ne (by decide) (by decide) (by decide) _
  have row67 : ∀ p, (rmS st f).2.2 6 p = (if p < st.1 2 then wbV (st.2.2 6 p) f else st.2.2 6 p) ∧ (rmS st f).2.2 7 p = (if p < st.1 2 then wbV (st.2.2 7 p) f else st.2.2 7 p) := fun p => by
    unfold rmS
    rw [rmN_ne (by decide), rmN_ne (by decide), rmQ_hi (by decide), rmQ_hi (by decide)]
    exact rmP_67 _ _
  have row8 : (rmS st f).2.2 8 = (rmP st f (st.1 2)).2.2 8 := by
    unfold rmS
    rw [rmN_ne (by decide), rmQ_hi (by decide)]
  have nm : ∀ k, k < st.1 1 - 1 → (rmS st f).2.1 0 k = st.2.1 0 (shf f k) := fun k hk => by
    unfold rmS
    rw [rmN_2]
    show vp_updL (va_cpy ((rmP st f (st.1 2)).2.1 0) ((rmP st f (st.1 2)).2.1 0) (f + 1) f (st.1 1 - f - 1)) (st.1 1 - 1) (lN 0) k = _
    rw [rmP_2]
    unfold vp_updL va_cpy shf
    rw [if_neg (by omega)]
    by_cases c : k < f
    · rw [if_neg (by omega), if_pos c]
    · rw [if_pos (by omega), if_neg c]
      exact congrArg (st.2.1 0) (by omega)
  have nmP : (rmS st f).2.1 1 = st.2.1 1 := by
    unfold rmS
    rw [rmN_2]
    show (rmP st f (st.1 2)).2.1 1 = _
    rw [rmP_2]
  have bitH : ∀ p g, p < st.1 2 → heldB (rmS st f) p g = heldB st p (shf f g) := fun p g hp => by
    unfold heldB
    rw [(row67 p).1, if_pos hp, wbV_bit]
  have bitB : ∀ p g, p < st.1 2 → brkB (rmS st f) p g = brkB st p (shf f g) := fun p g hp => by
    unfold brkB
    rw [(row67 p).2, if_pos hp, wbV_bit]
  have hz := h.aw.2
  obtain ⟨o1, o2, o3, o4, o5, o6, o7, o8⟩ := h.ok
  have p2 : ∀ a b : Nat, a ≤ b → 2 ^ a ≤ 2 ^ b := fun a b q => Nat.pow_le_pow_right (by decide) q
  have hok : aOk (rmS st f) := by
    unfold aOk aT aN aK aHeld aBrk
    refine ⟨by rw [nO 0 (by decide)]; exact o1, by rw [n1]; omega, by rw [n2]; exact o3, fun p hp => ?_, fun k hk => ?_, fun i hi => ?_, fun k hk => ?_, fun p hp => by rw [row5]; exact o8 p hp⟩
    · rw [n1, (row67 p).1, (row67 p).2]
      by_cases c : p < st.1 2
      · rw [if_pos c, if_pos c]
        exact ⟨wbV_lt2 (o4 p hp).1 hf, wbV_lt2 (o4 p hp).2 hf⟩
      · rw [if_neg c, if_neg c]
        have := hz.2 p (by omega) hp
        rw [this.1, this.2]
        exact ⟨Nat.two_pow_pos _, Nat.two_pow_pos _⟩
    · rw [n1, row1]
      by_cases c : k < st.1 1 - 1
      · rw [if_pos c]
        exact wbV_lt2 (o5 _ (by have := shf_lt (f := f) c; omega)) hf
      · rw [if_neg c]
        by_cases d : k = st.1 1 - 1
        · rw [if_pos d]; exact Nat.two_pow_pos _
        · rw [if_neg d, (hz.1 k (by omega) hk).1]
          exact Nat.two_pow_pos _
    · rw [nO 0 (by decide), row8]
      obtain ⟨j, hj⟩ := (rmP_8 hf hN (st.1 2) hK i).2.2
      rcases hj with hj | hj
      · rw [hj.1]; exact o6 j (hj.2 hi)
      · rw [hj]; exact Nat.two_pow_pos _
    · rw [rowL 0 (by decide), rowL 4 (by decide), drop_at hf, drop_at hf]
      by_cases d : k = st.1 1 - 1
      · rw [if_pos d, if_pos d]; exact ⟨Nat.zero_le _, Nat.le_refl _⟩
      · rw [if_neg d, if_neg d]
        by_cases c : k < st.1 1 - 1
        · rw [if_pos c, if_pos c]; exact o7 _ (by have := shf_lt (f := f) c; omega)
        · rw [if_neg c, if_neg c]; exact o7 k hk
  have hrk : rK (lvA A f) n := lv4_rK (lvB_rK h.k) _ (by omega)
  refine ⟨⟨?_, ?_, ?_, ?_⟩, ⟨hok, ?_, ?_⟩, ?_, ?_, hrk⟩
  · obtain ⟨a0, a1, a2, a3, a4⟩ := h.r0
    refine ⟨?_, ?_, ?_, ?_, ?_⟩
    · rw [lvA_low (by decide) (by decide), nO 0 (by decide)]; exact a0
    · rw [n1]
      unfold lvA
      rw [lv4_lo (by decide)]
      unfold lvB
      rw [va_upE, a1]
    · rw [lvA_low (by decide) (by decide), n2]; exact a2
    · rw [lvA_low (by decide) (by decide), nO 4 (by decide)]; exact a3
    · rw [lvA_low (by decide) (by decide), nO 3 (by decide)]; exact a4
  · intro g hg
    rw [n1] at hg
    have hs := shf_lt (f := f) hg
    obtain ⟨b0, b1, b2, b3, L, l1, l2, l3, l4⟩ := h.rf (shf f g) hs
    have hg2 : g < A 1 - 1 := by rw [eN]; exact hg
    have dr : ∀ j, j = 0 ∨ j = 2 ∨ j = 3 ∨ j = 4 → (rmS st f).2.2 j g = st.2.2 j (shf f g) := fun j hj => by
      rw [rowL j hj, drop_at hf, if_neg (by omega), if_pos hg]
    rw [dr 0 (by decide), dr 2 (by decide), dr 3 (by decide), row1, if_pos hg, nm g hg]
    refine ⟨(lvA_fam hg2 hA1 (by decide) (by decide)).trans b0, (lvA_fam hg2 hA1 (by decide) (by decide)).trans b1, (lvA_fam hg2 hA1 (by decide) (by decide)).trans b2, ?_, L, l1, l2, fun i hi => ?_, l4⟩
    · have e3 : A (5 + 12 * shf f g + 3) = st.2.2 1 (shf f g) := b3
      show lvA A f (5 + 12 * g + 3) = _
      have hlt : st.2.2 1 (shf f g) < 1024 := h.ok.near (by omega)
      rw [lvA_near hg2 hA1, e3, mWo_eq (by omega) (by omega)]
    · have := lvA_fam (f := f) hg2 hA1 (i := 4 + i) (by omega) (by omega)
      rw [show 5 + 12 * g + (4 + i) = 5 + 12 * g + 4 + i by omega, show 5 + 12 * shf f g + (4 + i) = 5 + 12 * shf f g + 4 + i by omega] at this
      exact this.trans (l3 i hi)
  · intro p hp
    rw [n2] at hp
    obtain ⟨b0, L, l1, l2, l3, l4⟩ := h.rp p hp
    rw [row5, nmP]
    refine ⟨(lvA_pic (i := 0) hA1 (by decide)).trans b0, L, l1, l2, fun i hi => ?_, l4⟩
    have := lvA_pic (A := A) (f := f) (p := p) (i := 1 + i) hA1 (by omega)
    rw [show 125 + 19 * p + (1 + i) = 125 + 19 * p + 1 + i by omega] at this
    exact this.trans (l3 i hi)
  · intro p g hp hg
    rw [n2] at hp
    rw [n1] at hg
    have hs := shf_lt (f := f) hg
    rw [lvA_copy (by rw [eK]; exact hp) (by rw [eN]; exact hg) hA1, bitH p g hp, bitB p g hp, row8]
    rw [(rmP_8 hf hN (st.1 2) hK (10 * p + g)).1 p hp g hg rfl]
    exact h.rc p (shf f g) hp hs
  · intro k h1 h2
    rw [n1] at h1
    have dr : ∀ j, j = 0 ∨ j = 2 ∨ j = 3 ∨ j = 4 → (rmS st f).2.2 j k = if k = st.1 1 - 1 then 0 else st.2.2 j k := fun j hj => by
      rw [rowL j hj, drop_at hf]
      by_cases d : k = st.1 1 - 1
      · rw [if_pos d, if_pos d]
      · rw [if_neg d, if_neg d, if_neg (by omega)]
    rw [dr 2 (by decide), dr 3 (by decide), dr 4 (by decide), row1, if_neg (by omega)]
    by_cases d : k = st.1 1 - 1
    · rw [if_pos d, if_pos d, if_pos d, if_pos d]; exact ⟨rfl, rfl, rfl, rfl⟩
    · rw [if_neg d, if_neg d, if_neg d, if_neg d]
      exact hz.1 k (by omega) h2
  · intro p h1 h2
    rw [n2] at h1
    rw [(row67 p).1, (row67 p).2, if_neg (by omega), if_neg (by omega)]
    exact hz.2 p h1 h2
  · intro p g h1 h2
    by_cases c : p < st.1 2
    · rw [bitH p g c, bitB p g c]
      by_cases d : shf f g < 10
      · exact h.2.2.1 p _ h1 d
      · have : heldB st p (shf f g) = false := held_hi h h1 (by omega)
        rw [this, Bool.false_and]
    · have := hz.2 p (by omega) h1
      unfold heldB
      rw [(row67 p).1, if_neg c, this.1, Nat.zero_testBit, Bool.false_and]
  · intro g hg
    rw [n1] at hg
    have hs := shf_lt (f := f) hg
    rw [rowL 4 (by decide), drop_at hf, if_neg (by omega), if_pos hg, h.2.2.2.1 _ hs, n2]
    exact fb_ct_cong fun p hp => by
      unfold hasB
      rw [bitH p g hp, bitB p g hp]
end R6
