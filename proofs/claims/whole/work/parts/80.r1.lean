/-! ===== an Archive and a row of the model: the same ===== -/
def cpV (h b : Bool) (sp : Nat) : Nat := if h = true then 65536 + sp else if b = true then 196608 + sp else 0
theorem hi_or1 {sp : Nat} (h : sp < 65536) : 65536 + sp = 65536 ||| sp := by
  have := Nat.two_pow_add_eq_or_of_lt (i := 16) h 1
  simpa using this
theorem hi_or3 {sp : Nat} (h : sp < 65536) : 196608 + sp = 196608 ||| sp := by
  have := Nat.two_pow_add_eq_or_of_lt (i := 16) h 3
  simpa using this
theorem lo_hi {sp c : Nat} (h : sp < 65536) (hc : ∀ i, i < 16 → c.testBit i = false) : sp &&& c = 0 := by
  refine Nat.eq_of_testBit_eq fun i => ?_
  rw [Nat.testBit_and, Nat.zero_testBit]
  rcases Nat.lt_or_ge i 16 with q | q
  · rw [hc i q, Bool.and_false]
  · rw [Nat.testBit_lt_two_pow (Nat.lt_of_lt_of_le h (Nat.pow_le_pow_right (n := 2) (by decide) q)), Bool.false_and]
theorem c1_16 : ∀ i, i < 16 → Nat.testBit 65536 i = false := by decide
theorem c2_16 : ∀ i, i < 16 → Nat.testBit 131072 i = false := by decide
theorem c3_16 : ∀ i, i < 16 → Nat.testBit 196608 i = false := by decide
theorem cp_held {h b : Bool} {sp : Nat} (hs : sp < 65536) : cHeld (cpV h b sp) = h := by
  unfold cHeld cpV
  cases h with
  | true =>
    rw [if_pos rfl, hi_or1 hs, Nat.and_or_distrib_right, lo_hi hs c3_16]
    rfl
  | false =>
    rw [if_neg (by decide)]
    cases b with
    | true =>
      rw [if_pos rfl, hi_or3 hs, Nat.and_or_distrib_right, lo_hi hs c3_16]
      rfl
    | false => rw [if_neg (by decide), Nat.zero_and]; rfl
theorem cp_brk {h b : Bool} {sp : Nat} (hs : sp < 65536) : cBrk (cpV h b sp) = (!h && b) := by
  unfold cBrk cpV
  cases h with
  | true =>
    rw [if_pos rfl, hi_or1 hs, Nat.and_or_distrib_right, lo_hi hs c2_16]
    rfl
  | false =>
    rw [if_neg (by decide)]
    cases b with
    | true =>
      rw [if_pos rfl, hi_or3 hs, Nat.and_or_distrib_right, lo_hi hs c2_16]
      rfl
    | false => rw [if_neg (by decide), Nat.zero_and]; rfl
theorem cp_snd {h b : Bool} {sp : Nat} : cSnd (cpV h b sp) = (h && (sp == 0)) := by
  unfold cSnd cpV
  cases h with
  | true =>
    rw [if_pos rfl, Bool.true_and]
    by_cases e : sp = 0
    · subst e; rfl
    · rw [decide_eq_false (by omega)]
      exact (beq_eq_false_iff_ne.mpr e).symm
  | false =>
    rw [if_neg (by decide), Bool.false_and]
    cases b with
    | true => rw [if_pos rfl]; exact decide_eq_false (by omega)
    | false => rfl
theorem cp_nz {h b : Bool} {sp : Nat} : cpV h b sp = 0 ↔ (h || b) = false := by
  unfold cpV
  cases h with
  | true => rw [if_pos rfl]; simp
  | false =>
    rw [if_neg (by decide)]
    cases b with
    | true => rw [if_pos rfl]; simp
    | false => simp
theorem cp_sp {h b : Bool} {sp : Nat} (hs : sp < 65536) (hh : (h || b) = true) : cpV h b sp &&& 65535 = sp := by
  have e : ∀ x : Nat, x &&& 65535 = x % 65536 := fun x => Nat.and_two_pow_sub_one_eq_mod x 16
  unfold cpV
  rw [e]
  cases h with
  | true => rw [if_pos rfl]; omega
  | false =>
    rw [if_neg (by decide)]
    cases b with
    | true => rw [if_pos rfl]; omega
    | false => cases hh
theorem cp_bit {h b : Bool} {sp t : Nat} (hs : sp < 65536) (hh : (h || b) = true) (ht : t < 16) : (cpV h b sp).testBit t = sp.testBit t := by
  unfold cpV
  cases h with
  | true => rw [if_pos rfl, hi_or1 hs, Nat.testBit_or, c1_16 t ht, Bool.false_or]
  | false =>
    rw [if_neg (by decide)]
    cases b with
    | true => rw [if_pos rfl, hi_or3 hs, Nat.testBit_or, c3_16 t ht, Bool.false_or]
    | false => cases hh
theorem cp_break {b : Bool} {sp : Nat} (hs : sp < 65536) : cpV true b sp ||| 131072 = cpV false true sp := by
  show 65536 + sp ||| 131072 = 196608 + sp
  rw [hi_or1 hs, hi_or3 hs, Nat.or_assoc, Nat.or_comm sp, ← Nat.or_assoc]
  rfl
theorem cp_or {h b : Bool} {sp t : Nat} (hs : sp < 65536) (ht : t < 65536) (hh : (h || b) = true) : cpV h b sp ||| t = cpV h b (sp ||| t) := by
  have h2 : sp ||| t < 65536 := Nat.or_lt_two_pow (n := 16) hs ht
  cases h with
  | true =>
    show 65536 + sp ||| t = 65536 + (sp ||| t)
    rw [hi_or1 hs, hi_or1 h2, Nat.or_assoc]
  | false =>
    cases b with
    | true =>
      show 196608 + sp ||| t = 196608 + (sp ||| t)
      rw [hi_or3 hs, hi_or3 h2, Nat.or_assoc]
    | false => cases hh
theorem m16 {T : Nat} (hT : T ≤ 16) : (65535 : Nat) &&& (2 ^ T - 1) = 2 ^ T - 1 := by
  refine Nat.eq_of_testBit_eq fun i => ?_
  rw [Nat.testBit_and, show (65535 : Nat) = 2 ^ 16 - 1 from rfl, Nat.testBit_two_pow_sub_one, Nat.testBit_two_pow_sub_one]
  by_cases q : i < T
  · rw [decide_eq_true q, decide_eq_true (show i < 16 by omega)]; rfl
  · rw [decide_eq_false q, Bool.and_false]
theorem cp_lt {h b : Bool} {sp : Nat} (hs : sp < 65536) : cpV h b sp < 262144 := by
  unfold cpV
  split
  · omega
  · split <;> omega
/-! names -/
def pk (L : List Nat) : Nat := L.foldl (fun n c => n * 32 + (c - 96)) 0
def nmR (r : Nat → Nat) (nm : Int64) : Prop := ∃ L : List Nat, L.length ≤ 8 ∧ (∀ c, c ∈ L → 97 ≤ c ∧ c ≤ 122) ∧ (∀ k, k < 8 → r k = L.getD k 0) ∧ nm = lN (if L = [] then 27 else pk L)
/-! the relation -/
def R0 (st : Ar) (A : Nat → Nat) : Prop := A 0 = st.1 0 ∧ A 1 = st.1 1 ∧ A 2 = st.1 2 ∧ A 3 = st.1 4 ∧ A 4 = st.1 3
def RF (st : Ar) (A : Nat → Nat) : Prop := ∀ f, f < st.1 1 → rF A f 0 = st.2.2 0 f ∧ rF A f 1 = st.2.2 2 f ∧ rF A f 2 = st.2.2 3 f ∧ rF A f 3 = st.2.2 1 f ∧ nmR (fun k => A (5 + 12 * f + 4 + k)) (st.2.1 0 f)
def RP (st : Ar) (A : Nat → Nat) : Prop := ∀ p, p < st.1 2 → rPl A p = st.2.2 5 p ∧ nmR (fun k => A (125 + 19 * p + 1 + k)) (st.2.1 1 p)
def RC (st : Ar) (A : Nat → Nat) : Prop := ∀ p f, p < st.1 2 → f < st.1 1 → rC A p f = cpV (heldB st p f) (brkB st p f) (st.2.2 8 (10 * p + f))
def xDis (st : Ar) : Prop := ∀ p f, p < 12 → f < 10 → (heldB st p f && brkB st p f) = false
def xCo (st : Ar) : Prop := ∀ f, f < st.1 1 → st.2.2 4 f = fb_ct (fun p => hasB st p f) (st.1 2)
def NV (st : Ar) (A : Nat → Nat) (n : Nat) : Prop := (R0 st A ∧ RF st A ∧ RP st A ∧ RC st A) ∧ aW st ∧ xDis st ∧ xCo st ∧ rK A n
section NV1
variable {st : Ar} {A : Nat → Nat} {n : Nat}
theorem NV.r0 (h : NV st A n) : R0 st A := h.1.1
theorem NV.rf (h : NV st A n) : RF st A := h.1.2.1
theorem NV.rp (h : NV st A n) : RP st A := h.1.2.2.1
theorem NV.rc (h : NV st A n) : RC st A := h.1.2.2.2
theorem NV.aw (h : NV st A n) : aW st := h.2.1
theorem NV.ok (h : NV st A n) : aOk st := h.2.1.1
theorem NV.k (h : NV st A n) : rK A n := h.2.2.2.2
theorem NV.N10 (h : NV st A n) : st.1 1 ≤ 10 := h.ok.2.1
theorem NV.K12 (h : NV st A n) : st.1 2 ≤ 12 := h.ok.2.2.1
theorem NV.sp (h : NV st A n) {p f : Nat} (hp : p < st.1 2) (hf : f < st.1 1) : st.2.2 8 (10 * p + f) < 65536 := h.ok.cell (by have := h.N10; have := h.K12; omega)
theorem NV.mono (h : NV st A n) {m : Nat} (hm : n ≤ m) (h2 : m < 2 ^ 23) : NV st A m := ⟨h.1, h.2.1, h.2.2.1, h.2.2.2.1, h.k.mono hm h2⟩
theorem NV.cong (h : NV st A n) {B : Nat → Nat} (he : ∀ k, k < 353 → B k = A k) : NV st B n := by
  have hN := h.N10
  have hK := h.K12
  obtain ⟨⟨h0, hf, hp, hc⟩, hw, hd, hx, hk⟩ := h
  refine ⟨⟨?_, ?_, ?_, ?_⟩, hw, hd, hx, ?_⟩
  · unfold R0
    rw [he 0 (by decide), he 1 (by decide), he 2 (by decide), he 3 (by decide), he 4 (by decide)]
    exact h0
  · intro f q
    have k := hf f q
    refine ⟨(he _ (by omega)).trans k.1, (he _ (by omega)).trans k.2.1, (he _ (by omega)).trans k.2.2.1, (he _ (by omega)).trans k.2.2.2.1, ?_⟩
    obtain ⟨L, l1, l2, l3, l4⟩ := k.2.2.2.2
    exact ⟨L, l1, l2, fun i hi => (he _ (by omega)).trans (l3 i hi), l4⟩
  · intro p q
    have k := hp p q
    refine ⟨(he _ (by omega)).trans k.1, ?_⟩
    obtain ⟨L, l1, l2, l3, l4⟩ := k.2
    exact ⟨L, l1, l2, fun i hi => (he _ (by omega)).trans (l3 i hi), l4⟩
  · intro p f q1 q2
    exact (he _ (by omega)).trans (hc p f q1 q2)
  · exact ⟨hk.1, by rw [he 0 (by decide)]; exact hk.2.1, fun k q => by rw [he k q]; exact hk.2.2 k q⟩
theorem held_hi (h : NV st A n) {p j : Nat} (hp : p < 12) (hj : st.1 1 ≤ j) : (st.2.2 6 p).testBit j = false := Nat.testBit_lt_two_pow (Nat.lt_of_lt_of_le (h.ok.2.2.2.1 p hp).1 (Nat.pow_le_pow_right (by decide) hj))
theorem brk_hi (h : NV st A n) {p j : Nat} (hp : p < 12) (hj : st.1 1 ≤ j) : (st.2.2 7 p).testBit j = false := Nat.testBit_lt_two_pow (Nat.lt_of_lt_of_le (h.ok.2.2.2.1 p hp).2 (Nat.pow_le_pow_right (by decide) hj))
theorem NV.brk (h : NV st A n) {p f : Nat} (hp : p < st.1 2) (hf : f < st.1 1) : cBrk (rC A p f) = brkB st p f := by
  rw [h.rc p f hp hf, cp_brk (h.sp hp hf)]
  have := h.2.2.1 p f (by have := h.K12; omega) (by have := h.N10; omega)
  cases hh : heldB st p f with
  | true => rw [hh] at this; simp at this; rw [this]; rfl
  | false => rfl
theorem NV.held (h : NV st A n) {p f : Nat} (hp : p < st.1 2) (hf : f < st.1 1) : cHeld (rC A p f) = heldB st p f := by
  rw [h.rc p f hp hf, cp_held (h.sp hp hf)]
theorem NV.nz (h : NV st A n) {p f : Nat} (hp : p < st.1 2) (hf : f < st.1 1) : rC A p f = 0 ↔ hasB st p f = false := by
  rw [h.rc p f hp hf]
  exact cp_nz
theorem NV.snd (h : NV st A n) {p f : Nat} (hp : p < st.1 2) (hf : f < st.1 1) : cSnd (rC A p f) = soundB st p f := by
  rw [h.rc p f hp hf, cp_snd]
  rfl
theorem NV.hold1 (h : NV st A n) {p : Nat} (hp : p < st.1 2) : mHold A p 1 = st.2.2 6 p := by
  refine Nat.eq_of_testBit_eq fun j => ?_
  rw [mHold_bit, h.r0.2.1]
  rcases Nat.lt_or_ge j (st.1 1) with q | q
  · rw [decide_eq_true q, Bool.true_and]
    exact h.held hp q
  · rw [decide_eq_false (by omega), Bool.false_and, held_hi h (by have := h.K12; omega) q]
theorem NV.hold2 (h : NV st A n) {p : Nat} (hp : p < st.1 2) : mHold A p 2 = st.2.2 7 p := by
  refine Nat.eq_of_testBit_eq fun j => ?_
  rw [mHold_bit, h.r0.2.1]
  rcases Nat.lt_or_ge j (st.1 1) with q | q
  · rw [decide_eq_true q, Bool.true_and]
    exact h.brk hp q
  · rw [decide_eq_false (by omega), Bool.false_and, brk_hi h (by have := h.K12; omega) q]
theorem NV.hold3 (h : NV st A n) {p : Nat} (hp : p < st.1 2) : mHold A p 3 = soundM st p := by
  refine Nat.eq_of_testBit_eq fun j => ?_
  unfold soundM
  rw [mHold_bit, h.r0.2.1, mk_bit]
  rcases Nat.lt_or_ge j (st.1 1) with q | q
  · rw [decide_eq_true q, Bool.true_and, Bool.true_and]
    exact h.snd hp q
  · rw [decide_eq_false (by omega), Bool.false_and, Bool.false_and]
theorem NV.hold0 (h : NV st A n) {p : Nat} (hp : p < st.1 2) : mHold A p 0 = st.2.2 6 p ||| st.2.2 7 p := by
  refine Nat.eq_of_testBit_eq fun j => ?_
  rw [mHold_bit, h.r0.2.1, Nat.testBit_or]
  rcases Nat.lt_or_ge j (st.1 1) with q | q
  · rw [decide_eq_true q, Bool.true_and]
    have := h.nz hp q
    show decide (rC A p j ≠ 0) = hasB st p j
    cases hh : hasB st p j with
    | true => exact decide_eq_true (fun z => by rw [this.mp z] at hh; cases hh)
    | false => exact decide_eq_false (fun z => z (this.mpr hh))
  · rw [decide_eq_false (by omega), Bool.false_and, held_hi h (by have := h.K12; omega) q, brk_hi h (by have := h.K12; omega) q]
    rfl
theorem popc_or {a b : Nat} (h : ∀ i, i < 32 → (a.testBit i && b.testBit i) = false) : popc (a ||| b) = popc a + popc b := by
  unfold popc
  rw [← fb_ct_or (fun k hk => by have := h k hk; cases ha : a.testBit k <;> cases hb : b.testBit k <;> simp_all)]
  exact fb_ct_cong fun k _ => by rw [Nat.testBit_or]
theorem NV.all1 (h : NV st A n) : mAll A 1 = heldV st := by
  unfold mAll heldV
  rw [h.r0.2.2.1]
  exact fb_sm_cong fun p hp => by rw [h.hold1 hp]
theorem NV.all2 (h : NV st A n) : mAll A 2 = brkV st := by
  unfold mAll brkV
  rw [h.r0.2.2.1]
  exact fb_sm_cong fun p hp => by rw [h.hold2 hp]
theorem NV.all0 (h : NV st A n) : mAll A 0 = heldV st + brkV st := by
  unfold mAll heldV brkV
  rw [h.r0.2.2.1, ← fb_sm_add]
  refine fb_sm_cong fun p hp => ?_
  rw [h.hold0 hp, popc_or fun i hi => ?_]
  have hK := h.K12
  rcases Nat.lt_or_ge i 10 with q | q
  · exact h.2.2.1 p i (by omega) q
  · have := held_hi h (p := p) (j := i) (by omega) (by have := h.N10; omega)
    rw [this, Bool.false_and]
theorem NV.uns (h : NV st A n) : mAll A 1 = mAll A 3 + unsV st := by
  unfold mAll unsV
  rw [h.r0.2.2.1, ← fb_sm_add]
  refine fb_sm_cong fun p hp => ?_
  rw [h.hold1 hp, h.hold3 hp]
  have hs : soundM st p < 1024 := soundM_lt h.ok p
  unfold popc
  rw [← fb_ct_or (p := fun k => (soundM st p).testBit k) (q := fun k => (andn (st.2.2 6 p) (soundM st p)).testBit k) (fun k hk q => by
    have q2 := q.2
    rw [andn_bit (by omega) hk, q.1] at q2
    simp at q2)]
  refine fb_ct_cong fun k hk => ?_
  rw [andn_bit (by omega) hk]
  cases hb : (soundM st p).testBit k with
  | false => simp
  | true =>
    unfold soundM at hb
    rw [mk_bit, Bool.and_eq_true] at hb
    have := hb.2
    unfold soundB at this
    rw [Bool.and_eq_true] at this
    have h2 : (st.2.2 6 p).testBit k = true := this.1
    rw [h2]
    rfl
theorem NV.dan (h : NV st A n) {p : Nat} (hp : p < st.1 2) : mDan A p = inDB st p := by
  unfold mDan inDB
  rw [h.hold1 hp, (h.rp p hp).1]
theorem NV.tru (h : NV st A n) {p : Nat} (hp : p < st.1 2) : mTru A p = trulyB st p := by
  unfold mTru trulyB
  rw [h.hold3 hp, (h.rp p hp).1]
theorem NV.dgs (h : NV st A n) : mDgs A false = fb_ct (inDB st) (st.1 2) ∧ mDgs A true = fb_ct (trulyB st) (st.1 2) := by
  unfold mDgs
  rw [h.r0.2.2.1]
  exact ⟨fb_ct_cong fun p hp => by unfold mDgB; rw [if_neg (by decide)]; exact h.dan hp, fb_ct_cong fun p hp => by unfold mDgB; rw [if_pos rfl]; exact h.tru hp⟩
theorem NV.pairs (h : NV st A n) : mPairs A = pairsV st := by
  unfold mPairs pairsV
  rw [h.r0.2.1]
  congr 1
  exact fb_sm_cong fun f hf => by rw [(h.rf f hf).2.2.2.1]
theorem NV.cop0 (h : NV st A n) {f : Nat} (hf : f < st.1 1) : mCop A f 0 = st.2.2 4 f := by
  rw [h.2.2.2.1 f hf]
  unfold mCop
  rw [h.r0.2.2.1]
  refine fb_ct_cong fun p hp => ?_
  have := h.nz hp hf
  show decide (rC A p f ≠ 0) = hasB st p f
  cases hh : hasB st p f with
  | true => exact decide_eq_true (fun z => by rw [this.mp z] at hh; cases hh)
  | false => exact decide_eq_false (fun z => z (this.mpr hh))
theorem NV.cop2 (h : NV st A n) {f : Nat} (hf : f < st.1 1) : mCop A f 2 = brkOfV st f := by
  unfold mCop brkOfV
  rw [h.r0.2.2.1]
  have key : ∀ m, m ≤ st.1 2 → fb_ct (fun p => cSort (rC A p f) 2) m = fb_sm (fun p => st.2.2 7 p / 2 ^ f &&& 1) m := by
    intro m
    induction m with
    | zero => intro _; rfl
    | succ m ih =>
      intro hm
      rw [fb_ct_succ, fb_sm_succ, ih (by omega)]
      congr 1
      have e : cSort (rC A m f) 2 = brkB st m f := h.brk (by omega) hf
      rw [e]
      unfold brkB
      rw [bit_n]
      cases (st.2.2 7 m).testBit f <;> rfl
  exact key _ (Nat.le_refl _)
theorem NV.trust (h : NV st A n) {f : Nat} (hf : f < st.1 1) : mTrust A f = trustV st f := by
  have k := h.rf f hf
  unfold mTrust trustV
  rw [k.2.1, k.2.2.1]
theorem NV.src (h : NV st A n) {p f : Nat} (hp : p < st.1 2) (hf : f < st.1 1) : mSrc A p f = srcV st p f := by
  unfold mSrc srcV
  rw [h.hold1 hp, (h.rf f hf).2.2.2.1]
theorem NV.left (h : NV st A n) {f : Nat} (hf : f < st.1 1) : mLeft A f = leftV st f := by
  unfold mLeft leftV
  rw [h.cop0 hf, (h.rf f hf).1]
theorem NV.rl (h : NV st A n) : rL A := by
  intro f hf
  rw [h.r0.2.1] at hf
  rw [h.cop0 hf, (h.rf f hf).1]
  exact (h.ok.2.2.2.2.2.2.1 f (by have := h.N10; omega)).2
theorem NV.cn (h : NV st A n) : aCn st n := by
  intro f hf
  rcases Nat.lt_or_ge f (st.1 1) with q | q
  · have k := h.rf f q
    have k1 := h.k.fam (i := 1) hf (by decide)
    have k2 := h.k.fam (i := 2) hf (by decide)
    rw [if_neg (by decide), if_pos (by decide)] at k1 k2
    rw [← k.2.1, ← k.2.2.1]
    exact ⟨k1, k2⟩
  · have := h.aw.2.1 f q hf
    rw [this.2.1, this.2.2.1]
    exact ⟨Nat.zero_le _, Nat.zero_le _⟩
theorem NV.gets (h : NV st A n) {p f : Nat} (hp : p < st.1 2) (hf : f < st.1 1) (hs : srcV st p f ≠ 0) : mGets A p f = cpV true false (spAll st p (srcV st p f) (st.1 1)) := by
  have hN := h.N10
  have hT := h.ok.1
  unfold aT at hT
  have hT2 : 2 ^ st.1 0 ≤ 65536 := pow_le2 (a := st.1 0) (b := 16) hT.2
  have sub : ∀ j, (srcV st p f).testBit j = true → j < st.1 1 ∧ heldB st p j = true := by
    intro j q
    unfold srcV at q
    rw [Nat.testBit_and, Bool.and_eq_true] at q
    refine ⟨?_, q.2⟩
    rcases Nat.lt_or_ge j (st.1 1) with z | z
    · exact z
    · rw [held_hi h (by have := h.K12; omega) z] at q
      exact absurd q.2 (by decide)
  -- over all families up to m: the two agree below 2 ^ tiles
  have key : ∀ m, m ≤ st.1 1 → (getS A p (srcV st p f) m &&& (2 ^ st.1 0 - 1)) = spAll st p (srcV st p f) m ∧ ((∃ j, j < m ∧ (srcV st p f).testBit j = true) → getS A p (srcV st p f) m &&& 65535 = spAll st p (srcV st p f) m) := by
    intro m
    induction m with
    | zero =>
      intro _
      refine ⟨?_, fun ⟨j, hj, _⟩ => by omega⟩
      exact m16 hT.2
    | succ m ih =>
      intro hm
      obtain ⟨i1, i2⟩ := ih (by omega)
      rw [getS, spAll]
      cases hb : (srcV st p f).testBit m with
      | false =>
        rw [if_neg (by decide), if_neg (by decide)]
        refine ⟨i1, fun ⟨j, hj, hj2⟩ => i2 ⟨j, ?_, hj2⟩⟩
        rcases Nat.lt_or_ge j m with z | z
        · exact z
        · have : j = m := by omega
          subst this
          rw [hb] at hj2
          cases hj2
      | true =>
        rw [if_pos rfl, if_pos rfl]
        have hm2 := (sub m hb).1
        have hmh := (sub m hb).2
        have hsp := h.sp hp hm2
        have hsp2 : st.2.2 8 (10 * p + m) < 2 ^ st.1 0 := h.ok.2.2.2.2.2.1 _ (by have := h.K12; omega)
        have erc := h.rc p m hp hm2
        have e1 : rC A p m &&& 65535 = st.2.2 8 (10 * p + m) := by rw [erc]; exact cp_sp hsp (by rw [hmh]; rfl)
        have e2 : st.2.2 8 (10 * p + m) &&& (2 ^ st.1 0 - 1) = st.2.2 8 (10 * p + m) := by rw [Nat.and_two_pow_sub_one_eq_mod, Nat.mod_eq_of_lt hsp2]
        have e3 := m16 hT.2
        have full : getS A p (srcV st p f) m &&& rC A p m &&& 65535 = spAll st p (srcV st p f) m &&& st.2.2 8 (10 * p + m) := by
          rw [Nat.and_assoc, e1, ← e2, ← Nat.and_assoc, Nat.and_comm (getS A p (srcV st p f) m), Nat.and_assoc, i1, Nat.and_comm]
          rw [Nat.and_comm (spAll st p (srcV st p f) m) (st.2.2 8 (10 * p + m) &&& (2 ^ st.1 0 - 1)), e2, Nat.and_comm]
        refine ⟨?_, fun _ => full⟩
        have : getS A p (srcV st p f) m &&& rC A p m &&& (2 ^ st.1 0 - 1) = (getS A p (srcV st p f) m &&& rC A p m &&& 65535) &&& (2 ^ st.1 0 - 1) := by rw [Nat.and_assoc _ 65535, e3]
        rw [this, full, Nat.and_assoc, e2]
  have hex : ∃ j, j < st.1 1 ∧ (srcV st p f).testBit j = true := by
    obtain ⟨j, hj⟩ := Nat.exists_testBit_of_ne_zero hs
    exact ⟨j, (sub j hj).1, hj⟩
  have k := (key (st.1 1) (Nat.le_refl _)).2 hex
  unfold mGets
  rw [h.src hp hf, h.r0.2.1, k]
  have hl : spAll st p (srcV st p f) (st.1 1) < 65536 := Nat.lt_of_lt_of_le (spAll_lt st p _ _) hT2
  unfold cpV
  rw [if_pos rfl, hi_or1 hl]
end NV1
