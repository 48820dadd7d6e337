/-! ===== the same behind waves and spreading ===== -/
section R4
variable {st : Ar} {A : Nat → Nat} {n : Nat}
theorem spAll_same {s t : Ar} {p x : Nat} (h0 : s.1 0 = t.1 0) : ∀ m, (∀ k, k < m → x.testBit k = true → s.2.2 8 (10 * p + k) = t.2.2 8 (10 * p + k)) → spAll s p x m = spAll t p x m := by
  intro m
  induction m with
  | zero =>
    intro _
    show 2 ^ s.1 0 - 1 = 2 ^ t.1 0 - 1
    rw [h0]
  | succ m ih =>
    intro h
    rw [spAll, spAll, ih (fun k hk => h k (by omega))]
    cases hb : x.testBit m with
    | true => rw [if_pos rfl, if_pos rfl, h m (by omega) hb]
    | false => rw [if_neg (by decide), if_neg (by decide)]
theorem NV.src_bit (h : NV st A n) {p f j : Nat} (hp : p < 12) (q : (srcV st p f).testBit j = true) : j < st.1 1 ∧ heldB st p j = true := by
  unfold srcV at q
  rw [Nat.testBit_and, Bool.and_eq_true] at q
  refine ⟨?_, q.2⟩
  rcases Nat.lt_or_ge j (st.1 1) with z | z
  · exact z
  · rw [held_hi h hp z] at q
    exact absurd q.2 (by decide)
/-- in a wave: what is behind picture p and its family j -/
def WI (st : Ar) (A : Nat → Nat) (n p j : Nat) (Q : Ar × Nat) (R : (Nat → Nat) × Nat) : Prop :=
  NV Q.1 (va_up R.1 3 (A 3 + R.2)) (n + 120) ∧ Q.2 = R.2 ∧ rK R.1 n ∧ R.2 ≤ 10 * p + j ∧
  (∀ p', p < p' → Q.1.2.2 6 p' = st.2.2 6 p' ∧ Q.1.2.2 7 p' = st.2.2 7 p') ∧ (∀ f', j ≤ f' → brkB Q.1 p f' = brkB st p f') ∧
  (∀ p' f', f' < 10 → heldB st p' f' = true → Q.1.2.2 8 (10 * p' + f') = st.2.2 8 (10 * p' + f')) ∧ Q.1.2.2 1 = st.2.2 1 ∧ ∀ i, i ≠ 4 → Q.1.1 i = st.1 i
theorem WI.step (h : NV st A n) (hn : n + 120 < 2 ^ 23) {p j : Nat} (hp : p < st.1 2) (hj : j < st.1 1) {Q : Ar × Nat} {R : (Nat → Nat) × Nat} (w : WI st A n p j Q R) :
    WI st A n p (j + 1) (if (brkB Q.1 p j && decide (Q.1.2.2 1 j &&& st.2.2 6 p ≠ 0)) = true then (mendS Q.1 p j (Q.1.2.2 1 j &&& st.2.2 6 p), Q.2 + 1) else Q) (wv1 (wvG A) R p j) := by
  have hN := h.N10
  have hK := h.K12
  have hA3 : A 3 ≤ n := h.k.2.2 3 (by decide)
  obtain ⟨w1, w2, w3, w4, w5, w6, w7, w8, w9⟩ := w
  have q1 := w9 1 (by decide)
  have q2 := w9 2 (by decide)
  have q0 := w9 0 (by decide)
  have eb := w6 j (Nat.le_refl _)
  rw [w8, eb]
  have es : st.2.2 1 j &&& st.2.2 6 p = srcV st p j := rfl
  rw [es]
  have ec : mCan A p j = (brkB st p j && decide (srcV st p j ≠ 0)) := by
    unfold mCan
    rw [h.brk hp hj, h.src hp hj]
  unfold wv1 wvG
  rw [ec]
  by_cases c : (brkB st p j && decide (srcV st p j ≠ 0)) = true
  · rw [if_pos c, if_pos c, if_neg (mGets_pos A p j)]
    rw [Bool.and_eq_true, decide_eq_true_eq] at c
    have eg := h.gets hp hj c.2
    have esp : spAll Q.1 p (srcV st p j) (Q.1.1 1) = spAll st p (srcV st p j) (st.1 1) := by
      rw [q1]
      exact spAll_same q0 _ (fun k hk hb => w7 p k (by omega) (h.src_bit (by omega) hb).2)
    have hlt := mGets_lt A p j
    have hrk : rK (va_up R.1 (125 + 19 * p + 9 + j) (mGets A p j)) n := w3.upC (by omega) (by omega) (by omega)
    have hrk2 : rK (va_up (va_up R.1 (125 + 19 * p + 9 + j) (mGets A p j)) 3 (A 3 + (R.2 + 1))) (n + 120) := (hrk.mono (by omega) hn).up (by show _ ≤ n + 120; omega) (by omega)
    have hbq : brkB Q.1 p j = true := eb.trans c.1
    have hn9 := w1.r0.2.2.2.1
    rw [va_upE] at hn9
    have nm := w1.mend (p := p) (f := j) (s := srcV st p j) (by omega) (by omega) (by unfold hasB; rw [hbq, Bool.or_true]) hrk2 (fun k hk => by
      rw [va_up_ne _ _ hk, esp, ← eg]
      by_cases e : k = 125 + 19 * p + 9 + j
      · rw [e, va_upE, va_upE]
      · rw [va_up_ne _ _ e, va_up_ne _ _ e, va_up_ne _ _ hk]) (by rw [va_upE]; omega)
    refine ⟨nm, by show Q.2 + 1 = R.2 + 1; rw [w2], hrk, by show R.2 + 1 ≤ _; omega, fun p' hp' => ?_, fun f' hf' => ?_, fun p' f' hf9 hh => ?_, ?_, fun i hi => (mendS_const hi).trans (w9 i hi)⟩
    · constructor
      · show va_up (Q.1.2.2 6) p _ p' = _
        rw [va_up_ne _ _ (by omega)]
        exact (w5 p' hp').1
      · show va_up (Q.1.2.2 7) p _ p' = _
        rw [va_up_ne _ _ (by omega)]
        exact (w5 p' hp').2
    · show (va_up (Q.1.2.2 7) p (andn (Q.1.2.2 7 p) (2 ^ j)) p).testBit f' = _
      rw [va_upE]
      have hq7 : Q.1.2.2 7 p < 1024 := w1.ok.brk (by omega)
      rcases Nat.lt_or_ge f' 32 with z | z
      · rw [andn1_bit (by omega) z, if_neg (by omega)]
        exact w6 f' (by omega)
      · have e1 : (andn (Q.1.2.2 7 p) (2 ^ j)).testBit f' = false := Nat.testBit_lt_two_pow (Nat.lt_of_le_of_lt (andn_le _ _) (Nat.lt_of_lt_of_le hq7 (pow_le2 (a := 10) (b := f') (by omega))))
        have e2 : brkB st p f' = false := brk_hi h (by omega) (by omega)
        rw [e1, e2]
    · show va_up (Q.1.2.2 8) (10 * p + j) _ (10 * p' + f') = _
      by_cases e : 10 * p' + f' = 10 * p + j
      · exfalso
        have e1 : p' = p := by omega
        have e2 : f' = j := by omega
        subst e1; subst e2
        have := h.2.2.1 p' f' (by omega) (by omega)
        rw [hh, c.1] at this
        cases this
      · rw [va_up_ne _ _ e]
        exact w7 p' f' hf9 hh
    · exact w8
  · rw [if_neg c, if_neg c, if_pos rfl]
    exact ⟨w1, w2, w3, by omega, w5, fun f' hf' => w6 f' (by omega), w7, w8, w9⟩
theorem WI.inner (h : NV st A n) (hn : n + 120 < 2 ^ 23) {p : Nat} (hp : p < st.1 2) {Q : Ar × Nat} {R : (Nat → Nat) × Nat} (w : WI st A n p 0 Q R) : ∀ j, j ≤ st.1 1 → WI st A n p j (repI Q p (st.2.2 6 p) j) (wvI (wvG A) R p j) := by
  intro j
  induction j with
  | zero => intro _; exact w
  | succ j ih =>
    intro hj
    have := WI.step h hn hp (by omega) (ih (by omega))
    rw [repI, wvI]
    exact this
theorem WI.outer (h : NV st A n) (hn : n + 120 < 2 ^ 23) : ∀ i, i ≤ st.1 2 → WI st A n i 0 (repO st i) (wvO (wvG A) (st.1 1) (A, 0) i) ∧ (∀ p', i ≤ p' → (repO st i).1.2.2 6 p' = st.2.2 6 p' ∧ (repO st i).1.2.2 7 p' = st.2.2 7 p') := by
  have hN := h.N10
  intro i
  induction i with
  | zero =>
    intro _
    refine ⟨⟨?_, rfl, h.k, Nat.le_refl _, fun _ _ => ⟨rfl, rfl⟩, fun _ _ => rfl, fun _ _ _ _ => rfl, rfl, fun _ _ => rfl⟩, fun _ _ => ⟨rfl, rfl⟩⟩
    refine (h.mono (by omega) hn).cong fun k _ => ?_
    by_cases e : k = 3
    · rw [e]; exact va_upE _ _ _
    · exact va_up_ne _ _ e
  | succ i ih =>
    intro hi
    obtain ⟨k1, k2⟩ := ih (by omega)
    have k3 := k2 i (Nat.le_refl _)
    have w := WI.inner h hn (p := i) (by omega) k1 _ (Nat.le_refl _)
    rw [repO, k3.1, wvO]
    obtain ⟨w1, w2, w3, w4, w5, w6, w7, w8, w9⟩ := w
    refine ⟨⟨w1, w2, w3, by omega, fun p' hp' => w5 p' (by omega), fun f' _ => ?_, w7, w8, w9⟩, fun p' hp' => w5 p' (by omega)⟩
    have := (w5 (i + 1) (by omega)).2
    show (_ : Nat).testBit f' = _
    rw [this]
    rfl
theorem NV.wave (h : NV st A n) (hn : n + 120 < 2 ^ 23) : NV (repO st (st.1 2)).1 (wvA A).1 (n + 120) ∧ (repO st (st.1 2)).2 = (wvA A).2 := by
  have w := (WI.outer h hn _ (Nat.le_refl _)).1
  have e3 : (wvO (wvG A) (A 1) (A, 0) (A 2)).1 3 = A 3 := wvO_lo (by decide) _
  unfold wvA
  rw [e3, h.r0.2.1, h.r0.2.2.1]
  exact ⟨w.1, w.2.1⟩
theorem NV.waves (h : NV st A n) : ∀ k, n + 120 * k < 2 ^ 23 → NV (waveS st k) (mwS A k) (n + 120 * k) := by
  intro k
  induction k with
  | zero => intro _; exact h
  | succ k ih =>
    intro hn
    have k1 := ih (by omega)
    have k2 := k1.wave (by omega)
    rw [waveS, mwS]
    have e : st.1 2 = (waveS st k).1 2 := (waveS_const (by decide) k).symm
    rw [e]
    exact k2.1
theorem NV.waveC (h : NV st A n) {k : Nat} (hn : n + 120 * k + 120 < 2 ^ 23) : wavC st k = mwC A k := by
  have k1 := h.waves k (by omega)
  have k2 := k1.wave (by omega)
  unfold wavC mwC
  have e : st.1 2 = (waveS st k).1 2 := (waveS_const (by decide) k).symm
  rw [e]
  exact k2.2
theorem fa_first_cong {p q : Nat → Bool} : ∀ {m : Nat}, (∀ k, k < m → p k = q k) → fa_first p m = fa_first q m := by
  intro m
  induction m with
  | zero => intro _; rfl
  | succ m ih =>
    intro h
    unfold fa_first
    rw [ih (fun k hk => h k (by omega)), h m (by omega)]
theorem NV.wavNum (h : NV st A n) (hn : n + 20000 < 2 ^ 23) : wavN st = mwN A := by
  unfold wavN mwN
  exact fa_first_cong fun k hk => by rw [h.waveC (by omega)]
theorem bC_all {A : Nat → Nat} (hN : A 1 ≤ 10) : bC A = mAll A 2 := by
  unfold bC mAll
  refine fb_sm_cong fun p _ => ?_
  rw [popc_of (n := A 1) (show mHold A p 2 < 2 ^ A 1 from hoS_lt A p 2 _) (by omega)]
  refine fb_ct_cong fun f hf => ?_
  rw [mHold_bit, decide_eq_true hf, Bool.true_and]
  rfl
/-! spreading -/
theorem NV.next (h : NV st A n) {p : Nat} (hp : p < st.1 2) : ∀ m, m ≤ st.1 1 → mNx A p m = nextH st p m := by
  intro m
  induction m with
  | zero => intro _; rfl
  | succ m ih =>
    intro hm
    have ih := ih (by omega)
    have em : mMay A p m = mayB st p m := by
      unfold mMay mayB
      rw [h.left (by omega), h.src hp (by omega)]
      congr 2
      have := h.nz hp (f := m) (by omega)
      cases hh : hasB st p m with
      | true => exact decide_eq_false (fun z => by rw [this.mp z] at hh; cases hh)
      | false => exact decide_eq_true (this.mpr hh)
    rw [mNx, nextH, em, ih]
    have ea : ahO A m (nextH st p m) = (match nextH st p m with | none => true | some b => betterB st m b) := by
      cases hq : nextH st p m with
      | none => rfl
      | some b =>
        have hb := nextH_lt hq
        show ahB A m b = betterB st m b
        unfold ahB betterB
        rw [h.left (by omega), h.left (by omega), h.trust (by omega), h.trust (by omega)]
    rw [ea]
    rfl
theorem NV.spr1 (h : NV st A n) {p : Nat} (hp : p < st.1 2) : ∀ (j : Nat) (s : Ar × Nat) (q : (Nat → Nat) × Nat), NV s.1 q.1 n → s.2 = q.2 → s.1.1 = st.1 → NV (mcI s p j).1 (spI q p j).1 n ∧ (mcI s p j).2 = (spI q p j).2 ∧ (mcI s p j).1.1 = st.1 := by
  intro j
  induction j with
  | zero => intro s q k1 k2 k3; exact ⟨k1, k2, k3⟩
  | succ j ih =>
    intro s q k1 k2 k3
    have hp2 : p < s.1.1 2 := by rw [k3]; exact hp
    have ed := k1.dan hp2
    have en := k1.next hp2 _ (Nat.le_refl _)
    have e1 : q.1 1 = s.1.1 1 := k1.r0.2.1
    have eS : spS q.1 p = (if inDB s.1 p = true then nextH s.1 p (s.1.1 1) else none) := by
      unfold spS
      rw [ed, e1, en]
    cases hq : spS q.1 p with
    | none =>
      have : mcStep s p = none := by
        rw [hq] at eS
        unfold mcStep
        by_cases c : inDB s.1 p = true
        · rw [if_pos c] at eS ⊢
          rw [← eS]
        · rw [if_neg c]
      rw [mcI_stop this, spI_stop hq]
      exact ⟨k1, k2, k3⟩
    | some f =>
      have hm := spS_may hq
      rw [hq] at eS
      have c : inDB s.1 p = true := by
        cases c : inDB s.1 p with
        | true => rfl
        | false => rw [c, if_neg (by decide)] at eS; cases eS
      rw [if_pos c] at eS
      have hst : mcStep s p = some (addCopyS s.1 p f (spAll s.1 p (srcV s.1 p f) (s.1.1 1)), s.2 + 1) := by unfold mcStep; rw [if_pos c, ← eS]
      rw [mcI_go hst, spI_go hq]
      have hf : f < s.1.1 1 := by rw [← e1]; exact hm.1
      have hN := k1.N10
      have hK := k1.K12
      have hs : srcV s.1 p f ≠ 0 := by rw [← k1.src hp2 hf]; exact hm.2.2.2
      have hl : 0 < leftV s.1 f := by rw [← k1.left hf]; exact hm.2.2.1
      have hg := k1.gets hp2 hf hs
      have hlt := mGets_lt q.1 p f
      have hrk : rK (spPut q.1 p f) n := by unfold spPut; exact k1.k.upC (by omega) (by omega) (by omega)
      have a := k1.addC hp2 hf ((k1.nz hp2 hf).mp hm.2.1) hl (spAll_lt s.1 p (srcV s.1 p f) (s.1.1 1)) hrk (by unfold spPut; rw [hg])
      exact ih _ _ a (by show s.2 + 1 = q.2 + 1; rw [k2]) k3
theorem NV.spr (h : NV st A n) : ∀ i, i ≤ st.1 2 → NV (mcO st i).1 (spO A i).1 n ∧ (mcO st i).2 = (spO A i).2 ∧ (mcO st i).1.1 = st.1 := by
  intro i
  induction i with
  | zero => intro _; exact ⟨h, rfl, rfl⟩
  | succ i ih =>
    intro hi
    obtain ⟨k1, k2, k3⟩ := ih (by omega)
    exact h.spr1 (p := i) (by omega) 10 _ _ k1 k2 k3
end R4
