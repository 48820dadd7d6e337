/-! ===== the model: waves that are tried ===== -/
def wvMs (s : Mo) : Nat → Mo
  | 0 => s
  | k + 1 => mN (wvM (wvMs s k)) 9 (k + 1)
def mwS (A : Nat → Nat) : Nat → Nat → Nat
  | 0 => A
  | k + 1 => (wvA (mwS A k)).1
def mwC (A : Nat → Nat) (k : Nat) : Nat := (wvA (mwS A k)).2
def mwN (A : Nat → Nat) : Nat := fa_first (fun k => mwC A k == 0) 120
theorem wvI_at {G : Nat → Nat → Nat} {q : (Nat → Nat) × Nat} {p p' f' : Nat} (hf' : f' < 10) : ∀ n, n ≤ 10 → rC (wvI G q p n).1 p' f' = if p' = p ∧ f' < n ∧ G p' f' ≠ 0 then G p' f' else rC q.1 p' f' := by
  intro n
  induction n with
  | zero => intro _; rw [if_neg (by omega)]; rfl
  | succ n ih =>
    intro hn
    have ih := ih (by omega)
    rw [wvI]
    unfold wv1
    by_cases c : G p n = 0
    · rw [if_pos c, ih]
      by_cases d : p' = p ∧ f' < n ∧ G p' f' ≠ 0
      · rw [if_pos d, if_pos ⟨d.1, by omega, d.2.2⟩]
      · rw [if_neg d, if_neg (fun e => d ⟨e.1, by
          rcases Nat.lt_or_ge f' n with h | h
          · exact h
          · have : f' = n := by omega
            subst this
            rw [e.1] at e
            exact absurd c e.2.2, e.2.2⟩)]
    · rw [if_neg c]
      show rC (va_up _ _ _) p' f' = _
      rw [rC_put (by omega) hf']
      by_cases d : p' = p ∧ f' = n
      · rw [if_pos d, if_pos ⟨d.1, by omega, by rw [d.1, d.2]; exact c⟩, d.1, d.2]
      · rw [if_neg d, ih]
        by_cases e : p' = p ∧ f' < n ∧ G p' f' ≠ 0
        · rw [if_pos e, if_pos ⟨e.1, by omega, e.2.2⟩]
        · rw [if_neg e, if_neg (fun r => e ⟨r.1, by have := r.2.1; have h2 : f' ≠ n := fun q => d ⟨r.1, q⟩; omega, r.2.2⟩)]
theorem wvO_at {G : Nat → Nat → Nat} {F : Nat} {q : (Nat → Nat) × Nat} {p' f' : Nat} (hF : F ≤ 10) (hf' : f' < 10) : ∀ n, rC (wvO G F q n).1 p' f' = if p' < n ∧ f' < F ∧ G p' f' ≠ 0 then G p' f' else rC q.1 p' f' := by
  intro n
  induction n with
  | zero => rw [if_neg (by omega)]; rfl
  | succ n ih =>
    rw [wvO, wvI_at hf' F hF, ih]
    by_cases d : p' = n ∧ f' < F ∧ G p' f' ≠ 0
    · rw [if_pos d, if_pos ⟨by omega, d.2⟩]
    · rw [if_neg d]
      by_cases e : p' < n ∧ f' < F ∧ G p' f' ≠ 0
      · rw [if_pos e, if_pos ⟨by omega, e.2⟩]
      · rw [if_neg e, if_neg (fun r => by
          have : p' = n ∨ p' < n := by omega
          rcases this with h | h
          · exact d ⟨h, r.2⟩
          · exact e ⟨h, r.2⟩)]
theorem wvI_cnt {G : Nat → Nat → Nat} {q : (Nat → Nat) × Nat} {p : Nat} : ∀ n, (wvI G q p n).2 = q.2 + fb_ct (fun f => decide (G p f ≠ 0)) n := by
  intro n
  induction n with
  | zero => rfl
  | succ n ih =>
    rw [wvI, fb_ct_succ]
    unfold wv1
    by_cases c : G p n = 0
    · rw [if_pos c, ih, if_neg (by simpa using c)]
      rfl
    · rw [if_neg c, if_pos (by simpa using c)]
      show (wvI G q p n).2 + 1 = _
      rw [ih]
      omega
theorem wvO_cnt {G : Nat → Nat → Nat} {F : Nat} {q : (Nat → Nat) × Nat} : ∀ n, (wvO G F q n).2 = q.2 + fb_sm (fun p => fb_ct (fun f => decide (G p f ≠ 0)) F) n := by
  intro n
  induction n with
  | zero => rfl
  | succ n ih => rw [wvO, wvI_cnt, ih, fb_sm_succ]; omega
/-- broken copies -/
def bC (A : Nat → Nat) : Nat := fb_sm (fun p => fb_ct (fun f => cBrk (rC A p f)) (A 1)) (A 2)
theorem cBrk_lt {c : Nat} (h : c < 131072) : cBrk c = false := by
  unfold cBrk
  have : c &&& 131072 = 0 := by
    refine Nat.eq_of_testBit_eq fun i => ?_
    rw [Nat.testBit_and, Nat.zero_testBit, show (131072 : Nat) = 2 ^ 17 from rfl, Nat.testBit_two_pow]
    by_cases e : 17 = i
    · rw [← e, Nat.testBit_lt_two_pow (show c < 2 ^ 17 from h), Bool.false_and]
    · rw [decide_eq_false e, Bool.and_false]
  rw [this]
  rfl
theorem wvA_lo {A : Nat → Nat} {k : Nat} (hk : k < 125) (h3 : k ≠ 3) : (wvA A).1 k = A k := (va_up_ne _ _ h3).trans (wvO_lo hk _)
theorem wvA_at {A : Nat → Nat} {p f : Nat} (hN : A 1 ≤ 10) (hf : f < 10) : rC (wvA A).1 p f = if p < A 2 ∧ f < A 1 ∧ wvG A p f ≠ 0 then wvG A p f else rC A p f := by
  have : rC (wvA A).1 p f = rC (wvO (wvG A) (A 1) (A, 0) (A 2)).1 p f := va_up_ne _ _ (by omega)
  rw [this, wvO_at hN hf]
theorem fb_sm_add9 {f g k : Nat → Nat} : ∀ {n : Nat}, (∀ i, i < n → f i + g i = k i) → fb_sm f n + fb_sm g n = fb_sm k n := by
  intro n
  induction n with
  | zero => intro _; rfl
  | succ n ih =>
    intro h
    have h1 := ih (fun i hi => h i (by omega))
    have h2 := h n (by omega)
    rw [fb_sm_succ, fb_sm_succ, fb_sm_succ]
    omega
theorem fb_ct_add9 {f g k : Nat → Bool} : ∀ {n : Nat}, (∀ i, i < n → (f i).toNat + (g i).toNat = (k i).toNat) → fb_ct f n + fb_ct g n = fb_ct k n := by
  intro n
  induction n with
  | zero => intro _; rfl
  | succ n ih =>
    intro h
    have h1 := ih (fun i hi => h i (by omega))
    have h2 := h n (by omega)
    have e : ∀ b : Bool, (if b = true then 1 else 0) = b.toNat := fun b => by cases b <;> rfl
    rw [fb_ct_succ, fb_ct_succ, fb_ct_succ, e, e, e]
    omega
theorem bC_wave {A : Nat → Nat} (hN : A 1 ≤ 10) : bC (wvA A).1 + (wvA A).2 = bC A := by
  have e1 : (wvA A).1 1 = A 1 := wvA_lo (by decide) (by decide)
  have e2 : (wvA A).1 2 = A 2 := wvA_lo (by decide) (by decide)
  have e3 : (wvA A).2 = fb_sm (fun p => fb_ct (fun f => decide (wvG A p f ≠ 0)) (A 1)) (A 2) := by
    show (wvO (wvG A) (A 1) (A, 0) (A 2)).2 = _
    rw [wvO_cnt, Nat.zero_add]
  unfold bC
  rw [e1, e2, e3]
  refine fb_sm_add9 fun p hp => fb_ct_add9 fun f hf => ?_
  rw [wvA_at hN (by omega)]
  by_cases c : wvG A p f = 0
  · rw [if_neg (fun q => q.2.2 c), decide_eq_false (fun q => q c)]
    rfl
  · rw [if_pos ⟨hp, hf, c⟩, decide_eq_true c, cBrk_lt (wvG_lt A p f)]
    have : cBrk (rC A p f) = true := by
      unfold wvG at c
      split at c
      · rename_i d
        unfold mCan at d
        rw [Bool.and_eq_true] at d
        exact d.1
      · exact absurd rfl c
    rw [this]
    rfl
theorem bC_le {A : Nat → Nat} (hN : A 1 ≤ 10) (hK : A 2 ≤ 12) : bC A ≤ 120 := by
  have h1 : bC A ≤ A 2 * 10 := fb_sm_bound fun p _ => Nat.le_trans (fb_ct_le _ _) hN
  omega
theorem mwS_lo {A : Nat → Nat} {k : Nat} (hk : k < 125) (h3 : k ≠ 3) : ∀ i, mwS A i k = A k := by
  intro i
  induction i with
  | zero => rfl
  | succ i ih => rw [mwS, wvA_lo hk h3, ih]
theorem mwS_rK {A : Nat → Nat} {n : Nat} (h : rK A n) : ∀ i, n + 120 * i < 2 ^ 23 → rK (mwS A i) (n + 120 * i) := by
  intro i
  induction i with
  | zero => intro _; exact h
  | succ i ih =>
    intro hn
    exact wvA_rK (ih (by omega)) (by omega)
theorem mwN_zero {A : Nat → Nat} {n : Nat} (h : rK A n) : mwC A (mwN A) = 0 := by
  have hN : A 1 ≤ 10 := h.2.2 1 (by decide)
  have hK : A 2 ≤ 12 := h.2.2 2 (by decide)
  have hle : mwN A ≤ 120 := fa_first_le _ _
  have dec : ∀ i, i ≤ mwN A → bC (mwS A i) + i ≤ 120 := by
    intro i
    induction i with
    | zero => intro _; exact bC_le hN hK
    | succ i ih =>
      intro hi
      have h1 := ih (by omega)
      have h2 := bC_wave (A := mwS A i) (by rw [mwS_lo (by decide) (by decide)]; exact hN)
      have h3 : mwC A i ≠ 0 := by
        have := fa_first_no (fun k => mwC A k == 0) 120 i hi
        intro e
        simp [e] at this
      have h4 : (wvA (mwS A i)).2 ≠ 0 := h3
      rw [mwS]
      omega
  by_cases c : mwN A < 120
  · exact eq_of_beq (fa_first_yes (fun k => mwC A k == 0) 120 c)
  · have h1 := dec (mwN A) (Nat.le_refl _)
    have h2 := bC_wave (A := mwS A (mwN A)) (by rw [mwS_lo (by decide) (by decide)]; exact hN)
    unfold mwC
    omega
theorem wvMs_row {s : Mo} : ∀ k, (wvMs s k).1 0 = mwS (s.1 0) k := by
  intro k
  induction k with
  | zero => rfl
  | succ k ih =>
    show (wvA ((wvMs s k).1 0)).1 = _
    rw [ih]
    rfl
theorem wvMs_frm {s s0 : Mo} (h : mFrm s0 s) : ∀ k, mFrm s0 (wvMs s k) := by
  intro k
  induction k with
  | zero => exact h
  | succ k ih => exact ih.tr ⟨rfl, rfl, rfl, rfl, rfl, rfl, rfl, rfl, rfl, rfl, rfl⟩
theorem wvMs_9 {s : Mo} (h : s.2.1 9 = 0) : ∀ k, (wvMs s k).2.1 9 = k := by
  intro k
  cases k with
  | zero => exact h
  | succ k => rfl
section M22
variable {g : xG} {l : Launch} {h : xH} {m : Nat} {s : Mo}
/-- how the waves end: how many, what is lost -/
def twS (s s' : Mo) : Prop := mSame s s' ∧ s'.2.1 1 = 0 ∧ s'.2.1 9 = mwN (s.1 0) ∧ s'.2.1 10 = mAll (mwS (s.1 0) (mwN (s.1 0) + 1)) 2
theorem c_mTriesWaves {n : Nat} (hw : rK (s.1 0) n) (hn : n + 20000 < 2 ^ 23) : xMet g l mX6_triesWaves 6 0 0 [.ref m] (putMod h m s) (fun r h' => r = none ∧ ∃ s', h' = putMod h m s' ∧ twS s s') xno := by
  have hle : mwN (s.1 0) ≤ 120 := fa_first_le _ _
  have hz := mwN_zero hw
  have hno : ∀ i, i < mwN (s.1 0) → mwC (s.1 0) i ≠ 0 := fun i hi e => by
    have := fa_first_no (fun k => mwC (s.1 0) k == 0) 120 i hi
    simp [e] at this
  unfold twS
  generalize mwN (s.1 0) = K at hle hz hno ⊢
  obtain ⟨s0, hs0⟩ : ∃ s0, s0 = mN (trM (mN s 1 0)) 9 0 := ⟨_, rfl⟩
  have r0 : s0.1 0 = s.1 0 := by rw [hs0]; rfl
  have f0 : mFrm (trM (mN s 1 0)) s0 := by rw [hs0]; exact ⟨rfl, rfl, rfl, rfl, rfl, rfl, rfl, rfl, rfl, rfl, rfl⟩
  have n0 : s0.2.1 9 = 0 := by rw [hs0]; rfl
  have row : ∀ k, (wvMs s0 k).1 0 = mwS (s.1 0) k := fun k => by rw [wvMs_row, r0]
  have wv : ∀ k, k ≤ 120 → xDet g l mX6_waves1 5 0 0 [.ref m] (putMod h m (wvMs s0 k)) (some (.int (nI (mwC (s.1 0) k)))) (putMod h m (wvM (wvMs s0 k))) := fun k hk => by
    have := c_mWaves1 (g := g) (l := l) (h := h) (m := m) (s := wvMs s0 k) (n := n + 120 * k) (by rw [row]; exact mwS_rK hw k (by omega)) (by omega)
    rw [row] at this
    exact this
  have hcn : ∀ k, k ≤ 120 → mwC (s.1 0) k ≤ 120 := fun k hk => by
    have h1 := bC_wave (A := mwS (s.1 0) k) (by rw [mwS_lo (by decide) (by decide)]; exact hw.2.2 1 (by decide))
    have h2 := bC_le (A := mwS (s.1 0) k) (by rw [mwS_lo (by decide) (by decide)]; exact hw.2.2 1 (by decide)) (by rw [mwS_lo (by decide) (by decide)]; exact hw.2.2 2 (by decide))
    unfold mwC
    omega
  refine xMet.of (V := [some (.ref m)]) moX6_triesWaves (Nat.le_of_ble_eq_true rfl) rfl ?_
  refine x_aload_n dX6_triesWaves_0 rfl ?_
  refine x_iconst (nI 0) dX6_triesWaves_1 (by decide) ?_
  refine xq_X6_thrown dX6_triesWaves_2 f_X6_49 ?_
  refine x_aload_n dX6_triesWaves_5 rfl ?_
  refine x_getf dX6_triesWaves_6 f_X6_16 putMod_at.o rfl ?_
  refine x_iconst (nI 0) dX6_triesWaves_9 (by decide) ?_
  refine x_aload_n dX6_triesWaves_10 rfl ?_
  refine x_getf dX6_triesWaves_11 f_X6_7 putMod_at.o rfl ?_
  refine x_iconst (nI 0) dX6_triesWaves_14 (by decide) ?_
  refine x_sv0 dX6_triesWaves_15 cS_X6_55 (c_try) rfl rfl ⟨⟨by decide, by decide⟩, by decide, by decide⟩ (Nat.le_of_ble_eq_true rfl) ?_
  refine x_aload_n dX6_triesWaves_18 rfl ?_
  refine x_iconst (nI 0) dX6_triesWaves_19 (by decide) ?_
  refine xq_X6_wavesMany dX6_triesWaves_20 f_X6_294 ?_
  rw [← hs0]
  refine xP.loop (fun i => [some (.ref m)]) (fun i => putMod h m (wvMs s0 i)) K ?_ ?_
  · intro i hi ih
    have hne := hno i hi
    have hc2 := hcn i (by omega)
    have h9 := wvMs_9 n0 i
    refine x_aload_n dX6_triesWaves_23 rfl ?_
    refine x_vi0 dX6_triesWaves_24 cV_X6_297 (wv i (by omega)) rfl rfl ⟨⟨by decide, by decide⟩, by decide, by decide⟩ (Nat.le_of_ble_eq_true rfl) (xrecv putMod_at.o rfl xcl5) ?_
    refine x_if_le_n 43 dX6_triesWaves_27 (by decide) (by omega) (fun c2 => ?_) (fun c2 => ?_)
    · omega
    · refine x_aload_n dX6_triesWaves_30 rfl ?_
      refine x_dup dX6_triesWaves_31 rfl ?_
      refine x_getf dX6_triesWaves_32 f_X6_294 putMod_at.o rfl ?_
      refine xP.eq (S' := [.int (nI i), .ref m]) rfl rfl (by show _ = [Value.int (nI ((wvMs s0 i).2.1 9)), _]; rw [h9]) rfl ?_
      refine x_iconst (nI 1) dX6_triesWaves_35 (by decide) ?_
      refine x_iadd_n dX6_triesWaves_36 ?_
      refine xq_X6_wavesMany dX6_triesWaves_37 f_X6_294 ?_
      refine xP.eq (h' := putMod h m (wvMs s0 (i + 1))) rfl rfl rfl rfl ?_
      refine x_goto 23 dX6_triesWaves_40 (by decide) ?_
      exact ih
  · have hc2 := hcn K hle
    have hS : rOk ((wvM (wvMs s0 K)).1 0) := by
      have e : (wvM (wvMs s0 K)).1 0 = mwS (s.1 0) (K + 1) := by
        show (wvA ((wvMs s0 K).1 0)).1 = _
        rw [row]
        rfl
      rw [e]
      exact (mwS_rK hw _ (by omega)).ok
    refine x_aload_n dX6_triesWaves_23 rfl ?_
    refine x_vi0 dX6_triesWaves_24 cV_X6_297 (wv _ hle) rfl rfl ⟨⟨by decide, by decide⟩, by decide, by decide⟩ (Nat.le_of_ble_eq_true rfl) (xrecv putMod_at.o rfl xcl5) ?_
    refine x_if_le_n 43 dX6_triesWaves_27 (by decide) (by omega) (fun c2 => ?_) (fun c2 => ?_)
    rotate_left
    · omega
    refine x_aload_n dX6_triesWaves_43 rfl ?_
    refine x_aload_n dX6_triesWaves_44 rfl ?_
    refine x_iconst (nI 2) dX6_triesWaves_45 (by decide) ?_
    refine x_vi0 dX6_triesWaves_46 cV_X6_241 (c_mAllOf putMod_at hS (show 2 < 4 by decide)) rfl rfl ⟨⟨by decide, by decide⟩, by decide, by decide⟩ (Nat.le_of_ble_eq_true rfl) (xrecv putMod_at.o rfl xcl5) ?_
    refine xq_X6_lostMany dX6_triesWaves_49 f_X6_300 ?_
    refine x_aload_n dX6_triesWaves_52 rfl ?_
    refine x_getf dX6_triesWaves_53 f_X6_7 putMod_at.o rfl ?_
    refine x_iconst (nI 0) dX6_triesWaves_56 (by decide) ?_
    refine x_aload_n dX6_triesWaves_57 rfl ?_
    refine x_getf dX6_triesWaves_58 f_X6_16 putMod_at.o rfl ?_
    refine x_iconst (nI 0) dX6_triesWaves_61 (by decide) ?_
    refine x_sv0 dX6_triesWaves_62 cS_X6_55 (c_bck) rfl rfl ⟨⟨by decide, by decide⟩, by decide, by decide⟩ (Nat.le_of_ble_eq_true rfl) ?_
    refine x_return dX6_triesWaves_65 rfl (by decide) (by decide) ⟨rfl, _, rfl, ?_, ?_, ?_, ?_⟩
    · exact tr_same (s := mN s 1 0) ((wvMs_frm f0 K).tr ⟨rfl, rfl, rfl, rfl, rfl, rfl, rfl, rfl, rfl, rfl, rfl⟩)
    · have := (wvMs_frm f0 K).2.2.2.2.2.2.2.2.2.2
      exact this
    · exact wvMs_9 n0 K
    · show mAll ((wvM (wvMs s0 K)).1 0) 2 = _
      show mAll (wvA ((wvMs s0 K).1 0)).1 2 = _
      rw [row]
      rfl
theorem c_mWaves {n : Nat} (hw : rK (s.1 0) n) (hn : n + 20000 < 2 ^ 23) : xMet g l mX6_waves 7 0 0 [.ref m] (putMod h m s) (mAns h m s 0 (nI (mwN (s.1 0)))) xno := by
  refine xMet.of (V := [some (.ref m)]) moX6_waves (Nat.le_of_ble_eq_true rfl) rfl ?_
  refine x_aload_n dX6_waves_0 rfl ?_
  refine x_callV dX6_waves_1 cV_X6_303 (c_mTriesWaves hw hn) rfl rfl ⟨⟨by decide, by decide⟩, by decide, by decide⟩ (Nat.le_of_ble_eq_true rfl) (xrecv putMod_at.o rfl xcl5) (fun _ _ q => q.elim) (fun v9 h9 q9 => ?_)
  obtain ⟨rfl, s', rfl, q1, q2, q3, q4⟩ := q9
  refine xP.eq (S' := []) rfl rfl rfl rfl ?_
  refine x_aload_n dX6_waves_4 rfl ?_
  refine x_getf dX6_waves_5 f_X6_294 putMod_at.o rfl ?_
  exact x_ireturn dX6_waves_8 rfl rfl (by decide) (by decide) ⟨s', by rw [q3], rfl, q1, q2⟩
theorem c_mLost {n : Nat} (hw : rK (s.1 0) n) (hn : n + 20000 < 2 ^ 23) : xMet g l mX6_lost 7 0 0 [.ref m] (putMod h m s) (mAns h m s 0 (nI (mAll (mwS (s.1 0) (mwN (s.1 0) + 1)) 2))) xno := by
  refine xMet.of (V := [some (.ref m)]) moX6_lost (Nat.le_of_ble_eq_true rfl) rfl ?_
  refine x_aload_n dX6_lost_0 rfl ?_
  refine x_callV dX6_lost_1 cV_X6_303 (c_mTriesWaves hw hn) rfl rfl ⟨⟨by decide, by decide⟩, by decide, by decide⟩ (Nat.le_of_ble_eq_true rfl) (xrecv putMod_at.o rfl xcl5) (fun _ _ q => q.elim) (fun v9 h9 q9 => ?_)
  obtain ⟨rfl, s', rfl, q1, q2, q3, q4⟩ := q9
  refine xP.eq (S' := []) rfl rfl rfl rfl ?_
  refine x_aload_n dX6_lost_4 rfl ?_
  refine x_getf dX6_lost_5 f_X6_300 putMod_at.o rfl ?_
  exact x_ireturn dX6_lost_8 rfl rfl (by decide) (by decide) ⟨s', by rw [q4], rfl, q1, q2⟩
end M22
