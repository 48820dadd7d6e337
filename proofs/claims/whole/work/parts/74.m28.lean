/-! ===== the model: a text is read: states ===== -/
/-- no copy beyond the pictures and families -/
def rZ (A : Nat → Nat) : Prop := ∀ p f, p < 12 → f < 10 → A 2 ≤ p ∨ A 1 ≤ f → rC A p f = 0
def rB (A : Nat → Nat) : Prop := (∀ k, k < 353 → A k ≤ cbd 0 k) ∧ rL A ∧ rZ A
def LI (s : Mo) : Prop := bOk s ∧ lxOk s ∧ (s.2.1 5 ≠ 3 → s.2.1 3 < s.2.1 4) ∧ rB (s.1 0) ∧ (s.2.2.1 0 = 0 → 4 ≤ s.1 0 0)
def LF (s s' : Mo) : Prop := (∀ j, j ≠ 0 → s'.1 j = s.1 j) ∧ (∀ j, j < 3 ∨ 7 < j → s'.2.1 j = s.2.1 j) ∧ s'.2.2.1 1 = s.2.2.1 1 ∧ s'.2.2.2 = s.2.2.2
def GG (s s' : Mo) : Prop := LI s' ∧ LF s s' ∧ (s'.2.2.1 0 = 0 → s.2.2.1 0 = 0) ∧ s.2.1 3 ≤ s'.2.1 3
theorem LF.rf (s : Mo) : LF s s := ⟨fun _ _ => rfl, fun _ _ => rfl, rfl, rfl⟩
theorem LF.tr {a b c : Mo} (h1 : LF a b) (h2 : LF b c) : LF a c := ⟨fun j hj => (h2.1 j hj).trans (h1.1 j hj), fun j hj => (h2.2.1 j hj).trans (h1.2.1 j hj), h2.2.2.1.trans h1.2.2.1, h2.2.2.2.trans h1.2.2.2⟩
theorem GG.rf {s : Mo} (h : LI s) : GG s s := ⟨h, LF.rf s, fun q => q, Nat.le_refl _⟩
theorem GG.tr {a b c : Mo} (h1 : GG a b) (h2 : GG b c) : GG a c := ⟨h2.1, h1.2.1.tr h2.2.1, fun q => h1.2.2.1 (h2.2.2.1 q), Nat.le_trans h1.2.2.2 h2.2.2.2⟩
theorem LI.ok {s : Mo} (h : LI s) (hw : s.2.2.1 0 = 0) : rK (s.1 0) 0 := ⟨by decide, h.2.2.2.2 hw, h.2.2.2.1.1⟩
theorem flS_LF (s : Mo) (c : Int32) : LF s (flS s c) := by
  unfold flS
  split
  · refine ⟨fun _ _ => rfl, fun j hj => va_up_ne _ _ (by omega), rfl, rfl⟩
  · exact LF.rf s
theorem flS_wr {s : Mo} {c : Int32} (hc : c ≠ 0) : ¬ (flS s c).2.2.1 0 = 0 := by
  unfold flS
  split
  · show ¬ va_up s.2.2.1 0 c 0 = 0
    rw [va_upE]
    exact hc
  · assumption
theorem flS_same {s : Mo} {c : Int32} : (flS s c).1 = s.1 ∧ (flS s c).2.1 2 = s.2.1 2 ∧ (flS s c).2.1 3 = s.2.1 3 ∧ (flS s c).2.1 4 = s.2.1 4 ∧ (flS s c).2.1 5 = s.2.1 5 ∧ (flS s c).2.1 6 = s.2.1 6 := by
  unfold flS
  split
  · exact ⟨rfl, rfl, rfl, rfl, rfl, rfl⟩
  · exact ⟨rfl, rfl, rfl, rfl, rfl, rfl⟩
theorem g_fl {s : Mo} {c : Int32} (h : LI s) (hc : c ≠ 0) : GG s (flS s c) := by
  obtain ⟨h1, h2, h3, h4, h5⟩ := h
  have k := flS_ok (c := c) h1 h2
  obtain ⟨e1, e2, e3, e4, e5, e6⟩ := flS_same (s := s) (c := c)
  exact ⟨⟨k.1, k.2, by rw [e3, e4, e5]; exact h3, by rw [e1]; exact h4, fun q => absurd q (flS_wr hc)⟩, flS_LF s c, fun q => absurd q (flS_wr hc), by rw [e3]; exact Nat.le_refl _⟩
theorem lexS_form (s : Mo) (p : Nat) : ∃ a b k n, lexS s p = mk4 s a b k n ∧ a = skp (s.1 5) (s.2.1 2) p ∧ (s.2.1 2 ≤ 600 → p ≤ 600 → p ≤ a ∧ a ≤ b ∧ b ≤ 600 ∧ k < 4 ∧ n ≤ 1000 ∧ (k ≠ 3 → a < b)) := by
  have sk := runF_le (fun i => isSp (s.1 5 i)) (s.2.1 2 - p) p
  have hk : skp (s.1 5) (s.2.1 2) p = runF (fun i => isSp (s.1 5 i)) (s.2.1 2 - p) p := rfl
  rw [← hk] at sk
  unfold lexS
  dsimp only
  generalize skp (s.1 5) (s.2.1 2) p = k at sk ⊢
  have hw := runF_le (fun i => isLt (s.1 5 i)) (s.2.1 2 - k) k
  have hwk : wEnd (s.1 5) (s.2.1 2) k = runF (fun i => isLt (s.1 5 i)) (s.2.1 2 - k) k := rfl
  have hd := dgF_le (b := s.1 5) (s.2.1 2 - k) k 0
  split
  · exact ⟨_, _, _, _, rfl, rfl, fun h1 h2 => ⟨sk.1, Nat.le_refl _, by omega, by decide, by decide, fun q => absurd rfl q⟩⟩
  · rename_i c1
    split
    · rename_i c2
      refine ⟨_, _, _, _, rfl, rfl, fun h1 h2 => ⟨sk.1, by rw [hwk]; omega, by rw [hwk]; omega, by decide, by decide, fun _ => ?_⟩⟩
      unfold ltAt at c2
      rw [Bool.and_eq_true] at c2
      rw [hwk]
      obtain ⟨d, hd2⟩ : ∃ d, s.2.1 2 - k = d + 1 := ⟨s.2.1 2 - k - 1, by omega⟩
      rw [hd2, runF, if_pos c2.2]
      have := (runF_le (fun i => isLt (s.1 5 i)) d (k + 1)).1
      omega
    · split
      · rename_i c2 c3
        refine ⟨_, _, _, _, rfl, rfl, fun h1 h2 => ⟨sk.1, hd.1, by omega, by decide, by omega, fun _ => ?_⟩⟩
        unfold digAt at c3
        rw [Bool.and_eq_true] at c3
        obtain ⟨d, hd2⟩ : ∃ d, s.2.1 2 - k = d + 1 := ⟨s.2.1 2 - k - 1, by omega⟩
        rw [hd2, dgF_yes c3.2]
        have := (dgF_le (b := s.1 5) d (k + 1) (min (10 * 0 + (s.1 5 k - 48)) 1000)).1
        omega
      · exact ⟨_, _, _, _, rfl, rfl, fun h1 h2 => ⟨sk.1, by omega, by omega, by decide, by decide, fun _ => by omega⟩⟩
theorem lex_LF (s : Mo) (p : Nat) : LF s (lexS s p) := by
  obtain ⟨a, b, k, n, e, -, -⟩ := lexS_form s p
  rw [e]
  refine ⟨fun _ _ => rfl, fun j hj => ?_, rfl, rfl⟩
  show (if j = 3 then a else if j = 4 then b else if j = 5 then k else if j = 6 then n else s.2.1 j) = s.2.1 j
  rw [if_neg (by omega), if_neg (by omega), if_neg (by omega), if_neg (by omega)]
theorem lex_row (s : Mo) (p : Nat) : (lexS s p).1 = s.1 ∧ (lexS s p).2.2 = s.2.2 := by
  obtain ⟨a, b, k, n, e, -, -⟩ := lexS_form s p
  rw [e]
  exact ⟨rfl, rfl⟩
/-- behind a token -/
theorem g_lex0 {s : Mo} (hb : bOk s) (h4 : s.2.1 4 ≤ 600) (hr : rB (s.1 0)) (hw : s.2.2.1 0 = 0 → 4 ≤ s.1 0 0) : LI (lexS s (s.2.1 4)) ∧ s.2.1 4 ≤ (lexS s (s.2.1 4)).2.1 3 := by
  obtain ⟨a, b, k, n, e, -, hh⟩ := lexS_form s (s.2.1 4)
  obtain ⟨k1, k2, k3, k4, k5, k6⟩ := hh hb.2 h4
  rw [e]
  exact ⟨⟨hb, ⟨k2, k3, k4, k5⟩, k6, hr, hw⟩, k1⟩
theorem g_lex {s : Mo} (h : LI s) : GG s (lexS s (s.2.1 4)) ∧ s.2.1 4 ≤ (lexS s (s.2.1 4)).2.1 3 := by
  obtain ⟨h1, h2, h3, h4, h5⟩ := h
  have k := g_lex0 h1 h2.2.1 h4 h5
  exact ⟨⟨k.1, lex_LF s _, fun q => by rw [(lex_row s _).2] at q; exact q, Nat.le_trans h2.1 k.2⟩, k.2⟩
theorem g_nx {s : Mo} (h : LI s) : GG s (nxS s) ∧ ((nxS s).2.2.1 0 = 0 → s.2.1 4 ≤ (nxS s).2.1 3) := by
  unfold nxS
  split
  · exact ⟨(g_lex h).1, fun _ => (g_lex h).2⟩
  · exact ⟨GG.rf h, fun q => absurd q (by assumption)⟩
theorem g_mu {s : Mo} (h : LI s) (r : Bool) : GG s (muS r s) ∧ ((muS r s).2.2.1 0 = 0 → r = true ∧ s.2.1 4 ≤ (muS r s).2.1 3) := by
  unfold muS
  cases r with
  | true =>
    rw [if_pos rfl]
    exact ⟨(g_nx h).1, fun q => ⟨rfl, (g_nx h).2 q⟩⟩
  | false =>
    rw [if_neg (by decide)]
    have k := g_fl (c := -2) h (by decide)
    have k2 := g_nx k.1
    exact ⟨k.tr k2.1, fun q => absurd (k2.1.2.2.1 q) (flS_wr (by decide))⟩
theorem g_mn {s : Mo} (h : LI s) : GG s (mnS s) := by
  unfold mnS
  split
  · exact g_fl h (by decide)
  · exact GG.rf h
theorem g_st {s : Mo} (h : LI s) (lo hi : Nat) : GG s (stS lo hi s) := by
  have k1 : GG s (st1 s) := by
    unfold st1
    split
    · exact g_fl h (by decide)
    · exact GG.rf h
  have k2 : GG (st1 s) (st2 lo hi (st1 s)) := by
    unfold st2
    split
    · exact g_fl k1.1 (by decide)
    · exact GG.rf k1.1
  exact k1.tr k2
theorem st_val {s : Mo} {lo hi : Nat} (hlo : lo < 2 ^ 31) (hhi : hi < 2 ^ 31) (hn : s.2.1 6 ≤ 1000) : stV (stS lo hi s) ≤ hi ∧ ((stS lo hi s).2.2.1 0 = 0 → lo ≤ stV (stS lo hi s)) := by
  have e6 : (stS lo hi s).2.1 6 = s.2.1 6 := by
    have a1 : (st1 s).2.1 6 = s.2.1 6 := by
      unfold st1
      split
      · exact flS_same.2.2.2.2.2
      · rfl
    show (st2 lo hi (st1 s)).2.1 6 = _
    unfold st2
    split
    · exact flS_same.2.2.2.2.2.trans a1
    · exact a1
  have ew : (stS lo hi s).2.2.1 0 = 0 → isInB (nI (s.2.1 6)) (nI lo) (nI hi) = true := by
    intro q
    have a1 : (st1 s).2.1 6 = s.2.1 6 := by
      unfold st1
      split
      · exact flS_same.2.2.2.2.2
      · rfl
    cases hc : isInB (nI (s.2.1 6)) (nI lo) (nI hi) with
    | true => rfl
    | false =>
      exfalso
      change (st2 lo hi (st1 s)).2.2.1 0 = 0 at q
      unfold st2 at q
      rw [a1, hc] at q
      by_cases c : (st1 s).2.2.1 0 = 0
      · rw [if_pos ⟨c, rfl⟩] at q
        exact flS_wr (by decide) q
      · rw [if_neg (fun z => c z.1)] at q
        exact c q
  unfold stV
  split
  · rename_i c
    have h1 := ew c
    rw [isIn_gen hlo hhi, decide_eq_true_eq, ix_nI (by omega)] at h1
    rw [e6]
    exact ⟨h1.2, fun _ => h1.1⟩
  · exact ⟨Nat.zero_le _, fun q => absurd q (by assumption)⟩
theorem g_fh {s : Mo} (h : LI s) : GG s (fhS s) ∧ ((fhS s).2.2.1 0 = 0 → ∃ f, fhV s = some f ∧ f < s.1 0 1) := by
  have k := g_mn h
  have ev : fhV s = namedV (mnS s) 9 (s.1 0 1) 12 := rfl
  unfold fhS
  rw [← ev]
  cases hv : fhV s with
  | none =>
    rw [if_pos rfl]
    exact ⟨k.tr (g_fl k.1 (by decide)), fun q => absurd q (flS_wr (by decide))⟩
  | some f =>
    rw [if_neg (by simp)]
    exact ⟨k, fun q => ⟨f, rfl, namedV_lt (ev.symm.trans hv)⟩⟩
theorem g_row {s : Mo} (h : LI s) {A : Nat → Nat} (h1 : rB A) (h2 : s.2.2.1 0 = 0 → 4 ≤ A 0) : GG s (mR s 0 A) := by
  obtain ⟨k1, k2, k3, k4, k5⟩ := h
  exact ⟨⟨k1, k2, k3, h1, h2⟩, ⟨fun j hj => va_up_ne _ _ hj, fun _ _ => rfl, rfl, rfl⟩, fun q => q, Nat.le_refl _⟩
/-! rows of a text -/
theorem rB.lim {A : Nat → Nat} (h : rB A) : A 1 ≤ 10 ∧ A 2 ≤ 12 := ⟨h.1 1 (by decide), h.1 2 (by decide)⟩
/-- a number below the copies, that is no count and no room of a family that is there -/
theorem rB.up {A : Nat → Nat} (h : rB A) {k x : Nat} (hk : k < 353) (hx : x ≤ cbd 0 k) (h1 : k ≠ 1 ∧ k ≠ 2) (h2 : ∀ f, f < A 1 → k ≠ 5 + 12 * f + 0) (h3 : ∀ p f, p < 12 → f < 10 → k ≠ 125 + 19 * p + 9 + f) : rB (va_up A k x) := by
  have e1 : va_up A k x 1 = A 1 := va_up_ne _ _ (fun q => h1.1 q.symm)
  have e2 : va_up A k x 2 = A 2 := va_up_ne _ _ (fun q => h1.2 q.symm)
  have ec : ∀ p f, p < 12 → f < 10 → rC (va_up A k x) p f = rC A p f := fun p f hp hf => va_up_ne _ _ (fun q => h3 p f hp hf q.symm)
  have hl := h.lim
  refine ⟨fun j hj => ?_, fun f hf => ?_, fun p f hp hf hc => ?_⟩
  · by_cases e : j = k
    · rw [e, va_upE]; exact hx
    · rw [va_up_ne _ _ e]; exact h.1 j hj
  · rw [e1] at hf
    have e3 : rF (va_up A k x) f 0 = rF A f 0 := va_up_ne _ _ (fun q => h2 f hf q.symm)
    rw [e3]
    have e4 : mCop (va_up A k x) f 0 = mCop A f 0 := by
      unfold mCop
      rw [e2]
      exact fb_ct_cong fun p hp => by rw [ec p f (by omega) (by omega)]
    rw [e4]
    exact h.2.1 f hf
  · rw [e1, e2] at hc
    rw [ec p f hp hf]
    exact h.2.2 p f hp hf hc
theorem rB.fam1 {A : Nat → Nat} (h : rB A) (hN : A 1 < 10) : rB (va_up A 1 (A 1 + 1)) := by
  have e1 : va_up A 1 (A 1 + 1) 1 = A 1 + 1 := va_upE _ _ _
  have e2 : va_up A 1 (A 1 + 1) 2 = A 2 := va_up_ne _ _ (by decide)
  have ec : ∀ p f, rC (va_up A 1 (A 1 + 1)) p f = rC A p f := fun p f => va_up_ne _ _ (by omega)
  have hl := h.lim
  refine ⟨fun j hj => ?_, fun f hf => ?_, fun p f hp hf hc => ?_⟩
  · by_cases e : j = 1
    · rw [e, va_upE]; show A 1 + 1 ≤ 10; omega
    · rw [va_up_ne _ _ e]; exact h.1 j hj
  · rw [e1] at hf
    have e3 : rF (va_up A 1 (A 1 + 1)) f 0 = rF A f 0 := va_up_ne _ _ (by omega)
    have e4 : mCop (va_up A 1 (A 1 + 1)) f 0 = mCop A f 0 := by
      unfold mCop
      rw [e2]
      exact fb_ct_cong fun p hp => by rw [ec p f]
    rw [e3, e4]
    rcases Nat.lt_or_ge f (A 1) with c | c
    · exact h.2.1 f c
    · have : mCop A f 0 = 0 := by
        unfold mCop
        refine fb_ct_zero.mpr fun p hp => ?_
        rw [h.2.2 p f (by omega) (by omega) (Or.inr c)]
        rfl
      rw [this]
      exact Nat.zero_le _
  · rw [ec]
    rw [e1, e2] at hc
    exact h.2.2 p f hp hf (by omega)
theorem rB.pic1 {A : Nat → Nat} (h : rB A) (hN : A 2 < 12) : rB (va_up A 2 (A 2 + 1)) := by
  have e1 : va_up A 2 (A 2 + 1) 2 = A 2 + 1 := va_upE _ _ _
  have e2 : va_up A 2 (A 2 + 1) 1 = A 1 := va_up_ne _ _ (by decide)
  have ec : ∀ p f, rC (va_up A 2 (A 2 + 1)) p f = rC A p f := fun p f => va_up_ne _ _ (by omega)
  have hl := h.lim
  refine ⟨fun j hj => ?_, fun f hf => ?_, fun p f hp hf hc => ?_⟩
  · by_cases e : j = 2
    · rw [e, va_upE]; show A 2 + 1 ≤ 12; omega
    · rw [va_up_ne _ _ e]; exact h.1 j hj
  · rw [e2] at hf
    have e3 : rF (va_up A 2 (A 2 + 1)) f 0 = rF A f 0 := va_up_ne _ _ (by omega)
    have e4 : mCop (va_up A 2 (A 2 + 1)) f 0 = mCop A f 0 := by
      unfold mCop
      rw [e1, fb_ct_succ]
      have : cSort (rC (va_up A 2 (A 2 + 1)) (A 2) f) 0 = false := by
        rw [ec, h.2.2 (A 2) f hN (by omega) (Or.inl (Nat.le_refl _))]
        rfl
      rw [this, if_neg (by decide), Nat.add_zero]
      exact fb_ct_cong fun p hp => by rw [ec p f]
    rw [e3, e4]
    exact h.2.1 f hf
  · rw [ec]
    rw [e1, e2] at hc
    exact h.2.2 p f hp hf (by omega)
/-- a copy of a picture gets a new number; if it had none there was room -/
theorem rB.copy {A : Nat → Nat} (h : rB A) {p f x : Nat} (hp : p < A 2) (hf : f < A 1) (hx : x < 262144) (h0 : x ≠ 0) (hl9 : rC A p f = 0 → 0 < mLeft A f) : rB (va_up A (125 + 19 * p + 9 + f) x) := by
  have hl := h.lim
  have e1 : va_up A (125 + 19 * p + 9 + f) x 1 = A 1 := va_up_ne _ _ (by omega)
  have e2 : va_up A (125 + 19 * p + 9 + f) x 2 = A 2 := va_up_ne _ _ (by omega)
  refine ⟨fun j hj => ?_, fun f' hf' => ?_, fun p' f' hp' hf' hc => ?_⟩
  · by_cases e : j = 125 + 19 * p + 9 + f
    · rw [e, va_upE, cbd_c (by omega) (by omega)]; omega
    · rw [va_up_ne _ _ e]; exact h.1 j hj
  · rw [e1] at hf'
    rw [rF_put (by omega) (by decide)]
    have hq := h.2.1 f' hf'
    have hcnt : mCop (va_up A (125 + 19 * p + 9 + f) x) f' 0 ≤ mCop A f' 0 + (if f' = f ∧ rC A p f = 0 then 1 else 0) := by
      unfold mCop
      rw [e2]
      by_cases e : f' = f
      · subst e
        have k1 := fb_ct_upd (fun q => cSort (rC A q f') 0) true hp
        have k2 : (fun k => if k = p then true else (fun q => cSort (rC A q f') 0) k) = fun q => cSort (rC (va_up A (125 + 19 * p + 9 + f') x) q f') 0 := by
          funext k
          rw [rC_put (by omega) (by omega)]
          by_cases c : k = p
          · rw [if_pos c, if_pos ⟨c, rfl⟩]
            show true = cSort x 0
            unfold cSort
            rw [if_pos rfl]
            exact (decide_eq_true h0).symm
          · rw [if_neg c, if_neg (fun q => c q.1)]
        rw [k2] at k1
        by_cases z : rC A p f' = 0
        · rw [if_pos ⟨rfl, z⟩]
          have : cSort (rC A p f') 0 = false := by rw [z]; rfl
          rw [this] at k1
          simp at k1
          omega
        · rw [if_neg (fun q => z q.2)]
          have : cSort (rC A p f') 0 = true := by unfold cSort; rw [if_pos rfl]; exact decide_eq_true z
          rw [this] at k1
          simp at k1
          omega
      · rw [if_neg (fun q => e q.1)]
        exact Nat.le_of_eq (fb_ct_cong fun k _ => by rw [rC_put (by omega) (by omega), if_neg (fun q => e q.2)])
    by_cases c : f' = f ∧ rC A p f = 0
    · rw [if_pos c] at hcnt
      have := hl9 c.2
      unfold mLeft at this
      rw [← c.1] at this
      omega
    · rw [if_neg c] at hcnt
      omega
  · rw [e1, e2] at hc
    rw [rC_put (by omega) hf', if_neg (by omega)]
    exact h.2.2 p' f' hp' hf' hc
theorem rB.name {A : Nat → Nat} (h : rB A) {to : Nat} {g : Nat → Nat} (hg : ∀ k, k < 8 → g k ≤ 255) (hto : (∃ f, f < 10 ∧ to = 5 + 12 * f + 4) ∨ ∃ p, p < 12 ∧ to = 125 + 19 * p + 1) : rB (cpT A g to 0 8) := by
  have key : ∀ n, n ≤ 8 → rB (cpT A g to 0 n) := by
    intro n
    induction n with
    | zero => intro _; rw [cpT_0]; exact h
    | succ n ih =>
      intro hn
      rw [← cpT_up]
      have hx : g (0 + n) ≤ 255 := hg _ (by omega)
      rcases hto with ⟨f, hf, rfl⟩ | ⟨p, hp, rfl⟩
      · refine (ih (by omega)).up (by omega) ?_ (by omega) (fun f' _ => by omega) (fun p' f' _ _ => by omega)
        have := cbd_f (n := 0) hf (i := 4 + n) (by omega)
        rw [show 5 + 12 * f + 4 + n = 5 + 12 * f + (4 + n) by omega, this, if_neg (by omega), if_neg (by omega), if_neg (by omega)]
        exact hx
      · refine (ih (by omega)).up (by omega) ?_ (by omega) (fun f' _ => by have := (ih (by omega)).lim; omega) (fun p' f' _ _ => by omega)
        have := cbd_p (n := 0) hp (i := 1 + n) (by omega)
        rw [show 125 + 19 * p + 1 + n = 125 + 19 * p + (1 + n) by omega, this, if_neg (by omega)]
        exact hx
  exact key 8 (Nat.le_refl _)
