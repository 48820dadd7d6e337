/-! ===== the model: harm, join, leave ===== -/
def lv1 (A : Nat → Nat) (f i : Nat) : Nat → Nat := fun k => if 5 + 12 * f ≤ k ∧ k < i then A (k + 12) else A k
def lv2 (B : Nat → Nat) (f p j : Nat) : Nat → Nat := fun k => if 125 ≤ k ∧ 9 + f ≤ (k - 125) % 19 ∧ ((k - 125) / 19 < p ∨ ((k - 125) / 19 = p ∧ (k - 125) % 19 < 9 + j)) then (if (k - 125) % 19 = 18 then 0 else B (k + 1)) else B k
def lv4 (C : Nat → Nat) (f : Nat) : Nat → Nat → Nat
  | 0 => C
  | n + 1 => va_up (lv4 C f n) (5 + 12 * n + 3) (mWo (rF (lv4 C f n) n 3) f)
def lvB (A : Nat → Nat) (f : Nat) : Nat → Nat := va_up (lv2 (lv1 A f 113) f (A 2) 0) 1 (A 1 - 1)
def lvA (A : Nat → Nat) (f : Nat) : Nat → Nat := lv4 (lvB A f) f (A 1 - 1)
def leaveM (A : Nat → Nat) (f : Int32) : Ms := if okB f (A 1) = true then (if A 1 = 2 then (0, -17, none) else (0, nI (mCop A (ix f) 0), some (lvA A (ix f)))) else (1, 0, none)
theorem lv1_up (A : Nat → Nat) (f i : Nat) (hi : 5 + 12 * f ≤ i) : va_up (lv1 A f i) i (A (i + 12)) = lv1 A f (i + 1) := by
  funext k
  unfold va_up lv1
  by_cases e : k = i
  · subst e
    rw [if_pos rfl, if_pos (by omega)]
  · rw [if_neg e]
    by_cases c : 5 + 12 * f ≤ k ∧ k < i
    · rw [if_pos c, if_pos (by omega)]
    · rw [if_neg c, if_neg (by omega)]
theorem lv1_at (A : Nat → Nat) (f i : Nat) : lv1 A f i (i + 12) = A (i + 12) := by
  unfold lv1
  rw [if_neg (by omega)]
theorem lv1_hi {A : Nat → Nat} {f k : Nat} (h : k < 5 ∨ 113 ≤ k) : lv1 A f 113 k = A k := by
  unfold lv1
  rw [if_neg (by omega)]
theorem lv2_up (B : Nat → Nat) {f p j : Nat} (hf : f ≤ j) (hj : j < 9) : va_up (lv2 B f p j) (125 + 19 * p + 9 + j) (B (125 + 19 * p + 9 + (j + 1))) = lv2 B f p (j + 1) := by
  funext k
  unfold va_up lv2
  by_cases e : k = 125 + 19 * p + 9 + j
  · rw [if_pos e, if_pos (by omega), if_neg (by omega)]
    congr 1
    omega
  · rw [if_neg e]
    by_cases c : 125 ≤ k ∧ 9 + f ≤ (k - 125) % 19 ∧ ((k - 125) / 19 < p ∨ ((k - 125) / 19 = p ∧ (k - 125) % 19 < 9 + j))
    · rw [if_pos c, if_pos (show 125 ≤ k ∧ 9 + f ≤ (k - 125) % 19 ∧ ((k - 125) / 19 < p ∨ ((k - 125) / 19 = p ∧ (k - 125) % 19 < 9 + (j + 1))) by omega)]
    · rw [if_neg c, if_neg (by omega)]
theorem lv2_at (B : Nat → Nat) {f p j : Nat} (hj : j < 9) : lv2 B f p j (125 + 19 * p + 9 + (j + 1)) = B (125 + 19 * p + 9 + (j + 1)) := by
  unfold lv2
  rw [if_neg (by omega)]
theorem lv2_end (B : Nat → Nat) {f p : Nat} (hf : f < 10) : va_up (lv2 B f p 9) (125 + 19 * p + 9 + 9) 0 = lv2 B f (p + 1) 0 := by
  funext k
  unfold va_up lv2
  by_cases e : k = 125 + 19 * p + 9 + 9
  · rw [if_pos e, if_pos (by omega), if_pos (by omega)]
  · rw [if_neg e]
    by_cases c : 125 ≤ k ∧ 9 + f ≤ (k - 125) % 19 ∧ ((k - 125) / 19 < p ∨ ((k - 125) / 19 = p ∧ (k - 125) % 19 < 9 + 9))
    · rw [if_pos c, if_pos (show 125 ≤ k ∧ 9 + f ≤ (k - 125) % 19 ∧ ((k - 125) / 19 < (p + 1) ∨ ((k - 125) / 19 = (p + 1) ∧ (k - 125) % 19 < 9 + 0)) by omega)]
    · rw [if_neg c, if_neg (by omega)]
theorem lv2_start (B : Nat → Nat) {f p : Nat} : lv2 B f p f = lv2 B f p 0 := by
  funext k
  unfold lv2
  by_cases c : 125 ≤ k ∧ 9 + f ≤ (k - 125) % 19 ∧ ((k - 125) / 19 < p ∨ ((k - 125) / 19 = p ∧ (k - 125) % 19 < 9 + f))
  · rw [if_pos c, if_pos (show 125 ≤ k ∧ 9 + f ≤ (k - 125) % 19 ∧ ((k - 125) / 19 < p ∨ ((k - 125) / 19 = p ∧ (k - 125) % 19 < 9 + 0)) by omega)]
  · rw [if_neg c, if_neg (by omega)]
theorem lv2_0 (B : Nat → Nat) {f : Nat} : lv2 B f 0 0 = B := by
  funext k
  unfold lv2
  rw [if_neg (by omega)]
theorem lv2_lo (B : Nat → Nat) {f p j k : Nat} (hk : k < 125) : lv2 B f p j k = B k := by
  unfold lv2
  rw [if_neg (by omega)]
theorem cbd_12 {n k : Nat} (h1 : 5 ≤ k) (h2 : k < 113) : cbd n (k + 12) = cbd n k := by
  unfold cbd
  simp only [if_neg (show ¬ k + 12 = 0 by omega), if_neg (show ¬ k + 12 = 1 by omega), if_neg (show ¬ k + 12 = 2 by omega), if_neg (show ¬ k + 12 < 5 by omega), if_pos (show k + 12 < 125 by omega), if_neg (show ¬ k = 0 by omega), if_neg (show ¬ k = 1 by omega), if_neg (show ¬ k = 2 by omega), if_neg (show ¬ k < 5 by omega), if_pos (show k < 125 by omega), show (k + 12 - 5) % 12 = (k - 5) % 12 by omega]
theorem lv1_rK {A : Nat → Nat} {n f i : Nat} (h : rK A n) (hi : i ≤ 113) : rK (lv1 A f i) n := by
  refine ⟨h.1, ?_, fun k hk => ?_⟩
  · unfold lv1
    rw [if_neg (by omega)]
    exact h.2.1
  · unfold lv1
    by_cases c : 5 + 12 * f ≤ k ∧ k < i
    · rw [if_pos c, ← cbd_12 (n := n) (k := k) (by omega) (by omega)]
      exact h.2.2 _ (by omega)
    · rw [if_neg c]
      exact h.2.2 k hk
theorem cbd_cc {n k : Nat} (h1 : 125 ≤ k) (h2 : 9 ≤ (k - 125) % 19) : cbd n k = 262143 := by
  unfold cbd
  rw [if_neg (by omega), if_neg (by omega), if_neg (by omega), if_neg (by omega), if_neg (by omega), if_neg (by omega), if_neg (by omega)]
theorem lv2_rK {A : Nat → Nat} {n f p j : Nat} (h : rK A n) (hp : p ≤ 12) : rK (lv2 A f p j) n := by
  refine ⟨h.1, ?_, fun k hk => ?_⟩
  · rw [lv2_lo _ (by decide)]
    exact h.2.1
  · unfold lv2
    by_cases c : 125 ≤ k ∧ 9 + f ≤ (k - 125) % 19 ∧ ((k - 125) / 19 < p ∨ ((k - 125) / 19 = p ∧ (k - 125) % 19 < 9 + j))
    · rw [if_pos c]
      by_cases d : (k - 125) % 19 = 18
      · rw [if_pos d]; exact Nat.zero_le _
      · rw [if_neg d, cbd_cc (by omega) (by omega)]
        have := h.2.2 (k + 1) (by omega)
        rw [cbd_cc (by omega) (by omega)] at this
        exact this
    · rw [if_neg c]
      exact h.2.2 k hk
theorem mWo_lt {set bit : Nat} (h1 : set < 1024) : mWo set bit < 1024 := by
  unfold mWo
  refine Nat.or_lt_two_pow (n := 10) (Nat.lt_of_le_of_lt Nat.and_le_left h1) (Nat.lt_of_le_of_lt Nat.and_le_left ?_)
  omega
theorem lv4_rK {C : Nat → Nat} {n f : Nat} (h : rK C n) : ∀ j, j ≤ 10 → rK (lv4 C f j) n := by
  intro j
  induction j with
  | zero => intro _; exact h
  | succ j ih =>
    intro hj
    have h1 := ih (by omega)
    have h2 : mWo (rF (lv4 C f j) j 3) f < 1024 := mWo_lt (Nat.lt_succ_of_le (h1.fam (i := 3) (show j < 10 by omega) (by decide)))
    exact h1.up (by rw [cbd_f (by omega) (by decide)]; show _ ≤ 1023; omega) (by omega)
theorem lvB_rK {A : Nat → Nat} {n f : Nat} (h : rK A n) : rK (lvB A f) n := by
  have hK : A 2 ≤ 12 := h.2.2 2 (by decide)
  have hN : A 1 ≤ 10 := h.2.2 1 (by decide)
  exact (lv2_rK (lv1_rK h (by decide)) hK).up (by show A 1 - 1 ≤ 10; omega) (by omega)
theorem lv4_lo {C : Nat → Nat} {f k : Nat} (hk : k < 5) : ∀ j, lv4 C f j k = C k := by
  intro j
  induction j with
  | zero => rfl
  | succ j ih => rw [lv4, va_up_ne _ _ (by omega), ih]
theorem haA_rK {A : Nat → Nat} {n f t : Nat} (h : rK A n) (hf : f < 10) (ht : t < 65536) : ∀ j, j ≤ 12 → rK (haA A f t j) n := by
  intro j
  induction j with
  | zero => intro _; exact h
  | succ j ih =>
    intro hj
    have h1 := ih (by omega)
    rw [haA]
    split
    · exact h1
    · exact h1.upC (by omega) hf (Nat.or_lt_two_pow (n := 18) (h1.copy (by omega) hf) (by omega))
theorem haA_lo {A : Nat → Nat} {f t k : Nat} (hk : k < 125) : ∀ j, haA A f t j k = A k := by
  intro j
  induction j with
  | zero => rfl
  | succ j ih =>
    rw [haA]
    split
    · exact ih
    · rw [va_up_ne _ _ (by omega), ih]
theorem joA1_rK {A : Nat → Nat} {n : Nat} (h : rK A n) (hN : A 1 < 10) : ∀ j, j ≤ 12 → rK (joA1 A j) n := by
  intro j
  induction j with
  | zero => intro _; exact h
  | succ j ih => intro hj; exact (ih (by omega)).up (Nat.zero_le _) (by omega)
theorem joA1_lo {A : Nat → Nat} {k : Nat} (hk : k < 5) : ∀ j, joA1 A j k = A k := by
  intro j
  induction j with
  | zero => rfl
  | succ j ih => rw [joA1, va_up_ne _ _ (by omega), ih]
theorem joA2_rK {A B : Nat → Nat} {n : Nat} (h : rK B n) (hN : A 1 < 10) : ∀ j, j ≤ 12 → rK (joA2 A B j) n := by
  intro j
  induction j with
  | zero => intro _; exact h
  | succ j ih => intro hj; exact (ih (by omega)).upC (by omega) hN (by decide)
theorem joA2_lo {A B : Nat → Nat} {k : Nat} (hk : k < 125) : ∀ j, joA2 A B j k = B k := by
  intro j
  induction j with
  | zero => rfl
  | succ j ih => rw [joA2, va_up_ne _ _ (by omega), ih]
section M25
variable {g : xG} {l : Launch} {h : xH} {m : Nat} {s : Mo}
theorem c_mHarm {n : Nat} (hw : rK (s.1 0) n) (hk : s.2.1 0 ≤ 8) (f t : Int32) : xMet g l mX6_harm 3 0 0 [.ref m, .int f, .int t] (putMod h m s) (mOp h m s (harmM (s.1 0) f t)) xno := by
  have hN : s.1 0 1 ≤ 10 := hw.2.2 1 (by decide)
  have hK2 : s.1 0 2 ≤ 12 := hw.2.2 2 (by decide)
  have hT : s.1 0 0 ≤ 16 := hw.2.2 0 (by decide)
  have hT2 : 2 ^ s.1 0 0 ≤ 65536 := pow_le2 (a := s.1 0 0) (b := 16) hT
  have e8 := nI_ix f
  have e9 := nI_ix t
  unfold harmM
  refine xMet.of (V := [some (.ref m), some (.int f), some (.int t), none, none]) moX6_harm (Nat.le_of_ble_eq_true rfl) rfl ?_
  refine x_aload_n dX6_harm_0 rfl ?_
  refine x_aload_n dX6_harm_1 rfl ?_
  refine x_iload_n dX6_harm_2 rfl ?_
  refine x_vi0 dX6_harm_3 cV_X6_251 (c_mIsFamily putMod_at hw.ok) rfl rfl ⟨⟨by decide, by decide⟩, by decide, by decide⟩ (Nat.le_of_ble_eq_true rfl) (xrecv putMod_at.o rfl xcl5) ?_
  refine x_if_ne_b 13 dX6_harm_6 (by decide) (fun c1 => ?_) (fun c1 => ?_)
  rotate_left
  · rw [if_neg (by rw [c1]; simp)]
    refine x_iconst (nI 1) dX6_harm_9 (by decide) ?_
    refine x_goto 36 dX6_harm_10 (by decide) ?_
    refine xq_X6_thrown dX6_harm_36 f_X6_49 ?_
    refine x_aload_n dX6_harm_39 rfl ?_
    refine x_getf dX6_harm_40 f_X6_49 putMod_at.o rfl ?_
    refine xP.eq (S' := [.int (nI 1)]) rfl rfl rfl rfl ?_
    refine x_if_le_n 48 dX6_harm_43 (by decide) (by omega) (fun c9 => ?_) (fun c9 => ?_)
    · omega
    · refine x_iconst (nI 0) dX6_harm_46 (by decide) ?_
      exact x_ireturn dX6_harm_47 rfl rfl (by decide) (by decide) (mOp.no rfl)
  rw [if_pos (show okB f (s.1 0 1) = true from c1)]
  have hf := okB_lt c1
  refine x_iload_n dX6_harm_13 rfl ?_
  refine x_iconst (nI 1) dX6_harm_14 (by decide) ?_
  refine x_iconst (nI 1) dX6_harm_15 (by decide) ?_
  refine x_aload_n dX6_harm_16 rfl ?_
  refine x_getf dX6_harm_17 f_X6_7 putMod_at.o rfl ?_
  refine x_iconst (nI 0) dX6_harm_20 (by decide) ?_
  refine x_iald_n dX6_harm_21 putMod_at.a (by omega) (by decide) ?_
  refine x_ishl1_n dX6_harm_22 (by omega) ?_
  refine x_iconst (nI 1) dX6_harm_23 (by decide) ?_
  refine x_isub_n dX6_harm_24 Nat.one_le_two_pow ?_
  refine x_si0 dX6_harm_25 cS_X6_59 (c_mIsIn) rfl rfl ⟨⟨by decide, by decide⟩, by decide, by decide⟩ (Nat.le_of_ble_eq_true rfl) ?_
  refine xP.eq (S' := [.int (xb (isInB t (nI 1) (nI (2 ^ s.1 0 0 - 1)))), .ref m]) rfl rfl rfl rfl ?_
  rw [isIn_gen (by decide) (by omega)]
  by_cases c0 : 1 ≤ ix t ∧ ix t ≤ 2 ^ s.1 0 0 - 1
  rotate_left
  · rw [if_neg c0, decide_eq_false c0]
    refine x_if_eq_b 35 dX6_harm_28 (by decide) (fun c2 => ?_) (fun c2 => ?_)
    rotate_left
    · cases c2
    refine x_iconst (nI 2) dX6_harm_35 (by decide) ?_
    refine xq_X6_thrown dX6_harm_36 f_X6_49 ?_
    refine x_aload_n dX6_harm_39 rfl ?_
    refine x_getf dX6_harm_40 f_X6_49 putMod_at.o rfl ?_
    refine xP.eq (S' := [.int (nI 2)]) rfl rfl rfl rfl ?_
    refine x_if_le_n 48 dX6_harm_43 (by decide) (by omega) (fun c9 => ?_) (fun c9 => ?_)
    · omega
    · refine x_iconst (nI 0) dX6_harm_46 (by decide) ?_
      exact x_ireturn dX6_harm_47 rfl rfl (by decide) (by decide) (mOp.no rfl)
  rw [if_pos c0, decide_eq_true c0]
  refine x_if_eq_b 35 dX6_harm_28 (by decide) (fun c2 => ?_) (fun c2 => ?_)
  · cases c2
  refine x_iconst (nI 0) dX6_harm_31 (by decide) ?_
  refine x_goto 36 dX6_harm_32 (by decide) ?_
  refine xq_X6_thrown dX6_harm_36 f_X6_49 ?_
  refine x_aload_n dX6_harm_39 rfl ?_
  refine x_getf dX6_harm_40 f_X6_49 putMod_at.o rfl ?_
  refine xP.eq (S' := [.int (nI 0)]) rfl rfl rfl rfl ?_
  refine x_if_le_n 48 dX6_harm_43 (by decide) (by omega) (fun c9 => ?_) (fun c9 => ?_)
  rotate_left
  · omega
  have f1 := kpM_th (s := s)
  have r1 : (kpM (mN s 1 0) 0).1 0 = s.1 0 := kpM_row (by decide)
  have ck := c_kp (g := g) (l := l) (h := h) (m := m) (s := mN s 1 0) hk
  generalize kpM (mN s 1 0) 0 = K at *
  refine xP.weak (V' := [some (.ref m), some (.int (nI (ix f))), some (.int (nI (ix t))), none, none]) (by simp [xle, xset1, fin3, e8, e9]) ?_
  have cc := c_mCopiesOf (g := g) (l := l) (putMod_at (h := h) (m := m) (s := K)) (by rw [r1]; exact hw.ok) (f := ix f) (k := 3) (by omega) (by decide)
  rw [r1] at cc
  refine x_aload_n dX6_harm_48 rfl ?_
  refine x_aload_n dX6_harm_49 rfl ?_
  refine x_getf dX6_harm_50 f_X6_7 putMod_at.o rfl ?_
  refine x_vv0 dX6_harm_53 cV_X6_63 (ck) rfl rfl ⟨⟨by decide, by decide⟩, by decide, by decide⟩ (Nat.le_of_ble_eq_true rfl) (xrecv putMod_at.o rfl xcl5) ?_
  refine x_aload_n dX6_harm_56 rfl ?_
  refine x_iload_n dX6_harm_57 rfl ?_
  refine x_iconst (nI 3) dX6_harm_58 (by decide) ?_
  refine x_vi0 dX6_harm_59 cV_X6_223 (cc) rfl rfl ⟨⟨by decide, by decide⟩, by decide, by decide⟩ (Nat.le_of_ble_eq_true rfl) (xrecv putMod_at.o rfl xcl5) ?_
  refine x_istore_n dX6_harm_62 (by decide) rfl rfl ?_
  refine x_iconst (nI 0) dX6_harm_63 (by decide) ?_
  refine x_istore dX6_harm_64 (by decide) rfl rfl ?_
  have e0 : K = mR K 0 (haA (s.1 0) (ix f) (ix t) 0) := by
    show K = mR K 0 (s.1 0)
    rw [← r1, mR_self]
  refine xP.eq (h' := putMod h m (mR K 0 (haA (s.1 0) (ix f) (ix t) 0))) rfl rfl rfl (by rw [← e0]) ?_
  refine xP.weak (V' := [some (.ref m), some (.int (nI (ix f))), some (.int (nI (ix t))), some (.int (nI (mCop (s.1 0) (ix f) 3))), some (.int (nI 0))]) (by simp [xle, xset1, fin3]) ?_
  refine xP.loop (fun i => [some (.ref m), some (.int (nI (ix f))), some (.int (nI (ix t))), some (.int (nI (mCop (s.1 0) (ix f) 3))), some (.int (nI i))]) (fun i => putMod h m (mR K 0 (haA (s.1 0) (ix f) (ix t) i))) (s.1 0 2) ?_ ?_
  · intro i hi ih
    have h1 := haA_rK (t := ix t) hw (show ix f < 10 by omega) (by omega) i (by omega)
    have e2 : haA (s.1 0) (ix f) (ix t) i 2 = s.1 0 2 := haA_lo (by decide) i
    have hc := h1.copy (p := i) (f := ix f) (by omega) (by omega)
    rw [haA] at ih
    generalize haA (s.1 0) (ix f) (ix t) i = B at *
    have cs := c_mSetsCopy (g := g) (l := l) (h := h) (m := m) (s := mR K 0 B) (p := i) (f := ix f) (x := rC B i (ix f) ||| ix t) (by omega) (by omega)
    rw [mR_R] at cs
    refine x_iload dX6_harm_66 rfl ?_
    refine x_aload_n dX6_harm_68 rfl ?_
    refine x_vi0 dX6_harm_69 cV_X6_169 (c_mPictures putMod_at) rfl rfl ⟨⟨by decide, by decide⟩, by decide, by decide⟩ (Nat.le_of_ble_eq_true rfl) (xrecv putMod_at.o rfl xcl5) ?_
    refine xP.eq (S' := [.int (nI (s.1 0 2)), .int (nI i)]) rfl rfl (by show _ = [Value.int (nI (B 2)), _]; rw [e2]) rfl ?_
    refine x_icmp_ge_n 107 dX6_harm_72 (by decide) (by omega) (by omega) (fun c3 => ?_) (fun c3 => ?_)
    · omega
    · refine x_aload_n dX6_harm_75 rfl ?_
      refine x_iload dX6_harm_76 rfl ?_
      refine x_iload_n dX6_harm_78 rfl ?_
      refine x_vi0 dX6_harm_79 cV_X6_182 (c_mCopyOf putMod_at (show i < 12 by omega) (show ix f < 10 by omega)) rfl rfl ⟨⟨by decide, by decide⟩, by decide, by decide⟩ (Nat.le_of_ble_eq_true rfl) (xrecv putMod_at.o rfl xcl5) ?_
      refine xP.eq (S' := [.int (nI (rC B i (ix f)))]) rfl rfl rfl rfl ?_
      refine x_if_eq_n 101 dX6_harm_82 (by decide) (by omega) (fun c4 => ?_) (fun c4 => ?_)
      · rw [if_pos (by omega)] at ih
        refine x_iinc_n (k := 1) dX6_harm_101 rfl (by decide) (by decide) rfl rfl ?_
        refine x_goto 66 dX6_harm_104 (by decide) ?_
        exact xP.weak (by simp [xle, xset1, fin3]) ih
      · rw [if_neg (by omega)] at ih
        refine x_aload_n dX6_harm_85 rfl ?_
        refine x_iload dX6_harm_86 rfl ?_
        refine x_iload_n dX6_harm_88 rfl ?_
        refine x_aload_n dX6_harm_89 rfl ?_
        refine x_iload dX6_harm_90 rfl ?_
        refine x_iload_n dX6_harm_92 rfl ?_
        refine x_vi0 dX6_harm_93 cV_X6_182 (c_mCopyOf putMod_at (show i < 12 by omega) (show ix f < 10 by omega)) rfl rfl ⟨⟨by decide, by decide⟩, by decide, by decide⟩ (Nat.le_of_ble_eq_true rfl) (xrecv putMod_at.o rfl xcl5) ?_
        refine xP.eq (S' := [.int (nI (rC B i (ix f))), .int (nI (ix f)), .int (nI i), .ref m]) rfl rfl rfl rfl ?_
        refine x_iload_n dX6_harm_96 rfl ?_
        refine x_ior_n dX6_harm_97 ?_
        refine x_vv0 dX6_harm_98 cV_X6_172 (cs) rfl rfl ⟨⟨by decide, by decide⟩, by decide, by decide⟩ (Nat.le_of_ble_eq_true rfl) (xrecv putMod_at.o rfl xcl5) ?_
        refine x_iinc_n (k := 1) dX6_harm_101 rfl (by decide) (by decide) rfl rfl ?_
        refine x_goto 66 dX6_harm_104 (by decide) ?_
        exact xP.weak (by simp [xle, xset1, fin3]) ih
  · have e2 : haA (s.1 0) (ix f) (ix t) (s.1 0 2) 2 = s.1 0 2 := haA_lo (by decide) _
    refine x_iload dX6_harm_66 rfl ?_
    refine x_aload_n dX6_harm_68 rfl ?_
    refine x_vi0 dX6_harm_69 cV_X6_169 (c_mPictures putMod_at) rfl rfl ⟨⟨by decide, by decide⟩, by decide, by decide⟩ (Nat.le_of_ble_eq_true rfl) (xrecv putMod_at.o rfl xcl5) ?_
    refine xP.eq (S' := [.int (nI (s.1 0 2)), .int (nI (s.1 0 2))]) rfl rfl (by show _ = [Value.int (nI (haA (s.1 0) (ix f) (ix t) (s.1 0 2) 2)), _]; rw [e2]) rfl ?_
    refine x_icmp_ge_n 107 dX6_harm_72 (by decide) (by omega) (by omega) (fun c3 => ?_) (fun c3 => ?_)
    · refine x_iload_n dX6_harm_107 rfl ?_
      exact x_ireturn dX6_harm_108 rfl rfl (by decide) (by decide) ⟨_, rfl, rfl, f1.2.2.2.2.2.2.2.2.2, rfl, f1⟩
    · omega
theorem c_mJoin {n : Nat} (hw : rK (s.1 0) n) (hk : s.2.1 0 ≤ 8) (r : Int32) : xMet g l mX6_join 2 0 0 [.ref m, .int r] (putMod h m s) (mOp h m s (joinM (s.1 0) r)) xno := by
  have hN : s.1 0 1 ≤ 10 := hw.2.2 1 (by decide)
  have hK2 : s.1 0 2 ≤ 12 := hw.2.2 2 (by decide)
  have e9 := nI_ix r
  unfold joinM
  refine xMet.of (V := [some (.ref m), some (.int r), none, none]) moX6_join (Nat.le_of_ble_eq_true rfl) rfl ?_
  refine x_aload_n dX6_join_0 rfl ?_
  refine x_iload_n dX6_join_1 rfl ?_
  refine x_iconst (nI 1) dX6_join_2 (by decide) ?_
  refine x_bipush (nI 20) dX6_join_3 (by decide) ?_
  refine x_si0 dX6_join_5 cS_X6_59 (c_mIsIn) rfl rfl ⟨⟨by decide, by decide⟩, by decide, by decide⟩ (Nat.le_of_ble_eq_true rfl) ?_
  rw [isIn_gen (by decide) (by decide)]
  by_cases c0 : 1 ≤ ix r ∧ ix r ≤ 20
  rotate_left
  · rw [if_neg c0, decide_eq_false c0]
    refine x_if_eq_b 15 dX6_join_8 (by decide) (fun c2 => ?_) (fun c2 => ?_)
    rotate_left
    · cases c2
    refine x_iconst (nI 1) dX6_join_15 (by decide) ?_
    refine xq_X6_thrown dX6_join_16 f_X6_49 ?_
    refine x_aload_n dX6_join_19 rfl ?_
    refine x_getf dX6_join_20 f_X6_49 putMod_at.o rfl ?_
    refine xP.eq (S' := [.int (nI 1)]) rfl rfl rfl rfl ?_
    refine x_if_le_n 28 dX6_join_23 (by decide) (by omega) (fun c9 => ?_) (fun c9 => ?_)
    · omega
    · refine x_iconst (nI 0) dX6_join_26 (by decide) ?_
      exact x_ireturn dX6_join_27 rfl rfl (by decide) (by decide) (mOp.no rfl)
  rw [if_pos c0, decide_eq_true c0]
  refine x_if_eq_b 15 dX6_join_8 (by decide) (fun c2 => ?_) (fun c2 => ?_)
  · cases c2
  refine x_iconst (nI 0) dX6_join_11 (by decide) ?_
  refine x_goto 16 dX6_join_12 (by decide) ?_
  refine xq_X6_thrown dX6_join_16 f_X6_49 ?_
  refine x_aload_n dX6_join_19 rfl ?_
  refine x_getf dX6_join_20 f_X6_49 putMod_at.o rfl ?_
  refine xP.eq (S' := [.int (nI 0)]) rfl rfl rfl rfl ?_
  refine x_if_le_n 28 dX6_join_23 (by decide) (by omega) (fun c9 => ?_) (fun c9 => ?_)
  rotate_left
  · omega
  refine xP.weak (V' := [some (.ref m), some (.int (nI (ix r))), none, none]) (by simp [xle, xset1, fin3, e9]) ?_
  refine x_aload_n dX6_join_28 rfl ?_
  refine x_vi0 dX6_join_29 cV_X6_67 (c_mFamilies putMod_at) rfl rfl ⟨⟨by decide, by decide⟩, by decide, by decide⟩ (Nat.le_of_ble_eq_true rfl) (xrecv putMod_at.o rfl xcl5) ?_
  refine xP.eq (S' := [.int (nI (s.1 0 1))]) rfl rfl rfl rfl ?_
  refine x_istore_n dX6_join_32 (by decide) rfl rfl ?_
  refine x_iload_n dX6_join_33 rfl ?_
  refine x_bipush (nI 10) dX6_join_34 (by decide) ?_
  refine x_icmp_ne_n 42 dX6_join_36 (by decide) (by omega) (by omega) (fun c3 => ?_) (fun c3 => ?_)
  rotate_left
  · rw [if_pos c3]
    refine x_bipush (-15) dX6_join_39 (by decide) ?_
    exact x_ireturn dX6_join_41 rfl rfl (by decide) (by decide) (mOp.no rfl)
  rw [if_neg c3]
  have hN2 : s.1 0 1 < 10 := by omega
  have f1 := kpM_th (s := s)
  have r1 : (kpM (mN s 1 0) 0).1 0 = s.1 0 := kpM_row (by decide)
  have ck := c_kp (g := g) (l := l) (h := h) (m := m) (s := mN s 1 0) hk
  generalize kpM (mN s 1 0) 0 = K at *
  refine x_aload_n dX6_join_42 rfl ?_
  refine x_aload_n dX6_join_43 rfl ?_
  refine x_getf dX6_join_44 f_X6_7 putMod_at.o rfl ?_
  refine x_vv0 dX6_join_47 cV_X6_63 (ck) rfl rfl ⟨⟨by decide, by decide⟩, by decide, by decide⟩ (Nat.le_of_ble_eq_true rfl) (xrecv putMod_at.o rfl xcl5) ?_
  refine x_iconst (nI 0) dX6_join_50 (by decide) ?_
  refine x_istore_n dX6_join_51 (by decide) rfl rfl ?_
  have e0 : K = mR K 0 (joA1 (s.1 0) 0) := by
    show K = mR K 0 (s.1 0)
    rw [← r1, mR_self]
  refine xP.eq (h' := putMod h m (mR K 0 (joA1 (s.1 0) 0))) rfl rfl rfl (by rw [← e0]) ?_
  refine xP.weak (V' := [some (.ref m), some (.int (nI (ix r))), some (.int (nI (s.1 0 1))), some (.int (nI 0))]) (by simp [xle, xset1, fin3]) ?_
  refine xP.loop (fun i => [some (.ref m), some (.int (nI (ix r))), some (.int (nI (s.1 0 1))), some (.int (nI i))]) (fun i => putMod h m (mR K 0 (joA1 (s.1 0) i))) 12 ?_ ?_
  · intro i hi ih
    have cs := c_mSetsOf (g := g) (l := l) (h := h) (m := m) (s := mR K 0 (joA1 (s.1 0) i)) (f := s.1 0 1) (i := i) (x := 0) hN2 hi
    rw [mR_R] at cs
    rw [joA1] at ih
    refine x_iload_n dX6_join_52 rfl ?_
    refine x_bipush (nI 12) dX6_join_53 (by decide) ?_
    refine x_icmp_ge_n 71 dX6_join_55 (by decide) (by omega) (by omega) (fun c4 => ?_) (fun c4 => ?_)
    · omega
    · refine x_aload_n dX6_join_58 rfl ?_
      refine x_iload_n dX6_join_59 rfl ?_
      refine x_iload_n dX6_join_60 rfl ?_
      refine x_iconst (nI 0) dX6_join_61 (by decide) ?_
      refine x_vv0 dX6_join_62 cV_X6_45 (cs) rfl rfl ⟨⟨by decide, by decide⟩, by decide, by decide⟩ (Nat.le_of_ble_eq_true rfl) (xrecv putMod_at.o rfl xcl5) ?_
      refine x_iinc_n (k := 1) dX6_join_65 rfl (by decide) (by decide) rfl rfl ?_
      refine x_goto 52 dX6_join_68 (by decide) ?_
      exact xP.weak (by simp [xle, xset1, fin3]) ih
  refine x_iload_n dX6_join_52 rfl ?_
  refine x_bipush (nI 12) dX6_join_53 (by decide) ?_
  refine x_icmp_ge_n 71 dX6_join_55 (by decide) (by omega) (by omega) (fun c4 => ?_) (fun c4 => ?_)
  rotate_left
  · omega
  have cs := c_mSetsOf (g := g) (l := l) (h := h) (m := m) (s := mR K 0 (joA1 (s.1 0) 12)) (f := s.1 0 1) (i := 0) (x := ix r) hN2 (by decide)
  rw [mR_R] at cs
  refine x_aload_n dX6_join_71 rfl ?_
  refine x_iload_n dX6_join_72 rfl ?_
  refine x_iconst (nI 0) dX6_join_73 (by decide) ?_
  refine x_iload_n dX6_join_74 rfl ?_
  refine x_vv0 dX6_join_75 cV_X6_45 (cs) rfl rfl ⟨⟨by decide, by decide⟩, by decide, by decide⟩ (Nat.le_of_ble_eq_true rfl) (xrecv putMod_at.o rfl xcl5) ?_
  refine x_iconst (nI 0) dX6_join_78 (by decide) ?_
  refine x_istore_n dX6_join_79 (by decide) rfl rfl ?_
  refine xP.eq (h' := putMod h m (mR K 0 (joA2 (s.1 0) (va_up (joA1 (s.1 0) 12) (5 + 12 * s.1 0 1 + 0) (ix r)) 0))) rfl rfl rfl rfl ?_
  have eB2 : va_up (joA1 (s.1 0) 12) (5 + 12 * s.1 0 1 + 0) (ix r) 2 = s.1 0 2 := by rw [va_up_ne _ _ (by omega), joA1_lo (by decide)]
  have eB1 : va_up (joA1 (s.1 0) 12) (5 + 12 * s.1 0 1 + 0) (ix r) 1 = s.1 0 1 := by rw [va_up_ne _ _ (by omega), joA1_lo (by decide)]
  have fin : mBy s (mR K 0 (va_up (joA2 (s.1 0) (va_up (joA1 (s.1 0) 12) (5 + 12 * s.1 0 1 + 0) (ix r)) (s.1 0 2)) 1 (s.1 0 1 + 1))) (some (joA (s.1 0) (ix r))) := ⟨rfl, f1⟩
  generalize va_up (joA1 (s.1 0) 12) (5 + 12 * s.1 0 1 + 0) (ix r) = B at *
  refine xP.weak (V' := [some (.ref m), some (.int (nI (ix r))), some (.int (nI (s.1 0 1))), some (.int (nI 0))]) (by simp [xle, xset1, fin3]) ?_
  refine xP.loop (fun i => [some (.ref m), some (.int (nI (ix r))), some (.int (nI (s.1 0 1))), some (.int (nI i))]) (fun i => putMod h m (mR K 0 (joA2 (s.1 0) B i))) (s.1 0 2) ?_ ?_
  · intro i hi ih
    have cs := c_mSetsCopy (g := g) (l := l) (h := h) (m := m) (s := mR K 0 (joA2 (s.1 0) B i)) (p := i) (f := s.1 0 1) (x := 0) (by omega) hN2
    rw [mR_R] at cs
    have e2 : joA2 (s.1 0) B i 2 = s.1 0 2 := (joA2_lo (by decide) i).trans eB2
    rw [joA2] at ih
    refine x_iload_n dX6_join_80 rfl ?_
    refine x_aload_n dX6_join_81 rfl ?_
    refine x_vi0 dX6_join_82 cV_X6_169 (c_mPictures putMod_at) rfl rfl ⟨⟨by decide, by decide⟩, by decide, by decide⟩ (Nat.le_of_ble_eq_true rfl) (xrecv putMod_at.o rfl xcl5) ?_
    refine xP.eq (S' := [.int (nI (s.1 0 2)), .int (nI i)]) rfl rfl (by show _ = [Value.int (nI (joA2 (s.1 0) B i 2)), _]; rw [e2]) rfl ?_
    refine x_icmp_ge_n 101 dX6_join_85 (by decide) (by omega) (by omega) (fun c5 => ?_) (fun c5 => ?_)
    · omega
    · refine x_aload_n dX6_join_88 rfl ?_
      refine x_iload_n dX6_join_89 rfl ?_
      refine x_iload_n dX6_join_90 rfl ?_
      refine x_iconst (nI 0) dX6_join_91 (by decide) ?_
      refine x_vv0 dX6_join_92 cV_X6_172 (cs) rfl rfl ⟨⟨by decide, by decide⟩, by decide, by decide⟩ (Nat.le_of_ble_eq_true rfl) (xrecv putMod_at.o rfl xcl5) ?_
      refine x_iinc_n (k := 1) dX6_join_95 rfl (by decide) (by decide) rfl rfl ?_
      refine x_goto 80 dX6_join_98 (by decide) ?_
      exact xP.weak (by simp [xle, xset1, fin3]) ih
  · have e2 : joA2 (s.1 0) B (s.1 0 2) 2 = s.1 0 2 := (joA2_lo (by decide) _).trans eB2
    have e1 : joA2 (s.1 0) B (s.1 0 2) 1 = s.1 0 1 := (joA2_lo (by decide) _).trans eB1
    refine x_iload_n dX6_join_80 rfl ?_
    refine x_aload_n dX6_join_81 rfl ?_
    refine x_vi0 dX6_join_82 cV_X6_169 (c_mPictures putMod_at) rfl rfl ⟨⟨by decide, by decide⟩, by decide, by decide⟩ (Nat.le_of_ble_eq_true rfl) (xrecv putMod_at.o rfl xcl5) ?_
    refine xP.eq (S' := [.int (nI (s.1 0 2)), .int (nI (s.1 0 2))]) rfl rfl (by show _ = [Value.int (nI (joA2 (s.1 0) B (s.1 0 2) 2)), _]; rw [e2]) rfl ?_
    refine x_icmp_ge_n 101 dX6_join_85 (by decide) (by omega) (by omega) (fun c5 => ?_) (fun c5 => ?_)
    rotate_left
    · omega
    refine x_aload_n dX6_join_101 rfl ?_
    refine x_getf dX6_join_102 f_X6_7 putMod_at.o rfl ?_
    refine x_iconst (nI 1) dX6_join_105 (by decide) ?_
    refine x_dup2 dX6_join_106 rfl rfl ?_
    refine x_iald_n dX6_join_107 putMod_at.a (by omega) (by decide) ?_
    refine x_iconst (nI 1) dX6_join_108 (by decide) ?_
    refine x_iadd_n dX6_join_109 ?_
    refine xP.eq (S' := [.int (nI (s.1 0 1 + 1)), .int (nI 1), .ref (m + 1)]) rfl rfl (by show _ = [Value.int (nI (joA2 (s.1 0) B (s.1 0 2) 1 + 1)), _, _]; rw [e1]) rfl ?_
    refine xq_X6_a dX6_join_110 (by decide) ?_
    refine xP.eq (h' := putMod h m (mR K 0 (va_up (joA2 (s.1 0) B (s.1 0 2)) 1 (s.1 0 1 + 1)))) rfl rfl rfl (by rw [mR_R]; rfl) ?_
    refine x_iload_n dX6_join_111 rfl ?_
    exact x_ireturn dX6_join_112 rfl rfl (by decide) (by decide) ⟨_, rfl, rfl, f1.2.2.2.2.2.2.2.2.2, fin⟩
theorem c_mLeave {n : Nat} (hw : rK (s.1 0) n) (hk : s.2.1 0 ≤ 8) (f : Int32) : xMet g l mX6_leave 3 0 0 [.ref m, .int f] (putMod h m s) (mOp h m s (leaveM (s.1 0) f)) xno := by
  have hN : s.1 0 1 ≤ 10 := hw.2.2 1 (by decide)
  have hK2 : s.1 0 2 ≤ 12 := hw.2.2 2 (by decide)
  have e9 := nI_ix f
  unfold leaveM
  refine xMet.of (V := [some (.ref m), some (.int f), none, none, none, none]) moX6_leave (Nat.le_of_ble_eq_true rfl) rfl ?_
  refine x_aload_n dX6_leave_0 rfl ?_
  refine x_aload_n dX6_leave_1 rfl ?_
  refine x_iload_n dX6_leave_2 rfl ?_
  refine x_vi0 dX6_leave_3 cV_X6_251 (c_mIsFamily putMod_at hw.ok) rfl rfl ⟨⟨by decide, by decide⟩, by decide, by decide⟩ (Nat.le_of_ble_eq_true rfl) (xrecv putMod_at.o rfl xcl5) ?_
  refine x_if_eq_b 13 dX6_leave_6 (by decide) (fun c1 => ?_) (fun c1 => ?_)
  · rw [if_neg (by rw [c1]; simp)]
    refine x_iconst (nI 1) dX6_leave_13 (by decide) ?_
    refine xq_X6_thrown dX6_leave_14 f_X6_49 ?_
    refine x_aload_n dX6_leave_17 rfl ?_
    refine x_getf dX6_leave_18 f_X6_49 putMod_at.o rfl ?_
    refine xP.eq (S' := [.int (nI 1)]) rfl rfl rfl rfl ?_
    refine x_if_le_n 26 dX6_leave_21 (by decide) (by omega) (fun c9 => ?_) (fun c9 => ?_)
    · omega
    · refine x_iconst (nI 0) dX6_leave_24 (by decide) ?_
      exact x_ireturn dX6_leave_25 rfl rfl (by decide) (by decide) (mOp.no rfl)
  rw [if_pos (show okB f (s.1 0 1) = true from c1)]
  have hf := okB_lt c1
  refine x_iconst (nI 0) dX6_leave_9 (by decide) ?_
  refine x_goto 14 dX6_leave_10 (by decide) ?_
  refine xq_X6_thrown dX6_leave_14 f_X6_49 ?_
  refine x_aload_n dX6_leave_17 rfl ?_
  refine x_getf dX6_leave_18 f_X6_49 putMod_at.o rfl ?_
  refine xP.eq (S' := [.int (nI 0)]) rfl rfl rfl rfl ?_
  refine x_if_le_n 26 dX6_leave_21 (by decide) (by omega) (fun c9 => ?_) (fun c9 => ?_)
  rotate_left
  · omega
  refine xP.weak (V' := [some (.ref m), some (.int (nI (ix f))), none, none, none, none]) (by simp [xle, xset1, fin3, e9]) ?_
  refine x_aload_n dX6_leave_26 rfl ?_
  refine x_vi0 dX6_leave_27 cV_X6_67 (c_mFamilies putMod_at) rfl rfl ⟨⟨by decide, by decide⟩, by decide, by decide⟩ (Nat.le_of_ble_eq_true rfl) (xrecv putMod_at.o rfl xcl5) ?_
  refine xP.eq (S' := [.int (nI (s.1 0 1))]) rfl rfl rfl rfl ?_
  refine x_iconst (nI 2) dX6_leave_30 (by decide) ?_
  refine x_icmp_ne_n 37 dX6_leave_31 (by decide) (by omega) (by omega) (fun c3 => ?_) (fun c3 => ?_)
  rotate_left
  · rw [if_pos c3]
    refine x_bipush (-17) dX6_leave_34 (by decide) ?_
    exact x_ireturn dX6_leave_36 rfl rfl (by decide) (by decide) (mOp.no rfl)
  rw [if_neg c3]
  have f1 := kpM_th (s := s)
  have r1 : (kpM (mN s 1 0) 0).1 0 = s.1 0 := kpM_row (by decide)
  have ck := c_kp (g := g) (l := l) (h := h) (m := m) (s := mN s 1 0) hk
  generalize kpM (mN s 1 0) 0 = K at *
  have cc := c_mCopiesOf (g := g) (l := l) (putMod_at (h := h) (m := m) (s := K)) (by rw [r1]; exact hw.ok) (f := ix f) (k := 0) (by omega) (by decide)
  rw [r1] at cc
  generalize ix f = f at *
  refine x_aload_n dX6_leave_37 rfl ?_
  refine x_aload_n dX6_leave_38 rfl ?_
  refine x_getf dX6_leave_39 f_X6_7 putMod_at.o rfl ?_
  refine x_vv0 dX6_leave_42 cV_X6_63 (ck) rfl rfl ⟨⟨by decide, by decide⟩, by decide, by decide⟩ (Nat.le_of_ble_eq_true rfl) (xrecv putMod_at.o rfl xcl5) ?_
  refine x_aload_n dX6_leave_45 rfl ?_
  refine x_iload_n dX6_leave_46 rfl ?_
  refine x_iconst (nI 0) dX6_leave_47 (by decide) ?_
  refine x_vi0 dX6_leave_48 cV_X6_223 (cc) rfl rfl ⟨⟨by decide, by decide⟩, by decide, by decide⟩ (Nat.le_of_ble_eq_true rfl) (xrecv putMod_at.o rfl xcl5) ?_
  refine x_istore_n dX6_leave_51 (by decide) rfl rfl ?_
  refine x_iconst (nI 5) dX6_leave_52 (by decide) ?_
  refine x_bipush (nI 12) dX6_leave_53 (by decide) ?_
  refine x_iload_n dX6_leave_55 rfl ?_
  refine x_imul_n dX6_leave_56 ?_
  refine x_iadd_n dX6_leave_57 ?_
  refine x_istore_n dX6_leave_58 (by decide) rfl rfl ?_
  have e0 : K = mR K 0 (lv1 (s.1 0) f (5 + 12 * f)) := by
    have : lv1 (s.1 0) f (5 + 12 * f) = s.1 0 := funext fun k => by unfold lv1; rw [if_neg (by omega)]
    rw [this, ← r1, mR_self]
  refine xP.eq (h' := putMod h m (mR K 0 (lv1 (s.1 0) f (5 + 12 * f)))) rfl rfl rfl (by rw [← e0]) ?_
  refine xP.weak (V' := [some (.ref m), some (.int (nI f)), some (.int (nI (mCop (s.1 0) f 0))), some (.int (nI (5 + 12 * f))), none, none]) (by simp [xle, xset1, fin3]) ?_
  refine xP.loopFrom (fun i => [some (.ref m), some (.int (nI f)), some (.int (nI (mCop (s.1 0) f 0))), some (.int (nI i)), none, none]) (fun i => putMod h m (mR K 0 (lv1 (s.1 0) f i))) (5 + 12 * f) 113 (by omega) ?_ ?_
  · intro i h0 hi ih
    rw [← lv1_up _ _ _ h0] at ih
    refine x_iload_n dX6_leave_59 rfl ?_
    refine x_bipush (nI 113) dX6_leave_60 (by decide) ?_
    refine x_icmp_ge_n 86 dX6_leave_62 (by decide) (by omega) (by omega) (fun c4 => ?_) (fun c4 => ?_)
    · omega
    · refine x_aload_n dX6_leave_65 rfl ?_
      refine x_getf dX6_leave_66 f_X6_7 putMod_at.o rfl ?_
      refine x_iload_n dX6_leave_69 rfl ?_
      refine x_aload_n dX6_leave_70 rfl ?_
      refine x_getf dX6_leave_71 f_X6_7 putMod_at.o rfl ?_
      refine x_iload_n dX6_leave_74 rfl ?_
      refine x_bipush (nI 12) dX6_leave_75 (by decide) ?_
      refine x_iadd_n dX6_leave_77 ?_
      refine x_iald_n dX6_leave_78 putMod_at.a (by omega) (by decide) ?_
      refine xP.eq (S' := [.int (nI (s.1 0 (i + 12))), .int (nI i), .ref (m + 1)]) rfl rfl (by show _ = [Value.int (nI (lv1 (s.1 0) f i (i + 12))), _, _]; rw [lv1_at]) rfl ?_
      refine xq_X6_a dX6_leave_79 (by omega) ?_
      refine xP.eq (h' := putMod h m (mR K 0 (va_up (lv1 (s.1 0) f i) i (s.1 0 (i + 12))))) rfl rfl rfl (by rw [mR_R]; rfl) ?_
      refine x_iinc_n (k := 1) dX6_leave_80 rfl (by decide) (by decide) rfl rfl ?_
      refine x_goto 59 dX6_leave_83 (by decide) ?_
      exact xP.weak (by simp [xle, xset1, fin3]) ih
  refine x_iload_n dX6_leave_59 rfl ?_
  refine x_bipush (nI 113) dX6_leave_60 (by decide) ?_
  refine x_icmp_ge_n 86 dX6_leave_62 (by decide) (by omega) (by omega) (fun c4 => ?_) (fun c4 => ?_)
  rotate_left
  · omega
  refine x_iconst (nI 0) dX6_leave_86 (by decide) ?_
  refine x_istore_n dX6_leave_87 (by decide) rfl rfl ?_
  have eL : ∀ k, k < 5 → lv1 (s.1 0) f 113 k = s.1 0 k := fun k hk => lv1_hi (by omega)
  have hL := lv1_rK (f := f) hw (Nat.le_refl 113)
  have eF : lvB (s.1 0) f = va_up (lv2 (lv1 (s.1 0) f 113) f (s.1 0 2) 0) 1 (s.1 0 1 - 1) := rfl
  have hB := lvB_rK (f := f) hw
  have eA : lvA (s.1 0) f = lv4 (lvB (s.1 0) f) f (s.1 0 1 - 1) := rfl
  rw [eA]
  rw [eF] at hB ⊢
  generalize lv1 (s.1 0) f 113 = L at *
  refine xP.eq (h' := putMod h m (mR K 0 (lv2 L f 0 0))) rfl rfl rfl (by rw [lv2_0]) ?_
  refine xP.weak (V' := [some (.ref m), some (.int (nI f)), some (.int (nI (mCop (s.1 0) f 0))), some (.int (nI 0)), none, none]) (by simp [xle, xset1, fin3]) ?_
  refine xP.loop (fun i => [some (.ref m), some (.int (nI f)), some (.int (nI (mCop (s.1 0) f 0))), some (.int (nI i)), none, none]) (fun i => putMod h m (mR K 0 (lv2 L f i 0))) (s.1 0 2) ?_ ?_
  · intro i hi ih
    have e2 : ∀ j, lv2 L f i j 2 = s.1 0 2 := fun j => by rw [lv2_lo _ (by decide), eL 2 (by decide)]
    refine x_iload_n dX6_leave_88 rfl ?_
    refine x_aload_n dX6_leave_89 rfl ?_
    refine x_vi0 dX6_leave_90 cV_X6_169 (c_mPictures putMod_at) rfl rfl ⟨⟨by decide, by decide⟩, by decide, by decide⟩ (Nat.le_of_ble_eq_true rfl) (xrecv putMod_at.o rfl xcl5) ?_
    refine xP.eq (S' := [.int (nI (s.1 0 2)), .int (nI i)]) rfl rfl (by show _ = [Value.int (nI (lv2 L f i 0 2)), _]; rw [e2]) rfl ?_
    refine x_icmp_ge_n 146 dX6_leave_93 (by decide) (by omega) (by omega) (fun c5 => ?_) (fun c5 => ?_)
    · omega
    refine x_iload_n dX6_leave_96 rfl ?_
    refine x_istore dX6_leave_97 (by decide) rfl rfl ?_
    refine xP.eq (h' := putMod h m (mR K 0 (lv2 L f i f))) rfl rfl rfl (by rw [lv2_start]) ?_
    refine xP.weak (V' := [some (.ref m), some (.int (nI f)), some (.int (nI (mCop (s.1 0) f 0))), some (.int (nI i)), some (.int (nI f)), none]) (by simp [xle, xset1, fin3]) ?_
    refine xP.loopFrom (fun j => [some (.ref m), some (.int (nI f)), some (.int (nI (mCop (s.1 0) f 0))), some (.int (nI i)), some (.int (nI j)), none]) (fun j => putMod h m (mR K 0 (lv2 L f i j))) f 9 (by omega) ?_ ?_
    · intro j h0 hj ih2
      have cg := c_mCopyOf (g := g) (l := l) (putMod_at (h := h) (m := m) (s := mR K 0 (lv2 L f i j))) (p := i) (f := j + 1) (by omega) (by omega)
      have cs := c_mSetsCopy (g := g) (l := l) (h := h) (m := m) (s := mR K 0 (lv2 L f i j)) (p := i) (f := j) (x := L (125 + 19 * i + 9 + (j + 1))) (by omega) (by omega)
      rw [mR_R] at cs
      have e3 : rC ((mR K 0 (lv2 L f i j)).1 0) i (j + 1) = L (125 + 19 * i + 9 + (j + 1)) := lv2_at L hj
      rw [e3] at cg
      rw [← lv2_up L h0 hj] at ih2
      refine x_iload dX6_leave_99 rfl ?_
      refine x_bipush (nI 9) dX6_leave_101 (by decide) ?_
      refine x_icmp_ge_n 132 dX6_leave_103 (by decide) (by omega) (by omega) (fun c6 => ?_) (fun c6 => ?_)
      · omega
      · refine x_aload_n dX6_leave_106 rfl ?_
        refine x_iload_n dX6_leave_107 rfl ?_
        refine x_iload dX6_leave_108 rfl ?_
        refine x_iconst (nI 1) dX6_leave_110 (by decide) ?_
        refine x_iadd_n dX6_leave_111 ?_
        refine x_vi0 dX6_leave_112 cV_X6_182 (cg) rfl rfl ⟨⟨by decide, by decide⟩, by decide, by decide⟩ (Nat.le_of_ble_eq_true rfl) (xrecv putMod_at.o rfl xcl5) ?_
        refine x_istore dX6_leave_115 (by decide) rfl rfl ?_
        refine x_aload_n dX6_leave_117 rfl ?_
        refine x_iload_n dX6_leave_118 rfl ?_
        refine x_iload dX6_leave_119 rfl ?_
        refine x_iload dX6_leave_121 rfl ?_
        refine x_vv0 dX6_leave_123 cV_X6_172 (cs) rfl rfl ⟨⟨by decide, by decide⟩, by decide, by decide⟩ (Nat.le_of_ble_eq_true rfl) (xrecv putMod_at.o rfl xcl5) ?_
        refine x_iinc_n (k := 1) dX6_leave_126 rfl (by decide) (by decide) rfl rfl ?_
        refine x_goto 99 dX6_leave_129 (by decide) ?_
        exact xP.weak (by simp [xle, xset1, fin3]) ih2
    · have cs := c_mSetsCopy (g := g) (l := l) (h := h) (m := m) (s := mR K 0 (lv2 L f i 9)) (p := i) (f := 9) (x := 0) (by omega) (by omega)
      rw [mR_R] at cs
      rw [← lv2_end L (by omega)] at ih
      refine x_iload dX6_leave_99 rfl ?_
      refine x_bipush (nI 9) dX6_leave_101 (by decide) ?_
      refine x_icmp_ge_n 132 dX6_leave_103 (by decide) (by omega) (by omega) (fun c6 => ?_) (fun c6 => ?_)
      · refine x_aload_n dX6_leave_132 rfl ?_
        refine x_iload_n dX6_leave_133 rfl ?_
        refine x_bipush (nI 9) dX6_leave_134 (by decide) ?_
        refine x_iconst (nI 0) dX6_leave_136 (by decide) ?_
        refine x_vv0 dX6_leave_137 cV_X6_172 (cs) rfl rfl ⟨⟨by decide, by decide⟩, by decide, by decide⟩ (Nat.le_of_ble_eq_true rfl) (xrecv putMod_at.o rfl xcl5) ?_
        refine x_iinc_n (k := 1) dX6_leave_140 rfl (by decide) (by decide) rfl rfl ?_
        refine x_goto 88 dX6_leave_143 (by decide) ?_
        exact xP.weak (by simp [xle, xset1, fin3]) ih
      · omega
  have e2 : lv2 L f (s.1 0 2) 0 2 = s.1 0 2 := by rw [lv2_lo _ (by decide), eL 2 (by decide)]
  have e1 : lv2 L f (s.1 0 2) 0 1 = s.1 0 1 := by rw [lv2_lo _ (by decide), eL 1 (by decide)]
  refine x_iload_n dX6_leave_88 rfl ?_
  refine x_aload_n dX6_leave_89 rfl ?_
  refine x_vi0 dX6_leave_90 cV_X6_169 (c_mPictures putMod_at) rfl rfl ⟨⟨by decide, by decide⟩, by decide, by decide⟩ (Nat.le_of_ble_eq_true rfl) (xrecv putMod_at.o rfl xcl5) ?_
  refine xP.eq (S' := [.int (nI (s.1 0 2)), .int (nI (s.1 0 2))]) rfl rfl (by show _ = [Value.int (nI (lv2 L f (s.1 0 2) 0 2)), _]; rw [e2]) rfl ?_
  refine x_icmp_ge_n 146 dX6_leave_93 (by decide) (by omega) (by omega) (fun c5 => ?_) (fun c5 => ?_)
  rotate_left
  · omega
  refine x_aload_n dX6_leave_146 rfl ?_
  refine x_getf dX6_leave_147 f_X6_7 putMod_at.o rfl ?_
  refine x_iconst (nI 1) dX6_leave_150 (by decide) ?_
  refine x_dup2 dX6_leave_151 rfl rfl ?_
  refine x_iald_n dX6_leave_152 putMod_at.a (by omega) (by decide) ?_
  refine xP.eq (S' := [.int (nI (s.1 0 1)), .int (nI 1), .ref (m + 1)]) rfl rfl (by show _ = [Value.int (nI (lv2 L f (s.1 0 2) 0 1)), _, _]; rw [e1]) rfl ?_
  refine x_iconst (nI 1) dX6_leave_153 (by decide) ?_
  refine x_isub_n dX6_leave_154 (show 1 ≤ s.1 0 1 by omega) ?_
  refine xP.eq (S' := [.int (nI (s.1 0 1 - 1)), .int (nI 1), .ref (m + 1)]) rfl rfl rfl rfl ?_
  refine xq_X6_a dX6_leave_155 (by decide) ?_
  refine xP.eq (h' := putMod h m (mR K 0 (va_up (lv2 L f (s.1 0 2) 0) 1 (s.1 0 1 - 1)))) rfl rfl rfl (by rw [mR_R]; rfl) ?_
  have eC : va_up (lv2 L f (s.1 0 2) 0) 1 (s.1 0 1 - 1) 1 = s.1 0 1 - 1 := va_upE _ _ _
  generalize va_up (lv2 L f (s.1 0 2) 0) 1 (s.1 0 1 - 1) = C at *
  refine x_iconst (nI 0) dX6_leave_156 (by decide) ?_
  refine x_istore_n dX6_leave_157 (by decide) rfl rfl ?_
  refine xP.eq (h' := putMod h m (mR K 0 (lv4 C f 0))) rfl rfl rfl rfl ?_
  refine xP.weak (V' := [some (.ref m), some (.int (nI f)), some (.int (nI (mCop (s.1 0) f 0))), some (.int (nI 0)), none, none]) (by simp [xle, xset1, fin3]) ?_
  refine xP.loop (fun i => [some (.ref m), some (.int (nI f)), some (.int (nI (mCop (s.1 0) f 0))), some (.int (nI i)), none, none]) (fun i => putMod h m (mR K 0 (lv4 C f i))) (s.1 0 1 - 1) ?_ ?_
  · intro i hi ih
    have h4 := lv4_rK (f := f) hB i (by omega)
    have h5 := h4.fam (i := 3) (show i < 10 by omega) (by decide)
    rw [if_neg (by decide), if_neg (by decide), if_pos rfl] at h5
    have e1 : lv4 C f i 1 = s.1 0 1 - 1 := (lv4_lo (by decide) i).trans eC
    rw [lv4] at ih
    have cs := c_mSetsOf (g := g) (l := l) (h := h) (m := m) (s := mR K 0 (lv4 C f i)) (f := i) (i := 3) (x := mWo (rF (lv4 C f i) i 3) f) (by omega) (by decide)
    rw [mR_R] at cs
    generalize lv4 C f i = D at *
    refine x_iload_n dX6_leave_158 rfl ?_
    refine x_aload_n dX6_leave_159 rfl ?_
    refine x_vi0 dX6_leave_160 cV_X6_67 (c_mFamilies putMod_at) rfl rfl ⟨⟨by decide, by decide⟩, by decide, by decide⟩ (Nat.le_of_ble_eq_true rfl) (xrecv putMod_at.o rfl xcl5) ?_
    refine xP.eq (S' := [.int (nI (s.1 0 1 - 1)), .int (nI i)]) rfl rfl (by show _ = [Value.int (nI (D 1)), _]; rw [e1]) rfl ?_
    refine x_icmp_ge_n 188 dX6_leave_163 (by decide) (by omega) (by omega) (fun c7 => ?_) (fun c7 => ?_)
    · omega
    · refine x_aload_n dX6_leave_166 rfl ?_
      refine x_iload_n dX6_leave_167 rfl ?_
      refine x_iconst (nI 3) dX6_leave_168 (by decide) ?_
      refine x_aload_n dX6_leave_169 rfl ?_
      refine x_iload_n dX6_leave_170 rfl ?_
      refine x_iconst (nI 3) dX6_leave_171 (by decide) ?_
      refine x_vi0 dX6_leave_172 cV_X6_206 (c_mOfFamily putMod_at (show i < 10 by omega) (show 3 < 12 by decide)) rfl rfl ⟨⟨by decide, by decide⟩, by decide, by decide⟩ (Nat.le_of_ble_eq_true rfl) (xrecv putMod_at.o rfl xcl5) ?_
      refine xP.eq (S' := [.int (nI (rF D i 3)), .int (nI 3), .int (nI i), .ref m]) rfl rfl rfl rfl ?_
      refine x_iload_n dX6_leave_175 rfl ?_
      refine x_si0 dX6_leave_176 cS_X6_321 (c_mWithout (show rF D i 3 < 65536 by omega) (show f < 16 by omega)) rfl rfl ⟨⟨by decide, by decide⟩, by decide, by decide⟩ (Nat.le_of_ble_eq_true rfl) ?_
      refine x_vv0 dX6_leave_179 cV_X6_45 (cs) rfl rfl ⟨⟨by decide, by decide⟩, by decide, by decide⟩ (Nat.le_of_ble_eq_true rfl) (xrecv putMod_at.o rfl xcl5) ?_
      refine x_iinc_n (k := 1) dX6_leave_182 rfl (by decide) (by decide) rfl rfl ?_
      refine x_goto 158 dX6_leave_185 (by decide) ?_
      exact xP.weak (by simp [xle, xset1, fin3]) ih
  · have e1 : lv4 C f (s.1 0 1 - 1) 1 = s.1 0 1 - 1 := (lv4_lo (by decide) _).trans eC
    refine x_iload_n dX6_leave_158 rfl ?_
    refine x_aload_n dX6_leave_159 rfl ?_
    refine x_vi0 dX6_leave_160 cV_X6_67 (c_mFamilies putMod_at) rfl rfl ⟨⟨by decide, by decide⟩, by decide, by decide⟩ (Nat.le_of_ble_eq_true rfl) (xrecv putMod_at.o rfl xcl5) ?_
    refine xP.eq (S' := [.int (nI (s.1 0 1 - 1)), .int (nI (s.1 0 1 - 1))]) rfl rfl (by show _ = [Value.int (nI (lv4 C f (s.1 0 1 - 1) 1)), _]; rw [e1]) rfl ?_
    refine x_icmp_ge_n 188 dX6_leave_163 (by decide) (by omega) (by omega) (fun c7 => ?_) (fun c7 => ?_)
    · refine x_iload_n dX6_leave_188 rfl ?_
      exact x_ireturn dX6_leave_189 rfl rfl (by decide) (by decide) ⟨_, rfl, rfl, f1.2.2.2.2.2.2.2.2.2, rfl, f1⟩
    · omega
end M25
