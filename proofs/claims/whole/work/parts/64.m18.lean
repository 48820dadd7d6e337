/-! ===== the model: copies spread ===== -/
def mLeft (A : Nat → Nat) (f : Nat) : Nat := rF A f 0 - mCop A f 0
def ahB (A : Nat → Nat) (f b : Nat) : Bool := if mLeft A f = mLeft A b then decide (mTrust A b < mTrust A f) else decide (mLeft A b < mLeft A f)
def mMay (A : Nat → Nat) (p f : Nat) : Bool := decide (rC A p f = 0) && decide (0 < mLeft A f) && decide (mSrc A p f ≠ 0)
def ahO (A : Nat → Nat) (f : Nat) : Option Nat → Bool
  | none => true
  | some b => ahB A f b
def mNx (A : Nat → Nat) (p : Nat) : Nat → Option Nat
  | 0 => none
  | n + 1 => if (mMay A p n && ahO A n (mNx A p n)) = true then some n else mNx A p n
/-- no family has more copies than room -/
def rL (A : Nat → Nat) : Prop := ∀ f, f < A 1 → mCop A f 0 ≤ rF A f 0
def spPut (A : Nat → Nat) (p f : Nat) : Nat → Nat := va_up A (125 + 19 * p + 9 + f) (mGets A p f)
def spS (A : Nat → Nat) (p : Nat) : Option Nat := if mDan A p = true then mNx A p (A 1) else none
def spI (q : (Nat → Nat) × Nat) (p : Nat) : Nat → (Nat → Nat) × Nat
  | 0 => q
  | n + 1 => match spS q.1 p with
    | none => q
    | some f => spI (spPut q.1 p f, q.2 + 1) p n
def spO (A : Nat → Nat) : Nat → (Nat → Nat) × Nat
  | 0 => (A, 0)
  | n + 1 => spI (spO A n) n 10
theorem spI_stop {q : (Nat → Nat) × Nat} {p n : Nat} (e : spS q.1 p = none) : spI q p n = q := by
  cases n with
  | zero => rfl
  | succ n => rw [spI, e]
theorem spI_go {q : (Nat → Nat) × Nat} {p n f : Nat} (e : spS q.1 p = some f) : spI q p (n + 1) = spI (spPut q.1 p f, q.2 + 1) p n := by rw [spI, e]
theorem mNx_may {A : Nat → Nat} {p : Nat} : ∀ {n b : Nat}, mNx A p n = some b → b < n ∧ mMay A p b = true := by
  intro n
  induction n with
  | zero => intro b h; cases h
  | succ n ih =>
    intro b h
    rw [mNx] at h
    by_cases c : (mMay A p n && ahO A n (mNx A p n)) = true
    · rw [if_pos c] at h
      cases h
      rw [Bool.and_eq_true] at c
      exact ⟨by omega, c.1⟩
    · rw [if_neg c] at h
      exact ⟨by have := (ih h).1; omega, (ih h).2⟩
theorem spS_may {A : Nat → Nat} {p f : Nat} (h : spS A p = some f) : f < A 1 ∧ rC A p f = 0 ∧ 0 < mLeft A f ∧ mSrc A p f ≠ 0 := by
  unfold spS at h
  split at h
  · obtain ⟨h1, h2⟩ := mNx_may h
    unfold mMay at h2
    rw [Bool.and_eq_true, Bool.and_eq_true, decide_eq_true_eq, decide_eq_true_eq, decide_eq_true_eq] at h2
    exact ⟨h1, h2.1.1, h2.1.2, h2.2⟩
  · cases h
theorem mGets_pos (A : Nat → Nat) (p f : Nat) : mGets A p f ≠ 0 := by
  have : 65536 ≤ mGets A p f := Nat.left_le_or
  omega
theorem rC_put {A : Nat → Nat} {p f p' f' x : Nat} (hf : f < 10) (hf' : f' < 10) : rC (va_up A (125 + 19 * p + 9 + f) x) p' f' = if p' = p ∧ f' = f then x else rC A p' f' := by
  unfold rC va_up
  by_cases e : p' = p ∧ f' = f
  · rw [if_pos e, if_pos (by omega)]
  · rw [if_neg e, if_neg (by omega)]
theorem rF_put {A : Nat → Nat} {p f f' i x : Nat} (hf' : f' < 10) (hi : i < 12) : rF (va_up A (125 + 19 * p + 9 + f) x) f' i = rF A f' i := va_up_ne _ _ (by omega)
theorem mCop_put {A : Nat → Nat} {p f f' : Nat} (hp : p < A 2) (hf : f < 10) (hf' : f' < 10) (hz : rC A p f = 0) : mCop (spPut A p f) f' 0 = mCop A f' 0 + (if f' = f then 1 else 0) := by
  have e2 : spPut A p f 2 = A 2 := va_up_ne _ _ (by omega)
  unfold mCop
  rw [e2]
  by_cases e : f' = f
  · subst e
    have h1 := fb_ct_upd (fun q => cSort (rC A q f') 0) true hp
    have h2 : (fun k => if k = p then true else (fun q => cSort (rC A q f') 0) k) = fun q => cSort (rC (spPut A p f') q f') 0 := by
      funext k
      unfold spPut
      rw [rC_put hf hf']
      by_cases c : k = p
      · rw [if_pos c, if_pos ⟨c, rfl⟩]
        show true = cSort (mGets A p f') 0
        unfold cSort
        rw [if_pos rfl]
        exact (decide_eq_true (mGets_pos A p f')).symm
      · rw [if_neg c, if_neg (fun q => c q.1)]
    rw [h2] at h1
    rw [if_pos rfl]
    rw [hz] at h1
    simpa [cSort] using h1
  · rw [if_neg e]
    refine fb_ct_cong fun k _ => ?_
    unfold spPut
    rw [rC_put hf hf', if_neg (fun q => e q.2)]
/-- what spreading keeps -/
def spInv (A0 A : Nat → Nat) (n : Nat) : Prop := rK A n ∧ rL A ∧ ∀ k, k < 125 ∨ 353 ≤ k → A k = A0 k
theorem spPut_inv {A0 A : Nat → Nat} {n p f : Nat} (hi : spInv A0 A n) (hp : p < A 2) (e : spS A p = some f) : spInv A0 (spPut A p f) n := by
  obtain ⟨h1, h2, h3⟩ := hi
  obtain ⟨k1, k2, k3, -⟩ := spS_may e
  have hN : A 1 ≤ 10 := h1.2.2 1 (by decide)
  have hK : A 2 ≤ 12 := h1.2.2 2 (by decide)
  refine ⟨h1.upC (by omega) (by omega) (by have := mGets_lt A p f; omega), fun f' hf' => ?_, fun k hk => (va_up_ne _ _ (by omega)).trans (h3 k hk)⟩
  have e1 : spPut A p f 1 = A 1 := va_up_ne _ _ (by omega)
  rw [e1] at hf'
  rw [mCop_put hp (by omega) (by omega) k2]
  have : rF (spPut A p f) f' 0 = rF A f' 0 := rF_put (by omega) (by decide)
  rw [this]
  have h4 := h2 f' hf'
  split
  · rename_i c
    subst c
    unfold mLeft at k3
    omega
  · omega
theorem spI_inv {A0 : Nat → Nat} {n p : Nat} (hp : p < A0 2) : ∀ (j : Nat) (q : (Nat → Nat) × Nat), spInv A0 q.1 n → spInv A0 (spI q p j).1 n := by
  intro j
  induction j with
  | zero => intro q h; exact h
  | succ j ih =>
    intro q h
    cases e : spS q.1 p with
    | none => rw [spI_stop e]; exact h
    | some f =>
      rw [spI_go e]
      exact ih _ (spPut_inv h (by rw [h.2.2 2 (by decide)]; exact hp) e)
theorem spO_inv {A : Nat → Nat} {n : Nat} (h : rK A n) (hl : rL A) : ∀ j, j ≤ A 2 → spInv A (spO A j).1 n := by
  intro j
  induction j with
  | zero => intro _; exact ⟨h, hl, fun _ _ => rfl⟩
  | succ j ih => intro hj; exact spI_inv (by omega) 10 _ (ih (by omega))
theorem spI_n {p : Nat} : ∀ (j : Nat) (q : (Nat → Nat) × Nat), (spI q p j).2 ≤ q.2 + j := by
  intro j
  induction j with
  | zero => intro q; exact Nat.le_refl _
  | succ j ih =>
    intro q
    cases e : spS q.1 p with
    | none => rw [spI_stop e]; omega
    | some f => rw [spI_go e]; have := ih (spPut q.1 p f, q.2 + 1); dsimp only at this; omega
theorem spO_n (A : Nat → Nat) : ∀ j, (spO A j).2 ≤ 10 * j := by
  intro j
  induction j with
  | zero => exact Nat.le_refl _
  | succ j ih => have := spI_n (p := j) 10 (spO A j); rw [spO]; omega
/-- families without a copy of a picture -/
def zcN (A : Nat → Nat) (p : Nat) : Nat := fb_ct (fun f => decide (rC A p f = 0)) (A 1)
theorem zcN_put {A : Nat → Nat} {p f : Nat} (hN : A 1 ≤ 10) (e : spS A p = some f) : zcN (spPut A p f) p + 1 = zcN A p := by
  obtain ⟨k1, k2, k3, -⟩ := spS_may e
  have e1 : spPut A p f 1 = A 1 := va_up_ne _ _ (by omega)
  unfold zcN
  rw [e1]
  have h1 := fb_ct_upd (fun f => decide (rC A p f = 0)) false k1
  have h2 : fb_ct (fun k => if k = f then false else (fun f => decide (rC A p f = 0)) k) (A 1) = fb_ct (fun k => decide (rC (spPut A p f) p k = 0)) (A 1) := by
    refine fb_ct_cong fun k hk => ?_
    unfold spPut
    rw [rC_put (by omega) (by omega)]
    by_cases c : k = f
    · rw [if_pos c, if_pos ⟨rfl, c⟩]
      exact (decide_eq_false (mGets_pos A p f)).symm
    · rw [if_neg c, if_neg (fun q => c q.2)]
  rw [h2] at h1
  rw [decide_eq_true k2] at h1
  simpa using h1
theorem zcN_stop {A : Nat → Nat} {p : Nat} (h : zcN A p = 0) : spS A p = none := by
  cases e : spS A p with
  | none => rfl
  | some f =>
    obtain ⟨k1, k2, -, -⟩ := spS_may e
    have := (fb_ct_zero.mp h) f k1
    rw [decide_eq_true k2] at this
    cases this
section M18
variable {g : xG} {l : Launch} {h : xH} {m : Nat} {s : Mo}
theorem c_mIsAhead {n f : Nat} {b : Option Nat} (hM : ModAt h m s) (hw : rK (s.1 0) n) (hl : rL (s.1 0)) (hf : f < s.1 0 1) (hb : ∀ i, b = some i → i < s.1 0 1) : xDet g l mX6_isAhead 4 0 0 [.ref m, .int (nI f), .int (oI b)] h (some (.int (xb (ahO (s.1 0) f b)))) h := by
  have hN : s.1 0 1 ≤ 10 := hw.2.2 1 (by decide)
  have lim : ∀ f, f < 10 → rF (s.1 0) f 0 ≤ 20 := fun f hf => (hw.ok.2.2.2.2.1 f hf).2
  have h1 := hl f hf
  have h2 := lim f (by omega)
  cases b with
  | none =>
    refine xMet.of (V := [some (.ref m), some (.int (nI f)), some (.int (oI none))]) moX6_isAhead (Nat.le_of_ble_eq_true rfl) rfl ?_
    refine x_iload_n dX6_isAhead_0 rfl ?_
    refine x_iconst (-1) dX6_isAhead_1 (by decide) ?_
    refine x_icmp_eq 18 dX6_isAhead_2 (by decide) (fun c1 => ?_) (fun c1 => ?_)
    · refine x_iload_n dX6_isAhead_18 rfl ?_
      refine x_iconst (-1) dX6_isAhead_19 (by decide) ?_
      refine x_icmp_eq 36 dX6_isAhead_20 (by decide) (fun c2 => ?_) (fun c2 => ?_)
      · refine x_iconst (nI 1) dX6_isAhead_36 (by decide) ?_
        refine x_goto 41 dX6_isAhead_37 (by decide) ?_
        exact x_iret .boolean dX6_isAhead_41 rfl rfl (by decide) (by decide) (rfl) (rfl)
      · exact absurd rfl c2
    · exact absurd rfl c1
  | some i =>
    have hi := hb i rfl
    have h3 := hl i hi
    have h4 := lim i (by omega)
    have tl : ∀ f, f < s.1 0 1 → mTrust (s.1 0) f < 2 ^ 31 := fun f hf => by
      have h5 : rF (s.1 0) f 1 < 2 ^ 24 := hw.ok.2.2.2.2.2 _ (by omega)
      have : mTrust (s.1 0) f ≤ 100 * (rF (s.1 0) f 1 + 1) := Nat.div_le_self _ _
      omega
    have t1 := tl f hf
    have t2 := tl i hi
    have el : ∀ f, rF (s.1 0) f 0 - mCop (s.1 0) f 0 = mLeft (s.1 0) f := fun _ => rfl
    have e1 : mLeft (s.1 0) f < 2 ^ 31 := by rw [← el]; omega
    have e2 : mLeft (s.1 0) i < 2 ^ 31 := by rw [← el]; omega
    have bt : ∀ (r : Bool), ahB (s.1 0) f i = r → xP g l mX6_isAhead [] (xR 4 0 0) (xZ g (fun r' h' => r' = some (.int (xb (ahB (s.1 0) f i))) ∧ h' = h) xno 0 0) 41 [some (.ref m), some (.int (nI f)), some (.int (nI i))] [.int (xb r)] h 0 0 := by
      intro r hr
      rw [hr]
      exact x_bret dX6_isAhead_41 rfl (by decide) (by decide) (rfl) (rfl)
    refine xMet.of (V := [some (.ref m), some (.int (nI f)), some (.int (nI i))]) moX6_isAhead (Nat.le_of_ble_eq_true rfl) rfl ?_
    refine x_iload_n dX6_isAhead_0 rfl ?_
    refine x_iconst (-1) dX6_isAhead_1 (by decide) ?_
    refine x_icmp_eq 18 dX6_isAhead_2 (by decide) (fun c1 => ?_) (fun c1 => ?_)
    · exact absurd c1 (nI_m1 (by omega))
    · refine x_aload_n dX6_isAhead_5 rfl ?_
      refine x_iload_n dX6_isAhead_6 rfl ?_
      refine x_vi0 dX6_isAhead_7 cV_X6_185 (c_mLeftOf hM hw.ok (show f < 10 by omega) h1) rfl rfl ⟨⟨by decide, by decide⟩, by decide, by decide⟩ (Nat.le_of_ble_eq_true rfl) (xrecv hM.o rfl xcl5) ?_
      refine x_aload_n dX6_isAhead_10 rfl ?_
      refine x_iload_n dX6_isAhead_11 rfl ?_
      refine x_vi0 dX6_isAhead_12 cV_X6_185 (c_mLeftOf hM hw.ok (show i < 10 by omega) h3) rfl rfl ⟨⟨by decide, by decide⟩, by decide, by decide⟩ (Nat.le_of_ble_eq_true rfl) (xrecv hM.o rfl xcl5) ?_
      refine x_icmp_eq_n 42 dX6_isAhead_15 (by decide) (by omega) (by omega) (fun c2 => ?_) (fun c2 => ?_)
      · rw [el, el] at c2
        refine x_aload_n dX6_isAhead_42 rfl ?_
        refine x_iload_n dX6_isAhead_43 rfl ?_
        refine x_vi0 dX6_isAhead_44 cV_X6_254 (c_mTrustOf hM hw.ok (show f < 10 by omega)) rfl rfl ⟨⟨by decide, by decide⟩, by decide, by decide⟩ (Nat.le_of_ble_eq_true rfl) (xrecv hM.o rfl xcl5) ?_
        refine x_aload_n dX6_isAhead_47 rfl ?_
        refine x_iload_n dX6_isAhead_48 rfl ?_
        refine x_vi0 dX6_isAhead_49 cV_X6_254 (c_mTrustOf hM hw.ok (show i < 10 by omega)) rfl rfl ⟨⟨by decide, by decide⟩, by decide, by decide⟩ (Nat.le_of_ble_eq_true rfl) (xrecv hM.o rfl xcl5) ?_
        refine x_icmp_le_n 59 dX6_isAhead_52 (by decide) (by omega) (by omega) (fun c3 => ?_) (fun c3 => ?_)
        · refine x_iconst (nI 0) dX6_isAhead_59 (by decide) ?_
          refine xP.eq (S' := [.int (xb false)]) rfl rfl rfl rfl ?_
          exact x_bret dX6_isAhead_60 rfl (by decide) (by decide) (by show _ = some (Value.int (xb (ahB (s.1 0) f i))); unfold ahB; rw [if_pos c2, decide_eq_false (by omega)]) (rfl)
        · refine x_iconst (nI 1) dX6_isAhead_55 (by decide) ?_
          refine x_goto 60 dX6_isAhead_56 (by decide) ?_
          refine xP.eq (S' := [.int (xb true)]) rfl rfl rfl rfl ?_
          exact x_bret dX6_isAhead_60 rfl (by decide) (by decide) (by show _ = some (Value.int (xb (ahB (s.1 0) f i))); unfold ahB; rw [if_pos c2, decide_eq_true (by omega)]) (rfl)
      · rw [el, el] at c2
        refine x_iload_n dX6_isAhead_18 rfl ?_
        refine x_iconst (-1) dX6_isAhead_19 (by decide) ?_
        refine x_icmp_eq 36 dX6_isAhead_20 (by decide) (fun c3 => ?_) (fun c3 => ?_)
        · exact absurd c3 (nI_m1 (by omega))
        · refine x_aload_n dX6_isAhead_23 rfl ?_
          refine x_iload_n dX6_isAhead_24 rfl ?_
          refine x_vi0 dX6_isAhead_25 cV_X6_185 (c_mLeftOf hM hw.ok (show f < 10 by omega) h1) rfl rfl ⟨⟨by decide, by decide⟩, by decide, by decide⟩ (Nat.le_of_ble_eq_true rfl) (xrecv hM.o rfl xcl5) ?_
          refine x_aload_n dX6_isAhead_28 rfl ?_
          refine x_iload_n dX6_isAhead_29 rfl ?_
          refine x_vi0 dX6_isAhead_30 cV_X6_185 (c_mLeftOf hM hw.ok (show i < 10 by omega) h3) rfl rfl ⟨⟨by decide, by decide⟩, by decide, by decide⟩ (Nat.le_of_ble_eq_true rfl) (xrecv hM.o rfl xcl5) ?_
          refine x_icmp_le_n 40 dX6_isAhead_33 (by decide) (by omega) (by omega) (fun c4 => ?_) (fun c4 => ?_)
          · rw [el, el] at c4
            refine x_iconst (nI 0) dX6_isAhead_40 (by decide) ?_
            refine xP.eq (S' := [.int (xb false)]) rfl rfl rfl rfl ?_
            exact bt false (by unfold ahB; rw [if_neg c2, decide_eq_false (by omega)])
          · rw [el, el] at c4
            refine x_iconst (nI 1) dX6_isAhead_36 (by decide) ?_
            refine x_goto 41 dX6_isAhead_37 (by decide) ?_
            refine xP.eq (S' := [.int (xb true)]) rfl rfl rfl rfl ?_
            exact bt true (by unfold ahB; rw [if_neg c2, decide_eq_true (by omega)])
theorem c_mNextFor {n p : Nat} (hM : ModAt h m s) (hw : rK (s.1 0) n) (hl : rL (s.1 0)) (hp : p < 12) : xDet g l mX6_nextFor 5 0 0 [.ref m, .int (nI p)] h (some (.int (oI (mNx (s.1 0) p (s.1 0 1))))) h := by
  have hN : s.1 0 1 ≤ 10 := hw.2.2 1 (by decide)
  refine xMet.of (V := [some (.ref m), some (.int (nI p)), none, none]) moX6_nextFor (Nat.le_of_ble_eq_true rfl) rfl ?_
  refine x_iconst (-1) dX6_nextFor_0 (by decide) ?_
  refine x_istore_n dX6_nextFor_1 (by decide) rfl rfl ?_
  refine x_iconst (nI 0) dX6_nextFor_2 (by decide) ?_
  refine x_istore_n dX6_nextFor_3 (by decide) rfl rfl ?_
  refine xP.weak (V' := [some (.ref m), some (.int (nI p)), some (.int (oI (mNx (s.1 0) p 0))), some (.int (nI 0))]) (by simp [xle, xset1, fin3, mNx, oI]) ?_
  refine xP.loop0 (fun i => [some (.ref m), some (.int (nI p)), some (.int (oI (mNx (s.1 0) p i))), some (.int (nI i))]) (s.1 0 1) ?_ ?_
  · intro i hi ih
    have hc := hw.copy hp (f := i) (by omega)
    have hlf := hl i hi
    have hrm := (hw.ok.2.2.2.2.1 i (by omega)).2
    have hsr := mSrc_lt hw.ok p i
    have no : mMay (s.1 0) p i = false → xP g l mX6_nextFor [] (xR 5 0 0) (xZ g (fun r' h' => r' = some (.int (oI (mNx (s.1 0) p (s.1 0 1)))) ∧ h' = h) xno 0 0) 49 [some (.ref m), some (.int (nI p)), some (.int (oI (mNx (s.1 0) p i))), some (.int (nI i))] [] h 0 0 := by
      intro q
      have e : mNx (s.1 0) p (i + 1) = mNx (s.1 0) p i := by rw [mNx, q]; rfl
      refine x_iinc_n (k := 1) dX6_nextFor_49 rfl (by decide) (by decide) rfl rfl ?_
      refine x_goto 4 dX6_nextFor_52 (by decide) ?_
      exact xP.weak (by simp [xle, xset1, xset2, fin3, e]) ih
    have el : rF (s.1 0) i 0 - mCop (s.1 0) i 0 = mLeft (s.1 0) i := rfl
    refine x_iload_n dX6_nextFor_4 rfl ?_
    refine x_aload_n dX6_nextFor_5 rfl ?_
    refine x_vi0 dX6_nextFor_6 cV_X6_67 (c_mFamilies hM) rfl rfl ⟨⟨by decide, by decide⟩, by decide, by decide⟩ (Nat.le_of_ble_eq_true rfl) (xrecv hM.o rfl xcl5) ?_
    refine x_icmp_ge_n 55 dX6_nextFor_9 (by decide) (by omega) (by omega) (fun c0 => ?_) (fun c0 => ?_)
    · omega
    · refine x_aload_n dX6_nextFor_12 rfl ?_
      refine x_iload_n dX6_nextFor_13 rfl ?_
      refine x_iload_n dX6_nextFor_14 rfl ?_
      refine x_vi0 dX6_nextFor_15 cV_X6_182 (c_mCopyOf hM hp (show i < 10 by omega)) rfl rfl ⟨⟨by decide, by decide⟩, by decide, by decide⟩ (Nat.le_of_ble_eq_true rfl) (xrecv hM.o rfl xcl5) ?_
      refine x_if_ne_n 49 dX6_nextFor_18 (by decide) (by omega) (fun c1 => ?_) (fun c1 => ?_)
      · exact no (by unfold mMay; rw [decide_eq_false (show ¬ rC (s.1 0) p i = 0 by omega)]; rfl)
      · refine x_aload_n dX6_nextFor_21 rfl ?_
        refine x_iload_n dX6_nextFor_22 rfl ?_
        refine x_vi0 dX6_nextFor_23 cV_X6_185 (c_mLeftOf hM hw.ok (show i < 10 by omega) hlf) rfl rfl ⟨⟨by decide, by decide⟩, by decide, by decide⟩ (Nat.le_of_ble_eq_true rfl) (xrecv hM.o rfl xcl5) ?_
        refine x_if_le_n 49 dX6_nextFor_26 (by decide) (by omega) (fun c2 => ?_) (fun c2 => ?_)
        · rw [el] at c2
          exact no (by unfold mMay; rw [decide_eq_false (show ¬ 0 < mLeft (s.1 0) i by omega)]; simp)
        · rw [el] at c2
          refine x_aload_n dX6_nextFor_29 rfl ?_
          refine x_iload_n dX6_nextFor_30 rfl ?_
          refine x_iload_n dX6_nextFor_31 rfl ?_
          refine x_vi0 dX6_nextFor_32 cV_X6_285 (c_mSourcesOf hM hw.ok hp (show i < 10 by omega)) rfl rfl ⟨⟨by decide, by decide⟩, by decide, by decide⟩ (Nat.le_of_ble_eq_true rfl) (xrecv hM.o rfl xcl5) ?_
          refine x_if_eq_n 49 dX6_nextFor_35 (by decide) (by omega) (fun c3 => ?_) (fun c3 => ?_)
          · exact no (by unfold mMay; rw [decide_eq_false (show ¬ mSrc (s.1 0) p i ≠ 0 by omega)]; simp)
          · have hm : mMay (s.1 0) p i = true := by
              unfold mMay
              rw [decide_eq_true (show rC (s.1 0) p i = 0 by omega), decide_eq_true (show 0 < mLeft (s.1 0) i by omega), decide_eq_true (show mSrc (s.1 0) p i ≠ 0 by omega)]
              rfl
            have hb : ∀ b, mNx (s.1 0) p i = some b → b < s.1 0 1 := fun b q => by have := (mNx_may q).1; omega
            refine x_aload_n dX6_nextFor_38 rfl ?_
            refine x_iload_n dX6_nextFor_39 rfl ?_
            refine x_iload_n dX6_nextFor_40 rfl ?_
            refine x_vi0 dX6_nextFor_41 cV_X6_309 (c_mIsAhead hM hw hl hi hb) rfl rfl ⟨⟨by decide, by decide⟩, by decide, by decide⟩ (Nat.le_of_ble_eq_true rfl) (xrecv hM.o rfl xcl5) ?_
            refine x_if_eq_b 49 dX6_nextFor_44 (by decide) (fun c4 => ?_) (fun c4 => ?_)
            · have e : mNx (s.1 0) p (i + 1) = mNx (s.1 0) p i := by rw [mNx, hm, Bool.true_and, if_neg (by rw [c4]; decide)]
              refine x_iinc_n (k := 1) dX6_nextFor_49 rfl (by decide) (by decide) rfl rfl ?_
              refine x_goto 4 dX6_nextFor_52 (by decide) ?_
              exact xP.weak (by simp [xle, xset1, xset2, fin3, e]) ih
            · have e : mNx (s.1 0) p (i + 1) = some i := by rw [mNx, hm, Bool.true_and, if_pos c4]
              refine x_iload_n dX6_nextFor_47 rfl ?_
              refine x_istore_n dX6_nextFor_48 (by decide) rfl rfl ?_
              refine x_iinc_n (k := 1) dX6_nextFor_49 rfl (by decide) (by decide) rfl rfl ?_
              refine x_goto 4 dX6_nextFor_52 (by decide) ?_
              exact xP.weak (by simp [xle, xset1, xset2, fin3, e, oI]) ih
  · refine x_iload_n dX6_nextFor_4 rfl ?_
    refine x_aload_n dX6_nextFor_5 rfl ?_
    refine x_vi0 dX6_nextFor_6 cV_X6_67 (c_mFamilies hM) rfl rfl ⟨⟨by decide, by decide⟩, by decide, by decide⟩ (Nat.le_of_ble_eq_true rfl) (xrecv hM.o rfl xcl5) ?_
    refine x_icmp_ge_n 55 dX6_nextFor_9 (by decide) (by omega) (by omega) (fun c0 => ?_) (fun c0 => ?_)
    · refine x_iload_n dX6_nextFor_55 rfl ?_
      exact x_iret .int dX6_nextFor_56 rfl rfl (by decide) (by decide) (rfl) (rfl)
    · omega
theorem c_mSpreads {n : Nat} (hw : rK (s.1 0) n) (hl : rL (s.1 0)) : xDet g l mX6_spreads 6 0 0 [.ref m] (putMod h m s) (some (.int (nI (spO (s.1 0) (s.1 0 2)).2))) (putMod h m (mR s 0 (spO (s.1 0) (s.1 0 2)).1)) := by
  have hK : s.1 0 2 ≤ 12 := hw.2.2 2 (by decide)
  have hN : s.1 0 1 ≤ 10 := hw.2.2 1 (by decide)
  have inv := spO_inv hw hl
  refine xMet.of (V := [some (.ref m), none, none, none, none]) moX6_spreads (Nat.le_of_ble_eq_true rfl) rfl ?_
  refine x_iconst (nI 0) dX6_spreads_0 (by decide) ?_
  refine x_istore_n dX6_spreads_1 (by decide) rfl rfl ?_
  refine x_iconst (nI 0) dX6_spreads_2 (by decide) ?_
  refine x_istore_n dX6_spreads_3 (by decide) rfl rfl ?_
  refine xP.eq (h' := putMod h m (mR s 0 (spO (s.1 0) 0).1)) rfl rfl rfl (by show putMod h m s = putMod h m (mR s 0 (s.1 0)); rw [mR_self]) ?_
  refine xP.weak (V' := [some (.ref m), some (.int (nI (spO (s.1 0) 0).2)), some (.int (nI 0)), none, none]) (by simp [xle, xset1, fin3, spO]) ?_
  refine xP.loop (fun i => [some (.ref m), some (.int (nI (spO (s.1 0) i).2)), some (.int (nI i)), none, none]) (fun i => putMod h m (mR s 0 (spO (s.1 0) i).1)) (s.1 0 2) ?_ ?_
  · intro i hi ih
    have hinv := inv i (by omega)
    have hn1 := spO_n (s.1 0) i
    rw [spO] at ih
    have e2 : (spO (s.1 0) i).1 2 = s.1 0 2 := hinv.2.2 2 (by decide)
    generalize spO (s.1 0) i = q at *
    have nx : ∀ (q : (Nat → Nat) × Nat), spInv (s.1 0) q.1 n → xDet g l mX6_nextFor 5 0 0 [.ref m, .int (nI i)] (putMod h m (mR s 0 q.1)) (some (.int (oI (mNx q.1 i (q.1 1))))) (putMod h m (mR s 0 q.1)) := fun q hq => c_mNextFor (s := mR s 0 q.1) putMod_at hq.1 hq.2.1 (by omega)
    have dn : ∀ (q : (Nat → Nat) × Nat), spInv (s.1 0) q.1 n → xDet g l mX6_isInDanger 3 0 0 [.ref m, .int (nI i)] (putMod h m (mR s 0 q.1)) (some (.int (xb (mDan q.1 i)))) (putMod h m (mR s 0 q.1)) := fun q hq => c_mInDanger (s := mR s 0 q.1) putMod_at hq.1.ok (by omega)
    have gt : ∀ (q : (Nat → Nat) × Nat) (f : Nat), spInv (s.1 0) q.1 n → f < 10 → xDet g l mX6_gets 4 0 0 [.ref m, .int (nI i), .int (nI f)] (putMod h m (mR s 0 q.1)) (some (.int (nI (mGets q.1 i f)))) (putMod h m (mR s 0 q.1)) := fun q f hq hf => c_mGets (s := mR s 0 q.1) putMod_at hq.1.ok (by omega) hf
    have pt : ∀ (q : (Nat → Nat) × Nat) (f : Nat), f < 10 → xDet g l mX6_setsCopy 0 0 0 [.ref m, .int (nI i), .int (nI f), .int (nI (mGets q.1 i f))] (putMod h m (mR s 0 q.1)) none (putMod h m (mR s 0 (spPut q.1 i f))) := fun q f hf => by
      have := c_mSetsCopy (g := g) (l := l) (h := h) (m := m) (s := mR s 0 q.1) (p := i) (f := f) (x := mGets q.1 i f) (by omega) hf
      rw [mR_R] at this
      exact this
    refine x_iload_n dX6_spreads_4 rfl ?_
    refine x_aload_n dX6_spreads_5 rfl ?_
    refine x_vi0 dX6_spreads_6 cV_X6_169 (c_mPictures putMod_at) rfl rfl ⟨⟨by decide, by decide⟩, by decide, by decide⟩ (Nat.le_of_ble_eq_true rfl) (xrecv putMod_at.o rfl xcl5) ?_
    refine xP.eq (S' := [.int (nI (s.1 0 2)), .int (nI i)]) rfl rfl (by show _ = [Value.int (nI (q.1 2)), _]; rw [e2]) rfl ?_
    refine x_icmp_ge_n 65 dX6_spreads_9 (by decide) (by omega) (by omega) (fun c0 => ?_) (fun c0 => ?_)
    · omega
    · refine x_aload_n dX6_spreads_12 rfl ?_
      refine x_iload_n dX6_spreads_13 rfl ?_
      refine x_vi0 dX6_spreads_14 cV_X6_312 (nx q hinv) rfl rfl ⟨⟨by decide, by decide⟩, by decide, by decide⟩ (Nat.le_of_ble_eq_true rfl) (xrecv putMod_at.o rfl xcl5) ?_
      refine x_istore_n dX6_spreads_17 (by decide) rfl rfl ?_
      have inner : ∀ (j : Nat) (r : (Nat → Nat) × Nat) (v4 : Option Value), j ≤ 10 → r.2 ≤ q.2 + (10 - j) → spInv (s.1 0) r.1 n → zcN r.1 i ≤ j → spI q i 10 = spI r i j → xP g l mX6_spreads [] (xR 6 0 0) (xZ g (fun r' h' => r' = some (.int (nI (spO (s.1 0) (s.1 0 2)).2)) ∧ h' = putMod h m (mR s 0 (spO (s.1 0) (s.1 0 2)).1)) xno 0 0) 18 [some (.ref m), some (.int (nI r.2)), some (.int (nI i)), some (.int (oI (mNx r.1 i (r.1 1)))), v4] [] (putMod h m (mR s 0 r.1)) 0 0 := by
        intro j
        induction j with
        | zero =>
          intro r v4 hj hr hri hz e
          have e : spI q i 10 = r := e
          rw [e] at ih
          have hs := zcN_stop (show zcN r.1 i = 0 by omega)
          refine x_aload_n dX6_spreads_18 rfl ?_
          refine x_iload_n dX6_spreads_19 rfl ?_
          refine x_vi0 dX6_spreads_20 cV_X6_238 (dn r hri) rfl rfl ⟨⟨by decide, by decide⟩, by decide, by decide⟩ (Nat.le_of_ble_eq_true rfl) (xrecv putMod_at.o rfl xcl5) ?_
          refine x_if_eq_b 59 dX6_spreads_23 (by decide) (fun c1 => ?_) (fun c1 => ?_)
          · refine x_iinc_n (k := 1) dX6_spreads_59 rfl (by decide) (by decide) rfl rfl ?_
            refine x_goto 4 dX6_spreads_62 (by decide) ?_
            exact xP.weak (by simp [xle, xset1, fin3]) ih
          · have hnn : mNx r.1 i (r.1 1) = none := by unfold spS at hs; rw [if_pos c1] at hs; exact hs
            rw [hnn]
            refine x_iload_n dX6_spreads_26 rfl ?_
            refine x_iconst (-1) dX6_spreads_27 (by decide) ?_
            refine x_icmp_eq 59 dX6_spreads_28 (by decide) (fun c2 => ?_) (fun c2 => ?_)
            · refine x_iinc_n (k := 1) dX6_spreads_59 rfl (by decide) (by decide) rfl rfl ?_
              refine x_goto 4 dX6_spreads_62 (by decide) ?_
              exact xP.weak (by simp [xle, xset1, fin3]) ih
            · exact absurd rfl c2
        | succ j ihj =>
          intro r v4 hj hr hri hz e
          have hN2 : r.1 1 ≤ 10 := hri.1.2.2 1 (by decide)
          have stop : spS r.1 i = none → xP g l mX6_spreads [] (xR 6 0 0) (xZ g (fun r' h' => r' = some (.int (nI (spO (s.1 0) (s.1 0 2)).2)) ∧ h' = putMod h m (mR s 0 (spO (s.1 0) (s.1 0 2)).1)) xno 0 0) 59 [some (.ref m), some (.int (nI r.2)), some (.int (nI i)), some (.int (oI (mNx r.1 i (r.1 1)))), v4] [] (putMod h m (mR s 0 r.1)) 0 0 := by
            intro hs
            rw [spI_stop hs] at e
            rw [e] at ih
            refine x_iinc_n (k := 1) dX6_spreads_59 rfl (by decide) (by decide) rfl rfl ?_
            refine x_goto 4 dX6_spreads_62 (by decide) ?_
            exact xP.weak (by simp [xle, xset1, fin3]) ih
          refine x_aload_n dX6_spreads_18 rfl ?_
          refine x_iload_n dX6_spreads_19 rfl ?_
          refine x_vi0 dX6_spreads_20 cV_X6_238 (dn r hri) rfl rfl ⟨⟨by decide, by decide⟩, by decide, by decide⟩ (Nat.le_of_ble_eq_true rfl) (xrecv putMod_at.o rfl xcl5) ?_
          refine x_if_eq_b 59 dX6_spreads_23 (by decide) (fun c1 => ?_) (fun c1 => ?_)
          · exact stop (by unfold spS; rw [if_neg (by rw [c1]; decide)])
          · cases hq : mNx r.1 i (r.1 1) with
            | none =>
              rw [hq] at stop
              refine x_iload_n dX6_spreads_26 rfl ?_
              refine x_iconst (-1) dX6_spreads_27 (by decide) ?_
              refine x_icmp_eq 59 dX6_spreads_28 (by decide) (fun c2 => ?_) (fun c2 => ?_)
              · exact stop (by unfold spS; rw [if_pos c1, hq])
              · exact absurd rfl c2
            | some f =>
              have hs : spS r.1 i = some f := by unfold spS; rw [if_pos c1, hq]
              have hf := (spS_may hs).1
              have hi2 := spPut_inv hri (by rw [hri.2.2 2 (by decide)]; exact hi) hs
              have hz2 := zcN_put hN2 hs
              rw [spI_go hs] at e
              have k := fun v4 => ihj (spPut r.1 i f, r.2 + 1) v4 (by omega) (by show r.2 + 1 ≤ _; omega) hi2 (by show zcN (spPut r.1 i f) i ≤ j; omega) e
              dsimp only at k
              refine x_iload_n dX6_spreads_26 rfl ?_
              refine x_iconst (-1) dX6_spreads_27 (by decide) ?_
              refine x_icmp_eq 59 dX6_spreads_28 (by decide) (fun c2 => ?_) (fun c2 => ?_)
              · exact absurd c2 (nI_m1 (by omega))
              · refine xP.weak (V' := [some (.ref m), some (.int (nI r.2)), some (.int (nI i)), some (.int (nI f)), none]) (by simp [xle, xset1, fin3, oI]) ?_
                refine x_aload_n dX6_spreads_31 rfl ?_
                refine x_iload_n dX6_spreads_32 rfl ?_
                refine x_iload_n dX6_spreads_33 rfl ?_
                refine x_vi0 dX6_spreads_34 cV_X6_291 (gt r f hri (by omega)) rfl rfl ⟨⟨by decide, by decide⟩, by decide, by decide⟩ (Nat.le_of_ble_eq_true rfl) (xrecv putMod_at.o rfl xcl5) ?_
                refine x_istore dX6_spreads_37 (by decide) rfl rfl ?_
                refine x_aload_n dX6_spreads_39 rfl ?_
                refine x_iload_n dX6_spreads_40 rfl ?_
                refine x_iload_n dX6_spreads_41 rfl ?_
                refine x_iload dX6_spreads_42 rfl ?_
                refine x_vv0 dX6_spreads_44 cV_X6_172 (pt r f (by omega)) rfl rfl ⟨⟨by decide, by decide⟩, by decide, by decide⟩ (Nat.le_of_ble_eq_true rfl) (xrecv putMod_at.o rfl xcl5) ?_
                refine x_iinc_n (k := 1) dX6_spreads_47 rfl (by decide) (by decide) rfl rfl ?_
                refine x_aload_n dX6_spreads_50 rfl ?_
                refine x_iload_n dX6_spreads_51 rfl ?_
                refine x_vi0 dX6_spreads_52 cV_X6_312 (nx (spPut r.1 i f, r.2 + 1) hi2) rfl rfl ⟨⟨by decide, by decide⟩, by decide, by decide⟩ (Nat.le_of_ble_eq_true rfl) (xrecv putMod_at.o rfl xcl5) ?_
                refine x_istore_n dX6_spreads_55 (by decide) rfl rfl ?_
                refine x_goto 18 dX6_spreads_56 (by decide) ?_
                exact xP.weak (by simp [xle, xset1, fin3]) (k (some (.int (nI (mGets r.1 i f)))))
      refine xP.weak (by simp [xle, xset1, fin3]) (inner 10 q none (by omega) (by omega) hinv (Nat.le_trans (fb_ct_le _ _) (hinv.1.2.2 1 (by decide))) rfl)
  · have hinv := inv (s.1 0 2) (Nat.le_refl _)
    have e2 : (spO (s.1 0) (s.1 0 2)).1 2 = s.1 0 2 := hinv.2.2 2 (by decide)
    refine x_iload_n dX6_spreads_4 rfl ?_
    refine x_aload_n dX6_spreads_5 rfl ?_
    refine x_vi0 dX6_spreads_6 cV_X6_169 (c_mPictures putMod_at) rfl rfl ⟨⟨by decide, by decide⟩, by decide, by decide⟩ (Nat.le_of_ble_eq_true rfl) (xrecv putMod_at.o rfl xcl5) ?_
    refine xP.eq (S' := [.int (nI (s.1 0 2)), .int (nI (s.1 0 2))]) rfl rfl (by show _ = [Value.int (nI ((spO (s.1 0) (s.1 0 2)).1 2)), _]; rw [e2]) rfl ?_
    refine x_icmp_ge_n 65 dX6_spreads_9 (by decide) (by omega) (by omega) (fun c0 => ?_) (fun c0 => ?_)
    · refine x_iload_n dX6_spreads_65 rfl ?_
      exact x_iret .int dX6_spreads_66 rfl rfl (by decide) (by decide) (rfl) (rfl)
    · omega
end M18
