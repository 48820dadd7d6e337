/-! ===== the model: more answers ===== -/
def mCopyV (A : Nat → Nat) (p f : Nat) : Int32 := if rC A p f = 0 then -1 else nI (rC A p f &&& 65535)
def mWhyV (A : Nat → Nat) (p f : Nat) : Nat := if rC A p f = 0 then 1 else if cBrk (rC A p f) = true then 2 else if cSnd (rC A p f) = true then 0 else 3
def mTl1 (A : Nat → Nat) (p t f : Nat) : Nat := if cHeld (rC A p f) = true then rC A p f / 2 ^ t &&& 1 else 0
def mTl (A : Nat → Nat) (p t : Nat) : Nat := fb_sm (mTl1 A p t) (A 1)
def mLst (A : Nat → Nat) : Nat → Nat
  | 0 => 0
  | n + 1 => if n = 0 then 0 else if mTrust A n < mTrust A (mLst A n) then n else mLst A n
def mNe1 (A : Nat → Nat) (f p : Nat) : Nat := mDep A p / 2 ^ f &&& 1
def mNe (A : Nat → Nat) (f : Nat) : Nat := fb_sm (mNe1 A f) (A 2)
def reI (A : Nat → Nat) (was set : Nat) : Nat → Nat
  | 0 => set
  | n + 1 => if was.testBit n = true then reI A was set n ||| rF A n 3 else reI A was set n
def reF (A : Nat → Nat) : Nat → Nat → Nat → Nat
  | 0, _, set => set
  | n + 1, was, set => if was = set then set else reF A n set (reI A set set (A 1))
def mGetV (A : Nat → Nat) (p f : Nat) : Int32 := if mSrc A p f = 0 then -1 else nI (mGets A p f &&& 65535)
def b01 (b : Bool) : Nat := if b = true then 0 else 1
theorem mLst_lt {A : Nat → Nat} : ∀ n, mLst A n ≤ n - 1 := by
  intro n
  induction n with
  | zero => exact Nat.le_refl _
  | succ n ih =>
    rw [mLst]
    split
    · omega
    · split <;> omega
theorem reI_lt {A : Nat → Nat} (hw : rOk A) {was set : Nat} (hs : set < 1024) : ∀ n, n ≤ 10 → reI A was set n < 1024 := by
  intro n
  induction n with
  | zero => intro _; exact hs
  | succ n ih =>
    intro hn
    rw [reI]
    split
    · exact Nat.or_lt_two_pow (n := 10) (ih (by omega)) (hw.2.2.2.2.1 n (by omega)).1
    · exact ih (by omega)
theorem reI_ge {A : Nat → Nat} {was set : Nat} : ∀ n, set ≤ reI A was set n := by
  intro n
  induction n with
  | zero => exact Nat.le_refl _
  | succ n ih =>
    rw [reI]
    split
    · exact Nat.le_trans ih Nat.left_le_or
    · exact ih
theorem mTrust_lt {A : Nat → Nat} (hw : rOk A) {f : Nat} (hf : f < 10) : mTrust A f < 2 ^ 31 := by
  have h5 : rF A f 1 < 2 ^ 24 := hw.2.2.2.2.2 _ (by omega)
  have : mTrust A f ≤ 100 * (rF A f 1 + 1) := Nat.div_le_self _ _
  omega
theorem mDep_lt {A : Nat → Nat} (hw : rOk A) (p : Nat) : mDep A p < 1024 := by
  unfold mDep
  split
  · exact mHold_lt hw p 1
  · decide
theorem mTl1_le (A : Nat → Nat) (p t f : Nat) : mTl1 A p t f ≤ 1 := by
  unfold mTl1
  split
  · have := bit_lt (rC A p f) t
    omega
  · omega
section M20
variable {g : xG} {l : Launch} {h : xH} {m : Nat} {s : Mo}
theorem okPF_lt {n : Nat} {p f : Int32} (hw : rK (s.1 0) n) (h : mOkPF (s.1 0) p f = true) : ix p < 12 ∧ ix f < 10 ∧ ix p < s.1 0 2 ∧ ix f < s.1 0 1 := by
  unfold mOkPF at h
  rw [Bool.and_eq_true] at h
  have h1 := okB_lt h.1
  have h2 := okB_lt h.2
  have h3 : s.1 0 1 ≤ 10 := hw.2.2 1 (by decide)
  have h4 : s.1 0 2 ≤ 12 := hw.2.2 2 (by decide)
  omega
theorem c_mErrPos : xDet g l mX6_errorPosition 0 0 0 [.ref m] (putMod h m s) (some (.int (s.2.2.1 1))) (putMod h m (mN s 1 0)) := by
  refine xMet.of (V := [some (.ref m)]) moX6_errorPosition (Nat.le_of_ble_eq_true rfl) rfl ?_
  refine x_aload_n dX6_errorPosition_0 rfl ?_
  refine x_iconst (nI 0) dX6_errorPosition_1 (by decide) ?_
  refine xq_X6_thrown dX6_errorPosition_2 f_X6_49 ?_
  refine x_aload_n dX6_errorPosition_5 rfl ?_
  refine x_getf dX6_errorPosition_6 f_X6_32 putMod_at.o rfl ?_
  exact x_iret .int dX6_errorPosition_9 rfl rfl (by decide) (by decide) (rfl) (rfl)
theorem c_mCopy {n : Nat} (hw : rK (s.1 0) n) (p f : Int32) : xDet g l mX6_copy 3 0 0 [.ref m, .int p, .int f] (putMod h m s) (some (.int (if mOkPF (s.1 0) p f = true then mCopyV (s.1 0) (ix p) (ix f) else 0))) (putMod h m (mN s 1 (if mOkPF (s.1 0) p f = true then 0 else 1))) := by
  have hok : rOk ((mN s 1 0).1 0) := hw.ok
  have e8 := nI_ix p
  have e9 := nI_ix f
  refine xMet.of (V := [some (.ref m), some (.int p), some (.int f), none]) moX6_copy (Nat.le_of_ble_eq_true rfl) rfl ?_
  refine x_aload_n dX6_copy_0 rfl ?_
  refine x_iload_n dX6_copy_1 rfl ?_
  refine x_iload_n dX6_copy_2 rfl ?_
  refine x_vi0 dX6_copy_3 cV_X6_260 (c_mAreBoth hw.ok) rfl rfl ⟨⟨by decide, by decide⟩, by decide, by decide⟩ (Nat.le_of_ble_eq_true rfl) (xrecv putMod_at.o rfl xcl5) ?_
  cases c0 : mOkPF (s.1 0) p f with
  | false =>
    rw [if_neg (by decide), if_neg (by decide)]
    refine x_if_ne_b 11 dX6_copy_6 (by decide) (fun c1 => ?_) (fun c1 => ?_)
    · cases c1
    · refine x_iconst (nI 0) dX6_copy_9 (by decide) ?_
      exact x_iret .int dX6_copy_10 rfl rfl (by decide) (by decide) (rfl) (rfl)
  | true =>
    obtain ⟨hp, hf, hp2, hf2⟩ := okPF_lt hw c0
    have hc := hw.copy hp hf
    rw [if_pos rfl, if_pos rfl]
    refine xP.weak (V' := [some (.ref m), some (.int (nI (ix p))), some (.int (nI (ix f))), none]) (by simp [xle, xset1, fin3, e8, e9]) ?_
    refine x_if_ne_b 11 dX6_copy_6 (by decide) (fun c1 => ?_) (fun c1 => ?_)
    · unfold mCopyV
      refine x_aload_n dX6_copy_11 rfl ?_
      refine x_iload_n dX6_copy_12 rfl ?_
      refine x_iload_n dX6_copy_13 rfl ?_
      refine x_vi0 dX6_copy_14 cV_X6_182 (c_mCopyOf putMod_at hp hf) rfl rfl ⟨⟨by decide, by decide⟩, by decide, by decide⟩ (Nat.le_of_ble_eq_true rfl) (xrecv putMod_at.o rfl xcl5) ?_
      refine xP.eq (S' := [.int (nI (rC (s.1 0) (ix p) (ix f)))]) rfl rfl rfl rfl ?_
      refine x_istore_n dX6_copy_17 (by decide) rfl rfl ?_
      refine x_iload_n dX6_copy_18 rfl ?_
      refine x_if_ne_n 26 dX6_copy_19 (by decide) (by omega) (fun c2 => ?_) (fun c2 => ?_)
      · rw [if_neg (by omega)]
        refine x_iload_n dX6_copy_26 rfl ?_
        refine x_ldcw (v := nI 65535) dX6_copy_27 k_X6_263 ?_
        refine x_iand_n dX6_copy_30 ?_
        exact x_iret .int dX6_copy_31 rfl rfl (by decide) (by decide) (rfl) (rfl)
      · rw [if_pos (by omega)]
        refine x_iconst (-1) dX6_copy_22 (by decide) ?_
        refine x_goto 31 dX6_copy_23 (by decide) ?_
        exact x_iret .int dX6_copy_31 rfl rfl (by decide) (by decide) (rfl) (rfl)
    · cases c1
theorem c_mWhy {n : Nat} (hw : rK (s.1 0) n) (p f : Int32) : xDet g l mX6_why 3 0 0 [.ref m, .int p, .int f] (putMod h m s) (some (.int (if mOkPF (s.1 0) p f = true then nI (mWhyV (s.1 0) (ix p) (ix f)) else 0))) (putMod h m (mN s 1 (if mOkPF (s.1 0) p f = true then 0 else 1))) := by
  have hok : rOk ((mN s 1 0).1 0) := hw.ok
  have e8 := nI_ix p
  have e9 := nI_ix f
  refine xMet.of (V := [some (.ref m), some (.int p), some (.int f), none]) moX6_why (Nat.le_of_ble_eq_true rfl) rfl ?_
  refine x_aload_n dX6_why_0 rfl ?_
  refine x_iload_n dX6_why_1 rfl ?_
  refine x_iload_n dX6_why_2 rfl ?_
  refine x_vi0 dX6_why_3 cV_X6_260 (c_mAreBoth hw.ok) rfl rfl ⟨⟨by decide, by decide⟩, by decide, by decide⟩ (Nat.le_of_ble_eq_true rfl) (xrecv putMod_at.o rfl xcl5) ?_
  cases c0 : mOkPF (s.1 0) p f with
  | false =>
    rw [if_neg (by decide), if_neg (by decide)]
    refine x_if_ne_b 11 dX6_why_6 (by decide) (fun c1 => ?_) (fun c1 => ?_)
    · cases c1
    · refine x_iconst (nI 0) dX6_why_9 (by decide) ?_
      exact x_iret .int dX6_why_10 rfl rfl (by decide) (by decide) (rfl) (rfl)
  | true =>
    obtain ⟨hp, hf, hp2, hf2⟩ := okPF_lt hw c0
    have hc := hw.copy hp hf
    rw [if_pos rfl, if_pos rfl]
    refine xP.weak (V' := [some (.ref m), some (.int (nI (ix p))), some (.int (nI (ix f))), none]) (by simp [xle, xset1, fin3, e8, e9]) ?_
    refine x_if_ne_b 11 dX6_why_6 (by decide) (fun c1 => ?_) (fun c1 => ?_)
    · unfold mWhyV
      refine x_aload_n dX6_why_11 rfl ?_
      refine x_iload_n dX6_why_12 rfl ?_
      refine x_iload_n dX6_why_13 rfl ?_
      refine x_vi0 dX6_why_14 cV_X6_182 (c_mCopyOf putMod_at hp hf) rfl rfl ⟨⟨by decide, by decide⟩, by decide, by decide⟩ (Nat.le_of_ble_eq_true rfl) (xrecv putMod_at.o rfl xcl5) ?_
      refine xP.eq (S' := [.int (nI (rC (s.1 0) (ix p) (ix f)))]) rfl rfl rfl rfl ?_
      refine x_istore_n dX6_why_17 (by decide) rfl rfl ?_
      refine x_iload_n dX6_why_18 rfl ?_
      refine x_if_ne_n 26 dX6_why_19 (by decide) (by omega) (fun c2 => ?_) (fun c2 => ?_)
      · rw [if_neg (by omega)]
        refine x_iload_n dX6_why_26 rfl ?_
        refine x_si0 dX6_why_27 cS_X6_214 (c_mIsBroken (show rC (s.1 0) (ix p) (ix f) < 2 ^ 24 by omega)) rfl rfl ⟨⟨by decide, by decide⟩, by decide, by decide⟩ (Nat.le_of_ble_eq_true rfl) ?_
        refine x_if_eq_b 37 dX6_why_30 (by decide) (fun c3 => ?_) (fun c3 => ?_)
        · rw [if_neg (by rw [c3]; decide)]
          refine x_iload_n dX6_why_37 rfl ?_
          refine x_si0 dX6_why_38 cS_X6_217 (c_mIsSound (show rC (s.1 0) (ix p) (ix f) < 2 ^ 24 by omega)) rfl rfl ⟨⟨by decide, by decide⟩, by decide, by decide⟩ (Nat.le_of_ble_eq_true rfl) ?_
          refine x_if_eq_b 48 dX6_why_41 (by decide) (fun c4 => ?_) (fun c4 => ?_)
          · rw [if_neg (by rw [c4]; decide)]
            refine x_iconst (nI 3) dX6_why_48 (by decide) ?_
            exact x_iret .int dX6_why_49 rfl rfl (by decide) (by decide) (rfl) (rfl)
          · rw [if_pos c4]
            refine x_iconst (nI 0) dX6_why_44 (by decide) ?_
            refine x_goto 49 dX6_why_45 (by decide) ?_
            exact x_iret .int dX6_why_49 rfl rfl (by decide) (by decide) (rfl) (rfl)
        · rw [if_pos c3]
          refine x_iconst (nI 2) dX6_why_33 (by decide) ?_
          refine x_goto 49 dX6_why_34 (by decide) ?_
          exact x_iret .int dX6_why_49 rfl rfl (by decide) (by decide) (rfl) (rfl)
      · rw [if_pos (by omega)]
        refine x_iconst (nI 1) dX6_why_22 (by decide) ?_
        refine x_goto 49 dX6_why_23 (by decide) ?_
        exact x_iret .int dX6_why_49 rfl rfl (by decide) (by decide) (rfl) (rfl)
    · cases c1
theorem c_mSources {n : Nat} (hw : rK (s.1 0) n) (p f : Int32) : xDet g l mX6_sources 4 0 0 [.ref m, .int p, .int f] (putMod h m s) (some (.int (if mOkPF (s.1 0) p f = true then nI (mSrc (s.1 0) (ix p) (ix f)) else 0))) (putMod h m (mN s 1 (if mOkPF (s.1 0) p f = true then 0 else 1))) := by
  have hok : rOk ((mN s 1 0).1 0) := hw.ok
  have e8 := nI_ix p
  have e9 := nI_ix f
  refine xMet.of (V := [some (.ref m), some (.int p), some (.int f)]) moX6_sources (Nat.le_of_ble_eq_true rfl) rfl ?_
  refine x_aload_n dX6_sources_0 rfl ?_
  refine x_iload_n dX6_sources_1 rfl ?_
  refine x_iload_n dX6_sources_2 rfl ?_
  refine x_vi0 dX6_sources_3 cV_X6_260 (c_mAreBoth hw.ok) rfl rfl ⟨⟨by decide, by decide⟩, by decide, by decide⟩ (Nat.le_of_ble_eq_true rfl) (xrecv putMod_at.o rfl xcl5) ?_
  cases c0 : mOkPF (s.1 0) p f with
  | false =>
    rw [if_neg (by decide), if_neg (by decide)]
    refine x_if_eq_b 18 dX6_sources_6 (by decide) (fun c1 => ?_) (fun c1 => ?_)
    rotate_left
    · cases c1
    · refine x_iconst (nI 0) dX6_sources_18 (by decide) ?_
      exact x_iret .int dX6_sources_19 rfl rfl (by decide) (by decide) (rfl) (rfl)
  | true =>
    obtain ⟨hp, hf, hp2, hf2⟩ := okPF_lt hw c0
    have hc := hw.copy hp hf
    rw [if_pos rfl, if_pos rfl]
    refine xP.weak (V' := [some (.ref m), some (.int (nI (ix p))), some (.int (nI (ix f)))]) (by simp [xle, xset1, fin3, e8, e9]) ?_
    refine x_if_eq_b 18 dX6_sources_6 (by decide) (fun c1 => ?_) (fun c1 => ?_)
    · cases c1
    · refine x_aload_n dX6_sources_9 rfl ?_
      refine x_iload_n dX6_sources_10 rfl ?_
      refine x_iload_n dX6_sources_11 rfl ?_
      refine x_vi0 dX6_sources_12 cV_X6_285 (c_mSourcesOf putMod_at hok hp hf) rfl rfl ⟨⟨by decide, by decide⟩, by decide, by decide⟩ (Nat.le_of_ble_eq_true rfl) (xrecv putMod_at.o rfl xcl5) ?_
      refine x_goto 19 dX6_sources_15 (by decide) ?_
      exact x_iret .int dX6_sources_19 rfl rfl (by decide) (by decide) (rfl) (rfl)
theorem c_mWouldGet {n : Nat} (hw : rK (s.1 0) n) (p f : Int32) : xDet g l mX6_wouldGet 5 0 0 [.ref m, .int p, .int f] (putMod h m s) (some (.int (if mOkPF (s.1 0) p f = true then mGetV (s.1 0) (ix p) (ix f) else 0))) (putMod h m (mN s 1 (if mOkPF (s.1 0) p f = true then 0 else 1))) := by
  have hok : rOk ((mN s 1 0).1 0) := hw.ok
  have e8 := nI_ix p
  have e9 := nI_ix f
  refine xMet.of (V := [some (.ref m), some (.int p), some (.int f)]) moX6_wouldGet (Nat.le_of_ble_eq_true rfl) rfl ?_
  refine x_aload_n dX6_wouldGet_0 rfl ?_
  refine x_iload_n dX6_wouldGet_1 rfl ?_
  refine x_iload_n dX6_wouldGet_2 rfl ?_
  refine x_vi0 dX6_wouldGet_3 cV_X6_260 (c_mAreBoth hw.ok) rfl rfl ⟨⟨by decide, by decide⟩, by decide, by decide⟩ (Nat.le_of_ble_eq_true rfl) (xrecv putMod_at.o rfl xcl5) ?_
  cases c0 : mOkPF (s.1 0) p f with
  | false =>
    rw [if_neg (by decide), if_neg (by decide)]
    refine x_if_ne_b 11 dX6_wouldGet_6 (by decide) (fun c1 => ?_) (fun c1 => ?_)
    · cases c1
    · refine x_iconst (nI 0) dX6_wouldGet_9 (by decide) ?_
      exact x_iret .int dX6_wouldGet_10 rfl rfl (by decide) (by decide) (rfl) (rfl)
  | true =>
    obtain ⟨hp, hf, hp2, hf2⟩ := okPF_lt hw c0
    have hc := hw.copy hp hf
    rw [if_pos rfl, if_pos rfl]
    refine xP.weak (V' := [some (.ref m), some (.int (nI (ix p))), some (.int (nI (ix f)))]) (by simp [xle, xset1, fin3, e8, e9]) ?_
    refine x_if_ne_b 11 dX6_wouldGet_6 (by decide) (fun c1 => ?_) (fun c1 => ?_)
    · have hsl := mSrc_lt hw.ok (ix p) (ix f)
      unfold mGetV
      refine x_aload_n dX6_wouldGet_11 rfl ?_
      refine x_iload_n dX6_wouldGet_12 rfl ?_
      refine x_iload_n dX6_wouldGet_13 rfl ?_
      refine x_vi0 dX6_wouldGet_14 cV_X6_285 (c_mSourcesOf putMod_at hok hp hf) rfl rfl ⟨⟨by decide, by decide⟩, by decide, by decide⟩ (Nat.le_of_ble_eq_true rfl) (xrecv putMod_at.o rfl xcl5) ?_
      refine xP.eq (S' := [.int (nI (mSrc (s.1 0) (ix p) (ix f)))]) rfl rfl rfl rfl ?_
      refine x_if_ne_n 24 dX6_wouldGet_17 (by decide) (by omega) (fun c2 => ?_) (fun c2 => ?_)
      · rw [if_neg (by omega)]
        refine x_aload_n dX6_wouldGet_24 rfl ?_
        refine x_iload_n dX6_wouldGet_25 rfl ?_
        refine x_iload_n dX6_wouldGet_26 rfl ?_
        refine x_vi0 dX6_wouldGet_27 cV_X6_291 (c_mGets putMod_at hok hp hf) rfl rfl ⟨⟨by decide, by decide⟩, by decide, by decide⟩ (Nat.le_of_ble_eq_true rfl) (xrecv putMod_at.o rfl xcl5) ?_
        refine x_ldcw (v := nI 65535) dX6_wouldGet_30 k_X6_263 ?_
        refine x_iand_n dX6_wouldGet_33 ?_
        exact x_iret .int dX6_wouldGet_34 rfl rfl (by decide) (by decide) (rfl) (rfl)
      · rw [if_pos (by omega)]
        refine x_iconst (-1) dX6_wouldGet_20 (by decide) ?_
        refine x_goto 34 dX6_wouldGet_21 (by decide) ?_
        exact x_iret .int dX6_wouldGet_34 rfl rfl (by decide) (by decide) (rfl) (rfl)
    · cases c1
theorem c_mDepends {n : Nat} (hw : rK (s.1 0) n) (p : Int32) : xDet g l mX6_depends 4 0 0 [.ref m, .int p] (putMod h m s) (some (.int (if okB p (s.1 0 2) = true then nI (mDep (s.1 0) (ix p)) else 0))) (putMod h m (mN s 1 (b01 (okB p (s.1 0 2))))) := by
  have hok : rOk ((mN s 1 0).1 0) := hw.ok
  have hK : s.1 0 2 ≤ 12 := hw.2.2 2 (by decide)
  have hN : s.1 0 1 ≤ 10 := hw.2.2 1 (by decide)
  have e8 := nI_ix p
  refine xMet.of (V := [some (.ref m), some (.int p)]) moX6_depends (Nat.le_of_ble_eq_true rfl) rfl ?_
  refine x_aload_n dX6_depends_0 rfl ?_
  refine x_aload_n dX6_depends_1 rfl ?_
  refine x_iload_n dX6_depends_2 rfl ?_
  refine x_vi0 dX6_depends_3 cV_X6_257 (c_mIsPicture putMod_at hw.ok) rfl rfl ⟨⟨by decide, by decide⟩, by decide, by decide⟩ (Nat.le_of_ble_eq_true rfl) (xrecv putMod_at.o rfl xcl5) ?_
  cases c0 : okB p (s.1 0 2) with
  | false =>
    rw [if_neg (by decide)]
    refine x_if_eq_b 13 dX6_depends_6 (by decide) (fun c1 => ?_) (fun c1 => ?_)
    rotate_left
    · cases c1
    refine x_iconst (nI 1) dX6_depends_13 (by decide) ?_
    refine xq_X6_thrown dX6_depends_14 f_X6_49 ?_
    refine x_aload_n dX6_depends_17 rfl ?_
    refine x_getf dX6_depends_18 f_X6_49 putMod_at.o rfl ?_
    refine xP.eq (S' := [.int (nI 1)]) rfl rfl rfl rfl ?_
    refine x_if_le_n 28 dX6_depends_21 (by decide) (by omega) (fun c9 => ?_) (fun c9 => ?_)
    · omega
    · refine x_iconst (nI 0) dX6_depends_24 (by decide) ?_
      refine x_goto 33 dX6_depends_25 (by decide) ?_
      exact x_iret .int dX6_depends_33 rfl rfl (by decide) (by decide) (rfl) (rfl)
  | true =>
    have hp := okB_lt c0
    rw [if_pos rfl]
    refine xP.weak (V' := [some (.ref m), some (.int (nI (ix p)))]) (by simp [xle, xset1, fin3, e8]) ?_
    refine x_if_eq_b 13 dX6_depends_6 (by decide) (fun c1 => ?_) (fun c1 => ?_)
    · cases c1
    refine x_iconst (nI 0) dX6_depends_9 (by decide) ?_
    refine x_goto 14 dX6_depends_10 (by decide) ?_
    refine xq_X6_thrown dX6_depends_14 f_X6_49 ?_
    refine x_aload_n dX6_depends_17 rfl ?_
    refine x_getf dX6_depends_18 f_X6_49 putMod_at.o rfl ?_
    refine xP.eq (S' := [.int (nI 0)]) rfl rfl rfl rfl ?_
    refine x_if_le_n 28 dX6_depends_21 (by decide) (by omega) (fun c9 => ?_) (fun c9 => ?_)
    · refine x_aload_n dX6_depends_28 rfl ?_
      refine x_iload_n dX6_depends_29 rfl ?_
      refine x_vi0 dX6_depends_30 cV_X6_306 (c_mDependsOn putMod_at hok (show ix p < 12 by omega)) rfl rfl ⟨⟨by decide, by decide⟩, by decide, by decide⟩ (Nat.le_of_ble_eq_true rfl) (xrecv putMod_at.o rfl xcl5) ?_
      exact x_iret .int dX6_depends_33 rfl rfl (by decide) (by decide) (rfl) (rfl)
    · omega
theorem c_mReach {n : Nat} (hw : rK (s.1 0) n) (p : Int32) : xDet g l mX6_reach 3 0 0 [.ref m, .int p] (putMod h m s) (some (.int (if okB p (s.1 0 2) = true then nI (popc (reF (s.1 0) 1024 0 (mHold (s.1 0) (ix p) 1))) else 0))) (putMod h m (mN s 1 (b01 (okB p (s.1 0 2))))) := by
  have hok : rOk ((mN s 1 0).1 0) := hw.ok
  have hK : s.1 0 2 ≤ 12 := hw.2.2 2 (by decide)
  have hN : s.1 0 1 ≤ 10 := hw.2.2 1 (by decide)
  have e8 := nI_ix p
  refine xMet.of (V := [some (.ref m), some (.int p), none, none, none]) moX6_reach (Nat.le_of_ble_eq_true rfl) rfl ?_
  refine x_aload_n dX6_reach_0 rfl ?_
  refine x_aload_n dX6_reach_1 rfl ?_
  refine x_iload_n dX6_reach_2 rfl ?_
  refine x_vi0 dX6_reach_3 cV_X6_257 (c_mIsPicture putMod_at hw.ok) rfl rfl ⟨⟨by decide, by decide⟩, by decide, by decide⟩ (Nat.le_of_ble_eq_true rfl) (xrecv putMod_at.o rfl xcl5) ?_
  cases c0 : okB p (s.1 0 2) with
  | false =>
    rw [if_neg (by decide)]
    refine x_if_eq_b 13 dX6_reach_6 (by decide) (fun c1 => ?_) (fun c1 => ?_)
    rotate_left
    · cases c1
    refine x_iconst (nI 1) dX6_reach_13 (by decide) ?_
    refine xq_X6_thrown dX6_reach_14 f_X6_49 ?_
    refine x_aload_n dX6_reach_17 rfl ?_
    refine x_getf dX6_reach_18 f_X6_49 putMod_at.o rfl ?_
    refine xP.eq (S' := [.int (nI 1)]) rfl rfl rfl rfl ?_
    refine x_if_le_n 26 dX6_reach_21 (by decide) (by omega) (fun c9 => ?_) (fun c9 => ?_)
    · omega
    · refine x_iconst (nI 0) dX6_reach_24 (by decide) ?_
      exact x_iret .int dX6_reach_25 rfl rfl (by decide) (by decide) (rfl) (rfl)
  | true =>
    have hp := okB_lt c0
    rw [if_pos rfl]
    refine xP.weak (V' := [some (.ref m), some (.int (nI (ix p))), none, none, none]) (by simp [xle, xset1, fin3, e8]) ?_
    refine x_if_eq_b 13 dX6_reach_6 (by decide) (fun c1 => ?_) (fun c1 => ?_)
    · cases c1
    refine x_iconst (nI 0) dX6_reach_9 (by decide) ?_
    refine x_goto 14 dX6_reach_10 (by decide) ?_
    refine xq_X6_thrown dX6_reach_14 f_X6_49 ?_
    refine x_aload_n dX6_reach_17 rfl ?_
    refine x_getf dX6_reach_18 f_X6_49 putMod_at.o rfl ?_
    refine xP.eq (S' := [.int (nI 0)]) rfl rfl rfl rfl ?_
    refine x_if_le_n 26 dX6_reach_21 (by decide) (by omega) (fun c9 => ?_) (fun c9 => ?_)
    · have h0 := mHold_lt hw.ok (ix p) 1
      obtain ⟨N, hNN⟩ : ∃ N, N = 1024 := ⟨_, rfl⟩
      rw [← hNN]
      refine x_aload_n dX6_reach_26 rfl ?_
      refine x_iload_n dX6_reach_27 rfl ?_
      refine x_iconst (nI 1) dX6_reach_28 (by decide) ?_
      refine x_vi0 dX6_reach_29 cV_X6_226 (c_mHolders putMod_at hok (show ix p < 12 by omega) (by decide)) rfl rfl ⟨⟨by decide, by decide⟩, by decide, by decide⟩ (Nat.le_of_ble_eq_true rfl) (xrecv putMod_at.o rfl xcl5) ?_
      refine x_istore_n dX6_reach_32 (by decide) rfl rfl ?_
      refine x_iconst (nI 0) dX6_reach_33 (by decide) ?_
      refine x_istore_n dX6_reach_34 (by decide) rfl rfl ?_
      have key : ∀ (f was set : Nat), 1024 ≤ was + f → was ≤ set → set < 1024 → ∀ v4, xP g l mX6_reach [] (xR 3 0 0) (xZ g (fun r' h' => r' = some (.int (nI (popc (reF (s.1 0) f was set)))) ∧ h' = putMod h m (mN s 1 0)) xno 0 0) 35 [some (.ref m), some (.int (nI (ix p))), some (.int (nI set)), some (.int (nI was)), v4] [] (putMod h m (mN s 1 0)) 0 0 := by
        intro f
        induction f with
        | zero => intro was set h1 h2 h3; omega
        | succ f ih =>
          intro was set h1 h2 h3 v4
          rw [reF]
          refine x_iload_n dX6_reach_35 rfl ?_
          refine x_iload_n dX6_reach_36 rfl ?_
          refine x_icmp_eq_n 83 dX6_reach_37 (by decide) (by omega) (by omega) (fun c2 => ?_) (fun c2 => ?_)
          · rw [if_pos (by omega)]
            refine x_iload_n dX6_reach_83 rfl ?_
            refine x_si0 dX6_reach_84 cS_X6_229 (c_mBits (show set < 65536 by omega)) rfl rfl ⟨⟨by decide, by decide⟩, by decide, by decide⟩ (Nat.le_of_ble_eq_true rfl) ?_
            exact x_iret .int dX6_reach_87 rfl rfl (by decide) (by decide) (rfl) (rfl)
          · rw [if_neg (by omega)]
            refine x_iload_n dX6_reach_40 rfl ?_
            refine x_istore_n dX6_reach_41 (by decide) rfl rfl ?_
            refine x_iconst (nI 0) dX6_reach_42 (by decide) ?_
            refine x_istore dX6_reach_43 (by decide) rfl rfl ?_
            refine xP.weak (V' := [some (.ref m), some (.int (nI (ix p))), some (.int (nI (reI (s.1 0) set set 0))), some (.int (nI set)), some (.int (nI 0))]) (by cases v4 <;> simp [xle, xset1, fin3, reI]) ?_
            refine xP.loop0 (fun i => [some (.ref m), some (.int (nI (ix p))), some (.int (nI (reI (s.1 0) set set i))), some (.int (nI set)), some (.int (nI i))]) (s.1 0 1) ?_ ?_
            · intro i hi ih
              have hl := reI_lt hw.ok (was := set) h3 i (by omega)
              have hb := bit_lt set i
              refine x_iload dX6_reach_45 rfl ?_
              refine x_aload_n dX6_reach_47 rfl ?_
              refine x_vi0 dX6_reach_48 cV_X6_67 (c_mFamilies putMod_at) rfl rfl ⟨⟨by decide, by decide⟩, by decide, by decide⟩ (Nat.le_of_ble_eq_true rfl) (xrecv putMod_at.o rfl xcl5) ?_
              refine xP.eq (S' := [.int (nI (s.1 0 1)), .int (nI i)]) rfl rfl rfl rfl ?_
              refine x_icmp_ge_n 80 dX6_reach_51 (by decide) (by omega) (by omega) (fun c3 => ?_) (fun c3 => ?_)
              · omega
              · refine x_iload_n dX6_reach_54 rfl ?_
                refine x_iload dX6_reach_55 rfl ?_
                refine x_ishr_n dX6_reach_57 (by omega) (by omega) ?_
                refine x_iconst (nI 1) dX6_reach_58 (by decide) ?_
                refine x_iand_n dX6_reach_59 ?_
                refine x_iconst (nI 1) dX6_reach_60 (by decide) ?_
                refine x_icmp_ne_n 74 dX6_reach_61 (by decide) (by omega) (by omega) (fun c4 => ?_) (fun c4 => ?_)
                · have e : reI (s.1 0) set set (i + 1) = reI (s.1 0) set set i := by rw [reI, if_neg (by rw [bit0 (by omega)]; decide)]
                  refine x_iinc_n (k := 1) dX6_reach_74 rfl (by decide) (by decide) rfl rfl ?_
                  refine x_goto 45 dX6_reach_77 (by decide) ?_
                  exact xP.weak (by simp [xle, xset1, xset2, fin3, e]) ih
                · have e : reI (s.1 0) set set (i + 1) = reI (s.1 0) set set i ||| rF (s.1 0) i 3 := by rw [reI, if_pos (bit1 (by omega))]
                  refine x_iload_n dX6_reach_64 rfl ?_
                  refine x_aload_n dX6_reach_65 rfl ?_
                  refine x_iload dX6_reach_66 rfl ?_
                  refine x_iconst (nI 3) dX6_reach_68 (by decide) ?_
                  refine x_vi0 dX6_reach_69 cV_X6_206 (c_mOfFamily putMod_at (show i < 10 by omega) (show 3 < 12 by decide)) rfl rfl ⟨⟨by decide, by decide⟩, by decide, by decide⟩ (Nat.le_of_ble_eq_true rfl) (xrecv putMod_at.o rfl xcl5) ?_
                  refine xP.eq (S' := [.int (nI (rF (s.1 0) i 3)), .int (nI (reI (s.1 0) set set i))]) rfl rfl rfl rfl ?_
                  refine x_ior_n dX6_reach_72 ?_
                  refine x_istore_n dX6_reach_73 (by decide) rfl rfl ?_
                  refine x_iinc_n (k := 1) dX6_reach_74 rfl (by decide) (by decide) rfl rfl ?_
                  refine x_goto 45 dX6_reach_77 (by decide) ?_
                  exact xP.weak (by simp [xle, xset1, xset2, fin3, e]) ih
            · refine x_iload dX6_reach_45 rfl ?_
              refine x_aload_n dX6_reach_47 rfl ?_
              refine x_vi0 dX6_reach_48 cV_X6_67 (c_mFamilies putMod_at) rfl rfl ⟨⟨by decide, by decide⟩, by decide, by decide⟩ (Nat.le_of_ble_eq_true rfl) (xrecv putMod_at.o rfl xcl5) ?_
              refine xP.eq (S' := [.int (nI (s.1 0 1)), .int (nI (s.1 0 1))]) rfl rfl rfl rfl ?_
              refine x_icmp_ge_n 80 dX6_reach_51 (by decide) (by omega) (by omega) (fun c3 => ?_) (fun c3 => ?_)
              · refine x_goto 35 dX6_reach_80 (by decide) ?_
                have hg := reI_ge (A := s.1 0) (was := set) (set := set) (s.1 0 1)
                exact ih set (reI (s.1 0) set set (s.1 0 1)) (by omega) hg (reI_lt hw.ok h3 _ hN) _
              · omega
      exact xP.weak (by simp [xle, xset1, fin3]; try rfl) (key N 0 (mHold (s.1 0) (ix p) 1) (by omega) (Nat.zero_le _) h0 none)
    · omega
theorem c_mBestTile {n : Nat} (hw : rK (s.1 0) n) (p : Int32) : xDet g l mX6_bestTile 2 0 0 [.ref m, .int p] (putMod h m s) (some (.int (if okB p (s.1 0 2) = true then (amax (mTl (s.1 0) (ix p)) (s.1 0 0)).2 else 0))) (putMod h m (mN s 1 (b01 (okB p (s.1 0 2))))) := by
  have hok : rOk ((mN s 1 0).1 0) := hw.ok
  have hK : s.1 0 2 ≤ 12 := hw.2.2 2 (by decide)
  have hN : s.1 0 1 ≤ 10 := hw.2.2 1 (by decide)
  have e8 := nI_ix p
  refine xMet.of (V := [some (.ref m), some (.int p), none, none, none, none, none]) moX6_bestTile (Nat.le_of_ble_eq_true rfl) rfl ?_
  refine x_aload_n dX6_bestTile_0 rfl ?_
  refine x_aload_n dX6_bestTile_1 rfl ?_
  refine x_iload_n dX6_bestTile_2 rfl ?_
  refine x_vi0 dX6_bestTile_3 cV_X6_257 (c_mIsPicture putMod_at hw.ok) rfl rfl ⟨⟨by decide, by decide⟩, by decide, by decide⟩ (Nat.le_of_ble_eq_true rfl) (xrecv putMod_at.o rfl xcl5) ?_
  cases c0 : okB p (s.1 0 2) with
  | false =>
    rw [if_neg (by decide)]
    refine x_if_eq_b 13 dX6_bestTile_6 (by decide) (fun c1 => ?_) (fun c1 => ?_)
    rotate_left
    · cases c1
    refine x_iconst (nI 1) dX6_bestTile_13 (by decide) ?_
    refine xq_X6_thrown dX6_bestTile_14 f_X6_49 ?_
    refine x_aload_n dX6_bestTile_17 rfl ?_
    refine x_getf dX6_bestTile_18 f_X6_49 putMod_at.o rfl ?_
    refine xP.eq (S' := [.int (nI 1)]) rfl rfl rfl rfl ?_
    refine x_if_le_n 26 dX6_bestTile_21 (by decide) (by omega) (fun c9 => ?_) (fun c9 => ?_)
    · omega
    · refine x_iconst (nI 0) dX6_bestTile_24 (by decide) ?_
      exact x_iret .int dX6_bestTile_25 rfl rfl (by decide) (by decide) (rfl) (rfl)
  | true =>
    have hp := okB_lt c0
    rw [if_pos rfl]
    refine xP.weak (V' := [some (.ref m), some (.int (nI (ix p))), none, none, none, none, none]) (by simp [xle, xset1, fin3, e8]) ?_
    refine x_if_eq_b 13 dX6_bestTile_6 (by decide) (fun c1 => ?_) (fun c1 => ?_)
    · cases c1
    refine x_iconst (nI 0) dX6_bestTile_9 (by decide) ?_
    refine x_goto 14 dX6_bestTile_10 (by decide) ?_
    refine xq_X6_thrown dX6_bestTile_14 f_X6_49 ?_
    refine x_aload_n dX6_bestTile_17 rfl ?_
    refine x_getf dX6_bestTile_18 f_X6_49 putMod_at.o rfl ?_
    refine xP.eq (S' := [.int (nI 0)]) rfl rfl rfl rfl ?_
    refine x_if_le_n 26 dX6_bestTile_21 (by decide) (by omega) (fun c9 => ?_) (fun c9 => ?_)
    · have h0 := hw.2.2 0 (by decide)
      have h0 : s.1 0 0 ≤ 16 := h0
      have hF : ∀ t, mTl (s.1 0) (ix p) t ≤ 10 := fun t => Nat.le_trans (fb_sm_le1 (mTl1_le (s.1 0) (ix p) t) _) hN
      have hm : ∀ n, (amax (mTl (s.1 0) (ix p)) n).1 ≤ 10 := by
        intro n
        induction n with
        | zero => exact Nat.zero_le _
        | succ n ih =>
          rw [amax]
          split
          · exact hF n
          · exact ih
      refine x_iconst (-1) dX6_bestTile_26 (by decide) ?_
      refine x_istore_n dX6_bestTile_27 (by decide) rfl rfl ?_
      refine x_iconst (nI 0) dX6_bestTile_28 (by decide) ?_
      refine x_istore_n dX6_bestTile_29 (by decide) rfl rfl ?_
      refine x_iconst (nI 0) dX6_bestTile_30 (by decide) ?_
      refine x_istore dX6_bestTile_31 (by decide) rfl rfl ?_
      refine xP.weak (V' := [some (.ref m), some (.int (nI (ix p))), some (.int (amax (mTl (s.1 0) (ix p)) 0).2), some (.int (nI (amax (mTl (s.1 0) (ix p)) 0).1)), some (.int (nI 0)), none, none]) (by simp [xle, xset1, fin3, amax]) ?_
      refine xP.loop0 (fun i => [some (.ref m), some (.int (nI (ix p))), some (.int (amax (mTl (s.1 0) (ix p)) i).2), some (.int (nI (amax (mTl (s.1 0) (ix p)) i).1)), some (.int (nI i)), none, none]) (s.1 0 0) ?_ ?_
      · intro t ht ih
        have hmt := hm t
        have hFt := hF t
        refine x_iload dX6_bestTile_33 rfl ?_
        refine x_aload_n dX6_bestTile_35 rfl ?_
        refine x_getf dX6_bestTile_36 f_X6_7 putMod_at.o rfl ?_
        refine x_iconst (nI 0) dX6_bestTile_39 (by decide) ?_
        refine x_iald_n dX6_bestTile_40 putMod_at.a (by omega) (by decide) ?_
        refine xP.eq (S' := [.int (nI (s.1 0 0)), .int (nI t)]) rfl rfl rfl rfl ?_
        refine x_icmp_ge_n 120 dX6_bestTile_41 (by decide) (by omega) (by omega) (fun c2 => ?_) (fun c2 => ?_)
        · omega
        · refine x_iconst (nI 0) dX6_bestTile_44 (by decide) ?_
          refine x_istore dX6_bestTile_45 (by decide) rfl rfl ?_
          refine x_iconst (nI 0) dX6_bestTile_47 (by decide) ?_
          refine x_istore dX6_bestTile_48 (by decide) rfl rfl ?_
          refine xP.weak (V' := [some (.ref m), some (.int (nI (ix p))), some (.int (amax (mTl (s.1 0) (ix p)) t).2), some (.int (nI (amax (mTl (s.1 0) (ix p)) t).1)), some (.int (nI t)), some (.int (nI (fb_sm (mTl1 (s.1 0) (ix p) t) 0))), some (.int (nI 0))]) (by simp [xle, xset1, fin3]; first | rfl | exact ⟨rfl, rfl⟩) ?_
          refine xP.loop0 (fun i => [some (.ref m), some (.int (nI (ix p))), some (.int (amax (mTl (s.1 0) (ix p)) t).2), some (.int (nI (amax (mTl (s.1 0) (ix p)) t).1)), some (.int (nI t)), some (.int (nI (fb_sm (mTl1 (s.1 0) (ix p) t) i))), some (.int (nI i))]) (s.1 0 1) ?_ ?_
          · intro i hi ih2
            have hc := hw.copy (p := ix p) (f := i) (by omega) (by omega)
            have fin : ∀ b, mTl1 (s.1 0) (ix p) t i = b → xP g l mX6_bestTile [] (xR 2 0 0) (xZ g (fun r' h' => r' = some (.int (amax (mTl (s.1 0) (ix p)) (s.1 0 0)).2) ∧ h' = putMod h m (mN s 1 0)) xno 0 0) 90 [some (.ref m), some (.int (nI (ix p))), some (.int (amax (mTl (s.1 0) (ix p)) t).2), some (.int (nI (amax (mTl (s.1 0) (ix p)) t).1)), some (.int (nI t)), some (.int (nI (fb_sm (mTl1 (s.1 0) (ix p) t) i))), some (.int (nI i))] [.int (nI b), .int (nI (fb_sm (mTl1 (s.1 0) (ix p) t) i))] (putMod h m (mN s 1 0)) 0 0 := by
              intro b hb
              have e : fb_sm (mTl1 (s.1 0) (ix p) t) (i + 1) = fb_sm (mTl1 (s.1 0) (ix p) t) i + b := by rw [fb_sm_succ, hb]
              refine x_iadd_n dX6_bestTile_90 ?_
              refine x_istore dX6_bestTile_91 (by decide) rfl rfl ?_
              refine x_iinc_n (k := 1) dX6_bestTile_93 rfl (by decide) (by decide) rfl rfl ?_
              refine x_goto 50 dX6_bestTile_96 (by decide) ?_
              exact xP.weak (by simp [xle, xset1, fin3, e]) ih2
            refine x_iload dX6_bestTile_50 rfl ?_
            refine x_aload_n dX6_bestTile_52 rfl ?_
            refine x_vi0 dX6_bestTile_53 cV_X6_67 (c_mFamilies putMod_at) rfl rfl ⟨⟨by decide, by decide⟩, by decide, by decide⟩ (Nat.le_of_ble_eq_true rfl) (xrecv putMod_at.o rfl xcl5) ?_
            refine xP.eq (S' := [.int (nI (s.1 0 1)), .int (nI i)]) rfl rfl rfl rfl ?_
            refine x_icmp_ge_n 99 dX6_bestTile_56 (by decide) (by omega) (by omega) (fun c3 => ?_) (fun c3 => ?_)
            · omega
            · refine x_iload dX6_bestTile_59 rfl ?_
              refine x_aload_n dX6_bestTile_61 rfl ?_
              refine x_iload_n dX6_bestTile_62 rfl ?_
              refine x_iload dX6_bestTile_63 rfl ?_
              refine x_vi0 dX6_bestTile_65 cV_X6_182 (c_mCopyOf putMod_at (show ix p < 12 by omega) (show i < 10 by omega)) rfl rfl ⟨⟨by decide, by decide⟩, by decide, by decide⟩ (Nat.le_of_ble_eq_true rfl) (xrecv putMod_at.o rfl xcl5) ?_
              refine xP.eq (S' := [.int (nI (rC (s.1 0) (ix p) i)), .int (nI (fb_sm (mTl1 (s.1 0) (ix p) t) i))]) rfl rfl rfl rfl ?_
              refine x_si0 dX6_bestTile_68 cS_X6_211 (c_mIsHeld (show rC (s.1 0) (ix p) i < 2 ^ 24 by omega)) rfl rfl ⟨⟨by decide, by decide⟩, by decide, by decide⟩ (Nat.le_of_ble_eq_true rfl) ?_
              refine x_if_eq_b 89 dX6_bestTile_71 (by decide) (fun c4 => ?_) (fun c4 => ?_)
              · refine x_iconst (nI 0) dX6_bestTile_89 (by decide) ?_
                exact fin 0 (by unfold mTl1; rw [if_neg (by rw [c4]; decide)])
              · refine x_aload_n dX6_bestTile_74 rfl ?_
                refine x_iload_n dX6_bestTile_75 rfl ?_
                refine x_iload dX6_bestTile_76 rfl ?_
                refine x_vi0 dX6_bestTile_78 cV_X6_182 (c_mCopyOf putMod_at (show ix p < 12 by omega) (show i < 10 by omega)) rfl rfl ⟨⟨by decide, by decide⟩, by decide, by decide⟩ (Nat.le_of_ble_eq_true rfl) (xrecv putMod_at.o rfl xcl5) ?_
                refine xP.eq (S' := [.int (nI (rC (s.1 0) (ix p) i)), .int (nI (fb_sm (mTl1 (s.1 0) (ix p) t) i))]) rfl rfl rfl rfl ?_
                refine x_iload dX6_bestTile_81 rfl ?_
                refine x_ishr_n dX6_bestTile_83 (by omega) (by omega) ?_
                refine x_iconst (nI 1) dX6_bestTile_84 (by decide) ?_
                refine x_iand_n dX6_bestTile_85 ?_
                refine x_goto 90 dX6_bestTile_86 (by decide) ?_
                exact fin _ (by unfold mTl1; rw [if_pos c4])
          · refine x_iload dX6_bestTile_50 rfl ?_
            refine x_aload_n dX6_bestTile_52 rfl ?_
            refine x_vi0 dX6_bestTile_53 cV_X6_67 (c_mFamilies putMod_at) rfl rfl ⟨⟨by decide, by decide⟩, by decide, by decide⟩ (Nat.le_of_ble_eq_true rfl) (xrecv putMod_at.o rfl xcl5) ?_
            refine xP.eq (S' := [.int (nI (s.1 0 1)), .int (nI (s.1 0 1))]) rfl rfl rfl rfl ?_
            have eT : fb_sm (mTl1 (s.1 0) (ix p) t) (s.1 0 1) = mTl (s.1 0) (ix p) t := rfl
            rw [eT]
            refine x_icmp_ge_n 99 dX6_bestTile_56 (by decide) (by omega) (by omega) (fun c3 => ?_) (fun c3 => ?_)
            · refine x_iload dX6_bestTile_99 rfl ?_
              refine x_iload_n dX6_bestTile_101 rfl ?_
              refine x_icmp_gt_n 108 dX6_bestTile_102 (by decide) (by omega) (by omega) (fun c4 => ?_) (fun c4 => ?_)
              · have e : amax (mTl (s.1 0) (ix p)) (t + 1) = (mTl (s.1 0) (ix p) t, nI t) := by rw [amax, if_pos c4]
                refine x_iload dX6_bestTile_108 rfl ?_
                refine x_istore_n dX6_bestTile_110 (by decide) rfl rfl ?_
                refine x_iload dX6_bestTile_111 rfl ?_
                refine x_istore_n dX6_bestTile_113 (by decide) rfl rfl ?_
                refine x_iinc_n (k := 1) dX6_bestTile_114 rfl (by decide) (by decide) rfl rfl ?_
                refine x_goto 33 dX6_bestTile_117 (by decide) ?_
                exact xP.weak (by simp [xle, xset1, fin3, e]) ih
              · have e : amax (mTl (s.1 0) (ix p)) (t + 1) = amax (mTl (s.1 0) (ix p)) t := by rw [amax, if_neg (by omega)]
                refine x_goto 114 dX6_bestTile_105 (by decide) ?_
                refine x_iinc_n (k := 1) dX6_bestTile_114 rfl (by decide) (by decide) rfl rfl ?_
                refine x_goto 33 dX6_bestTile_117 (by decide) ?_
                exact xP.weak (by simp [xle, xset1, fin3, e]) ih
            · omega
      · refine x_iload dX6_bestTile_33 rfl ?_
        refine x_aload_n dX6_bestTile_35 rfl ?_
        refine x_getf dX6_bestTile_36 f_X6_7 putMod_at.o rfl ?_
        refine x_iconst (nI 0) dX6_bestTile_39 (by decide) ?_
        refine x_iald_n dX6_bestTile_40 putMod_at.a (by omega) (by decide) ?_
        refine xP.eq (S' := [.int (nI (s.1 0 0)), .int (nI (s.1 0 0))]) rfl rfl rfl rfl ?_
        refine x_icmp_ge_n 120 dX6_bestTile_41 (by decide) (by omega) (by omega) (fun c2 => ?_) (fun c2 => ?_)
        · refine x_iload_n dX6_bestTile_120 rfl ?_
          exact x_iret .int dX6_bestTile_121 rfl rfl (by decide) (by decide) (rfl) (rfl)
        · omega
    · omega
theorem c_mLeast {n : Nat} (hw : rK (s.1 0) n) : xDet g l mX6_leastTrusted 2 0 0 [.ref m] (putMod h m s) (some (.int (nI (mLst (s.1 0) (s.1 0 1))))) (putMod h m (mN s 1 0)) := by
  have hok : rOk ((mN s 1 0).1 0) := hw.ok
  have hN : s.1 0 1 ≤ 10 := hw.2.2 1 (by decide)
  refine xMet.of (V := [some (.ref m), none, none]) moX6_leastTrusted (Nat.le_of_ble_eq_true rfl) rfl ?_
  refine x_aload_n dX6_leastTrusted_0 rfl ?_
  refine x_iconst (nI 0) dX6_leastTrusted_1 (by decide) ?_
  refine xq_X6_thrown dX6_leastTrusted_2 f_X6_49 ?_
  refine x_iconst (nI 0) dX6_leastTrusted_5 (by decide) ?_
  refine x_istore_n dX6_leastTrusted_6 (by decide) rfl rfl ?_
  refine x_iconst (nI 1) dX6_leastTrusted_7 (by decide) ?_
  refine x_istore_n dX6_leastTrusted_8 (by decide) rfl rfl ?_
  have low : ∀ i, i < 2 → mLst (s.1 0) i = 0 := by
    intro i hi
    have : i = 0 ∨ i = 1 := by omega
    rcases this with rfl | rfl <;> rfl
  by_cases hz : s.1 0 1 = 0
  · rw [hz]
    refine x_iload_n dX6_leastTrusted_9 rfl ?_
    refine x_aload_n dX6_leastTrusted_10 rfl ?_
    refine x_vi0 dX6_leastTrusted_11 cV_X6_67 (c_mFamilies putMod_at) rfl rfl ⟨⟨by decide, by decide⟩, by decide, by decide⟩ (Nat.le_of_ble_eq_true rfl) (xrecv putMod_at.o rfl xcl5) ?_
    refine xP.eq (S' := [.int (nI (s.1 0 1)), .int (nI 1)]) rfl rfl rfl rfl ?_
    refine x_icmp_ge_n 38 dX6_leastTrusted_14 (by decide) (by omega) (by omega) (fun c2 => ?_) (fun c2 => ?_)
    · refine x_iload_n dX6_leastTrusted_38 rfl ?_
      exact x_iret .int dX6_leastTrusted_39 rfl rfl (by decide) (by decide) (rfl) (rfl)
    · omega
  refine xP.weak (V' := [some (.ref m), some (.int (nI (mLst (s.1 0) 1))), some (.int (nI 1))]) (by simp [xle, xset1, fin3, mLst]) ?_
  refine xP.loopFrom (fun i => [some (.ref m), some (.int (nI (mLst (s.1 0) i))), some (.int (nI i))]) (fun _ => putMod h m (mN s 1 0)) 1 (s.1 0 1) (by omega) ?_ ?_
  · intro i h1 hi ih
    have hl := mLst_lt (A := s.1 0) i
    have t1 := mTrust_lt hw.ok (f := i) (by omega)
    have t2 := mTrust_lt hw.ok (f := mLst (s.1 0) i) (by omega)
    refine x_iload_n dX6_leastTrusted_9 rfl ?_
    refine x_aload_n dX6_leastTrusted_10 rfl ?_
    refine x_vi0 dX6_leastTrusted_11 cV_X6_67 (c_mFamilies putMod_at) rfl rfl ⟨⟨by decide, by decide⟩, by decide, by decide⟩ (Nat.le_of_ble_eq_true rfl) (xrecv putMod_at.o rfl xcl5) ?_
    refine xP.eq (S' := [.int (nI (s.1 0 1)), .int (nI i)]) rfl rfl rfl rfl ?_
    refine x_icmp_ge_n 38 dX6_leastTrusted_14 (by decide) (by omega) (by omega) (fun c2 => ?_) (fun c2 => ?_)
    · omega
    · refine x_aload_n dX6_leastTrusted_17 rfl ?_
      refine x_iload_n dX6_leastTrusted_18 rfl ?_
      refine x_vi0 dX6_leastTrusted_19 cV_X6_254 (c_mTrustOf putMod_at hok (show i < 10 by omega)) rfl rfl ⟨⟨by decide, by decide⟩, by decide, by decide⟩ (Nat.le_of_ble_eq_true rfl) (xrecv putMod_at.o rfl xcl5) ?_
      refine x_aload_n dX6_leastTrusted_22 rfl ?_
      refine x_iload_n dX6_leastTrusted_23 rfl ?_
      refine x_vi0 dX6_leastTrusted_24 cV_X6_254 (c_mTrustOf putMod_at hok (show mLst (s.1 0) i < 10 by omega)) rfl rfl ⟨⟨by decide, by decide⟩, by decide, by decide⟩ (Nat.le_of_ble_eq_true rfl) (xrecv putMod_at.o rfl xcl5) ?_
      refine xP.eq (S' := [.int (nI (mTrust (s.1 0) (mLst (s.1 0) i))), .int (nI (mTrust (s.1 0) i))]) rfl rfl rfl rfl ?_
      refine x_icmp_ge_n 32 dX6_leastTrusted_27 (by decide) (by omega) (by omega) (fun c3 => ?_) (fun c3 => ?_)
      · have e : mLst (s.1 0) (i + 1) = mLst (s.1 0) i := by rw [mLst, if_neg (by omega), if_neg (by omega)]
        refine x_iinc_n (k := 1) dX6_leastTrusted_32 rfl (by decide) (by decide) rfl rfl ?_
        refine x_goto 9 dX6_leastTrusted_35 (by decide) ?_
        exact xP.weak (by simp [xle, xset1, fin3, e]) ih
      · have e : mLst (s.1 0) (i + 1) = i := by rw [mLst, if_neg (by omega), if_pos (by omega)]
        refine x_iload_n dX6_leastTrusted_30 rfl ?_
        refine x_istore_n dX6_leastTrusted_31 (by decide) rfl rfl ?_
        refine x_iinc_n (k := 1) dX6_leastTrusted_32 rfl (by decide) (by decide) rfl rfl ?_
        refine x_goto 9 dX6_leastTrusted_35 (by decide) ?_
        exact xP.weak (by simp [xle, xset1, fin3, e]) ih
  · refine x_iload_n dX6_leastTrusted_9 rfl ?_
    refine x_aload_n dX6_leastTrusted_10 rfl ?_
    refine x_vi0 dX6_leastTrusted_11 cV_X6_67 (c_mFamilies putMod_at) rfl rfl ⟨⟨by decide, by decide⟩, by decide, by decide⟩ (Nat.le_of_ble_eq_true rfl) (xrecv putMod_at.o rfl xcl5) ?_
    refine xP.eq (S' := [.int (nI (s.1 0 1)), .int (nI (s.1 0 1))]) rfl rfl rfl rfl ?_
    refine x_icmp_ge_n 38 dX6_leastTrusted_14 (by decide) (by omega) (by omega) (fun c2 => ?_) (fun c2 => ?_)
    · refine x_iload_n dX6_leastTrusted_38 rfl ?_
      exact x_iret .int dX6_leastTrusted_39 rfl rfl (by decide) (by decide) (rfl) (rfl)
    · omega
theorem mNe_le {A : Nat → Nat} (hw : rOk A) {f : Nat} : mNe A f ≤ 12 := Nat.le_trans (fb_sm_le1 (fun p => by have := bit_lt (mDep A p) f; unfold mNe1; omega) _) hw.2.2.1
theorem c_mMost {n : Nat} (hw : rK (s.1 0) n) : xDet g l mX6_mostNeeded 4 0 0 [.ref m] (putMod h m s) (some (.int (amax (mNe (s.1 0)) (s.1 0 1)).2)) (putMod h m (mN s 1 0)) := by
  have hok : rOk ((mN s 1 0).1 0) := hw.ok
  have hN : s.1 0 1 ≤ 10 := hw.2.2 1 (by decide)
  have hK : s.1 0 2 ≤ 12 := hw.2.2 2 (by decide)
  have hm : ∀ n, (amax (mNe (s.1 0)) n).1 ≤ 12 := by
    intro n
    induction n with
    | zero => exact Nat.zero_le _
    | succ n ih =>
      rw [amax]
      split
      · exact mNe_le hw.ok
      · exact ih
  refine xMet.of (V := [some (.ref m), none, none, none, none, none]) moX6_mostNeeded (Nat.le_of_ble_eq_true rfl) rfl ?_
  refine x_aload_n dX6_mostNeeded_0 rfl ?_
  refine x_iconst (nI 0) dX6_mostNeeded_1 (by decide) ?_
  refine xq_X6_thrown dX6_mostNeeded_2 f_X6_49 ?_
  refine x_iconst (-1) dX6_mostNeeded_5 (by decide) ?_
  refine x_istore_n dX6_mostNeeded_6 (by decide) rfl rfl ?_
  refine x_iconst (nI 0) dX6_mostNeeded_7 (by decide) ?_
  refine x_istore_n dX6_mostNeeded_8 (by decide) rfl rfl ?_
  refine x_iconst (nI 0) dX6_mostNeeded_9 (by decide) ?_
  refine x_istore_n dX6_mostNeeded_10 (by decide) rfl rfl ?_
  refine xP.weak (V' := [some (.ref m), some (.int (amax (mNe (s.1 0)) 0).2), some (.int (nI (amax (mNe (s.1 0)) 0).1)), some (.int (nI 0)), none, none]) (by simp [xle, xset1, fin3, amax]) ?_
  refine xP.loop0 (fun i => [some (.ref m), some (.int (amax (mNe (s.1 0)) i).2), some (.int (nI (amax (mNe (s.1 0)) i).1)), some (.int (nI i)), none, none]) (s.1 0 1) ?_ ?_
  · intro t ht ih
    have hmt := hm t
    have hFt := mNe_le hw.ok (f := t)
    refine x_iload_n dX6_mostNeeded_11 rfl ?_
    refine x_aload_n dX6_mostNeeded_12 rfl ?_
    refine x_vi0 dX6_mostNeeded_13 cV_X6_67 (c_mFamilies putMod_at) rfl rfl ⟨⟨by decide, by decide⟩, by decide, by decide⟩ (Nat.le_of_ble_eq_true rfl) (xrecv putMod_at.o rfl xcl5) ?_
    refine xP.eq (S' := [.int (nI (s.1 0 1)), .int (nI t)]) rfl rfl rfl rfl ?_
    refine x_icmp_ge_n 75 dX6_mostNeeded_16 (by decide) (by omega) (by omega) (fun c2 => ?_) (fun c2 => ?_)
    · omega
    · refine x_iconst (nI 0) dX6_mostNeeded_19 (by decide) ?_
      refine x_istore dX6_mostNeeded_20 (by decide) rfl rfl ?_
      refine x_iconst (nI 0) dX6_mostNeeded_22 (by decide) ?_
      refine x_istore dX6_mostNeeded_23 (by decide) rfl rfl ?_
      refine xP.weak (V' := [some (.ref m), some (.int (amax (mNe (s.1 0)) t).2), some (.int (nI (amax (mNe (s.1 0)) t).1)), some (.int (nI t)), some (.int (nI (fb_sm (mNe1 (s.1 0) t) 0))), some (.int (nI 0))]) (by simp [xle, xset1, fin3]; first | rfl | exact ⟨rfl, rfl⟩) ?_
      refine xP.loop0 (fun i => [some (.ref m), some (.int (amax (mNe (s.1 0)) t).2), some (.int (nI (amax (mNe (s.1 0)) t).1)), some (.int (nI t)), some (.int (nI (fb_sm (mNe1 (s.1 0) t) i))), some (.int (nI i))]) (s.1 0 2) ?_ ?_
      · intro i hi ih2
        have hd := mDep_lt hw.ok i
        have e : fb_sm (mNe1 (s.1 0) t) (i + 1) = fb_sm (mNe1 (s.1 0) t) i + mNe1 (s.1 0) t i := rfl
        refine x_iload dX6_mostNeeded_25 rfl ?_
        refine x_aload_n dX6_mostNeeded_27 rfl ?_
        refine x_vi0 dX6_mostNeeded_28 cV_X6_169 (c_mPictures putMod_at) rfl rfl ⟨⟨by decide, by decide⟩, by decide, by decide⟩ (Nat.le_of_ble_eq_true rfl) (xrecv putMod_at.o rfl xcl5) ?_
        refine xP.eq (S' := [.int (nI (s.1 0 2)), .int (nI i)]) rfl rfl rfl rfl ?_
        refine x_icmp_ge_n 55 dX6_mostNeeded_31 (by decide) (by omega) (by omega) (fun c3 => ?_) (fun c3 => ?_)
        · omega
        · refine x_iload dX6_mostNeeded_34 rfl ?_
          refine x_aload_n dX6_mostNeeded_36 rfl ?_
          refine x_iload dX6_mostNeeded_37 rfl ?_
          refine x_vi0 dX6_mostNeeded_39 cV_X6_306 (c_mDependsOn putMod_at hok (show i < 12 by omega)) rfl rfl ⟨⟨by decide, by decide⟩, by decide, by decide⟩ (Nat.le_of_ble_eq_true rfl) (xrecv putMod_at.o rfl xcl5) ?_
          refine xP.eq (S' := [.int (nI (mDep (s.1 0) i)), .int (nI (fb_sm (mNe1 (s.1 0) t) i))]) rfl rfl rfl rfl ?_
          refine x_iload_n dX6_mostNeeded_42 rfl ?_
          refine x_ishr_n dX6_mostNeeded_43 (by omega) (by omega) ?_
          refine x_iconst (nI 1) dX6_mostNeeded_44 (by decide) ?_
          refine x_iand_n dX6_mostNeeded_45 ?_
          refine xP.eq (S' := [.int (nI (mNe1 (s.1 0) t i)), .int (nI (fb_sm (mNe1 (s.1 0) t) i))]) rfl rfl rfl rfl ?_
          refine x_iadd_n dX6_mostNeeded_46 ?_
          refine x_istore dX6_mostNeeded_47 (by decide) rfl rfl ?_
          refine x_iinc_n (k := 1) dX6_mostNeeded_49 rfl (by decide) (by decide) rfl rfl ?_
          refine x_goto 25 dX6_mostNeeded_52 (by decide) ?_
          exact xP.weak (by simp [xle, xset1, fin3, e]) ih2
      · refine x_iload dX6_mostNeeded_25 rfl ?_
        refine x_aload_n dX6_mostNeeded_27 rfl ?_
        refine x_vi0 dX6_mostNeeded_28 cV_X6_169 (c_mPictures putMod_at) rfl rfl ⟨⟨by decide, by decide⟩, by decide, by decide⟩ (Nat.le_of_ble_eq_true rfl) (xrecv putMod_at.o rfl xcl5) ?_
        refine xP.eq (S' := [.int (nI (s.1 0 2)), .int (nI (s.1 0 2))]) rfl rfl rfl rfl ?_
        have eT : fb_sm (mNe1 (s.1 0) t) (s.1 0 2) = mNe (s.1 0) t := rfl
        rw [eT]
        refine x_icmp_ge_n 55 dX6_mostNeeded_31 (by decide) (by omega) (by omega) (fun c3 => ?_) (fun c3 => ?_)
        · refine x_iload dX6_mostNeeded_55 rfl ?_
          refine x_iload_n dX6_mostNeeded_57 rfl ?_
          refine x_icmp_gt_n 64 dX6_mostNeeded_58 (by decide) (by omega) (by omega) (fun c4 => ?_) (fun c4 => ?_)
          · have e : amax (mNe (s.1 0)) (t + 1) = (mNe (s.1 0) t, nI t) := by rw [amax, if_pos c4]
            refine x_iload dX6_mostNeeded_64 rfl ?_
            refine x_istore_n dX6_mostNeeded_66 (by decide) rfl rfl ?_
            refine x_iload_n dX6_mostNeeded_67 rfl ?_
            refine x_istore_n dX6_mostNeeded_68 (by decide) rfl rfl ?_
            refine x_iinc_n (k := 1) dX6_mostNeeded_69 rfl (by decide) (by decide) rfl rfl ?_
            refine x_goto 11 dX6_mostNeeded_72 (by decide) ?_
            exact xP.weak (by simp [xle, xset1, fin3, e]) ih
          · have e : amax (mNe (s.1 0)) (t + 1) = amax (mNe (s.1 0)) t := by rw [amax, if_neg (by omega)]
            refine x_goto 69 dX6_mostNeeded_61 (by decide) ?_
            refine x_iinc_n (k := 1) dX6_mostNeeded_69 rfl (by decide) (by decide) rfl rfl ?_
            refine x_goto 11 dX6_mostNeeded_72 (by decide) ?_
            exact xP.weak (by simp [xle, xset1, fin3, e]) ih
        · omega
  · refine x_iload_n dX6_mostNeeded_11 rfl ?_
    refine x_aload_n dX6_mostNeeded_12 rfl ?_
    refine x_vi0 dX6_mostNeeded_13 cV_X6_67 (c_mFamilies putMod_at) rfl rfl ⟨⟨by decide, by decide⟩, by decide, by decide⟩ (Nat.le_of_ble_eq_true rfl) (xrecv putMod_at.o rfl xcl5) ?_
    refine xP.eq (S' := [.int (nI (s.1 0 1)), .int (nI (s.1 0 1))]) rfl rfl rfl rfl ?_
    refine x_icmp_ge_n 75 dX6_mostNeeded_16 (by decide) (by omega) (by omega) (fun c2 => ?_) (fun c2 => ?_)
    · refine x_iload_n dX6_mostNeeded_75 rfl ?_
      exact x_iret .int dX6_mostNeeded_76 rfl rfl (by decide) (by decide) (rfl) (rfl)
    · omega
end M20
