/-! ===== the model: more numbers; rows are copied ===== -/
def mTrust (A : Nat → Nat) (f : Nat) : Nat := 100 * (rF A f 1 + 1) / (rF A f 1 + rF A f 2 + 2)
def mSrc (A : Nat → Nat) (p f : Nat) : Nat := rF A f 3 &&& mHold A p 1
/-- n numbers of g from fa on, laid into f from ta on -/
def cpT (f g : Nat → Nat) (ta fa n : Nat) : Nat → Nat := fun q => if ta ≤ q ∧ q < ta + n then g (q - ta + fa) else f q
theorem cpT_0 (f g : Nat → Nat) (ta fa : Nat) : cpT f g ta fa 0 = f := by
  funext q
  unfold cpT
  rw [if_neg (by omega)]
theorem cpT_up (f g : Nat → Nat) (ta fa n : Nat) : va_up (cpT f g ta fa n) (ta + n) (g (fa + n)) = cpT f g ta fa (n + 1) := by
  funext q
  unfold va_up cpT
  by_cases e : q = ta + n
  · subst e
    rw [if_pos rfl, if_pos (by omega)]
    congr 1
    omega
  · rw [if_neg e]
    by_cases c : ta ≤ q ∧ q < ta + n
    · rw [if_pos c, if_pos (by omega)]
    · rw [if_neg c, if_neg (by omega)]
theorem isIn_ok {a : Int32} {N : Nat} (hN : N < 2 ^ 31) : isInB a (nI 0) (nI N - nI 1) = okB a N := by
  unfold isInB
  by_cases c : a < 0
  · rw [okB_no1 hN c, decide_eq_false (fun q => q c), Bool.false_and]
  · have hx : ix a < 2 ^ 31 := Nat.lt_of_not_le fun q => c (neg_ix.mpr q)
    have e := nI_ix a
    rw [decide_eq_true (show ¬ a < nI 0 from c), Bool.true_and]
    cases N with
    | zero =>
      have h1 : (nI 0 - nI 1 : Int32) < a := by
        have h2 : (-1 : Int32) < 0 := by decide
        have h3 : (0 : Int32) ≤ a := Int32.not_lt.mp c
        exact Int32.lt_of_lt_of_le h2 h3
      rw [decide_eq_false (fun q => q h1)]
      unfold okB
      exact (decide_eq_false (by omega)).symm
    | succ N =>
      rw [show nI (N + 1) - nI 1 = nI N by rw [pk_sub (by omega)]; rfl]
      unfold okB
      have hc : nI N < a ↔ N < ix a := by
        have := nI_ltI (a := N) (b := ix a) (by omega) hx
        rw [e] at this
        exact this
      exact decide_eq_decide.mpr ⟨fun q => Nat.lt_succ_of_le (Nat.le_of_not_lt fun r => q (hc.mpr r)), fun q r => by have := hc.mp r; omega⟩
section M3
variable {g : xG} {l : Launch} {h : xH} {m : Nat} {s : Mo}
theorem c_mLeftOf (hM : ModAt h m s) (hw : rOk (s.1 0)) {f : Nat} (hf : f < 10) (hl : mCop (s.1 0) f 0 ≤ rF (s.1 0) f 0) : xDet g l mX6_leftOf 3 0 0 [.ref m, .int (nI f)] h (some (.int (nI (rF (s.1 0) f 0 - mCop (s.1 0) f 0)))) h := by
  refine xMet.of (V := [some (.ref m), some (.int (nI f))]) moX6_leftOf (Nat.le_of_ble_eq_true rfl) rfl ?_
  refine x_aload_n dX6_leftOf_0 rfl ?_
  refine x_iload_n dX6_leftOf_1 rfl ?_
  refine x_iconst (nI 0) dX6_leftOf_2 (by decide) ?_
  refine x_vi0 dX6_leftOf_3 cV_X6_206 (c_mOfFamily hM hf (show 0 < 12 by decide)) rfl rfl ⟨⟨by decide, by decide⟩, by decide, by decide⟩ (Nat.le_of_ble_eq_true rfl) (xrecv hM.o rfl xcl5) ?_
  refine x_aload_n dX6_leftOf_6 rfl ?_
  refine x_iload_n dX6_leftOf_7 rfl ?_
  refine x_iconst (nI 0) dX6_leftOf_8 (by decide) ?_
  refine x_vi0 dX6_leftOf_9 cV_X6_223 (c_mCopiesOf hM hw hf (by decide)) rfl rfl ⟨⟨by decide, by decide⟩, by decide, by decide⟩ (Nat.le_of_ble_eq_true rfl) (xrecv hM.o rfl xcl5) ?_
  refine x_isub_n dX6_leftOf_12 (by omega) ?_
  exact x_iret .int dX6_leftOf_13 rfl rfl (by decide) (by decide) (rfl) (rfl)
theorem c_mTrustOf (hM : ModAt h m s) (hw : rOk (s.1 0)) {f : Nat} (hf : f < 10) : xDet g l mX6_trustOf 1 0 0 [.ref m, .int (nI f)] h (some (.int (nI (mTrust (s.1 0) f)))) h := by
  have h1 : rF (s.1 0) f 1 < 2 ^ 24 := hw.2.2.2.2.2 _ (by omega)
  have h2 : rF (s.1 0) f 2 < 2 ^ 24 := hw.2.2.2.2.2 _ (by omega)
  refine xMet.of (V := [some (.ref m), some (.int (nI f)), none]) moX6_trustOf (Nat.le_of_ble_eq_true rfl) rfl ?_
  refine x_aload_n dX6_trustOf_0 rfl ?_
  refine x_iload_n dX6_trustOf_1 rfl ?_
  refine x_iconst (nI 1) dX6_trustOf_2 (by decide) ?_
  refine x_vi0 dX6_trustOf_3 cV_X6_206 (c_mOfFamily hM hf (show 1 < 12 by decide)) rfl rfl ⟨⟨by decide, by decide⟩, by decide, by decide⟩ (Nat.le_of_ble_eq_true rfl) (xrecv hM.o rfl xcl5) ?_
  refine x_istore_n dX6_trustOf_6 (by decide) rfl rfl ?_
  refine x_bipush (nI 100) dX6_trustOf_7 (by decide) ?_
  refine x_iload_n dX6_trustOf_9 rfl ?_
  refine x_iconst (nI 1) dX6_trustOf_10 (by decide) ?_
  refine x_iadd_n dX6_trustOf_11 ?_
  refine x_imul_n dX6_trustOf_12 ?_
  refine x_iload_n dX6_trustOf_13 rfl ?_
  refine x_aload_n dX6_trustOf_14 rfl ?_
  refine x_iload_n dX6_trustOf_15 rfl ?_
  refine x_iconst (nI 2) dX6_trustOf_16 (by decide) ?_
  refine x_vi0 dX6_trustOf_17 cV_X6_206 (c_mOfFamily hM hf (show 2 < 12 by decide)) rfl rfl ⟨⟨by decide, by decide⟩, by decide, by decide⟩ (Nat.le_of_ble_eq_true rfl) (xrecv hM.o rfl xcl5) ?_
  refine x_iadd_n dX6_trustOf_20 ?_
  refine x_iconst (nI 2) dX6_trustOf_21 (by decide) ?_
  refine x_iadd_n dX6_trustOf_22 ?_
  refine x_idiv_n dX6_trustOf_23 (by omega) (by omega) (by omega) ?_
  exact x_iret .int dX6_trustOf_24 rfl rfl (by decide) (by decide) (rfl) (rfl)
theorem c_mAreNear (hM : ModAt h m s) (hw : rOk (s.1 0)) {f o : Nat} (hf : f < 10) (ho : o < 32) : xDet g l mX6_areNear 1 0 0 [.ref m, .int (nI f), .int (nI o)] h (some (.int (xb ((rF (s.1 0) f 3).testBit o)))) h := by
  have h1 := (hw.2.2.2.2.1 f hf).1
  have hb := bit_lt (rF (s.1 0) f 3) o
  refine xMet.of (V := [some (.ref m), some (.int (nI f)), some (.int (nI o))]) moX6_areNear (Nat.le_of_ble_eq_true rfl) rfl ?_
  refine x_aload_n dX6_areNear_0 rfl ?_
  refine x_iload_n dX6_areNear_1 rfl ?_
  refine x_iconst (nI 3) dX6_areNear_2 (by decide) ?_
  refine x_vi0 dX6_areNear_3 cV_X6_206 (c_mOfFamily hM hf (show 3 < 12 by decide)) rfl rfl ⟨⟨by decide, by decide⟩, by decide, by decide⟩ (Nat.le_of_ble_eq_true rfl) (xrecv hM.o rfl xcl5) ?_
  refine x_iload_n dX6_areNear_6 rfl ?_
  refine x_ishr_n dX6_areNear_7 (by omega) (by omega) ?_
  refine x_iconst (nI 1) dX6_areNear_8 (by decide) ?_
  refine x_iand_n dX6_areNear_9 ?_
  refine x_iconst (nI 1) dX6_areNear_10 (by decide) ?_
  refine x_icmp_ne_n 18 dX6_areNear_11 (by decide) (by omega) (by omega) (fun c1 => ?_) (fun c1 => ?_)
  · refine x_iconst (nI 0) dX6_areNear_18 (by decide) ?_
    exact x_iret .boolean dX6_areNear_19 rfl rfl (by decide) (by decide) (bool0 (bit0 (by omega))) (rfl)
  · refine x_iconst (nI 1) dX6_areNear_14 (by decide) ?_
    refine x_goto 19 dX6_areNear_15 (by decide) ?_
    exact x_iret .boolean dX6_areNear_19 rfl rfl (by decide) (by decide) (bool1 (bit1 (by omega))) (rfl)
theorem c_mSourcesOf (hM : ModAt h m s) (hw : rOk (s.1 0)) {p f : Nat} (hp : p < 12) (hf : f < 10) : xDet g l mX6_sourcesOf 3 0 0 [.ref m, .int (nI p), .int (nI f)] h (some (.int (nI (mSrc (s.1 0) p f)))) h := by
  refine xMet.of (V := [some (.ref m), some (.int (nI p)), some (.int (nI f))]) moX6_sourcesOf (Nat.le_of_ble_eq_true rfl) rfl ?_
  refine x_aload_n dX6_sourcesOf_0 rfl ?_
  refine x_iload_n dX6_sourcesOf_1 rfl ?_
  refine x_iconst (nI 3) dX6_sourcesOf_2 (by decide) ?_
  refine x_vi0 dX6_sourcesOf_3 cV_X6_206 (c_mOfFamily hM hf (show 3 < 12 by decide)) rfl rfl ⟨⟨by decide, by decide⟩, by decide, by decide⟩ (Nat.le_of_ble_eq_true rfl) (xrecv hM.o rfl xcl5) ?_
  refine x_aload_n dX6_sourcesOf_6 rfl ?_
  refine x_iload_n dX6_sourcesOf_7 rfl ?_
  refine x_iconst (nI 1) dX6_sourcesOf_8 (by decide) ?_
  refine x_vi0 dX6_sourcesOf_9 cV_X6_226 (c_mHolders hM hw hp (show 1 < 4 by decide)) rfl rfl ⟨⟨by decide, by decide⟩, by decide, by decide⟩ (Nat.le_of_ble_eq_true rfl) (xrecv hM.o rfl xcl5) ?_
  refine x_iand_n dX6_sourcesOf_12 ?_
  exact x_iret .int dX6_sourcesOf_13 rfl rfl (by decide) (by decide) (rfl) (rfl)
theorem c_mIsFamily (hM : ModAt h m s) (hw : rOk (s.1 0)) {a : Int32} : xDet g l mX6_isFamily 1 0 0 [.ref m, .int a] h (some (.int (xb (okB a (s.1 0 1))))) h := by
  have hN : s.1 0 1 ≤ 10 := hw.2.1
  rw [← isIn_ok (by omega)]
  refine xMet.of (V := [some (.ref m), some (.int a)]) moX6_isFamily (Nat.le_of_ble_eq_true rfl) rfl ?_
  refine x_iload_n dX6_isFamily_0 rfl ?_
  refine x_iconst (nI 0) dX6_isFamily_1 (by decide) ?_
  refine x_aload_n dX6_isFamily_2 rfl ?_
  refine x_vi0 dX6_isFamily_3 cV_X6_67 (c_mFamilies hM) rfl rfl ⟨⟨by decide, by decide⟩, by decide, by decide⟩ (Nat.le_of_ble_eq_true rfl) (xrecv hM.o rfl xcl5) ?_
  refine x_iconst (nI 1) dX6_isFamily_6 (by decide) ?_
  refine x_isub dX6_isFamily_7 ?_
  refine x_si0 dX6_isFamily_8 cS_X6_59 (c_mIsIn) rfl rfl ⟨⟨by decide, by decide⟩, by decide, by decide⟩ (Nat.le_of_ble_eq_true rfl) ?_
  exact x_bret dX6_isFamily_11 rfl (by decide) (by decide) (rfl) (rfl)
theorem c_mIsPicture (hM : ModAt h m s) (hw : rOk (s.1 0)) {a : Int32} : xDet g l mX6_isPicture 1 0 0 [.ref m, .int a] h (some (.int (xb (okB a (s.1 0 2))))) h := by
  have hN : s.1 0 2 ≤ 12 := hw.2.2.1
  rw [← isIn_ok (by omega)]
  refine xMet.of (V := [some (.ref m), some (.int a)]) moX6_isPicture (Nat.le_of_ble_eq_true rfl) rfl ?_
  refine x_iload_n dX6_isPicture_0 rfl ?_
  refine x_iconst (nI 0) dX6_isPicture_1 (by decide) ?_
  refine x_aload_n dX6_isPicture_2 rfl ?_
  refine x_vi0 dX6_isPicture_3 cV_X6_169 (c_mPictures hM) rfl rfl ⟨⟨by decide, by decide⟩, by decide, by decide⟩ (Nat.le_of_ble_eq_true rfl) (xrecv hM.o rfl xcl5) ?_
  refine x_iconst (nI 1) dX6_isPicture_6 (by decide) ?_
  refine x_isub dX6_isPicture_7 ?_
  refine x_si0 dX6_isPicture_8 cS_X6_59 (c_mIsIn) rfl rfl ⟨⟨by decide, by decide⟩, by decide, by decide⟩ (Nat.le_of_ble_eq_true rfl) ?_
  exact x_bret dX6_isPicture_11 rfl (by decide) (by decide) (rfl) (rfl)
def mOkPF (A : Nat → Nat) (p f : Int32) : Bool := okB p (A 2) && okB f (A 1)
theorem c_mAreBoth (hw : rOk (s.1 0)) {p f : Int32} : xDet g l mX6_areBoth 2 0 0 [.ref m, .int p, .int f] (putMod h m s) (some (.int (xb (mOkPF (s.1 0) p f)))) (putMod h m (mN s 1 (if mOkPF (s.1 0) p f = true then 0 else 1))) := by
  unfold mOkPF
  refine xMet.of (V := [some (.ref m), some (.int p), some (.int f)]) moX6_areBoth (Nat.le_of_ble_eq_true rfl) rfl ?_
  have tail : ∀ (s1 : Mo) (t : Nat), t < 2 → s1.2.1 1 = t → xP g l mX6_areBoth [] (xR 2 0 0) (xZ g (fun r' h' => r' = some (.int (xb (decide (t = 0)))) ∧ h' = putMod h m s1) xno 0 0) 25 [some (.ref m), some (.int p), some (.int f)] [] (putMod h m s1) 0 0 := by
    intro s1 t ht e
    refine x_aload_n dX6_areBoth_25 rfl ?_
    refine x_getf dX6_areBoth_26 f_X6_49 putMod_at.o rfl ?_
    rw [e]
    refine x_if_ne_n 36 dX6_areBoth_29 (by decide) (by omega) (fun c1 => ?_) (fun c1 => ?_)
    · refine x_iconst (nI 0) dX6_areBoth_36 (by decide) ?_
      exact x_iret .boolean dX6_areBoth_37 rfl rfl (by decide) (by decide) (bool0 (decide_eq_false (by omega))) (rfl)
    · refine x_iconst (nI 1) dX6_areBoth_32 (by decide) ?_
      refine x_goto 37 dX6_areBoth_33 (by decide) ?_
      exact x_iret .boolean dX6_areBoth_37 rfl rfl (by decide) (by decide) (bool1 (decide_eq_true (by omega))) (rfl)
  refine x_aload_n dX6_areBoth_0 rfl ?_
  refine x_aload_n dX6_areBoth_1 rfl ?_
  refine x_iload_n dX6_areBoth_2 rfl ?_
  refine x_vi0 dX6_areBoth_3 cV_X6_257 (c_mIsPicture putMod_at hw) rfl rfl ⟨⟨by decide, by decide⟩, by decide, by decide⟩ (Nat.le_of_ble_eq_true rfl) (xrecv putMod_at.o rfl xcl5) ?_
  refine x_if_eq_b 21 dX6_areBoth_6 (by decide) (fun c1 => ?_) (fun c1 => ?_)
  · rw [c1, Bool.false_and, if_neg (by decide)]
    refine x_iconst (nI 1) dX6_areBoth_21 (by decide) ?_
    refine xq_X6_thrown dX6_areBoth_22 f_X6_49 ?_
    exact tail _ 1 (by decide) rfl
  · rw [c1, Bool.true_and]
    refine x_aload_n dX6_areBoth_9 rfl ?_
    refine x_iload_n dX6_areBoth_10 rfl ?_
    refine x_vi0 dX6_areBoth_11 cV_X6_251 (c_mIsFamily putMod_at hw) rfl rfl ⟨⟨by decide, by decide⟩, by decide, by decide⟩ (Nat.le_of_ble_eq_true rfl) (xrecv putMod_at.o rfl xcl5) ?_
    refine x_if_eq_b 21 dX6_areBoth_14 (by decide) (fun c2 => ?_) (fun c2 => ?_)
    · rw [c2, if_neg (by decide)]
      refine x_iconst (nI 1) dX6_areBoth_21 (by decide) ?_
      refine xq_X6_thrown dX6_areBoth_22 f_X6_49 ?_
      exact tail _ 1 (by decide) rfl
    · rw [c2, if_pos rfl]
      refine x_iconst (nI 0) dX6_areBoth_17 (by decide) ?_
      refine x_goto 22 dX6_areBoth_18 (by decide) ?_
      refine xq_X6_thrown dX6_areBoth_22 f_X6_49 ?_
      exact tail _ 0 (by decide) rfl
theorem c_mCopies {t a nt na ta fa : Nat} {f r : Nat → Nat} (ht : h.1 t = some (.inl (0, nt, .inl (fun q => nI (f q))))) (ha : h.1 a = some (.inl (0, na, .inl (fun q => nI (r q))))) (hd : a ≠ t) (h1 : ta + 353 ≤ nt) (h2 : fa + 353 ≤ na) (h3 : nt < 10000) (h4 : na < 10000) :
    xDet g l mX6_copies 0 0 0 [.ref t, .int (nI ta), .ref a, .int (nI fa)] h none (hset h t (.inl (0, nt, .inl (fun q => nI (cpT f r ta fa 353 q))))) := by
  have hT : ∀ i, (hset h t (.inl (0, nt, .inl (fun q => nI (cpT f r ta fa i q))))).1 t = some (.inl (0, nt, .inl (fun q => nI (cpT f r ta fa i q)))) := fun i => hset_at
  have hA : ∀ i, (hset h t (.inl (0, nt, .inl (fun q => nI (cpT f r ta fa i q))))).1 a = some (.inl (0, na, .inl (fun q => nI (r q)))) := fun i => by
    unfold hset
    dsimp only
    rw [if_neg hd]
    exact ha
  refine xMet.of (V := [some (.ref t), some (.int (nI ta)), some (.ref a), some (.int (nI fa)), none]) moX6_copies (Nat.le_of_ble_eq_true rfl) rfl ?_
  refine x_iconst (nI 0) dX6_copies_0 (by decide) ?_
  refine x_istore dX6_copies_1 (by decide) rfl rfl ?_
  have e0 : h = hset h t (.inl (0, nt, .inl (fun q => nI (cpT f r ta fa 0 q)))) := by
    refine xH_ext (fun b => ?_) rfl
    unfold hset
    dsimp only
    split
    · rename_i e
      rw [e, ht, cpT_0]
    · rfl
  refine xP.eq (h' := hset h t (.inl (0, nt, .inl (fun q => nI (cpT f r ta fa 0 q))))) rfl rfl rfl e0.symm ?_
  refine xP.weak (V' := [some (.ref t), some (.int (nI ta)), some (.ref a), some (.int (nI fa)), some (.int (nI 0))]) (by simp [xle, xset1, fin3]) ?_
  refine xP.loop (fun i => [some (.ref t), some (.int (nI ta)), some (.ref a), some (.int (nI fa)), some (.int (nI i))]) (fun i => hset h t (.inl (0, nt, .inl (fun q => nI (cpT f r ta fa i q))))) 353 ?_ ?_
  · intro i hi ih
    refine x_iload dX6_copies_3 rfl ?_
    refine x_sipush (nI 353) dX6_copies_5 (by decide) ?_
    refine x_icmp_ge_n 29 dX6_copies_8 (by decide) (by omega) (by omega) (fun c0 => ?_) (fun c0 => ?_)
    · omega
    · refine x_aload_n dX6_copies_11 rfl ?_
      refine x_iload_n dX6_copies_12 rfl ?_
      refine x_iload dX6_copies_13 rfl ?_
      refine x_iadd_n dX6_copies_15 ?_
      refine x_aload_n dX6_copies_16 rfl ?_
      refine x_iload_n dX6_copies_17 rfl ?_
      refine x_iload dX6_copies_18 rfl ?_
      refine x_iadd_n dX6_copies_20 ?_
      refine x_iald_n dX6_copies_21 (hA i) (by omega) (by omega) ?_
      refine x_iast_n dX6_copies_22 (hT i) (by omega) (by omega) ?_
      rw [hset2, cpT_up]
      refine x_iinc_n (k := 1) dX6_copies_23 rfl (by decide) (by decide) rfl rfl ?_
      refine x_goto 3 dX6_copies_26 (by decide) ?_
      exact xP.weak (by simp [xle, xset1, fin3]) ih
  · refine x_iload dX6_copies_3 rfl ?_
    refine x_sipush (nI 353) dX6_copies_5 (by decide) ?_
    refine x_icmp_ge_n 29 dX6_copies_8 (by decide) (by omega) (by omega) (fun c0 => ?_) (fun c0 => ?_)
    · exact x_vret dX6_copies_29 rfl (by decide) (by decide) rfl (rfl)
    · omega
end M3
