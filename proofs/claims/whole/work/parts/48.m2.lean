/-! ===== the model: sets and numbers ===== -/
def hoS (A : Nat → Nat) (p k : Nat) : Nat → Nat
  | 0 => 0
  | n + 1 => hoS A p k n ||| (if cSort (rC A p n) k = true then 2 ^ n else 0)
def mHold (A : Nat → Nat) (p k : Nat) : Nat := hoS A p k (A 1)
def mCop (A : Nat → Nat) (f k : Nat) : Nat := fb_ct (fun p => cSort (rC A p f) k) (A 2)
def mDan (A : Nat → Nat) (p : Nat) : Bool := decide (popc (mHold A p 1) < rPl A p)
def mTru (A : Nat → Nat) (p : Nat) : Bool := decide (popc (mHold A p 3) < rPl A p)
def mAll (A : Nat → Nat) (k : Nat) : Nat := fb_sm (fun p => popc (mHold A p k)) (A 2)
def mPairs (A : Nat → Nat) : Nat := fb_sm (fun f => popc (rF A f 3)) (A 1) / 2
theorem hoS_lt (A : Nat → Nat) (p k : Nat) : ∀ n, hoS A p k n < 2 ^ n := by
  intro n
  induction n with
  | zero => exact Nat.one_pos
  | succ n ih =>
    have h1 : 2 ^ n < 2 ^ (n + 1) := Nat.pow_lt_pow_right (by decide) (by omega)
    rw [hoS]
    refine Nat.or_lt_two_pow (Nat.lt_trans ih h1) ?_
    split
    · exact h1
    · exact Nat.two_pow_pos _
theorem mHold_lt {A : Nat → Nat} (hw : rOk A) (p k : Nat) : mHold A p k < 1024 := Nat.lt_of_lt_of_le (hoS_lt A p k _) (pow_le2 (a := A 1) (b := 10) hw.2.1)
section M2
variable {g : xG} {l : Launch} {h : xH} {m : Nat} {s : Mo}
theorem c_mIsSort {c k : Nat} (hc : c < 2 ^ 24) (hk : k < 4) : xDet g l mX6_isSort 1 0 0 [.int (nI c), .int (nI k)] h (some (.int (xb (cSort c k)))) h := by
  refine xMet.of (V := [some (.int (nI c)), some (.int (nI k))]) moX6_isSort (Nat.le_of_ble_eq_true rfl) rfl ?_
  refine x_iload_n dX6_isSort_0 rfl ?_
  refine x_if_ne_n 16 dX6_isSort_1 (by decide) (by omega) (fun c1 => ?_) (fun c1 => ?_)
  · refine x_iload_n dX6_isSort_16 rfl ?_
    refine x_iconst (nI 1) dX6_isSort_17 (by decide) ?_
    refine x_icmp_ne_n 28 dX6_isSort_18 (by decide) (by omega) (by omega) (fun c2 => ?_) (fun c2 => ?_)
    · refine x_iload_n dX6_isSort_28 rfl ?_
      refine x_iconst (nI 2) dX6_isSort_29 (by decide) ?_
      refine x_icmp_ne_n 40 dX6_isSort_30 (by decide) (by omega) (by omega) (fun c3 => ?_) (fun c3 => ?_)
      · refine x_iload_n dX6_isSort_40 rfl ?_
        refine x_si0 dX6_isSort_41 cS_X6_217 (c_mIsSound hc) rfl rfl ⟨⟨by decide, by decide⟩, by decide, by decide⟩ (Nat.le_of_ble_eq_true rfl) ?_
        exact x_bret dX6_isSort_44 rfl (by decide) (by decide) (by unfold cSort; rw [if_neg (by omega), if_neg c2, if_neg c3]) (rfl)
      · refine x_iload_n dX6_isSort_33 rfl ?_
        refine x_si0 dX6_isSort_34 cS_X6_214 (c_mIsBroken hc) rfl rfl ⟨⟨by decide, by decide⟩, by decide, by decide⟩ (Nat.le_of_ble_eq_true rfl) ?_
        refine x_goto 44 dX6_isSort_37 (by decide) ?_
        exact x_bret dX6_isSort_44 rfl (by decide) (by decide) (by unfold cSort; rw [if_neg (by omega), if_neg c2, if_pos c3]) (rfl)
    · refine x_iload_n dX6_isSort_21 rfl ?_
      refine x_si0 dX6_isSort_22 cS_X6_211 (c_mIsHeld hc) rfl rfl ⟨⟨by decide, by decide⟩, by decide, by decide⟩ (Nat.le_of_ble_eq_true rfl) ?_
      refine x_goto 44 dX6_isSort_25 (by decide) ?_
      exact x_bret dX6_isSort_44 rfl (by decide) (by decide) (by unfold cSort; rw [if_neg (by omega), if_pos c2]) (rfl)
  · refine x_iload_n dX6_isSort_4 rfl ?_
    refine x_if_eq_n 12 dX6_isSort_5 (by decide) (by omega) (fun c2 => ?_) (fun c2 => ?_)
    · refine x_iconst (nI 0) dX6_isSort_12 (by decide) ?_
      refine x_goto 44 dX6_isSort_13 (by decide) ?_
      exact x_iret .boolean dX6_isSort_44 rfl rfl (by decide) (by decide) (bool0 (by unfold cSort; rw [if_pos c1]; exact decide_eq_false (fun q => q c2))) (rfl)
    · refine x_iconst (nI 1) dX6_isSort_8 (by decide) ?_
      refine x_goto 44 dX6_isSort_9 (by decide) ?_
      exact x_iret .boolean dX6_isSort_44 rfl rfl (by decide) (by decide) (bool1 (by unfold cSort; rw [if_pos c1]; exact decide_eq_true (by omega))) (rfl)
theorem c_mHolders (hM : ModAt h m s) (hw : rOk (s.1 0)) {p k : Nat} (hp : p < 12) (hk : k < 4) : xDet g l mX6_holders 2 0 0 [.ref m, .int (nI p), .int (nI k)] h (some (.int (nI (mHold (s.1 0) p k)))) h := by
  have hN : s.1 0 1 ≤ 10 := hw.2.1
  refine xMet.of (V := [some (.ref m), some (.int (nI p)), some (.int (nI k)), none, none]) moX6_holders (Nat.le_of_ble_eq_true rfl) rfl ?_
  refine x_iconst (nI 0) dX6_holders_0 (by decide) ?_
  refine x_istore_n dX6_holders_1 (by decide) rfl rfl ?_
  refine x_iconst (nI 0) dX6_holders_2 (by decide) ?_
  refine x_istore dX6_holders_3 (by decide) rfl rfl ?_
  refine xP.weak (V' := [some (.ref m), some (.int (nI p)), some (.int (nI k)), some (.int (nI (hoS (s.1 0) p k 0))), some (.int (nI 0))]) (by simp [xle, xset1, fin3, hoS]) ?_
  refine xP.loop0 (fun i => [some (.ref m), some (.int (nI p)), some (.int (nI k)), some (.int (nI (hoS (s.1 0) p k i))), some (.int (nI i))]) (s.1 0 1) ?_ ?_
  · intro i hi ih
    have h1 : hoS (s.1 0) p k i < 1024 := Nat.lt_of_lt_of_le (hoS_lt (s.1 0) p k i) (pow_le2 (a := i) (b := 10) (by omega))
    have h2 := hw.2.2.2.1 p i hp (by omega)
    refine x_iload dX6_holders_5 rfl ?_
    refine x_aload_n dX6_holders_7 rfl ?_
    refine x_vi0 dX6_holders_8 cV_X6_67 (c_mFamilies hM) rfl rfl ⟨⟨by decide, by decide⟩, by decide, by decide⟩ (Nat.le_of_ble_eq_true rfl) (xrecv hM.o rfl xcl5) ?_
    refine x_icmp_ge_n 45 dX6_holders_11 (by decide) (by omega) (by omega) (fun c0 => ?_) (fun c0 => ?_)
    · omega
    · refine x_iload_n dX6_holders_14 rfl ?_
      refine x_aload_n dX6_holders_15 rfl ?_
      refine x_iload_n dX6_holders_16 rfl ?_
      refine x_iload dX6_holders_17 rfl ?_
      refine x_vi0 dX6_holders_19 cV_X6_182 (c_mCopyOf hM hp (show i < 10 by omega)) rfl rfl ⟨⟨by decide, by decide⟩, by decide, by decide⟩ (Nat.le_of_ble_eq_true rfl) (xrecv hM.o rfl xcl5) ?_
      refine x_iload_n dX6_holders_22 rfl ?_
      refine x_si0 dX6_holders_23 cS_X6_220 (c_mIsSort (show rC (s.1 0) p i < 2 ^ 24 by omega) hk) rfl rfl ⟨⟨by decide, by decide⟩, by decide, by decide⟩ (Nat.le_of_ble_eq_true rfl) ?_
      refine x_if_eq_b 36 dX6_holders_26 (by decide) (fun c1 => ?_) (fun c1 => ?_)
      · have e : hoS (s.1 0) p k (i + 1) = hoS (s.1 0) p k i ||| 0 := by rw [hoS, if_neg (by rw [c1]; decide)]
        refine x_iconst (nI 0) dX6_holders_36 (by decide) ?_
        refine x_ior_n dX6_holders_37 ?_
        refine x_istore_n dX6_holders_38 (by decide) rfl rfl ?_
        refine x_iinc_n (k := 1) dX6_holders_39 rfl (by decide) (by decide) rfl rfl ?_
        refine x_goto 5 dX6_holders_42 (by decide) ?_
        exact xP.weak (by simp [xle, xset1, xset2, fin3, e]) ih
      · have e : hoS (s.1 0) p k (i + 1) = hoS (s.1 0) p k i ||| 2 ^ i := by rw [hoS, if_pos c1]
        refine x_iconst (nI 1) dX6_holders_29 (by decide) ?_
        refine x_iload dX6_holders_30 rfl ?_
        refine x_ishl1_n dX6_holders_32 (by omega) ?_
        refine x_goto 37 dX6_holders_33 (by decide) ?_
        refine x_ior_n dX6_holders_37 ?_
        refine x_istore_n dX6_holders_38 (by decide) rfl rfl ?_
        refine x_iinc_n (k := 1) dX6_holders_39 rfl (by decide) (by decide) rfl rfl ?_
        refine x_goto 5 dX6_holders_42 (by decide) ?_
        exact xP.weak (by simp [xle, xset1, xset2, fin3, e]) ih
  · refine x_iload dX6_holders_5 rfl ?_
    refine x_aload_n dX6_holders_7 rfl ?_
    refine x_vi0 dX6_holders_8 cV_X6_67 (c_mFamilies hM) rfl rfl ⟨⟨by decide, by decide⟩, by decide, by decide⟩ (Nat.le_of_ble_eq_true rfl) (xrecv hM.o rfl xcl5) ?_
    refine x_icmp_ge_n 45 dX6_holders_11 (by decide) (by omega) (by omega) (fun c0 => ?_) (fun c0 => ?_)
    · refine x_iload_n dX6_holders_45 rfl ?_
      exact x_iret .int dX6_holders_46 rfl rfl (by decide) (by decide) (rfl) (rfl)
    · omega
theorem c_mCopiesOf (hM : ModAt h m s) (hw : rOk (s.1 0)) {f k : Nat} (hf : f < 10) (hk : k < 4) : xDet g l mX6_copiesOf 2 0 0 [.ref m, .int (nI f), .int (nI k)] h (some (.int (nI (mCop (s.1 0) f k)))) h := by
  have hN : s.1 0 2 ≤ 12 := hw.2.2.1
  refine xMet.of (V := [some (.ref m), some (.int (nI f)), some (.int (nI k)), none, none]) moX6_copiesOf (Nat.le_of_ble_eq_true rfl) rfl ?_
  refine x_iconst (nI 0) dX6_copiesOf_0 (by decide) ?_
  refine x_istore_n dX6_copiesOf_1 (by decide) rfl rfl ?_
  refine x_iconst (nI 0) dX6_copiesOf_2 (by decide) ?_
  refine x_istore dX6_copiesOf_3 (by decide) rfl rfl ?_
  refine xP.weak (V' := [some (.ref m), some (.int (nI f)), some (.int (nI k)), some (.int (nI (fb_ct (fun p => cSort (rC (s.1 0) p f) k) 0))), some (.int (nI 0))]) (by simp [xle, xset1, fin3]; first | rfl | exact ⟨rfl, rfl⟩) ?_
  refine xP.loop0 (fun i => [some (.ref m), some (.int (nI f)), some (.int (nI k)), some (.int (nI (fb_ct (fun p => cSort (rC (s.1 0) p f) k) i))), some (.int (nI i))]) (s.1 0 2) ?_ ?_
  · intro i hi ih
    have h2 := hw.2.2.2.1 i f (by omega) hf
    refine x_iload dX6_copiesOf_5 rfl ?_
    refine x_aload_n dX6_copiesOf_7 rfl ?_
    refine x_vi0 dX6_copiesOf_8 cV_X6_169 (c_mPictures hM) rfl rfl ⟨⟨by decide, by decide⟩, by decide, by decide⟩ (Nat.le_of_ble_eq_true rfl) (xrecv hM.o rfl xcl5) ?_
    refine x_icmp_ge_n 42 dX6_copiesOf_11 (by decide) (by omega) (by omega) (fun c0 => ?_) (fun c0 => ?_)
    · omega
    · refine x_iload_n dX6_copiesOf_14 rfl ?_
      refine x_aload_n dX6_copiesOf_15 rfl ?_
      refine x_iload dX6_copiesOf_16 rfl ?_
      refine x_iload_n dX6_copiesOf_18 rfl ?_
      refine x_vi0 dX6_copiesOf_19 cV_X6_182 (c_mCopyOf hM (show i < 12 by omega) hf) rfl rfl ⟨⟨by decide, by decide⟩, by decide, by decide⟩ (Nat.le_of_ble_eq_true rfl) (xrecv hM.o rfl xcl5) ?_
      refine x_iload_n dX6_copiesOf_22 rfl ?_
      refine x_si0 dX6_copiesOf_23 cS_X6_220 (c_mIsSort (show rC (s.1 0) i f < 2 ^ 24 by omega) hk) rfl rfl ⟨⟨by decide, by decide⟩, by decide, by decide⟩ (Nat.le_of_ble_eq_true rfl) ?_
      refine x_if_eq_b 33 dX6_copiesOf_26 (by decide) (fun c1 => ?_) (fun c1 => ?_)
      · have e : fb_ct (fun p => cSort (rC (s.1 0) p f) k) (i + 1) = fb_ct (fun p => cSort (rC (s.1 0) p f) k) i + 0 := by rw [fb_ct_succ, if_neg (by rw [c1]; decide)]
        refine x_iconst (nI 0) dX6_copiesOf_33 (by decide) ?_
        refine x_iadd_n dX6_copiesOf_34 ?_
        refine x_istore_n dX6_copiesOf_35 (by decide) rfl rfl ?_
        refine x_iinc_n (k := 1) dX6_copiesOf_36 rfl (by decide) (by decide) rfl rfl ?_
        refine x_goto 5 dX6_copiesOf_39 (by decide) ?_
        exact xP.weak (by simp [xle, xset1, xset2, fin3, e]) ih
      · have e : fb_ct (fun p => cSort (rC (s.1 0) p f) k) (i + 1) = fb_ct (fun p => cSort (rC (s.1 0) p f) k) i + 1 := by rw [fb_ct_succ, if_pos c1]
        refine x_iconst (nI 1) dX6_copiesOf_29 (by decide) ?_
        refine x_goto 34 dX6_copiesOf_30 (by decide) ?_
        refine x_iadd_n dX6_copiesOf_34 ?_
        refine x_istore_n dX6_copiesOf_35 (by decide) rfl rfl ?_
        refine x_iinc_n (k := 1) dX6_copiesOf_36 rfl (by decide) (by decide) rfl rfl ?_
        refine x_goto 5 dX6_copiesOf_39 (by decide) ?_
        exact xP.weak (by simp [xle, xset1, xset2, fin3, e]) ih
  · refine x_iload dX6_copiesOf_5 rfl ?_
    refine x_aload_n dX6_copiesOf_7 rfl ?_
    refine x_vi0 dX6_copiesOf_8 cV_X6_169 (c_mPictures hM) rfl rfl ⟨⟨by decide, by decide⟩, by decide, by decide⟩ (Nat.le_of_ble_eq_true rfl) (xrecv hM.o rfl xcl5) ?_
    refine x_icmp_ge_n 42 dX6_copiesOf_11 (by decide) (by omega) (by omega) (fun c0 => ?_) (fun c0 => ?_)
    · refine x_iload_n dX6_copiesOf_42 rfl ?_
      exact x_iret .int dX6_copiesOf_43 rfl rfl (by decide) (by decide) (rfl) (rfl)
    · omega
theorem c_mAllOf (hM : ModAt h m s) (hw : rOk (s.1 0)) {k : Nat} (hk : k < 4) : xDet g l mX6_allOf 3 0 0 [.ref m, .int (nI k)] h (some (.int (nI (mAll (s.1 0) k)))) h := by
  have hN : s.1 0 2 ≤ 12 := hw.2.2.1
  refine xMet.of (V := [some (.ref m), some (.int (nI k)), none, none]) moX6_allOf (Nat.le_of_ble_eq_true rfl) rfl ?_
  refine x_iconst (nI 0) dX6_allOf_0 (by decide) ?_
  refine x_istore_n dX6_allOf_1 (by decide) rfl rfl ?_
  refine x_iconst (nI 0) dX6_allOf_2 (by decide) ?_
  refine x_istore_n dX6_allOf_3 (by decide) rfl rfl ?_
  refine xP.weak (V' := [some (.ref m), some (.int (nI k)), some (.int (nI (fb_sm (fun p => popc (mHold (s.1 0) p k)) 0))), some (.int (nI 0))]) (by simp [xle, xset1, fin3]; first | rfl | exact ⟨rfl, rfl⟩) ?_
  refine xP.loop0 (fun i => [some (.ref m), some (.int (nI k)), some (.int (nI (fb_sm (fun p => popc (mHold (s.1 0) p k)) i))), some (.int (nI i))]) (s.1 0 2) ?_ ?_
  · intro i hi ih
    have h1 := mHold_lt hw i k
    refine x_iload_n dX6_allOf_4 rfl ?_
    refine x_aload_n dX6_allOf_5 rfl ?_
    refine x_vi0 dX6_allOf_6 cV_X6_169 (c_mPictures hM) rfl rfl ⟨⟨by decide, by decide⟩, by decide, by decide⟩ (Nat.le_of_ble_eq_true rfl) (xrecv hM.o rfl xcl5) ?_
    refine x_icmp_ge_n 30 dX6_allOf_9 (by decide) (by omega) (by omega) (fun c0 => ?_) (fun c0 => ?_)
    · omega
    · refine x_iload_n dX6_allOf_12 rfl ?_
      refine x_aload_n dX6_allOf_13 rfl ?_
      refine x_iload_n dX6_allOf_14 rfl ?_
      refine x_iload_n dX6_allOf_15 rfl ?_
      refine x_vi0 dX6_allOf_16 cV_X6_226 (c_mHolders hM hw (show i < 12 by omega) hk) rfl rfl ⟨⟨by decide, by decide⟩, by decide, by decide⟩ (Nat.le_of_ble_eq_true rfl) (xrecv hM.o rfl xcl5) ?_
      refine x_si0 dX6_allOf_19 cS_X6_229 (c_mBits (show mHold (s.1 0) i k < 65536 by omega)) rfl rfl ⟨⟨by decide, by decide⟩, by decide, by decide⟩ (Nat.le_of_ble_eq_true rfl) ?_
      refine x_iadd_n dX6_allOf_22 ?_
      refine x_istore_n dX6_allOf_23 (by decide) rfl rfl ?_
      refine x_iinc_n (k := 1) dX6_allOf_24 rfl (by decide) (by decide) rfl rfl ?_
      refine x_goto 4 dX6_allOf_27 (by decide) ?_
      refine xP.weak ?_ ih
      simp [xle, xset1, fin3, fb_sm_succ]
  · refine x_iload_n dX6_allOf_4 rfl ?_
    refine x_aload_n dX6_allOf_5 rfl ?_
    refine x_vi0 dX6_allOf_6 cV_X6_169 (c_mPictures hM) rfl rfl ⟨⟨by decide, by decide⟩, by decide, by decide⟩ (Nat.le_of_ble_eq_true rfl) (xrecv hM.o rfl xcl5) ?_
    refine x_icmp_ge_n 30 dX6_allOf_9 (by decide) (by omega) (by omega) (fun c0 => ?_) (fun c0 => ?_)
    · refine x_iload_n dX6_allOf_30 rfl ?_
      exact x_iret .int dX6_allOf_31 rfl rfl (by decide) (by decide) (rfl) (rfl)
    · omega
theorem c_mPairs (hM : ModAt h m s) (hw : rOk (s.1 0)) : xDet g l mX6_pairs 1 0 0 [.ref m] h (some (.int (nI (mPairs (s.1 0))))) h := by
  have hN : s.1 0 1 ≤ 10 := hw.2.1
  have hb : fb_sm (fun f => popc (rF (s.1 0) f 3)) (s.1 0 1) ≤ s.1 0 1 * 32 := fb_sm_bound fun k _ => popc32 _
  refine xMet.of (V := [some (.ref m), none, none]) moX6_pairs (Nat.le_of_ble_eq_true rfl) rfl ?_
  refine x_iconst (nI 0) dX6_pairs_0 (by decide) ?_
  refine x_istore_n dX6_pairs_1 (by decide) rfl rfl ?_
  refine x_iconst (nI 0) dX6_pairs_2 (by decide) ?_
  refine x_istore_n dX6_pairs_3 (by decide) rfl rfl ?_
  refine xP.weak (V' := [some (.ref m), some (.int (nI (fb_sm (fun f => popc (rF (s.1 0) f 3)) 0))), some (.int (nI 0))]) (by simp [xle, xset1, fin3]; first | rfl | exact ⟨rfl, rfl⟩) ?_
  refine xP.loop0 (fun i => [some (.ref m), some (.int (nI (fb_sm (fun f => popc (rF (s.1 0) f 3)) i))), some (.int (nI i))]) (s.1 0 1) ?_ ?_
  · intro i hi ih
    have h1 := (hw.2.2.2.2.1 i (by omega)).1
    refine x_iload_n dX6_pairs_4 rfl ?_
    refine x_aload_n dX6_pairs_5 rfl ?_
    refine x_vi0 dX6_pairs_6 cV_X6_67 (c_mFamilies hM) rfl rfl ⟨⟨by decide, by decide⟩, by decide, by decide⟩ (Nat.le_of_ble_eq_true rfl) (xrecv hM.o rfl xcl5) ?_
    refine x_icmp_ge_n 30 dX6_pairs_9 (by decide) (by omega) (by omega) (fun c0 => ?_) (fun c0 => ?_)
    · omega
    · refine x_iload_n dX6_pairs_12 rfl ?_
      refine x_aload_n dX6_pairs_13 rfl ?_
      refine x_iload_n dX6_pairs_14 rfl ?_
      refine x_iconst (nI 3) dX6_pairs_15 (by decide) ?_
      refine x_vi0 dX6_pairs_16 cV_X6_206 (c_mOfFamily hM (show i < 10 by omega) (show 3 < 12 by decide)) rfl rfl ⟨⟨by decide, by decide⟩, by decide, by decide⟩ (Nat.le_of_ble_eq_true rfl) (xrecv hM.o rfl xcl5) ?_
      refine x_si0 dX6_pairs_19 cS_X6_229 (c_mBits (show rF (s.1 0) i 3 < 65536 by omega)) rfl rfl ⟨⟨by decide, by decide⟩, by decide, by decide⟩ (Nat.le_of_ble_eq_true rfl) ?_
      refine x_iadd_n dX6_pairs_22 ?_
      refine x_istore_n dX6_pairs_23 (by decide) rfl rfl ?_
      refine x_iinc_n (k := 1) dX6_pairs_24 rfl (by decide) (by decide) rfl rfl ?_
      refine x_goto 4 dX6_pairs_27 (by decide) ?_
      refine xP.weak ?_ ih
      simp [xle, xset1, fin3, fb_sm_succ]
  · refine x_iload_n dX6_pairs_4 rfl ?_
    refine x_aload_n dX6_pairs_5 rfl ?_
    refine x_vi0 dX6_pairs_6 cV_X6_67 (c_mFamilies hM) rfl rfl ⟨⟨by decide, by decide⟩, by decide, by decide⟩ (Nat.le_of_ble_eq_true rfl) (xrecv hM.o rfl xcl5) ?_
    refine x_icmp_ge_n 30 dX6_pairs_9 (by decide) (by omega) (by omega) (fun c0 => ?_) (fun c0 => ?_)
    · refine x_iload_n dX6_pairs_30 rfl ?_
      refine x_iconst (nI 2) dX6_pairs_31 (by decide) ?_
      refine x_idiv_n dX6_pairs_32 (by omega) (by omega) (by omega) ?_
      exact x_iret .int dX6_pairs_33 rfl rfl (by decide) (by decide) (rfl) (rfl)
    · omega
theorem c_mInDanger (hM : ModAt h m s) (hw : rOk (s.1 0)) {p : Nat} (hp : p < 12) : xDet g l mX6_isInDanger 3 0 0 [.ref m, .int (nI p)] h (some (.int (xb (mDan (s.1 0) p)))) h := by
  have h1 := mHold_lt hw p 1
  have h2 := popc32 (mHold (s.1 0) p 1)
  have h3 : rPl (s.1 0) p < 2 ^ 24 := hw.2.2.2.2.2 (125 + 19 * p) (by omega)
  refine xMet.of (V := [some (.ref m), some (.int (nI p))]) moX6_isInDanger (Nat.le_of_ble_eq_true rfl) rfl ?_
  refine x_aload_n dX6_isInDanger_0 rfl ?_
  refine x_iload_n dX6_isInDanger_1 rfl ?_
  refine x_iconst (nI 1) dX6_isInDanger_2 (by decide) ?_
  refine x_vi0 dX6_isInDanger_3 cV_X6_226 (c_mHolders hM hw hp (by decide)) rfl rfl ⟨⟨by decide, by decide⟩, by decide, by decide⟩ (Nat.le_of_ble_eq_true rfl) (xrecv hM.o rfl xcl5) ?_
  refine x_si0 dX6_isInDanger_6 cS_X6_229 (c_mBits (show mHold (s.1 0) p 1 < 65536 by omega)) rfl rfl ⟨⟨by decide, by decide⟩, by decide, by decide⟩ (Nat.le_of_ble_eq_true rfl) ?_
  refine x_aload_n dX6_isInDanger_9 rfl ?_
  refine x_iload_n dX6_isInDanger_10 rfl ?_
  refine x_vi0 dX6_isInDanger_11 cV_X6_232 (c_mPledgeOf hM hp) rfl rfl ⟨⟨by decide, by decide⟩, by decide, by decide⟩ (Nat.le_of_ble_eq_true rfl) (xrecv hM.o rfl xcl5) ?_
  refine x_icmp_ge_n 21 dX6_isInDanger_14 (by decide) (by omega) (by omega) (fun c1 => ?_) (fun c1 => ?_)
  · refine x_iconst (nI 0) dX6_isInDanger_21 (by decide) ?_
    exact x_iret .boolean dX6_isInDanger_22 rfl rfl (by decide) (by decide) (bool0 (by unfold mDan; exact decide_eq_false (by omega))) (rfl)
  · refine x_iconst (nI 1) dX6_isInDanger_17 (by decide) ?_
    refine x_goto 22 dX6_isInDanger_18 (by decide) ?_
    exact x_iret .boolean dX6_isInDanger_22 rfl rfl (by decide) (by decide) (bool1 (by unfold mDan; exact decide_eq_true (by omega))) (rfl)
theorem c_mTruly (hM : ModAt h m s) (hw : rOk (s.1 0)) {p : Nat} (hp : p < 12) : xDet g l mX6_isTruly 3 0 0 [.ref m, .int (nI p)] h (some (.int (xb (mTru (s.1 0) p)))) h := by
  have h1 := mHold_lt hw p 3
  have h2 := popc32 (mHold (s.1 0) p 3)
  have h3 : rPl (s.1 0) p < 2 ^ 24 := hw.2.2.2.2.2 (125 + 19 * p) (by omega)
  refine xMet.of (V := [some (.ref m), some (.int (nI p))]) moX6_isTruly (Nat.le_of_ble_eq_true rfl) rfl ?_
  refine x_aload_n dX6_isTruly_0 rfl ?_
  refine x_iload_n dX6_isTruly_1 rfl ?_
  refine x_iconst (nI 3) dX6_isTruly_2 (by decide) ?_
  refine x_vi0 dX6_isTruly_3 cV_X6_226 (c_mHolders hM hw hp (by decide)) rfl rfl ⟨⟨by decide, by decide⟩, by decide, by decide⟩ (Nat.le_of_ble_eq_true rfl) (xrecv hM.o rfl xcl5) ?_
  refine x_si0 dX6_isTruly_6 cS_X6_229 (c_mBits (show mHold (s.1 0) p 3 < 65536 by omega)) rfl rfl ⟨⟨by decide, by decide⟩, by decide, by decide⟩ (Nat.le_of_ble_eq_true rfl) ?_
  refine x_aload_n dX6_isTruly_9 rfl ?_
  refine x_iload_n dX6_isTruly_10 rfl ?_
  refine x_vi0 dX6_isTruly_11 cV_X6_232 (c_mPledgeOf hM hp) rfl rfl ⟨⟨by decide, by decide⟩, by decide, by decide⟩ (Nat.le_of_ble_eq_true rfl) (xrecv hM.o rfl xcl5) ?_
  refine x_icmp_ge_n 21 dX6_isTruly_14 (by decide) (by omega) (by omega) (fun c1 => ?_) (fun c1 => ?_)
  · refine x_iconst (nI 0) dX6_isTruly_21 (by decide) ?_
    exact x_iret .boolean dX6_isTruly_22 rfl rfl (by decide) (by decide) (bool0 (by unfold mTru; exact decide_eq_false (by omega))) (rfl)
  · refine x_iconst (nI 1) dX6_isTruly_17 (by decide) ?_
    refine x_goto 22 dX6_isTruly_18 (by decide) ?_
    exact x_iret .boolean dX6_isTruly_22 rfl rfl (by decide) (by decide) (bool1 (by unfold mTru; exact decide_eq_true (by omega))) (rfl)
end M2
