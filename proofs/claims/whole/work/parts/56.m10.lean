/-! ===== the model: what a family gets; what depends; sets without a bit ===== -/
def getS (A : Nat → Nat) (p set : Nat) : Nat → Nat
  | 0 => 65535
  | n + 1 => if set.testBit n = true then getS A p set n &&& rC A p n else getS A p set n
def mGets (A : Nat → Nat) (p f : Nat) : Nat := 65536 ||| (getS A p (mSrc A p f) (A 1) &&& 65535)
def mCan (A : Nat → Nat) (p f : Nat) : Bool := cBrk (rC A p f) && decide (mSrc A p f ≠ 0)
def mDep (A : Nat → Nat) (p : Nat) : Nat := if popc (mHold A p 1) = rPl A p then mHold A p 1 else 0
def mWo (set bit : Nat) : Nat := (set &&& (2 ^ bit - 1)) ||| (set / 2 &&& (4294967295 - (2 ^ bit - 1)))
theorem getS_le (A : Nat → Nat) (p set : Nat) : ∀ n, getS A p set n ≤ 65535 := by
  intro n
  induction n with
  | zero => exact Nat.le_refl _
  | succ n ih =>
    rw [getS]
    split
    · exact Nat.le_trans Nat.and_le_left ih
    · exact ih
section M10
variable {g : xG} {l : Launch} {h : xH} {m : Nat} {s : Mo}
theorem mSrc_lt {A : Nat → Nat} (hw : rOk A) (p f : Nat) : mSrc A p f < 1024 := Nat.lt_of_le_of_lt Nat.and_le_right (mHold_lt hw p 1)
theorem c_mGets (hM : ModAt h m s) (hw : rOk (s.1 0)) {p f : Nat} (hp : p < 12) (hf : f < 10) : xDet g l mX6_gets 4 0 0 [.ref m, .int (nI p), .int (nI f)] h (some (.int (nI (mGets (s.1 0) p f)))) h := by
  have hN : s.1 0 1 ≤ 10 := hw.2.1
  have hs := mSrc_lt hw p f
  unfold mGets
  refine xMet.of (V := [some (.ref m), some (.int (nI p)), some (.int (nI f)), none, none, none]) moX6_gets (Nat.le_of_ble_eq_true rfl) rfl ?_
  refine x_aload_n dX6_gets_0 rfl ?_
  refine x_iload_n dX6_gets_1 rfl ?_
  refine x_iload_n dX6_gets_2 rfl ?_
  refine x_vi0 dX6_gets_3 cV_X6_285 (c_mSourcesOf hM hw hp hf) rfl rfl ⟨⟨by decide, by decide⟩, by decide, by decide⟩ (Nat.le_of_ble_eq_true rfl) (xrecv hM.o rfl xcl5) ?_
  refine x_istore_n dX6_gets_6 (by decide) rfl rfl ?_
  refine x_ldcw (v := nI 65535) dX6_gets_7 k_X6_263 ?_
  refine x_istore dX6_gets_10 (by decide) rfl rfl ?_
  refine x_iconst (nI 0) dX6_gets_12 (by decide) ?_
  refine x_istore dX6_gets_13 (by decide) rfl rfl ?_
  refine xP.weak (V' := [some (.ref m), some (.int (nI p)), some (.int (nI f)), some (.int (nI (mSrc (s.1 0) p f))), some (.int (nI (getS (s.1 0) p (mSrc (s.1 0) p f) 0))), some (.int (nI 0))]) (by simp [xle, xset1, fin3, getS]) ?_
  refine xP.loop0 (fun i => [some (.ref m), some (.int (nI p)), some (.int (nI f)), some (.int (nI (mSrc (s.1 0) p f))), some (.int (nI (getS (s.1 0) p (mSrc (s.1 0) p f) i))), some (.int (nI i))]) (s.1 0 1) ?_ ?_
  · intro i hi ih
    have hb := bit_lt (mSrc (s.1 0) p f) i
    refine x_iload dX6_gets_15 rfl ?_
    refine x_aload_n dX6_gets_17 rfl ?_
    refine x_vi0 dX6_gets_18 cV_X6_67 (c_mFamilies hM) rfl rfl ⟨⟨by decide, by decide⟩, by decide, by decide⟩ (Nat.le_of_ble_eq_true rfl) (xrecv hM.o rfl xcl5) ?_
    refine x_icmp_ge_n 52 dX6_gets_21 (by decide) (by omega) (by omega) (fun c0 => ?_) (fun c0 => ?_)
    · omega
    · refine x_iload_n dX6_gets_24 rfl ?_
      refine x_iload dX6_gets_25 rfl ?_
      refine x_ishr_n dX6_gets_27 (by omega) (by omega) ?_
      refine x_iconst (nI 1) dX6_gets_28 (by decide) ?_
      refine x_iand_n dX6_gets_29 ?_
      refine x_iconst (nI 1) dX6_gets_30 (by decide) ?_
      refine x_icmp_ne_n 46 dX6_gets_31 (by decide) (by omega) (by omega) (fun c1 => ?_) (fun c1 => ?_)
      · have e : getS (s.1 0) p (mSrc (s.1 0) p f) (i + 1) = getS (s.1 0) p (mSrc (s.1 0) p f) i := by rw [getS, if_neg (by rw [bit0 (by omega)]; decide)]
        refine x_iinc_n (k := 1) dX6_gets_46 rfl (by decide) (by decide) rfl rfl ?_
        refine x_goto 15 dX6_gets_49 (by decide) ?_
        exact xP.weak (by simp [xle, xset1, xset2, fin3, e]) ih
      · have e : getS (s.1 0) p (mSrc (s.1 0) p f) (i + 1) = getS (s.1 0) p (mSrc (s.1 0) p f) i &&& rC (s.1 0) p i := by rw [getS, if_pos (bit1 (by omega))]
        refine x_iload dX6_gets_34 rfl ?_
        refine x_aload_n dX6_gets_36 rfl ?_
        refine x_iload_n dX6_gets_37 rfl ?_
        refine x_iload dX6_gets_38 rfl ?_
        refine x_vi0 dX6_gets_40 cV_X6_182 (c_mCopyOf hM hp (show i < 10 by omega)) rfl rfl ⟨⟨by decide, by decide⟩, by decide, by decide⟩ (Nat.le_of_ble_eq_true rfl) (xrecv hM.o rfl xcl5) ?_
        refine x_iand_n dX6_gets_43 ?_
        refine x_istore dX6_gets_44 (by decide) rfl rfl ?_
        refine x_iinc_n (k := 1) dX6_gets_46 rfl (by decide) (by decide) rfl rfl ?_
        refine x_goto 15 dX6_gets_49 (by decide) ?_
        exact xP.weak (by simp [xle, xset1, xset2, fin3, e]) ih
  · refine x_iload dX6_gets_15 rfl ?_
    refine x_aload_n dX6_gets_17 rfl ?_
    refine x_vi0 dX6_gets_18 cV_X6_67 (c_mFamilies hM) rfl rfl ⟨⟨by decide, by decide⟩, by decide, by decide⟩ (Nat.le_of_ble_eq_true rfl) (xrecv hM.o rfl xcl5) ?_
    refine x_icmp_ge_n 52 dX6_gets_21 (by decide) (by omega) (by omega) (fun c0 => ?_) (fun c0 => ?_)
    · refine x_ldc (v := nI 65536) dX6_gets_52 k_X6_188 ?_
      refine x_iload dX6_gets_54 rfl ?_
      refine x_ldcw (v := nI 65535) dX6_gets_56 k_X6_263 ?_
      refine x_iand_n dX6_gets_59 ?_
      refine x_ior_n dX6_gets_60 ?_
      exact x_iret .int dX6_gets_61 rfl rfl (by decide) (by decide) (rfl) (rfl)
    · omega
theorem c_mCanRepair (hM : ModAt h m s) (hw : rOk (s.1 0)) {p f : Nat} (hp : p < 12) (hf : f < 10) : xDet g l mX6_canRepair 4 0 0 [.ref m, .int (nI p), .int (nI f)] h (some (.int (xb (mCan (s.1 0) p f)))) h := by
  have hs := mSrc_lt hw p f
  have hc := hw.2.2.2.1 p f hp hf
  refine xMet.of (V := [some (.ref m), some (.int (nI p)), some (.int (nI f))]) moX6_canRepair (Nat.le_of_ble_eq_true rfl) rfl ?_
  refine x_aload_n dX6_canRepair_0 rfl ?_
  refine x_iload_n dX6_canRepair_1 rfl ?_
  refine x_iload_n dX6_canRepair_2 rfl ?_
  refine x_vi0 dX6_canRepair_3 cV_X6_182 (c_mCopyOf hM hp hf) rfl rfl ⟨⟨by decide, by decide⟩, by decide, by decide⟩ (Nat.le_of_ble_eq_true rfl) (xrecv hM.o rfl xcl5) ?_
  refine x_si0 dX6_canRepair_6 cS_X6_214 (c_mIsBroken (show rC (s.1 0) p f < 2 ^ 24 by omega)) rfl rfl ⟨⟨by decide, by decide⟩, by decide, by decide⟩ (Nat.le_of_ble_eq_true rfl) ?_
  refine x_if_eq_b 25 dX6_canRepair_9 (by decide) (fun c1 => ?_) (fun c1 => ?_)
  · refine x_iconst (nI 0) dX6_canRepair_25 (by decide) ?_
    exact x_iret .boolean dX6_canRepair_26 rfl rfl (by decide) (by decide) (bool0 (by unfold mCan; rw [c1, Bool.false_and])) (rfl)
  · refine x_aload_n dX6_canRepair_12 rfl ?_
    refine x_iload_n dX6_canRepair_13 rfl ?_
    refine x_iload_n dX6_canRepair_14 rfl ?_
    refine x_vi0 dX6_canRepair_15 cV_X6_285 (c_mSourcesOf hM hw hp hf) rfl rfl ⟨⟨by decide, by decide⟩, by decide, by decide⟩ (Nat.le_of_ble_eq_true rfl) (xrecv hM.o rfl xcl5) ?_
    refine x_if_eq_n 25 dX6_canRepair_18 (by decide) (by omega) (fun c2 => ?_) (fun c2 => ?_)
    · refine x_iconst (nI 0) dX6_canRepair_25 (by decide) ?_
      exact x_iret .boolean dX6_canRepair_26 rfl rfl (by decide) (by decide) (bool0 (by unfold mCan; rw [c1, decide_eq_false (fun q => q c2)]; rfl)) (rfl)
    · refine x_iconst (nI 1) dX6_canRepair_21 (by decide) ?_
      refine x_goto 26 dX6_canRepair_22 (by decide) ?_
      exact x_iret .boolean dX6_canRepair_26 rfl rfl (by decide) (by decide) (bool1 (by unfold mCan; rw [c1, decide_eq_true (by omega)]; rfl)) (rfl)
theorem c_mDependsOn (hM : ModAt h m s) (hw : rOk (s.1 0)) {p : Nat} (hp : p < 12) : xDet g l mX6_dependsOn 3 0 0 [.ref m, .int (nI p)] h (some (.int (nI (mDep (s.1 0) p)))) h := by
  have h1 := mHold_lt hw p 1
  have h2 := popc32 (mHold (s.1 0) p 1)
  have h3 : rPl (s.1 0) p < 2 ^ 24 := hw.2.2.2.2.2 (125 + 19 * p) (by omega)
  refine xMet.of (V := [some (.ref m), some (.int (nI p))]) moX6_dependsOn (Nat.le_of_ble_eq_true rfl) rfl ?_
  refine x_aload_n dX6_dependsOn_0 rfl ?_
  refine x_iload_n dX6_dependsOn_1 rfl ?_
  refine x_iconst (nI 1) dX6_dependsOn_2 (by decide) ?_
  refine x_vi0 dX6_dependsOn_3 cV_X6_226 (c_mHolders hM hw hp (by decide)) rfl rfl ⟨⟨by decide, by decide⟩, by decide, by decide⟩ (Nat.le_of_ble_eq_true rfl) (xrecv hM.o rfl xcl5) ?_
  refine x_si0 dX6_dependsOn_6 cS_X6_229 (c_mBits (show mHold (s.1 0) p 1 < 65536 by omega)) rfl rfl ⟨⟨by decide, by decide⟩, by decide, by decide⟩ (Nat.le_of_ble_eq_true rfl) ?_
  refine x_aload_n dX6_dependsOn_9 rfl ?_
  refine x_iload_n dX6_dependsOn_10 rfl ?_
  refine x_vi0 dX6_dependsOn_11 cV_X6_232 (c_mPledgeOf hM hp) rfl rfl ⟨⟨by decide, by decide⟩, by decide, by decide⟩ (Nat.le_of_ble_eq_true rfl) (xrecv hM.o rfl xcl5) ?_
  refine x_icmp_ne_n 26 dX6_dependsOn_14 (by decide) (by omega) (by omega) (fun c1 => ?_) (fun c1 => ?_)
  · refine x_iconst (nI 0) dX6_dependsOn_26 (by decide) ?_
    exact x_iret .int dX6_dependsOn_27 rfl rfl (by decide) (by decide) (by unfold mDep; rw [if_neg c1]) (rfl)
  · refine x_aload_n dX6_dependsOn_17 rfl ?_
    refine x_iload_n dX6_dependsOn_18 rfl ?_
    refine x_iconst (nI 1) dX6_dependsOn_19 (by decide) ?_
    refine x_vi0 dX6_dependsOn_20 cV_X6_226 (c_mHolders hM hw hp (by decide)) rfl rfl ⟨⟨by decide, by decide⟩, by decide, by decide⟩ (Nat.le_of_ble_eq_true rfl) (xrecv hM.o rfl xcl5) ?_
    refine x_goto 27 dX6_dependsOn_23 (by decide) ?_
    exact x_iret .int dX6_dependsOn_27 rfl rfl (by decide) (by decide) (by unfold mDep; rw [if_pos c1]) (rfl)
theorem c_mWithout {set bit : Nat} (h1 : set < 65536) (h2 : bit < 16) : xDet g l mX6_without 0 0 0 [.int (nI set), .int (nI bit)] h (some (.int (nI (mWo set bit)))) h := by
  have hp : 0 < 2 ^ bit := Nat.two_pow_pos _
  have hp2 : 2 ^ bit ≤ 65536 := pow_le2 (a := bit) (b := 16) (by omega)
  unfold mWo
  refine xMet.of (V := [some (.int (nI set)), some (.int (nI bit)), none]) moX6_without (Nat.le_of_ble_eq_true rfl) rfl ?_
  refine x_iconst (nI 1) dX6_without_0 (by decide) ?_
  refine x_iload_n dX6_without_1 rfl ?_
  refine x_ishl1_n dX6_without_2 (by omega) ?_
  refine x_iconst (nI 1) dX6_without_3 (by decide) ?_
  refine x_isub_n dX6_without_4 (by omega) ?_
  refine x_istore_n dX6_without_5 (by decide) rfl rfl ?_
  refine x_iload_n dX6_without_6 rfl ?_
  refine x_iload_n dX6_without_7 rfl ?_
  refine x_iand_n dX6_without_8 ?_
  refine x_iload_n dX6_without_9 rfl ?_
  refine x_iconst (nI 1) dX6_without_10 (by decide) ?_
  refine x_ishr_n dX6_without_11 (by omega) (by omega) ?_
  refine x_iload_n dX6_without_12 rfl ?_
  refine x_iconst (-1) dX6_without_13 (by decide) ?_
  refine x_inot_n dX6_without_14 (by omega) ?_
  refine x_iand_n dX6_without_15 ?_
  refine x_ior_n dX6_without_16 ?_
  exact x_iret .int dX6_without_17 rfl rfl (by decide) (by decide) (by rw [Nat.pow_one]) (rfl)
end M10
