/-! ===== the model: its smallest methods ===== -/
def isInB (v lo hi : Int32) : Bool := decide (¬ v < lo) && decide (¬ hi < v)
def cHeld (c : Nat) : Bool := decide (c &&& 196608 = 65536)
def cBrk (c : Nat) : Bool := decide (c &&& 131072 ≠ 0)
def cSnd (c : Nat) : Bool := decide (c = 65536)
def cSort (c k : Nat) : Bool := if k = 0 then decide (c ≠ 0) else if k = 1 then cHeld c else if k = 2 then cBrk c else cSnd c
/-- what a family has, what a copy is, what is pledged, in a row -/
def rF (A : Nat → Nat) (f i : Nat) : Nat := A (5 + 12 * f + i)
def rC (A : Nat → Nat) (p f : Nat) : Nat := A (125 + 19 * p + 9 + f)
def rPl (A : Nat → Nat) (p : Nat) : Nat := A (125 + 19 * p)
/-- a row that may be worked with -/
def rOk (A : Nat → Nat) : Prop := (4 ≤ A 0 ∧ A 0 ≤ 16) ∧ A 1 ≤ 10 ∧ A 2 ≤ 12 ∧ (∀ p f, p < 12 → f < 10 → rC A p f < 262144) ∧ (∀ f, f < 10 → rF A f 3 < 1024 ∧ rF A f 0 ≤ 20) ∧ ∀ k, k < 353 → A k < 2 ^ 24
section M1
variable {g : xG} {l : Launch} {h : xH} {m : Nat} {s : Mo}
theorem c_mThrown (hM : ModAt h m s) : xDet g l mX6_thrown 0 0 0 [.ref m] h (some (.int (nI (s.2.1 1)))) h := by
  refine xMet.of (V := [some (.ref m)]) moX6_thrown (Nat.le_of_ble_eq_true rfl) rfl ?_
  refine x_aload_n dX6_thrown_0 rfl ?_
  refine x_getf dX6_thrown_1 f_X6_49 hM.o rfl ?_
  exact x_iret .int dX6_thrown_4 rfl rfl (by decide) (by decide) (rfl) (rfl)
theorem c_mFamilies (hM : ModAt h m s) : xDet g l mX6_families 0 0 0 [.ref m] h (some (.int (nI (s.1 0 1)))) h := by
  refine xMet.of (V := [some (.ref m)]) moX6_families (Nat.le_of_ble_eq_true rfl) rfl ?_
  refine x_aload_n dX6_families_0 rfl ?_
  refine x_getf dX6_families_1 f_X6_7 hM.o rfl ?_
  refine x_iconst (nI 1) dX6_families_4 (by decide) ?_
  refine x_iald_n dX6_families_5 hM.a (by omega) (by decide) ?_
  exact x_iret .int dX6_families_6 rfl rfl (by decide) (by decide) (rfl) (rfl)
theorem c_mPictures (hM : ModAt h m s) : xDet g l mX6_pictures 0 0 0 [.ref m] h (some (.int (nI (s.1 0 2)))) h := by
  refine xMet.of (V := [some (.ref m)]) moX6_pictures (Nat.le_of_ble_eq_true rfl) rfl ?_
  refine x_aload_n dX6_pictures_0 rfl ?_
  refine x_getf dX6_pictures_1 f_X6_7 hM.o rfl ?_
  refine x_iconst (nI 2) dX6_pictures_4 (by decide) ?_
  refine x_iald_n dX6_pictures_5 hM.a (by omega) (by decide) ?_
  exact x_iret .int dX6_pictures_6 rfl rfl (by decide) (by decide) (rfl) (rfl)
theorem c_mOfFamily (hM : ModAt h m s) {f i : Nat} (hf : f < 10) (hi : i < 12) : xDet g l mX6_ofFamily 0 0 0 [.ref m, .int (nI f), .int (nI i)] h (some (.int (nI (rF (s.1 0) f i)))) h := by
  refine xMet.of (V := [some (.ref m), some (.int (nI f)), some (.int (nI i))]) moX6_ofFamily (Nat.le_of_ble_eq_true rfl) rfl ?_
  refine x_aload_n dX6_ofFamily_0 rfl ?_
  refine x_getf dX6_ofFamily_1 f_X6_7 hM.o rfl ?_
  refine x_iconst (nI 5) dX6_ofFamily_4 (by decide) ?_
  refine x_bipush (nI 12) dX6_ofFamily_5 (by decide) ?_
  refine x_iload_n dX6_ofFamily_7 rfl ?_
  refine x_imul_n dX6_ofFamily_8 ?_
  refine x_iadd_n dX6_ofFamily_9 ?_
  refine x_iload_n dX6_ofFamily_10 rfl ?_
  refine x_iadd_n dX6_ofFamily_11 ?_
  refine x_iald_n dX6_ofFamily_12 hM.a (by omega) (by decide) ?_
  exact x_iret .int dX6_ofFamily_13 rfl rfl (by decide) (by decide) (rfl) (rfl)
theorem c_mCopyOf (hM : ModAt h m s) {p f : Nat} (hp : p < 12) (hf : f < 10) : xDet g l mX6_copyOf 0 0 0 [.ref m, .int (nI p), .int (nI f)] h (some (.int (nI (rC (s.1 0) p f)))) h := by
  refine xMet.of (V := [some (.ref m), some (.int (nI p)), some (.int (nI f))]) moX6_copyOf (Nat.le_of_ble_eq_true rfl) rfl ?_
  refine x_aload_n dX6_copyOf_0 rfl ?_
  refine x_getf dX6_copyOf_1 f_X6_7 hM.o rfl ?_
  refine x_bipush (nI 125) dX6_copyOf_4 (by decide) ?_
  refine x_bipush (nI 19) dX6_copyOf_6 (by decide) ?_
  refine x_iload_n dX6_copyOf_8 rfl ?_
  refine x_imul_n dX6_copyOf_9 ?_
  refine x_iadd_n dX6_copyOf_10 ?_
  refine x_bipush (nI 9) dX6_copyOf_11 (by decide) ?_
  refine x_iadd_n dX6_copyOf_13 ?_
  refine x_iload_n dX6_copyOf_14 rfl ?_
  refine x_iadd_n dX6_copyOf_15 ?_
  refine x_iald_n dX6_copyOf_16 hM.a (by omega) (by decide) ?_
  exact x_iret .int dX6_copyOf_17 rfl rfl (by decide) (by decide) (rfl) (rfl)
theorem c_mPledgeOf (hM : ModAt h m s) {p : Nat} (hp : p < 12) : xDet g l mX6_pledgeOf 0 0 0 [.ref m, .int (nI p)] h (some (.int (nI (rPl (s.1 0) p)))) h := by
  refine xMet.of (V := [some (.ref m), some (.int (nI p))]) moX6_pledgeOf (Nat.le_of_ble_eq_true rfl) rfl ?_
  refine x_aload_n dX6_pledgeOf_0 rfl ?_
  refine x_getf dX6_pledgeOf_1 f_X6_7 hM.o rfl ?_
  refine x_bipush (nI 125) dX6_pledgeOf_4 (by decide) ?_
  refine x_bipush (nI 19) dX6_pledgeOf_6 (by decide) ?_
  refine x_iload_n dX6_pledgeOf_8 rfl ?_
  refine x_imul_n dX6_pledgeOf_9 ?_
  refine x_iadd_n dX6_pledgeOf_10 ?_
  refine x_iald_n dX6_pledgeOf_11 hM.a (by omega) (by decide) ?_
  exact x_iret .int dX6_pledgeOf_12 rfl rfl (by decide) (by decide) (rfl) (rfl)
theorem c_mSetsOf {f i x : Nat} (hf : f < 10) (hi : i < 12) : xDet g l mX6_setsOf 0 0 0 [.ref m, .int (nI f), .int (nI i), .int (nI x)] (putMod h m s) none (putMod h m (mR s 0 (va_up (s.1 0) (5 + 12 * f + i) x))) := by
  refine xMet.of (V := [some (.ref m), some (.int (nI f)), some (.int (nI i)), some (.int (nI x))]) moX6_setsOf (Nat.le_of_ble_eq_true rfl) rfl ?_
  refine x_aload_n dX6_setsOf_0 rfl ?_
  refine x_getf dX6_setsOf_1 f_X6_7 putMod_at.o rfl ?_
  refine x_iconst (nI 5) dX6_setsOf_4 (by decide) ?_
  refine x_bipush (nI 12) dX6_setsOf_5 (by decide) ?_
  refine x_iload_n dX6_setsOf_7 rfl ?_
  refine x_imul_n dX6_setsOf_8 ?_
  refine x_iadd_n dX6_setsOf_9 ?_
  refine x_iload_n dX6_setsOf_10 rfl ?_
  refine x_iadd_n dX6_setsOf_11 ?_
  refine x_iload_n dX6_setsOf_12 rfl ?_
  refine xq_X6_a dX6_setsOf_13 (by omega) ?_
  exact x_vret dX6_setsOf_14 rfl (by decide) (by decide) rfl (rfl)
theorem c_mSetsCopy {p f x : Nat} (hp : p < 12) (hf : f < 10) : xDet g l mX6_setsCopy 0 0 0 [.ref m, .int (nI p), .int (nI f), .int (nI x)] (putMod h m s) none (putMod h m (mR s 0 (va_up (s.1 0) (125 + 19 * p + 9 + f) x))) := by
  refine xMet.of (V := [some (.ref m), some (.int (nI p)), some (.int (nI f)), some (.int (nI x))]) moX6_setsCopy (Nat.le_of_ble_eq_true rfl) rfl ?_
  refine x_aload_n dX6_setsCopy_0 rfl ?_
  refine x_getf dX6_setsCopy_1 f_X6_7 putMod_at.o rfl ?_
  refine x_bipush (nI 125) dX6_setsCopy_4 (by decide) ?_
  refine x_bipush (nI 19) dX6_setsCopy_6 (by decide) ?_
  refine x_iload_n dX6_setsCopy_8 rfl ?_
  refine x_imul_n dX6_setsCopy_9 ?_
  refine x_iadd_n dX6_setsCopy_10 ?_
  refine x_bipush (nI 9) dX6_setsCopy_11 (by decide) ?_
  refine x_iadd_n dX6_setsCopy_13 ?_
  refine x_iload_n dX6_setsCopy_14 rfl ?_
  refine x_iadd_n dX6_setsCopy_15 ?_
  refine x_iload_n dX6_setsCopy_16 rfl ?_
  refine xq_X6_a dX6_setsCopy_17 (by omega) ?_
  exact x_vret dX6_setsCopy_18 rfl (by decide) (by decide) rfl (rfl)
theorem c_mIsIn {v lo hi : Int32} : xDet g l mX6_isIn 0 0 0 [.int v, .int lo, .int hi] h (some (.int (xb (isInB v lo hi)))) h := by
  unfold isInB
  refine xMet.of (V := [some (.int v), some (.int lo), some (.int hi)]) moX6_isIn (Nat.le_of_ble_eq_true rfl) rfl ?_
  refine x_iload_n dX6_isIn_0 rfl ?_
  refine x_iload_n dX6_isIn_1 rfl ?_
  refine x_icmp_lt 14 dX6_isIn_2 (by decide) (fun c1 => ?_) (fun c1 => ?_)
  · refine x_iconst (nI 0) dX6_isIn_14 (by decide) ?_
    exact x_iret .boolean dX6_isIn_15 rfl rfl (by decide) (by decide) (bool0 (by simp [c1])) (rfl)
  · refine x_iload_n dX6_isIn_5 rfl ?_
    refine x_iload_n dX6_isIn_6 rfl ?_
    refine x_icmp_gt 14 dX6_isIn_7 (by decide) (fun c2 => ?_) (fun c2 => ?_)
    · refine x_iconst (nI 0) dX6_isIn_14 (by decide) ?_
      exact x_iret .boolean dX6_isIn_15 rfl rfl (by decide) (by decide) (bool0 (by simp [c2])) (rfl)
    · refine x_iconst (nI 1) dX6_isIn_10 (by decide) ?_
      refine x_goto 15 dX6_isIn_11 (by decide) ?_
      exact x_iret .boolean dX6_isIn_15 rfl rfl (by decide) (by decide) (bool1 (by simp [c1, c2])) (rfl)
theorem c_mIsHeld {c : Nat} (hc : c < 2 ^ 24) : xDet g l mX6_isHeld 0 0 0 [.int (nI c)] h (some (.int (xb (cHeld c)))) h := by
  have ha : c &&& 196608 ≤ c := Nat.and_le_left
  refine xMet.of (V := [some (.int (nI c))]) moX6_isHeld (Nat.le_of_ble_eq_true rfl) rfl ?_
  refine x_iload_n dX6_isHeld_0 rfl ?_
  refine x_ldc (v := nI 196608) dX6_isHeld_1 k_X6_209 ?_
  refine x_iand_n dX6_isHeld_3 ?_
  refine x_ldc (v := nI 65536) dX6_isHeld_4 k_X6_188 ?_
  refine x_icmp_ne_n 13 dX6_isHeld_6 (by decide) (by omega) (by omega) (fun c1 => ?_) (fun c1 => ?_)
  · refine x_iconst (nI 0) dX6_isHeld_13 (by decide) ?_
    exact x_iret .boolean dX6_isHeld_14 rfl rfl (by decide) (by decide) (bool0 (by unfold cHeld; exact decide_eq_false c1)) (rfl)
  · refine x_iconst (nI 1) dX6_isHeld_9 (by decide) ?_
    refine x_goto 14 dX6_isHeld_10 (by decide) ?_
    exact x_iret .boolean dX6_isHeld_14 rfl rfl (by decide) (by decide) (bool1 (by unfold cHeld; exact decide_eq_true c1)) (rfl)
theorem c_mIsBroken {c : Nat} (hc : c < 2 ^ 24) : xDet g l mX6_isBroken 0 0 0 [.int (nI c)] h (some (.int (xb (cBrk c)))) h := by
  have ha : c &&& 131072 ≤ c := Nat.and_le_left
  refine xMet.of (V := [some (.int (nI c))]) moX6_isBroken (Nat.le_of_ble_eq_true rfl) rfl ?_
  refine x_iload_n dX6_isBroken_0 rfl ?_
  refine x_ldc (v := nI 131072) dX6_isBroken_1 k_X6_210 ?_
  refine x_iand_n dX6_isBroken_3 ?_
  refine x_if_eq_n 11 dX6_isBroken_4 (by decide) (by omega) (fun c1 => ?_) (fun c1 => ?_)
  · refine x_iconst (nI 0) dX6_isBroken_11 (by decide) ?_
    exact x_iret .boolean dX6_isBroken_12 rfl rfl (by decide) (by decide) (bool0 (by unfold cBrk; exact decide_eq_false (fun q => q c1))) (rfl)
  · refine x_iconst (nI 1) dX6_isBroken_7 (by decide) ?_
    refine x_goto 12 dX6_isBroken_8 (by decide) ?_
    exact x_iret .boolean dX6_isBroken_12 rfl rfl (by decide) (by decide) (bool1 (by unfold cBrk; exact decide_eq_true (by omega))) (rfl)
theorem c_mIsSound {c : Nat} (hc : c < 2 ^ 24) : xDet g l mX6_isSound 0 0 0 [.int (nI c)] h (some (.int (xb (cSnd c)))) h := by
  refine xMet.of (V := [some (.int (nI c))]) moX6_isSound (Nat.le_of_ble_eq_true rfl) rfl ?_
  refine x_iload_n dX6_isSound_0 rfl ?_
  refine x_ldc (v := nI 65536) dX6_isSound_1 k_X6_188 ?_
  refine x_icmp_ne_n 10 dX6_isSound_3 (by decide) (by omega) (by omega) (fun c1 => ?_) (fun c1 => ?_)
  · refine x_iconst (nI 0) dX6_isSound_10 (by decide) ?_
    exact x_iret .boolean dX6_isSound_11 rfl rfl (by decide) (by decide) (bool0 (by unfold cSnd; exact decide_eq_false c1)) (rfl)
  · refine x_iconst (nI 1) dX6_isSound_6 (by decide) ?_
    refine x_goto 11 dX6_isSound_7 (by decide) ?_
    exact x_iret .boolean dX6_isSound_11 rfl rfl (by decide) (by decide) (bool1 (by unfold cSnd; exact decide_eq_true c1)) (rfl)
theorem c_mBits {x : Nat} (hx : x < 65536) : xDet g l mX6_bits 0 0 0 [.int (nI x)] h (some (.int (nI (popc x)))) h := by
  rw [popc_of (n := 16) hx (by decide)]
  refine xMet.of (V := [some (.int (nI x)), none, none]) moX6_bits (Nat.le_of_ble_eq_true rfl) rfl ?_
  refine x_iconst (nI 0) dX6_bits_0 (by decide) ?_
  refine x_istore_n dX6_bits_1 (by decide) rfl rfl ?_
  refine x_iconst (nI 0) dX6_bits_2 (by decide) ?_
  refine x_istore_n dX6_bits_3 (by decide) rfl rfl ?_
  refine xP.weak (V' := [some (.int (nI x)), some (.int (nI (fb_ct (fun k => x.testBit k) 0))), some (.int (nI 0))]) (by simp [xle, xset1, fin3]; first | rfl | exact ⟨rfl, rfl⟩) ?_
  refine xP.loop0 (fun i => [some (.int (nI x)), some (.int (nI (fb_ct (fun k => x.testBit k) i))), some (.int (nI i))]) 16 ?_ ?_
  · intro i hi ih
    refine x_iload_n dX6_bits_4 rfl ?_
    refine x_bipush (nI 16) dX6_bits_5 (by decide) ?_
    refine x_icmp_ge_n 24 dX6_bits_7 (by decide) (by omega) (by omega) (fun c0 => ?_) (fun c0 => ?_)
    · omega
    · refine x_iload_n dX6_bits_10 rfl ?_
      refine x_iload_n dX6_bits_11 rfl ?_
      refine x_iload_n dX6_bits_12 rfl ?_
      refine x_ishr_n dX6_bits_13 (by omega) (by omega) ?_
      refine x_iconst (nI 1) dX6_bits_14 (by decide) ?_
      refine x_iand_n dX6_bits_15 ?_
      rw [bit_n]
      refine x_iadd_n dX6_bits_16 ?_
      refine x_istore_n dX6_bits_17 (by decide) rfl rfl ?_
      refine x_iinc_n (k := 1) dX6_bits_18 rfl (by decide) (by decide) rfl rfl ?_
      refine x_goto 4 dX6_bits_21 (by decide) ?_
      refine xP.weak ?_ ih
      have e : fb_ct (fun k => x.testBit k) (i + 1) = fb_ct (fun k => x.testBit k) i + (x.testBit i).toNat := by
        rw [fb_ct_succ]
        cases x.testBit i <;> rfl
      simp [xle, xset1, fin3, e]
  · refine x_iload_n dX6_bits_4 rfl ?_
    refine x_bipush (nI 16) dX6_bits_5 (by decide) ?_
    refine x_icmp_ge_n 24 dX6_bits_7 (by decide) (by omega) (by omega) (fun c0 => ?_) (fun c0 => ?_)
    · refine x_iload_n dX6_bits_24 rfl ?_
      exact x_iret .int dX6_bits_25 rfl rfl (by decide) (by decide) (rfl) (rfl)
    · omega
end M1
