/-! ===== the model: what is asked, without a change ===== -/
theorem isIn_gen {a : Int32} {lo hi : Nat} (h1 : lo < 2 ^ 31) (h2 : hi < 2 ^ 31) : isInB a (nI lo) (nI hi) = decide (lo ≤ ix a ∧ ix a ≤ hi) := by
  unfold isInB
  by_cases c : a < 0
  · have h3 := neg_ix.mp c
    have h4 : a < nI lo := Int32.lt_of_lt_of_le c (Int32.not_lt.mp (by rw [Int32.lt_iff_toInt_lt, nI_toInt h1]; show ¬ (lo : Int) < 0; omega))
    rw [decide_eq_false (fun q => q h4), Bool.false_and, decide_eq_false (by omega)]
  · have hx : ix a < 2 ^ 31 := Nat.lt_of_not_le fun q => c (neg_ix.mpr q)
    have e := nI_ix a
    have k1 : a < nI lo ↔ ix a < lo := by
      have := nI_ltI (a := ix a) (b := lo) hx h1
      rw [e] at this
      exact this
    have k2 : nI hi < a ↔ hi < ix a := by
      have := nI_ltI (a := hi) (b := ix a) h2 hx
      rw [e] at this
      exact this
    rw [← Bool.decide_and]
    exact decide_eq_decide.mpr (by rw [k1, k2]; omega)
theorem isIn_le {a : Int32} {N : Nat} (h : N < 2 ^ 31) : isInB a (nI 0) (nI N) = okB a (N + 1) := by
  rw [isIn_gen (by decide) h]
  unfold okB
  exact decide_eq_decide.mpr (by omega)
def mCntV (A : Nat → Nat) : Nat → Int32
  | 0 => nI (A 0)
  | 1 => nI (A 1)
  | 2 => nI (A 2)
  | 3 => nI (mAll A 0)
  | 4 => nI (mAll A 2)
  | 5 => nI (mAll A 1) - nI (mAll A 3)
  | 6 => nI (mDgs A false)
  | 7 => nI (mDgs A true)
  | 8 => nI (A 4)
  | 9 => nI (A 3)
  | _ => nI (mPairs A)
def mFamV (A : Nat → Nat) (f : Nat) : Nat → Int32
  | 0 => nI (rF A f 0)
  | 1 => nI (mCop A f 0)
  | 2 => nI (mCop A f 2)
  | 3 => nI (rF A f 1)
  | 4 => nI (rF A f 2)
  | 5 => nI (mTrust A f)
  | _ => nI (rF A f 3)
def mPicV (A : Nat → Nat) (p : Nat) : Nat → Int32
  | 0 => nI (rPl A p)
  | 1 => nI (mHold A p 1)
  | 2 => nI (mHold A p 2)
  | 3 => nI (mHold A p 3)
  | 4 => xb (mDan A p)
  | _ => xb (mTru A p)
theorem mAll_lt {A : Nat → Nat} (hw : rOk A) (k : Nat) : mAll A k ≤ 384 := by
  have h1 : mAll A k ≤ A 2 * 32 := fb_sm_bound fun _ _ => popc32 _
  have h2 : A 2 ≤ 12 := hw.2.2.1
  omega
section M19
variable {g : xG} {l : Launch} {h : xH} {m : Nat} {s : Mo}
theorem c_mCount {n : Nat} (hw : rK (s.1 0) n) (a : Int32) : xDet g l mX6_count 5 0 0 [.ref m, .int a] (putMod h m s) (some (.int (if okB a 11 = true then mCntV (s.1 0) (ix a) else 0))) (putMod h m (mN s 1 (if okB a 11 = true then 0 else 1))) := by
  have hok : rOk ((mN s 1 0).1 0) := hw.ok
  have e9 := nI_ix a
  refine xMet.of (V := [some (.ref m), some (.int a)]) moX6_count (Nat.le_of_ble_eq_true rfl) rfl ?_
  refine x_aload_n dX6_count_0 rfl ?_
  refine x_iload_n dX6_count_1 rfl ?_
  refine x_iconst (nI 0) dX6_count_2 (by decide) ?_
  refine x_bipush (nI 10) dX6_count_3 (by decide) ?_
  refine x_si0 dX6_count_5 cS_X6_59 (c_mIsIn) rfl rfl ⟨⟨by decide, by decide⟩, by decide, by decide⟩ (Nat.le_of_ble_eq_true rfl) ?_
  rw [isIn_le (by decide)]
  cases c0 : okB a 11 with
  | false =>
    rw [if_neg (by decide), if_neg (by decide)]
    refine x_if_eq_b 15 dX6_count_8 (by decide) (fun c1 => ?_) (fun c1 => ?_)
    rotate_left
    · cases c1
    refine x_iconst (nI 1) dX6_count_15 (by decide) ?_
    refine xq_X6_thrown dX6_count_16 f_X6_49 ?_
    refine x_aload_n dX6_count_19 rfl ?_
    refine x_getf dX6_count_20 f_X6_49 putMod_at.o rfl ?_
    refine xP.eq (S' := [.int (nI 1)]) rfl rfl rfl rfl ?_
    refine x_if_le_n 28 dX6_count_23 (by decide) (by omega) (fun c9 => ?_) (fun c9 => ?_)
    · omega
    · refine x_iconst (nI 0) dX6_count_26 (by decide) ?_
      exact x_iret .int dX6_count_27 rfl rfl (by decide) (by decide) (rfl) (rfl)
  | true =>
    rw [if_pos rfl, if_pos rfl]
    have ek := okB_lt c0
    refine x_if_eq_b 15 dX6_count_8 (by decide) (fun c1 => ?_) (fun c1 => ?_)
    · cases c1
    refine x_iconst (nI 0) dX6_count_11 (by decide) ?_
    refine x_goto 16 dX6_count_12 (by decide) ?_
    refine xq_X6_thrown dX6_count_16 f_X6_49 ?_
    refine x_aload_n dX6_count_19 rfl ?_
    refine x_getf dX6_count_20 f_X6_49 putMod_at.o rfl ?_
    refine xP.eq (S' := [.int (nI 0)]) rfl rfl rfl rfl ?_
    refine x_if_le_n 28 dX6_count_23 (by decide) (by omega) (fun c9 => ?_) (fun c9 => ?_)
    · refine xP.weak (V' := [some (.ref m), some (.int (nI (ix a)))]) (by simp [xle, xset1, fin3, e9]) ?_
      generalize ix a = k at *
      have hk : k = 0 ∨ k = 1 ∨ k = 2 ∨ k = 3 ∨ k = 4 ∨ k = 5 ∨ k = 6 ∨ k = 7 ∨ k = 8 ∨ k = 9 ∨ k = 10 := by omega
      rcases hk with rfl | rfl | rfl | rfl | rfl | rfl | rfl | rfl | rfl | rfl | rfl
      · refine x_iload_n dX6_count_28 rfl ?_
        refine x_tableIn 84 dX6_count_29 (by decide) (by decide) rfl (by decide) ?_
        refine x_aload_n dX6_count_84 rfl ?_
        refine x_getf dX6_count_85 f_X6_7 putMod_at.o rfl ?_
        refine x_iconst (nI 0) dX6_count_88 (by decide) ?_
        refine x_iald_n dX6_count_89 putMod_at.a (by omega) (by decide) ?_
        exact x_iret .int dX6_count_90 rfl rfl (by decide) (by decide) (rfl) (rfl)
      · refine x_iload_n dX6_count_28 rfl ?_
        refine x_tableIn 91 dX6_count_29 (by decide) (by decide) rfl (by decide) ?_
        refine x_aload_n dX6_count_91 rfl ?_
        refine x_vi0 dX6_count_92 cV_X6_67 (c_mFamilies putMod_at) rfl rfl ⟨⟨by decide, by decide⟩, by decide, by decide⟩ (Nat.le_of_ble_eq_true rfl) (xrecv putMod_at.o rfl xcl5) ?_
        exact x_iret .int dX6_count_95 rfl rfl (by decide) (by decide) (rfl) (rfl)
      · refine x_iload_n dX6_count_28 rfl ?_
        refine x_tableIn 96 dX6_count_29 (by decide) (by decide) rfl (by decide) ?_
        refine x_aload_n dX6_count_96 rfl ?_
        refine x_vi0 dX6_count_97 cV_X6_169 (c_mPictures putMod_at) rfl rfl ⟨⟨by decide, by decide⟩, by decide, by decide⟩ (Nat.le_of_ble_eq_true rfl) (xrecv putMod_at.o rfl xcl5) ?_
        exact x_iret .int dX6_count_100 rfl rfl (by decide) (by decide) (rfl) (rfl)
      · refine x_iload_n dX6_count_28 rfl ?_
        refine x_tableIn 101 dX6_count_29 (by decide) (by decide) rfl (by decide) ?_
        refine x_aload_n dX6_count_101 rfl ?_
        refine x_iconst (nI 0) dX6_count_102 (by decide) ?_
        refine x_vi0 dX6_count_103 cV_X6_241 (c_mAllOf putMod_at hok (by decide)) rfl rfl ⟨⟨by decide, by decide⟩, by decide, by decide⟩ (Nat.le_of_ble_eq_true rfl) (xrecv putMod_at.o rfl xcl5) ?_
        exact x_iret .int dX6_count_106 rfl rfl (by decide) (by decide) (rfl) (rfl)
      · refine x_iload_n dX6_count_28 rfl ?_
        refine x_tableIn 107 dX6_count_29 (by decide) (by decide) rfl (by decide) ?_
        refine x_aload_n dX6_count_107 rfl ?_
        refine x_iconst (nI 2) dX6_count_108 (by decide) ?_
        refine x_vi0 dX6_count_109 cV_X6_241 (c_mAllOf putMod_at hok (by decide)) rfl rfl ⟨⟨by decide, by decide⟩, by decide, by decide⟩ (Nat.le_of_ble_eq_true rfl) (xrecv putMod_at.o rfl xcl5) ?_
        exact x_iret .int dX6_count_112 rfl rfl (by decide) (by decide) (rfl) (rfl)
      · refine x_iload_n dX6_count_28 rfl ?_
        refine x_tableIn 113 dX6_count_29 (by decide) (by decide) rfl (by decide) ?_
        refine x_aload_n dX6_count_113 rfl ?_
        refine x_iconst (nI 1) dX6_count_114 (by decide) ?_
        refine x_vi0 dX6_count_115 cV_X6_241 (c_mAllOf putMod_at hok (by decide)) rfl rfl ⟨⟨by decide, by decide⟩, by decide, by decide⟩ (Nat.le_of_ble_eq_true rfl) (xrecv putMod_at.o rfl xcl5) ?_
        refine x_aload_n dX6_count_118 rfl ?_
        refine x_iconst (nI 3) dX6_count_119 (by decide) ?_
        refine x_vi0 dX6_count_120 cV_X6_241 (c_mAllOf putMod_at hok (by decide)) rfl rfl ⟨⟨by decide, by decide⟩, by decide, by decide⟩ (Nat.le_of_ble_eq_true rfl) (xrecv putMod_at.o rfl xcl5) ?_
        refine x_isub dX6_count_123 ?_
        exact x_iret .int dX6_count_124 rfl rfl (by decide) (by decide) (rfl) (rfl)
      · refine x_iload_n dX6_count_28 rfl ?_
        refine x_tableIn 125 dX6_count_29 (by decide) (by decide) rfl (by decide) ?_
        refine x_aload_n dX6_count_125 rfl ?_
        refine x_iconst (nI 0) dX6_count_126 (by decide) ?_
        refine xP.eq (S' := [.int (xb false), .ref m]) rfl rfl rfl rfl ?_
        refine x_vi0 dX6_count_127 cV_X6_244 (c_mDangers putMod_at hok false) rfl rfl ⟨⟨by decide, by decide⟩, by decide, by decide⟩ (Nat.le_of_ble_eq_true rfl) (xrecv putMod_at.o rfl xcl5) ?_
        exact x_iret .int dX6_count_130 rfl rfl (by decide) (by decide) (rfl) (rfl)
      · refine x_iload_n dX6_count_28 rfl ?_
        refine x_tableIn 131 dX6_count_29 (by decide) (by decide) rfl (by decide) ?_
        refine x_aload_n dX6_count_131 rfl ?_
        refine x_iconst (nI 1) dX6_count_132 (by decide) ?_
        refine xP.eq (S' := [.int (xb true), .ref m]) rfl rfl rfl rfl ?_
        refine x_vi0 dX6_count_133 cV_X6_244 (c_mDangers putMod_at hok true) rfl rfl ⟨⟨by decide, by decide⟩, by decide, by decide⟩ (Nat.le_of_ble_eq_true rfl) (xrecv putMod_at.o rfl xcl5) ?_
        exact x_iret .int dX6_count_136 rfl rfl (by decide) (by decide) (rfl) (rfl)
      · refine x_iload_n dX6_count_28 rfl ?_
        refine x_tableIn 137 dX6_count_29 (by decide) (by decide) rfl (by decide) ?_
        refine x_aload_n dX6_count_137 rfl ?_
        refine x_getf dX6_count_138 f_X6_7 putMod_at.o rfl ?_
        refine x_iconst (nI 4) dX6_count_141 (by decide) ?_
        refine x_iald_n dX6_count_142 putMod_at.a (by omega) (by decide) ?_
        exact x_iret .int dX6_count_143 rfl rfl (by decide) (by decide) (rfl) (rfl)
      · refine x_iload_n dX6_count_28 rfl ?_
        refine x_tableIn 144 dX6_count_29 (by decide) (by decide) rfl (by decide) ?_
        refine x_aload_n dX6_count_144 rfl ?_
        refine x_getf dX6_count_145 f_X6_7 putMod_at.o rfl ?_
        refine x_iconst (nI 3) dX6_count_148 (by decide) ?_
        refine x_iald_n dX6_count_149 putMod_at.a (by omega) (by decide) ?_
        exact x_iret .int dX6_count_150 rfl rfl (by decide) (by decide) (rfl) (rfl)
      · refine x_iload_n dX6_count_28 rfl ?_
        refine x_tableOut 151 dX6_count_29 (Or.inr (by decide)) (by decide) ?_
        refine x_aload_n dX6_count_151 rfl ?_
        refine x_vi0 dX6_count_152 cV_X6_248 (c_mPairs putMod_at hok) rfl rfl ⟨⟨by decide, by decide⟩, by decide, by decide⟩ (Nat.le_of_ble_eq_true rfl) (xrecv putMod_at.o rfl xcl5) ?_
        exact x_iret .int dX6_count_155 rfl rfl (by decide) (by decide) (rfl) (rfl)
    · omega
theorem c_mFamily {n : Nat} (hw : rK (s.1 0) n) (f a : Int32) : xDet g l mX6_family 5 0 0 [.ref m, .int f, .int a] (putMod h m s) (some (.int (if okB f (s.1 0 1) = true ∧ okB a 7 = true then mFamV (s.1 0) (ix f) (ix a) else 0))) (putMod h m (mN s 1 (if okB f (s.1 0 1) = true then (if okB a 7 = true then 0 else 2) else 1))) := by
  have hok : rOk ((mN s 1 0).1 0) := hw.ok
  have hN : s.1 0 1 ≤ 10 := hw.2.2 1 (by decide)
  have e9 := nI_ix a
  have e8 := nI_ix f
  refine xMet.of (V := [some (.ref m), some (.int f), some (.int a)]) moX6_family (Nat.le_of_ble_eq_true rfl) rfl ?_
  refine x_aload_n dX6_family_0 rfl ?_
  refine x_aload_n dX6_family_1 rfl ?_
  refine x_iload_n dX6_family_2 rfl ?_
  refine x_vi0 dX6_family_3 cV_X6_251 (c_mIsFamily putMod_at hw.ok) rfl rfl ⟨⟨by decide, by decide⟩, by decide, by decide⟩ (Nat.le_of_ble_eq_true rfl) (xrecv putMod_at.o rfl xcl5) ?_
  refine x_if_ne_b 13 dX6_family_6 (by decide) (fun c1 => ?_) (fun c1 => ?_)
  rotate_left
  · rw [if_neg (by rw [c1]; simp), if_neg (by rw [c1]; decide)]
    refine x_iconst (nI 1) dX6_family_9 (by decide) ?_
    refine x_goto 28 dX6_family_10 (by decide) ?_
    refine xq_X6_thrown dX6_family_28 f_X6_49 ?_
    refine x_aload_n dX6_family_31 rfl ?_
    refine x_getf dX6_family_32 f_X6_49 putMod_at.o rfl ?_
    refine xP.eq (S' := [.int (nI 1)]) rfl rfl rfl rfl ?_
    refine x_if_le_n 40 dX6_family_35 (by decide) (by omega) (fun c9 => ?_) (fun c9 => ?_)
    · omega
    · refine x_iconst (nI 0) dX6_family_38 (by decide) ?_
      exact x_iret .int dX6_family_39 rfl rfl (by decide) (by decide) (rfl) (rfl)
  rw [if_pos (show okB f (s.1 0 1) = true from c1)]
  have ef := okB_lt c1
  refine x_iload_n dX6_family_13 rfl ?_
  refine x_iconst (nI 0) dX6_family_14 (by decide) ?_
  refine x_bipush (nI 6) dX6_family_15 (by decide) ?_
  refine x_si0 dX6_family_17 cS_X6_59 (c_mIsIn) rfl rfl ⟨⟨by decide, by decide⟩, by decide, by decide⟩ (Nat.le_of_ble_eq_true rfl) ?_
  rw [isIn_le (by decide)]
  cases c0 : okB a 7 with
  | false =>
    rw [if_neg (by simp), if_neg (by decide)]
    refine x_if_eq_b 27 dX6_family_20 (by decide) (fun c2 => ?_) (fun c2 => ?_)
    rotate_left
    · cases c2
    refine x_iconst (nI 2) dX6_family_27 (by decide) ?_
    refine xq_X6_thrown dX6_family_28 f_X6_49 ?_
    refine x_aload_n dX6_family_31 rfl ?_
    refine x_getf dX6_family_32 f_X6_49 putMod_at.o rfl ?_
    refine xP.eq (S' := [.int (nI 2)]) rfl rfl rfl rfl ?_
    refine x_if_le_n 40 dX6_family_35 (by decide) (by omega) (fun c9 => ?_) (fun c9 => ?_)
    · omega
    · refine x_iconst (nI 0) dX6_family_38 (by decide) ?_
      exact x_iret .int dX6_family_39 rfl rfl (by decide) (by decide) (rfl) (rfl)
  | true =>
    rw [if_pos ⟨c1, rfl⟩, if_pos rfl]
    have ek := okB_lt c0
    refine x_if_eq_b 27 dX6_family_20 (by decide) (fun c2 => ?_) (fun c2 => ?_)
    · cases c2
    refine x_iconst (nI 0) dX6_family_23 (by decide) ?_
    refine x_goto 28 dX6_family_24 (by decide) ?_
    refine xq_X6_thrown dX6_family_28 f_X6_49 ?_
    refine x_aload_n dX6_family_31 rfl ?_
    refine x_getf dX6_family_32 f_X6_49 putMod_at.o rfl ?_
    refine xP.eq (S' := [.int (nI 0)]) rfl rfl rfl rfl ?_
    refine x_if_le_n 40 dX6_family_35 (by decide) (by omega) (fun c9 => ?_) (fun c9 => ?_)
    · refine xP.weak (V' := [some (.ref m), some (.int (nI (ix f))), some (.int (nI (ix a)))]) (by simp [xle, xset1, fin3, e9, e8]) ?_
      generalize ix a = k at *
      have hk : k = 0 ∨ k = 1 ∨ k = 2 ∨ k = 3 ∨ k = 4 ∨ k = 5 ∨ k = 6 := by omega
      rcases hk with rfl | rfl | rfl | rfl | rfl | rfl | rfl
      · refine x_iload_n dX6_family_40 rfl ?_
        refine x_tableIn 80 dX6_family_41 (by decide) (by decide) rfl (by decide) ?_
        refine x_aload_n dX6_family_80 rfl ?_
        refine x_iload_n dX6_family_81 rfl ?_
        refine x_iconst (nI 0) dX6_family_82 (by decide) ?_
        refine x_vi0 dX6_family_83 cV_X6_206 (c_mOfFamily putMod_at (show ix f < 10 by omega) (show 0 < 12 by decide)) rfl rfl ⟨⟨by decide, by decide⟩, by decide, by decide⟩ (Nat.le_of_ble_eq_true rfl) (xrecv putMod_at.o rfl xcl5) ?_
        exact x_iret .int dX6_family_86 rfl rfl (by decide) (by decide) (rfl) (rfl)
      · refine x_iload_n dX6_family_40 rfl ?_
        refine x_tableIn 87 dX6_family_41 (by decide) (by decide) rfl (by decide) ?_
        refine x_aload_n dX6_family_87 rfl ?_
        refine x_iload_n dX6_family_88 rfl ?_
        refine x_iconst (nI 0) dX6_family_89 (by decide) ?_
        refine x_vi0 dX6_family_90 cV_X6_223 (c_mCopiesOf putMod_at hok (show ix f < 10 by omega) (show 0 < 4 by decide)) rfl rfl ⟨⟨by decide, by decide⟩, by decide, by decide⟩ (Nat.le_of_ble_eq_true rfl) (xrecv putMod_at.o rfl xcl5) ?_
        exact x_iret .int dX6_family_93 rfl rfl (by decide) (by decide) (rfl) (rfl)
      · refine x_iload_n dX6_family_40 rfl ?_
        refine x_tableIn 94 dX6_family_41 (by decide) (by decide) rfl (by decide) ?_
        refine x_aload_n dX6_family_94 rfl ?_
        refine x_iload_n dX6_family_95 rfl ?_
        refine x_iconst (nI 2) dX6_family_96 (by decide) ?_
        refine x_vi0 dX6_family_97 cV_X6_223 (c_mCopiesOf putMod_at hok (show ix f < 10 by omega) (show 2 < 4 by decide)) rfl rfl ⟨⟨by decide, by decide⟩, by decide, by decide⟩ (Nat.le_of_ble_eq_true rfl) (xrecv putMod_at.o rfl xcl5) ?_
        exact x_iret .int dX6_family_100 rfl rfl (by decide) (by decide) (rfl) (rfl)
      · refine x_iload_n dX6_family_40 rfl ?_
        refine x_tableIn 101 dX6_family_41 (by decide) (by decide) rfl (by decide) ?_
        refine x_aload_n dX6_family_101 rfl ?_
        refine x_iload_n dX6_family_102 rfl ?_
        refine x_iconst (nI 1) dX6_family_103 (by decide) ?_
        refine x_vi0 dX6_family_104 cV_X6_206 (c_mOfFamily putMod_at (show ix f < 10 by omega) (show 1 < 12 by decide)) rfl rfl ⟨⟨by decide, by decide⟩, by decide, by decide⟩ (Nat.le_of_ble_eq_true rfl) (xrecv putMod_at.o rfl xcl5) ?_
        exact x_iret .int dX6_family_107 rfl rfl (by decide) (by decide) (rfl) (rfl)
      · refine x_iload_n dX6_family_40 rfl ?_
        refine x_tableIn 108 dX6_family_41 (by decide) (by decide) rfl (by decide) ?_
        refine x_aload_n dX6_family_108 rfl ?_
        refine x_iload_n dX6_family_109 rfl ?_
        refine x_iconst (nI 2) dX6_family_110 (by decide) ?_
        refine x_vi0 dX6_family_111 cV_X6_206 (c_mOfFamily putMod_at (show ix f < 10 by omega) (show 2 < 12 by decide)) rfl rfl ⟨⟨by decide, by decide⟩, by decide, by decide⟩ (Nat.le_of_ble_eq_true rfl) (xrecv putMod_at.o rfl xcl5) ?_
        exact x_iret .int dX6_family_114 rfl rfl (by decide) (by decide) (rfl) (rfl)
      · refine x_iload_n dX6_family_40 rfl ?_
        refine x_tableIn 115 dX6_family_41 (by decide) (by decide) rfl (by decide) ?_
        refine x_aload_n dX6_family_115 rfl ?_
        refine x_iload_n dX6_family_116 rfl ?_
        refine x_vi0 dX6_family_117 cV_X6_254 (c_mTrustOf putMod_at hok (show ix f < 10 by omega)) rfl rfl ⟨⟨by decide, by decide⟩, by decide, by decide⟩ (Nat.le_of_ble_eq_true rfl) (xrecv putMod_at.o rfl xcl5) ?_
        exact x_iret .int dX6_family_120 rfl rfl (by decide) (by decide) (rfl) (rfl)
      · refine x_iload_n dX6_family_40 rfl ?_
        refine x_tableOut 121 dX6_family_41 (Or.inr (by decide)) (by decide) ?_
        refine x_aload_n dX6_family_121 rfl ?_
        refine x_iload_n dX6_family_122 rfl ?_
        refine x_iconst (nI 3) dX6_family_123 (by decide) ?_
        refine x_vi0 dX6_family_124 cV_X6_206 (c_mOfFamily putMod_at (show ix f < 10 by omega) (show 3 < 12 by decide)) rfl rfl ⟨⟨by decide, by decide⟩, by decide, by decide⟩ (Nat.le_of_ble_eq_true rfl) (xrecv putMod_at.o rfl xcl5) ?_
        exact x_iret .int dX6_family_127 rfl rfl (by decide) (by decide) (rfl) (rfl)
    · omega
theorem c_mPicture {n : Nat} (hw : rK (s.1 0) n) (p a : Int32) : xDet g l mX6_picture 5 0 0 [.ref m, .int p, .int a] (putMod h m s) (some (.int (if okB p (s.1 0 2) = true ∧ okB a 6 = true then mPicV (s.1 0) (ix p) (ix a) else 0))) (putMod h m (mN s 1 (if okB p (s.1 0 2) = true then (if okB a 6 = true then 0 else 2) else 1))) := by
  have hok : rOk ((mN s 1 0).1 0) := hw.ok
  have hK : s.1 0 2 ≤ 12 := hw.2.2 2 (by decide)
  have e9 := nI_ix a
  have e8 := nI_ix p
  refine xMet.of (V := [some (.ref m), some (.int p), some (.int a)]) moX6_picture (Nat.le_of_ble_eq_true rfl) rfl ?_
  refine x_aload_n dX6_picture_0 rfl ?_
  refine x_aload_n dX6_picture_1 rfl ?_
  refine x_iload_n dX6_picture_2 rfl ?_
  refine x_vi0 dX6_picture_3 cV_X6_257 (c_mIsPicture putMod_at hw.ok) rfl rfl ⟨⟨by decide, by decide⟩, by decide, by decide⟩ (Nat.le_of_ble_eq_true rfl) (xrecv putMod_at.o rfl xcl5) ?_
  refine x_if_ne_b 13 dX6_picture_6 (by decide) (fun c1 => ?_) (fun c1 => ?_)
  rotate_left
  · rw [if_neg (by rw [c1]; simp), if_neg (by rw [c1]; decide)]
    refine x_iconst (nI 1) dX6_picture_9 (by decide) ?_
    refine x_goto 27 dX6_picture_10 (by decide) ?_
    refine xq_X6_thrown dX6_picture_27 f_X6_49 ?_
    refine x_aload_n dX6_picture_30 rfl ?_
    refine x_getf dX6_picture_31 f_X6_49 putMod_at.o rfl ?_
    refine xP.eq (S' := [.int (nI 1)]) rfl rfl rfl rfl ?_
    refine x_if_le_n 39 dX6_picture_34 (by decide) (by omega) (fun c9 => ?_) (fun c9 => ?_)
    · omega
    · refine x_iconst (nI 0) dX6_picture_37 (by decide) ?_
      exact x_iret .int dX6_picture_38 rfl rfl (by decide) (by decide) (rfl) (rfl)
  rw [if_pos (show okB p (s.1 0 2) = true from c1)]
  have ef := okB_lt c1
  refine x_iload_n dX6_picture_13 rfl ?_
  refine x_iconst (nI 0) dX6_picture_14 (by decide) ?_
  refine x_iconst (nI 5) dX6_picture_15 (by decide) ?_
  refine x_si0 dX6_picture_16 cS_X6_59 (c_mIsIn) rfl rfl ⟨⟨by decide, by decide⟩, by decide, by decide⟩ (Nat.le_of_ble_eq_true rfl) ?_
  rw [isIn_le (by decide)]
  cases c0 : okB a 6 with
  | false =>
    rw [if_neg (by simp), if_neg (by decide)]
    refine x_if_eq_b 26 dX6_picture_19 (by decide) (fun c2 => ?_) (fun c2 => ?_)
    rotate_left
    · cases c2
    refine x_iconst (nI 2) dX6_picture_26 (by decide) ?_
    refine xq_X6_thrown dX6_picture_27 f_X6_49 ?_
    refine x_aload_n dX6_picture_30 rfl ?_
    refine x_getf dX6_picture_31 f_X6_49 putMod_at.o rfl ?_
    refine xP.eq (S' := [.int (nI 2)]) rfl rfl rfl rfl ?_
    refine x_if_le_n 39 dX6_picture_34 (by decide) (by omega) (fun c9 => ?_) (fun c9 => ?_)
    · omega
    · refine x_iconst (nI 0) dX6_picture_37 (by decide) ?_
      exact x_iret .int dX6_picture_38 rfl rfl (by decide) (by decide) (rfl) (rfl)
  | true =>
    rw [if_pos ⟨c1, rfl⟩, if_pos rfl]
    have ek := okB_lt c0
    refine x_if_eq_b 26 dX6_picture_19 (by decide) (fun c2 => ?_) (fun c2 => ?_)
    · cases c2
    refine x_iconst (nI 0) dX6_picture_22 (by decide) ?_
    refine x_goto 27 dX6_picture_23 (by decide) ?_
    refine xq_X6_thrown dX6_picture_27 f_X6_49 ?_
    refine x_aload_n dX6_picture_30 rfl ?_
    refine x_getf dX6_picture_31 f_X6_49 putMod_at.o rfl ?_
    refine xP.eq (S' := [.int (nI 0)]) rfl rfl rfl rfl ?_
    refine x_if_le_n 39 dX6_picture_34 (by decide) (by omega) (fun c9 => ?_) (fun c9 => ?_)
    · refine xP.weak (V' := [some (.ref m), some (.int (nI (ix p))), some (.int (nI (ix a)))]) (by simp [xle, xset1, fin3, e9, e8]) ?_
      generalize ix a = k at *
      have hk : k = 0 ∨ k = 1 ∨ k = 2 ∨ k = 3 ∨ k = 4 ∨ k = 5 := by omega
      rcases hk with rfl | rfl | rfl | rfl | rfl | rfl
      · refine x_iload_n dX6_picture_39 rfl ?_
        refine x_lookup 76 dX6_picture_40 (by decide) rfl (by decide) ?_
        refine x_aload_n dX6_picture_76 rfl ?_
        refine x_iload_n dX6_picture_77 rfl ?_
        refine x_vi0 dX6_picture_78 cV_X6_232 (c_mPledgeOf putMod_at (show ix p < 12 by omega)) rfl rfl ⟨⟨by decide, by decide⟩, by decide, by decide⟩ (Nat.le_of_ble_eq_true rfl) (xrecv putMod_at.o rfl xcl5) ?_
        exact x_iret .int dX6_picture_81 rfl rfl (by decide) (by decide) (rfl) (rfl)
      · refine x_iload_n dX6_picture_39 rfl ?_
        refine x_lookup 110 dX6_picture_40 (by decide) rfl (by decide) ?_
        refine x_aload_n dX6_picture_110 rfl ?_
        refine x_iload_n dX6_picture_111 rfl ?_
        refine x_iload_n dX6_picture_112 rfl ?_
        refine x_vi0 dX6_picture_113 cV_X6_226 (c_mHolders putMod_at hok (show ix p < 12 by omega) (by decide)) rfl rfl ⟨⟨by decide, by decide⟩, by decide, by decide⟩ (Nat.le_of_ble_eq_true rfl) (xrecv putMod_at.o rfl xcl5) ?_
        exact x_iret .int dX6_picture_116 rfl rfl (by decide) (by decide) (rfl) (rfl)
      · refine x_iload_n dX6_picture_39 rfl ?_
        refine x_lookup 110 dX6_picture_40 (by decide) rfl (by decide) ?_
        refine x_aload_n dX6_picture_110 rfl ?_
        refine x_iload_n dX6_picture_111 rfl ?_
        refine x_iload_n dX6_picture_112 rfl ?_
        refine x_vi0 dX6_picture_113 cV_X6_226 (c_mHolders putMod_at hok (show ix p < 12 by omega) (by decide)) rfl rfl ⟨⟨by decide, by decide⟩, by decide, by decide⟩ (Nat.le_of_ble_eq_true rfl) (xrecv putMod_at.o rfl xcl5) ?_
        exact x_iret .int dX6_picture_116 rfl rfl (by decide) (by decide) (rfl) (rfl)
      · refine x_iload_n dX6_picture_39 rfl ?_
        refine x_lookup 110 dX6_picture_40 (by decide) rfl (by decide) ?_
        refine x_aload_n dX6_picture_110 rfl ?_
        refine x_iload_n dX6_picture_111 rfl ?_
        refine x_iload_n dX6_picture_112 rfl ?_
        refine x_vi0 dX6_picture_113 cV_X6_226 (c_mHolders putMod_at hok (show ix p < 12 by omega) (by decide)) rfl rfl ⟨⟨by decide, by decide⟩, by decide, by decide⟩ (Nat.le_of_ble_eq_true rfl) (xrecv putMod_at.o rfl xcl5) ?_
        exact x_iret .int dX6_picture_116 rfl rfl (by decide) (by decide) (rfl) (rfl)
      · refine x_iload_n dX6_picture_39 rfl ?_
        refine x_lookup 82 dX6_picture_40 (by decide) rfl (by decide) ?_
        refine x_aload_n dX6_picture_82 rfl ?_
        refine x_iload_n dX6_picture_83 rfl ?_
        refine x_vi0 dX6_picture_84 cV_X6_238 (c_mInDanger putMod_at hok (show ix p < 12 by omega)) rfl rfl ⟨⟨by decide, by decide⟩, by decide, by decide⟩ (Nat.le_of_ble_eq_true rfl) (xrecv putMod_at.o rfl xcl5) ?_
        refine x_if_eq_b 94 dX6_picture_87 (by decide) (fun c3 => ?_) (fun c3 => ?_)
        · skip
          refine x_iconst (nI 0) dX6_picture_94 (by decide) ?_
          exact x_iret .int dX6_picture_95 rfl rfl (by decide) (by decide) ((congrArg (fun z => some (Value.int (xb z))) c3).symm) (rfl)
        · refine x_iconst (nI 1) dX6_picture_90 (by decide) ?_
          refine x_goto 95 dX6_picture_91 (by decide) ?_
          exact x_iret .int dX6_picture_95 rfl rfl (by decide) (by decide) ((congrArg (fun z => some (Value.int (xb z))) c3).symm) (rfl)
      · refine x_iload_n dX6_picture_39 rfl ?_
        refine x_lookup 96 dX6_picture_40 (by decide) rfl (by decide) ?_
        refine x_aload_n dX6_picture_96 rfl ?_
        refine x_iload_n dX6_picture_97 rfl ?_
        refine x_vi0 dX6_picture_98 cV_X6_235 (c_mTruly putMod_at hok (show ix p < 12 by omega)) rfl rfl ⟨⟨by decide, by decide⟩, by decide, by decide⟩ (Nat.le_of_ble_eq_true rfl) (xrecv putMod_at.o rfl xcl5) ?_
        refine x_if_eq_b 108 dX6_picture_101 (by decide) (fun c3 => ?_) (fun c3 => ?_)
        · skip
          refine x_iconst (nI 0) dX6_picture_108 (by decide) ?_
          exact x_iret .int dX6_picture_109 rfl rfl (by decide) (by decide) ((congrArg (fun z => some (Value.int (xb z))) c3).symm) (rfl)
        · refine x_iconst (nI 1) dX6_picture_104 (by decide) ?_
          refine x_goto 109 dX6_picture_105 (by decide) ?_
          exact x_iret .int dX6_picture_109 rfl rfl (by decide) (by decide) ((congrArg (fun z => some (Value.int (xb z))) c3).symm) (rfl)
    · omega
end M19
