/-! ===== the model: changes ===== -/
abbrev Ms := Nat × Int32 × Option (Nat → Nat)
/-- behind a change the one before it is kept -/
def kFrm (s K : Mo) : Prop := K.1 3 = (kpM s 0).1 3 ∧ K.2.1 0 = (kpM s 0).2.1 0 ∧ K.1 4 = s.1 4 ∧ K.1 5 = s.1 5 ∧ K.1 7 = s.1 7 ∧ K.2.1 2 = s.2.1 2 ∧ K.2.1 11 = s.2.1 11 ∧ K.2.2.1 1 = s.2.2.1 1 ∧ K.2.2.2.1 = s.2.2.2.1 ∧ K.2.1 1 = 0
def mBy (s s' : Mo) (o : Option (Nat → Nat)) : Prop := match o with
  | none => mSame s s'
  | some P => s'.1 0 = P ∧ kFrm s s'
def mOp (h : xH) (m : Nat) (s : Mo) (R : Ms) (r : Option Value) (h' : xH) : Prop := ∃ s', r = some (.int R.2.1) ∧ h' = putMod h m s' ∧ s'.2.1 1 = R.1 ∧ mBy s s' R.2.2
theorem mAns.op {h : xH} {m : Nat} {s : Mo} {k : Nat} {v : Int32} {r : Option Value} {h' : xH} (q : mAns h m s k v r h') : mOp h m s (k, v, none) r h' := by
  obtain ⟨s', q1, q2, q3, q4⟩ := q
  exact ⟨s', q1, q2, q4, q3⟩
theorem kp1_row {s : Mo} {j : Nat} (hj : j ≠ 3) : (kp1 s).1 j = s.1 j := by
  unfold kp1
  split
  · exact va_up_ne _ _ hj
  · rfl
theorem kp1_nat {s : Mo} {j : Nat} (hj : j ≠ 0) : (kp1 s).2.1 j = s.2.1 j := by
  unfold kp1
  split
  · exact va_up_ne _ _ hj
  · rfl
theorem kp1_rest {s : Mo} : (kp1 s).2.2 = s.2.2 := by
  unfold kp1
  split
  · rfl
  · rfl
theorem kpM_row {s : Mo} {i j : Nat} (hj : j ≠ 3) : (kpM s i).1 j = s.1 j := (va_up_ne _ _ hj).trans (kp1_row hj)
theorem kpM_nat {s : Mo} {i j : Nat} (hj : j ≠ 0) : (kpM s i).2.1 j = s.2.1 j := (va_up_ne _ _ hj).trans (kp1_nat hj)
theorem kpM_rest {s : Mo} {i : Nat} : (kpM s i).2.2 = s.2.2 := kp1_rest
theorem kp1_th {s : Mo} {k : Nat} : (kp1 (mN s 1 k)).1 = (kp1 s).1 ∧ (kp1 (mN s 1 k)).2.1 0 = (kp1 s).2.1 0 := by
  unfold kp1
  have e : (mN s 1 k).2.1 0 = s.2.1 0 := rfl
  rw [e]
  by_cases c : s.2.1 0 = 8
  · rw [if_pos c, if_pos c]
    exact ⟨rfl, rfl⟩
  · rw [if_neg c, if_neg c]
    exact ⟨rfl, e⟩
theorem kpM_3 {s : Mo} {j : Nat} : (kpM s j).1 3 = cpT ((kp1 s).1 3) ((kp1 s).1 j) (353 * (kp1 s).2.1 0) 0 353 := rfl
theorem kpM_0 {s : Mo} {j : Nat} : (kpM s j).2.1 0 = (kp1 s).2.1 0 + 1 := rfl
theorem kpM_th {s : Mo} : kFrm s (kpM (mN s 1 0) 0) := by
  obtain ⟨e1, e2⟩ := kp1_th (s := s) (k := 0)
  refine ⟨?_, ?_, (kpM_row (by decide)), (kpM_row (by decide)), (kpM_row (by decide)), kpM_nat (by decide), kpM_nat (by decide), ?_, ?_, kpM_nat (by decide)⟩
  · rw [kpM_3, kpM_3, e1, e2]
  · rw [kpM_0, kpM_0, e2]
  · have := kpM_rest (s := mN s 1 0) (i := 0)
    rw [this]
    rfl
  · have := kpM_rest (s := mN s 1 0) (i := 0)
    rw [this]
    rfl
def askM (A : Nat → Nat) (p f t : Int32) : Ms := if (okB p (A 2) && okB f (A 1) && okB t (A 0)) = true then (if rC A (ix p) (ix f) = 0 then (0, -11, none) else if cBrk (rC A (ix p) (ix f)) = true then (0, -12, none) else (0, xb (rgt A (ix p) (ix f) (ix t)), some (akA A (ix p) (ix f) (ix t)))) else (1, 0, none)
def roundM (A : Nat → Nat) (x : Int32) : Ms := if ix x < 2 ^ 31 then (0, nI (mrO (A, ix x, 0) (A 2)).2.2, some (mrO (A, ix x, 0) (A 2)).1) else (1, 0, none)
def haA (A : Nat → Nat) (f t : Nat) : Nat → Nat → Nat
  | 0 => A
  | n + 1 => if rC (haA A f t n) n f = 0 then haA A f t n else va_up (haA A f t n) (125 + 19 * n + 9 + f) (rC (haA A f t n) n f ||| t)
def harmM (A : Nat → Nat) (f t : Int32) : Ms := if okB f (A 1) = true then (if 1 ≤ ix t ∧ ix t ≤ 2 ^ A 0 - 1 then (0, nI (mCop A (ix f) 3), some (haA A (ix f) (ix t) (A 2))) else (2, 0, none)) else (1, 0, none)
def reA (A : Nat → Nat) (p f : Nat) : Nat → Nat := va_up (va_up A (125 + 19 * p + 9 + f) (mGets A p f)) 3 (A 3 + 1)
def repairM (A : Nat → Nat) (p f : Int32) : Ms := if mOkPF A p f = true then (if rC A (ix p) (ix f) = 0 then (0, -11, none) else if cBrk (rC A (ix p) (ix f)) = false then (0, -13, none) else if mSrc A (ix p) (ix f) = 0 then (0, -14, none) else (0, nI (popc (mSrc A (ix p) (ix f))), some (reA A (ix p) (ix f)))) else (1, 0, none)
def waveM (A : Nat → Nat) : Ms := (0, nI (wvA A).2, some (wvA A).1)
def spreadM (A : Nat → Nat) : Ms := (0, nI (spO A (A 2)).2, some (spO A (A 2)).1)
def joA1 (A : Nat → Nat) : Nat → Nat → Nat
  | 0 => A
  | n + 1 => va_up (joA1 A n) (5 + 12 * A 1 + n) 0
def joA2 (A B : Nat → Nat) : Nat → Nat → Nat
  | 0 => B
  | n + 1 => va_up (joA2 A B n) (125 + 19 * n + 9 + A 1) 0
def joA (A : Nat → Nat) (r : Nat) : Nat → Nat := va_up (joA2 A (va_up (joA1 A 12) (5 + 12 * A 1 + 0) r) (A 2)) 1 (A 1 + 1)
def joinM (A : Nat → Nat) (r : Int32) : Ms := if 1 ≤ ix r ∧ ix r ≤ 20 then (if A 1 = 10 then (0, -15, none) else (0, nI (A 1), some (joA A (ix r)))) else (1, 0, none)
def meetM (A : Nat → Nat) (a b : Int32) : Ms := if (okB a (A 1) && okB b (A 1)) = true then (if a = b then (2, 0, none) else if (rF A (ix a) 3).testBit (ix b) = true then (0, -16, none) else (0, nI (mPairs (jnA A (ix a) (ix b))), some (jnA A (ix a) (ix b)))) else (1, 0, none)
def plA (A : Nat → Nat) (p x : Nat) : Nat → Nat := va_up A (125 + 19 * p) x
def pledgeM (A : Nat → Nat) (p x : Int32) : Ms := if okB p (A 2) = true then (if 1 ≤ ix x ∧ ix x ≤ 10 then (0, nI (rPl A (ix p)), some (plA A (ix p) (ix x))) else (2, 0, none)) else (1, 0, none)
section M24
variable {g : xG} {l : Launch} {h : xH} {m : Nat} {s : Mo}
theorem c_kp (hk : s.2.1 0 ≤ 8) : xDet g l mX6_keeps 1 0 0 [.ref m, .ref (m + 1)] (putMod h m s) none (putMod h m (kpM s 0)) := c_mKeeps (j := 0) (by decide) hk
theorem mOp.no {k : Nat} {v : Int32} {r : Option Value} : r = some (.int v) → mOp h m s (k, v, none) r (putMod h m (mN s 1 k)) := fun e => ⟨_, e, rfl, rfl, mSame.th⟩
theorem c_mWave {n : Nat} (hw : rK (s.1 0) n) (hn : n + 200 < 2 ^ 23) (hk : s.2.1 0 ≤ 8) : xMet g l mX6_wave 6 0 0 [.ref m] (putMod h m s) (mOp h m s (waveM (s.1 0))) xno := by
  have f1 := kpM_th (s := s)
  have r1 : (kpM (mN s 1 0) 0).1 0 = s.1 0 := kpM_row (by decide)
  have ck := c_kp (g := g) (l := l) (h := h) (m := m) (s := mN s 1 0) hk
  generalize kpM (mN s 1 0) 0 = K at *
  have cw := c_mWaves1 (g := g) (l := l) (h := h) (m := m) (s := K) (n := n) (by rw [r1]; exact hw) hn
  refine xMet.of (V := [some (.ref m)]) moX6_wave (Nat.le_of_ble_eq_true rfl) rfl ?_
  refine x_aload_n dX6_wave_0 rfl ?_
  refine x_iconst (nI 0) dX6_wave_1 (by decide) ?_
  refine xq_X6_thrown dX6_wave_2 f_X6_49 ?_
  refine x_aload_n dX6_wave_5 rfl ?_
  refine x_aload_n dX6_wave_6 rfl ?_
  refine x_getf dX6_wave_7 f_X6_7 putMod_at.o rfl ?_
  refine x_vv0 dX6_wave_10 cV_X6_63 (ck) rfl rfl ⟨⟨by decide, by decide⟩, by decide, by decide⟩ (Nat.le_of_ble_eq_true rfl) (xrecv putMod_at.o rfl xcl5) ?_
  refine x_aload_n dX6_wave_13 rfl ?_
  refine x_vi0 dX6_wave_14 cV_X6_297 (cw) rfl rfl ⟨⟨by decide, by decide⟩, by decide, by decide⟩ (Nat.le_of_ble_eq_true rfl) (xrecv putMod_at.o rfl xcl5) ?_
  refine x_ireturn dX6_wave_17 rfl rfl (by decide) (by decide) ⟨wvM K, by rw [r1]; rfl, rfl, f1.2.2.2.2.2.2.2.2.2, ?_, f1⟩
  show (wvA (K.1 0)).1 = _
  rw [r1]
theorem c_mSpread {n : Nat} (hw : rK (s.1 0) n) (hl : rL (s.1 0)) (hk : s.2.1 0 ≤ 8) : xMet g l mX6_spread 7 0 0 [.ref m] (putMod h m s) (mOp h m s (spreadM (s.1 0))) xno := by
  have f1 := kpM_th (s := s)
  have r1 : (kpM (mN s 1 0) 0).1 0 = s.1 0 := kpM_row (by decide)
  have ck := c_kp (g := g) (l := l) (h := h) (m := m) (s := mN s 1 0) hk
  generalize kpM (mN s 1 0) 0 = K at *
  have cw := c_mSpreads (g := g) (l := l) (h := h) (m := m) (s := K) (n := n) (by rw [r1]; exact hw) (by rw [r1]; exact hl)
  rw [r1] at cw
  refine xMet.of (V := [some (.ref m)]) moX6_spread (Nat.le_of_ble_eq_true rfl) rfl ?_
  refine x_aload_n dX6_spread_0 rfl ?_
  refine x_iconst (nI 0) dX6_spread_1 (by decide) ?_
  refine xq_X6_thrown dX6_spread_2 f_X6_49 ?_
  refine x_aload_n dX6_spread_5 rfl ?_
  refine x_aload_n dX6_spread_6 rfl ?_
  refine x_getf dX6_spread_7 f_X6_7 putMod_at.o rfl ?_
  refine x_vv0 dX6_spread_10 cV_X6_63 (ck) rfl rfl ⟨⟨by decide, by decide⟩, by decide, by decide⟩ (Nat.le_of_ble_eq_true rfl) (xrecv putMod_at.o rfl xcl5) ?_
  refine x_aload_n dX6_spread_13 rfl ?_
  refine x_vi0 dX6_spread_14 cV_X6_315 (cw) rfl rfl ⟨⟨by decide, by decide⟩, by decide, by decide⟩ (Nat.le_of_ble_eq_true rfl) (xrecv putMod_at.o rfl xcl5) ?_
  exact x_ireturn dX6_spread_17 rfl rfl (by decide) (by decide) ⟨_, rfl, rfl, f1.2.2.2.2.2.2.2.2.2, rfl, f1⟩
theorem c_mRound {n : Nat} (hw : rK (s.1 0) n) (hn : n + 200 < 2 ^ 23) (hk : s.2.1 0 ≤ 8) (a : Int32) : xMet g l mX6_round 3 0 0 [.ref m, .int a] (putMod h m s) (mOp h m s (roundM (s.1 0) a)) xno := by
  have e9 := nI_ix a
  unfold roundM
  refine xMet.of (V := [some (.ref m), some (.int a)]) moX6_round (Nat.le_of_ble_eq_true rfl) rfl ?_
  refine x_aload_n dX6_round_0 rfl ?_
  refine x_iload_n dX6_round_1 rfl ?_
  refine x_if_ge 9 dX6_round_2 (by decide) (fun c1 => ?_) (fun c1 => ?_)
  rotate_left
  · rw [if_neg (by have := neg_ix.mp (Int32.not_le.mp c1); omega)]
    refine x_iconst (nI 1) dX6_round_5 (by decide) ?_
    refine x_goto 10 dX6_round_6 (by decide) ?_
    refine xq_X6_thrown dX6_round_10 f_X6_49 ?_
    refine x_aload_n dX6_round_13 rfl ?_
    refine x_getf dX6_round_14 f_X6_49 putMod_at.o rfl ?_
    refine xP.eq (S' := [.int (nI 1)]) rfl rfl rfl rfl ?_
    refine x_if_le_n 22 dX6_round_17 (by decide) (by omega) (fun c9 => ?_) (fun c9 => ?_)
    · omega
    · refine x_iconst (nI 0) dX6_round_20 (by decide) ?_
      exact x_ireturn dX6_round_21 rfl rfl (by decide) (by decide) (mOp.no rfl)
  have hx : ix a < 2 ^ 31 := Nat.lt_of_not_le fun q => absurd (neg_ix.mpr q) (Int32.not_lt.mpr c1)
  rw [if_pos hx]
  refine xP.weak (V' := [some (.ref m), some (.int (nI (ix a)))]) (by simp [xle, xset1, fin3, e9]) ?_
  refine x_iconst (nI 0) dX6_round_9 (by decide) ?_
  refine xq_X6_thrown dX6_round_10 f_X6_49 ?_
  refine x_aload_n dX6_round_13 rfl ?_
  refine x_getf dX6_round_14 f_X6_49 putMod_at.o rfl ?_
  refine xP.eq (S' := [.int (nI 0)]) rfl rfl rfl rfl ?_
  refine x_if_le_n 22 dX6_round_17 (by decide) (by omega) (fun c9 => ?_) (fun c9 => ?_)
  rotate_left
  · omega
  have f1 := kpM_th (s := s)
  have r1 : (kpM (mN s 1 0) 0).1 0 = s.1 0 := kpM_row (by decide)
  have ck := c_kp (g := g) (l := l) (h := h) (m := m) (s := mN s 1 0) hk
  generalize kpM (mN s 1 0) 0 = K at *
  have cw := c_mRounds (g := g) (l := l) (h := h) (m := m) (s := mX K (lN (ix a))) (n := n) (x := ix a) (by show rK (K.1 0) n; rw [r1]; exact hw) hn hx rfl
  have r2 : (mX K (lN (ix a))).1 0 = s.1 0 := r1
  rw [r2] at cw
  refine x_aload_n dX6_round_22 rfl ?_
  refine x_aload_n dX6_round_23 rfl ?_
  refine x_getf dX6_round_24 f_X6_7 putMod_at.o rfl ?_
  refine x_vv0 dX6_round_27 cV_X6_63 (ck) rfl rfl ⟨⟨by decide, by decide⟩, by decide, by decide⟩ (Nat.le_of_ble_eq_true rfl) (xrecv putMod_at.o rfl xcl5) ?_
  refine x_aload_n dX6_round_30 rfl ?_
  refine x_iload_n dX6_round_31 rfl ?_
  refine x_i2l_n dX6_round_32 (by omega) ?_
  refine xq_X6_x dX6_round_33 f_X6_266 ?_
  refine x_aload_n dX6_round_36 rfl ?_
  refine x_vi0 dX6_round_37 cV_X6_279 (cw) rfl rfl ⟨⟨by decide, by decide⟩, by decide, by decide⟩ (Nat.le_of_ble_eq_true rfl) (xrecv putMod_at.o rfl xcl5) ?_
  exact x_ireturn dX6_round_40 rfl rfl (by decide) (by decide) ⟨_, rfl, rfl, f1.2.2.2.2.2.2.2.2.2, rfl, f1⟩
theorem c_mSetPledge {n : Nat} (hw : rK (s.1 0) n) (hk : s.2.1 0 ≤ 8) (p a : Int32) : xMet g l mX6_setPledge 2 0 0 [.ref m, .int p, .int a] (putMod h m s) (mOp h m s (pledgeM (s.1 0) p a)) xno := by
  have hK : s.1 0 2 ≤ 12 := hw.2.2 2 (by decide)
  have e8 := nI_ix p
  have e9 := nI_ix a
  unfold pledgeM
  refine xMet.of (V := [some (.ref m), some (.int p), some (.int a), none]) moX6_setPledge (Nat.le_of_ble_eq_true rfl) rfl ?_
  refine x_aload_n dX6_setPledge_0 rfl ?_
  refine x_aload_n dX6_setPledge_1 rfl ?_
  refine x_iload_n dX6_setPledge_2 rfl ?_
  refine x_vi0 dX6_setPledge_3 cV_X6_257 (c_mIsPicture putMod_at hw.ok) rfl rfl ⟨⟨by decide, by decide⟩, by decide, by decide⟩ (Nat.le_of_ble_eq_true rfl) (xrecv putMod_at.o rfl xcl5) ?_
  refine x_if_ne_b 13 dX6_setPledge_6 (by decide) (fun c1 => ?_) (fun c1 => ?_)
  rotate_left
  · rw [if_neg (by rw [c1]; simp)]
    refine x_iconst (nI 1) dX6_setPledge_9 (by decide) ?_
    refine x_goto 28 dX6_setPledge_10 (by decide) ?_
    refine xq_X6_thrown dX6_setPledge_28 f_X6_49 ?_
    refine x_aload_n dX6_setPledge_31 rfl ?_
    refine x_getf dX6_setPledge_32 f_X6_49 putMod_at.o rfl ?_
    refine xP.eq (S' := [.int (nI 1)]) rfl rfl rfl rfl ?_
    refine x_if_le_n 40 dX6_setPledge_35 (by decide) (by omega) (fun c9 => ?_) (fun c9 => ?_)
    · omega
    · refine x_iconst (nI 0) dX6_setPledge_38 (by decide) ?_
      exact x_ireturn dX6_setPledge_39 rfl rfl (by decide) (by decide) (mOp.no rfl)
  rw [if_pos (show okB p (s.1 0 2) = true from c1)]
  have hp := okB_lt c1
  refine x_iload_n dX6_setPledge_13 rfl ?_
  refine x_iconst (nI 1) dX6_setPledge_14 (by decide) ?_
  refine x_bipush (nI 10) dX6_setPledge_15 (by decide) ?_
  refine x_si0 dX6_setPledge_17 cS_X6_59 (c_mIsIn) rfl rfl ⟨⟨by decide, by decide⟩, by decide, by decide⟩ (Nat.le_of_ble_eq_true rfl) ?_
  rw [isIn_gen (by decide) (by decide)]
  by_cases c0 : 1 ≤ ix a ∧ ix a ≤ 10
  rotate_left
  · rw [if_neg c0, decide_eq_false c0]
    refine x_if_eq_b 27 dX6_setPledge_20 (by decide) (fun c2 => ?_) (fun c2 => ?_)
    rotate_left
    · cases c2
    refine x_iconst (nI 2) dX6_setPledge_27 (by decide) ?_
    refine xq_X6_thrown dX6_setPledge_28 f_X6_49 ?_
    refine x_aload_n dX6_setPledge_31 rfl ?_
    refine x_getf dX6_setPledge_32 f_X6_49 putMod_at.o rfl ?_
    refine xP.eq (S' := [.int (nI 2)]) rfl rfl rfl rfl ?_
    refine x_if_le_n 40 dX6_setPledge_35 (by decide) (by omega) (fun c9 => ?_) (fun c9 => ?_)
    · omega
    · refine x_iconst (nI 0) dX6_setPledge_38 (by decide) ?_
      exact x_ireturn dX6_setPledge_39 rfl rfl (by decide) (by decide) (mOp.no rfl)
  rw [if_pos c0, decide_eq_true c0]
  refine x_if_eq_b 27 dX6_setPledge_20 (by decide) (fun c2 => ?_) (fun c2 => ?_)
  · cases c2
  refine x_iconst (nI 0) dX6_setPledge_23 (by decide) ?_
  refine x_goto 28 dX6_setPledge_24 (by decide) ?_
  refine xq_X6_thrown dX6_setPledge_28 f_X6_49 ?_
  refine x_aload_n dX6_setPledge_31 rfl ?_
  refine x_getf dX6_setPledge_32 f_X6_49 putMod_at.o rfl ?_
  refine xP.eq (S' := [.int (nI 0)]) rfl rfl rfl rfl ?_
  refine x_if_le_n 40 dX6_setPledge_35 (by decide) (by omega) (fun c9 => ?_) (fun c9 => ?_)
  rotate_left
  · omega
  have f1 := kpM_th (s := s)
  have r1 : (kpM (mN s 1 0) 0).1 0 = s.1 0 := kpM_row (by decide)
  have ck := c_kp (g := g) (l := l) (h := h) (m := m) (s := mN s 1 0) hk
  generalize kpM (mN s 1 0) 0 = K at *
  refine xP.weak (V' := [some (.ref m), some (.int (nI (ix p))), some (.int (nI (ix a))), none]) (by simp [xle, xset1, fin3, e8, e9]) ?_
  refine x_aload_n dX6_setPledge_40 rfl ?_
  refine x_aload_n dX6_setPledge_41 rfl ?_
  refine x_getf dX6_setPledge_42 f_X6_7 putMod_at.o rfl ?_
  refine x_vv0 dX6_setPledge_45 cV_X6_63 (ck) rfl rfl ⟨⟨by decide, by decide⟩, by decide, by decide⟩ (Nat.le_of_ble_eq_true rfl) (xrecv putMod_at.o rfl xcl5) ?_
  refine x_aload_n dX6_setPledge_48 rfl ?_
  refine x_iload_n dX6_setPledge_49 rfl ?_
  refine x_vi0 dX6_setPledge_50 cV_X6_232 (c_mPledgeOf putMod_at (show ix p < 12 by omega)) rfl rfl ⟨⟨by decide, by decide⟩, by decide, by decide⟩ (Nat.le_of_ble_eq_true rfl) (xrecv putMod_at.o rfl xcl5) ?_
  refine x_istore_n dX6_setPledge_53 (by decide) rfl rfl ?_
  refine x_aload_n dX6_setPledge_54 rfl ?_
  refine x_getf dX6_setPledge_55 f_X6_7 putMod_at.o rfl ?_
  refine x_bipush (nI 125) dX6_setPledge_58 (by decide) ?_
  refine x_bipush (nI 19) dX6_setPledge_60 (by decide) ?_
  refine x_iload_n dX6_setPledge_62 rfl ?_
  refine x_imul_n dX6_setPledge_63 ?_
  refine x_iadd_n dX6_setPledge_64 ?_
  refine x_iload_n dX6_setPledge_65 rfl ?_
  refine xq_X6_a dX6_setPledge_66 (by omega) ?_
  refine x_iload_n dX6_setPledge_67 rfl ?_
  exact x_ireturn dX6_setPledge_68 rfl rfl (by decide) (by decide) ⟨mR K 0 (plA (s.1 0) (ix p) (ix a)), by rw [r1], by rw [r1]; rfl, f1.2.2.2.2.2.2.2.2.2, rfl, f1⟩
theorem c_mMeet {n : Nat} (hw : rK (s.1 0) n) (hk : s.2.1 0 ≤ 8) (a b : Int32) : xMet g l mX6_meet 2 0 0 [.ref m, .int a, .int b] (putMod h m s) (mOp h m s (meetM (s.1 0) a b)) xno := by
  have hN : s.1 0 1 ≤ 10 := hw.2.2 1 (by decide)
  have e8 := nI_ix a
  have e9 := nI_ix b
  unfold meetM
  refine xMet.of (V := [some (.ref m), some (.int a), some (.int b)]) moX6_meet (Nat.le_of_ble_eq_true rfl) rfl ?_
  have bad1 : (okB a (s.1 0 1) && okB b (s.1 0 1)) = false → xP g l mX6_meet [] (xR 2 0 0) (xZ g (mOp h m s (if (okB a (s.1 0 1) && okB b (s.1 0 1)) = true then (if a = b then (2, 0, none) else if (rF (s.1 0) (ix a) 3).testBit (ix b) = true then (0, -16, none) else (0, nI (mPairs (jnA (s.1 0) (ix a) (ix b))), some (jnA (s.1 0) (ix a) (ix b)))) else (1, 0, none))) xno 0 0) 17 [some (.ref m), some (.int a), some (.int b)] [.ref m] (putMod h m s) 0 0 := by
    intro q
    rw [if_neg (by rw [q]; decide)]
    refine x_iconst (nI 1) dX6_meet_17 (by decide) ?_
    refine x_goto 31 dX6_meet_18 (by decide) ?_
    refine xq_X6_thrown dX6_meet_31 f_X6_49 ?_
    refine x_aload_n dX6_meet_34 rfl ?_
    refine x_getf dX6_meet_35 f_X6_49 putMod_at.o rfl ?_
    refine xP.eq (S' := [.int (nI 1)]) rfl rfl rfl rfl ?_
    refine x_if_le_n 43 dX6_meet_38 (by decide) (by omega) (fun c9 => ?_) (fun c9 => ?_)
    · omega
    · refine x_iconst (nI 0) dX6_meet_41 (by decide) ?_
      exact x_ireturn dX6_meet_42 rfl rfl (by decide) (by decide) (mOp.no rfl)
  refine x_aload_n dX6_meet_0 rfl ?_
  refine x_aload_n dX6_meet_1 rfl ?_
  refine x_iload_n dX6_meet_2 rfl ?_
  refine x_vi0 dX6_meet_3 cV_X6_251 (c_mIsFamily putMod_at hw.ok) rfl rfl ⟨⟨by decide, by decide⟩, by decide, by decide⟩ (Nat.le_of_ble_eq_true rfl) (xrecv putMod_at.o rfl xcl5) ?_
  refine x_if_eq_b 17 dX6_meet_6 (by decide) (fun c1 => ?_) (fun c1 => ?_)
  · exact bad1 (by rw [c1]; rfl)
  refine x_aload_n dX6_meet_9 rfl ?_
  refine x_iload_n dX6_meet_10 rfl ?_
  refine x_vi0 dX6_meet_11 cV_X6_251 (c_mIsFamily putMod_at hw.ok) rfl rfl ⟨⟨by decide, by decide⟩, by decide, by decide⟩ (Nat.le_of_ble_eq_true rfl) (xrecv putMod_at.o rfl xcl5) ?_
  refine x_if_ne_b 21 dX6_meet_14 (by decide) (fun c2 => ?_) (fun c2 => ?_)
  rotate_left
  · exact bad1 (by rw [c2, Bool.and_false])
  rw [if_pos (by rw [c1, c2]; rfl)]
  have ha := okB_lt c1
  have hb := okB_lt c2
  refine xP.weak (V' := [some (.ref m), some (.int (nI (ix a))), some (.int (nI (ix b)))]) (by simp [xle, xset1, fin3, e8, e9]) ?_
  refine x_iload_n dX6_meet_21 rfl ?_
  refine x_iload_n dX6_meet_22 rfl ?_
  refine x_icmp_ne_n 30 dX6_meet_23 (by decide) (by omega) (by omega) (fun c3 => ?_) (fun c3 => ?_)
  rotate_left
  · rw [if_pos (by rw [← e8, ← e9, show ix a = ix b by omega])]
    refine x_iconst (nI 2) dX6_meet_26 (by decide) ?_
    refine x_goto 31 dX6_meet_27 (by decide) ?_
    refine xq_X6_thrown dX6_meet_31 f_X6_49 ?_
    refine x_aload_n dX6_meet_34 rfl ?_
    refine x_getf dX6_meet_35 f_X6_49 putMod_at.o rfl ?_
    refine xP.eq (S' := [.int (nI 2)]) rfl rfl rfl rfl ?_
    refine x_if_le_n 43 dX6_meet_38 (by decide) (by omega) (fun c9 => ?_) (fun c9 => ?_)
    · omega
    · refine x_iconst (nI 0) dX6_meet_41 (by decide) ?_
      exact x_ireturn dX6_meet_42 rfl rfl (by decide) (by decide) (mOp.no rfl)
  rw [if_neg (fun q => by rw [q] at c3; exact c3 rfl)]
  refine x_iconst (nI 0) dX6_meet_30 (by decide) ?_
  refine xq_X6_thrown dX6_meet_31 f_X6_49 ?_
  refine x_aload_n dX6_meet_34 rfl ?_
  refine x_getf dX6_meet_35 f_X6_49 putMod_at.o rfl ?_
  refine xP.eq (S' := [.int (nI 0)]) rfl rfl rfl rfl ?_
  refine x_if_le_n 43 dX6_meet_38 (by decide) (by omega) (fun c9 => ?_) (fun c9 => ?_)
  rotate_left
  · omega
  refine x_aload_n dX6_meet_43 rfl ?_
  refine x_iload_n dX6_meet_44 rfl ?_
  refine x_iload_n dX6_meet_45 rfl ?_
  refine x_vi0 dX6_meet_46 cV_X6_161 (c_mAreNear (s := mN s 1 0) putMod_at hw.ok (show ix a < 10 by omega) (show ix b < 32 by omega)) rfl rfl ⟨⟨by decide, by decide⟩, by decide, by decide⟩ (Nat.le_of_ble_eq_true rfl) (xrecv putMod_at.o rfl xcl5) ?_
  refine x_if_eq_b 55 dX6_meet_49 (by decide) (fun c4 => ?_) (fun c4 => ?_)
  rotate_left
  · rw [if_pos (show (rF (s.1 0) (ix a) 3).testBit (ix b) = true from c4)]
    refine x_bipush (-16) dX6_meet_52 (by decide) ?_
    exact x_ireturn dX6_meet_54 rfl rfl (by decide) (by decide) (mOp.no rfl)
  rw [if_neg (by rw [show (rF (s.1 0) (ix a) 3).testBit (ix b) = false from c4]; decide)]
  have f1 := kpM_th (s := s)
  have r1 : (kpM (mN s 1 0) 0).1 0 = s.1 0 := kpM_row (by decide)
  have ck := c_kp (g := g) (l := l) (h := h) (m := m) (s := mN s 1 0) hk
  generalize kpM (mN s 1 0) 0 = K at *
  have cj := c_mJoinsNear (g := g) (l := l) (h := h) (m := m) (s := K) (a := ix a) (b := ix b) (by rw [r1]; exact hw.ok) (by omega) (by omega)
  rw [jnS_eq, r1] at cj
  have cp := c_mPairs (g := g) (l := l) (putMod_at (h := h) (m := m) (s := mR K 0 (jnA (s.1 0) (ix a) (ix b)))) (jnA_rK hw (by omega) (by omega)).ok
  refine x_aload_n dX6_meet_55 rfl ?_
  refine x_aload_n dX6_meet_56 rfl ?_
  refine x_getf dX6_meet_57 f_X6_7 putMod_at.o rfl ?_
  refine x_vv0 dX6_meet_60 cV_X6_63 (ck) rfl rfl ⟨⟨by decide, by decide⟩, by decide, by decide⟩ (Nat.le_of_ble_eq_true rfl) (xrecv putMod_at.o rfl xcl5) ?_
  refine x_aload_n dX6_meet_63 rfl ?_
  refine x_iload_n dX6_meet_64 rfl ?_
  refine x_iload_n dX6_meet_65 rfl ?_
  refine x_vv0 dX6_meet_66 cV_X6_165 (cj) rfl rfl ⟨⟨by decide, by decide⟩, by decide, by decide⟩ (Nat.le_of_ble_eq_true rfl) (xrecv putMod_at.o rfl xcl5) ?_
  refine x_aload_n dX6_meet_69 rfl ?_
  refine x_vi0 dX6_meet_70 cV_X6_248 (cp) rfl rfl ⟨⟨by decide, by decide⟩, by decide, by decide⟩ (Nat.le_of_ble_eq_true rfl) (xrecv putMod_at.o rfl xcl5) ?_
  exact x_ireturn dX6_meet_73 rfl rfl (by decide) (by decide) ⟨_, rfl, rfl, f1.2.2.2.2.2.2.2.2.2, rfl, f1⟩
theorem c_mAsk {n : Nat} (hw : rK (s.1 0) n) (hk : s.2.1 0 ≤ 8) (p f t : Int32) : xMet g l mX6_ask 2 0 0 [.ref m, .int p, .int f, .int t] (putMod h m s) (mOp h m s (askM (s.1 0) p f t)) xno := by
  have hN : s.1 0 1 ≤ 10 := hw.2.2 1 (by decide)
  have hK : s.1 0 2 ≤ 12 := hw.2.2 2 (by decide)
  have hT : s.1 0 0 ≤ 16 := hw.2.2 0 (by decide)
  have e7 := nI_ix t
  have e8 := nI_ix p
  have e9 := nI_ix f
  refine xMet.of (V := [some (.ref m), some (.int p), some (.int f), some (.int t), none]) moX6_ask (Nat.le_of_ble_eq_true rfl) rfl ?_
  have bad1 : (okB p (s.1 0 2) && okB f (s.1 0 1) && okB t (s.1 0 0)) = false → xP g l mX6_ask [] (xR 2 0 0) (xZ g (mOp h m s (askM (s.1 0) p f t)) xno 0 0) 37 [some (.ref m), some (.int p), some (.int f), some (.int t), none] [.ref m] (putMod h m s) 0 0 := by
    intro q
    unfold askM
    rw [if_neg (by rw [q]; decide)]
    refine x_iconst (nI 1) dX6_ask_37 (by decide) ?_
    refine xq_X6_thrown dX6_ask_38 f_X6_49 ?_
    refine x_aload_n dX6_ask_41 rfl ?_
    refine x_getf dX6_ask_42 f_X6_49 putMod_at.o rfl ?_
    refine xP.eq (S' := [.int (nI 1)]) rfl rfl rfl rfl ?_
    refine x_if_le_n 50 dX6_ask_45 (by decide) (by omega) (fun c9 => ?_) (fun c9 => ?_)
    · omega
    · refine x_iconst (nI 0) dX6_ask_48 (by decide) ?_
      exact x_ireturn dX6_ask_49 rfl rfl (by decide) (by decide) (mOp.no rfl)
  refine x_aload_n dX6_ask_0 rfl ?_
  refine x_aload_n dX6_ask_1 rfl ?_
  refine x_iload_n dX6_ask_2 rfl ?_
  refine x_vi0 dX6_ask_3 cV_X6_257 (c_mIsPicture putMod_at hw.ok) rfl rfl ⟨⟨by decide, by decide⟩, by decide, by decide⟩ (Nat.le_of_ble_eq_true rfl) (xrecv putMod_at.o rfl xcl5) ?_
  refine x_if_eq_b 37 dX6_ask_6 (by decide) (fun c1 => ?_) (fun c1 => ?_)
  · exact bad1 (by rw [c1]; rfl)
  refine x_aload_n dX6_ask_9 rfl ?_
  refine x_iload_n dX6_ask_10 rfl ?_
  refine x_vi0 dX6_ask_11 cV_X6_251 (c_mIsFamily putMod_at hw.ok) rfl rfl ⟨⟨by decide, by decide⟩, by decide, by decide⟩ (Nat.le_of_ble_eq_true rfl) (xrecv putMod_at.o rfl xcl5) ?_
  refine x_if_eq_b 37 dX6_ask_14 (by decide) (fun c2 => ?_) (fun c2 => ?_)
  · exact bad1 (by rw [c2]; simp)
  refine x_iload_n dX6_ask_17 rfl ?_
  refine x_iconst (nI 0) dX6_ask_18 (by decide) ?_
  refine x_aload_n dX6_ask_19 rfl ?_
  refine x_getf dX6_ask_20 f_X6_7 putMod_at.o rfl ?_
  refine x_iconst (nI 0) dX6_ask_23 (by decide) ?_
  refine x_iald_n dX6_ask_24 putMod_at.a (by omega) (by decide) ?_
  refine x_iconst (nI 1) dX6_ask_25 (by decide) ?_
  refine x_isub dX6_ask_26 ?_
  refine x_si0 dX6_ask_27 cS_X6_59 (c_mIsIn) rfl rfl ⟨⟨by decide, by decide⟩, by decide, by decide⟩ (Nat.le_of_ble_eq_true rfl) ?_
  refine xP.eq (S' := [.int (xb (isInB t (nI 0) (nI (s.1 0 0) - nI 1))), .ref m]) rfl rfl rfl rfl ?_
  rw [isIn_ok (by omega)]
  refine x_if_eq_b 37 dX6_ask_30 (by decide) (fun c3 => ?_) (fun c3 => ?_)
  · exact bad1 (by rw [c3, Bool.and_false])
  have ho : (okB p (s.1 0 2) && okB f (s.1 0 1) && okB t (s.1 0 0)) = true := by rw [c1, c2, c3]; rfl
  have hp := okB_lt c1
  have hf := okB_lt c2
  have ht := okB_lt c3
  unfold askM
  rw [if_pos ho]
  refine xP.weak (V' := [some (.ref m), some (.int (nI (ix p))), some (.int (nI (ix f))), some (.int (nI (ix t))), none]) (by simp [xle, xset1, fin3, e7, e8, e9]) ?_
  refine x_iconst (nI 0) dX6_ask_33 (by decide) ?_
  refine x_goto 38 dX6_ask_34 (by decide) ?_
  refine xq_X6_thrown dX6_ask_38 f_X6_49 ?_
  refine x_aload_n dX6_ask_41 rfl ?_
  refine x_getf dX6_ask_42 f_X6_49 putMod_at.o rfl ?_
  refine xP.eq (S' := [.int (nI 0)]) rfl rfl rfl rfl ?_
  refine x_if_le_n 50 dX6_ask_45 (by decide) (by omega) (fun c9 => ?_) (fun c9 => ?_)
  rotate_left
  · omega
  have hc := hw.copy (p := ix p) (f := ix f) (by omega) (by omega)
  refine x_aload_n dX6_ask_50 rfl ?_
  refine x_iload_n dX6_ask_51 rfl ?_
  refine x_iload_n dX6_ask_52 rfl ?_
  refine x_vi0 dX6_ask_53 cV_X6_182 (c_mCopyOf putMod_at (show ix p < 12 by omega) (show ix f < 10 by omega)) rfl rfl ⟨⟨by decide, by decide⟩, by decide, by decide⟩ (Nat.le_of_ble_eq_true rfl) (xrecv putMod_at.o rfl xcl5) ?_
  refine xP.eq (S' := [.int (nI (rC (s.1 0) (ix p) (ix f)))]) rfl rfl rfl rfl ?_
  refine x_istore dX6_ask_56 (by decide) rfl rfl ?_
  refine x_iload dX6_ask_58 rfl ?_
  refine x_if_ne_n 66 dX6_ask_60 (by decide) (by omega) (fun c4 => ?_) (fun c4 => ?_)
  rotate_left
  · rw [if_pos (by omega)]
    refine x_bipush (-11) dX6_ask_63 (by decide) ?_
    exact x_ireturn dX6_ask_65 rfl rfl (by decide) (by decide) (mOp.no rfl)
  rw [if_neg (by omega)]
  refine x_iload dX6_ask_66 rfl ?_
  refine x_si0 dX6_ask_68 cS_X6_214 (c_mIsBroken (show rC (s.1 0) (ix p) (ix f) < 2 ^ 24 by omega)) rfl rfl ⟨⟨by decide, by decide⟩, by decide, by decide⟩ (Nat.le_of_ble_eq_true rfl) ?_
  refine x_if_eq_b 77 dX6_ask_71 (by decide) (fun c5 => ?_) (fun c5 => ?_)
  rotate_left
  · rw [if_pos c5]
    refine x_bipush (-12) dX6_ask_74 (by decide) ?_
    exact x_ireturn dX6_ask_76 rfl rfl (by decide) (by decide) (mOp.no rfl)
  rw [if_neg (by rw [c5]; decide)]
  have f1 := kpM_th (s := s)
  have r1 : (kpM (mN s 1 0) 0).1 0 = s.1 0 := kpM_row (by decide)
  have ck := c_kp (g := g) (l := l) (h := h) (m := m) (s := mN s 1 0) hk
  generalize kpM (mN s 1 0) 0 = K at *
  have ca := c_mAsks (g := g) (l := l) (h := h) (m := m) (s := K) (p := ix p) (f := ix f) (t := ix t) (by rw [r1]; exact hw.ok) (by omega) (by omega) (by omega)
  rw [r1] at ca
  refine x_aload_n dX6_ask_77 rfl ?_
  refine x_aload_n dX6_ask_78 rfl ?_
  refine x_getf dX6_ask_79 f_X6_7 putMod_at.o rfl ?_
  refine x_vv0 dX6_ask_82 cV_X6_63 (ck) rfl rfl ⟨⟨by decide, by decide⟩, by decide, by decide⟩ (Nat.le_of_ble_eq_true rfl) (xrecv putMod_at.o rfl xcl5) ?_
  refine x_aload_n dX6_ask_85 rfl ?_
  refine x_iload_n dX6_ask_86 rfl ?_
  refine x_iload_n dX6_ask_87 rfl ?_
  refine x_iload_n dX6_ask_88 rfl ?_
  refine x_vi0 dX6_ask_89 cV_X6_276 (ca) rfl rfl ⟨⟨by decide, by decide⟩, by decide, by decide⟩ (Nat.le_of_ble_eq_true rfl) (xrecv putMod_at.o rfl xcl5) ?_
  refine x_if_eq_b 99 dX6_ask_92 (by decide) (fun c6 => ?_) (fun c6 => ?_)
  · refine x_iconst (nI 0) dX6_ask_99 (by decide) ?_
    exact x_ireturn dX6_ask_100 rfl rfl (by decide) (by decide) ⟨_, by rw [c6]; rfl, rfl, f1.2.2.2.2.2.2.2.2.2, rfl, f1⟩
  · refine x_iconst (nI 1) dX6_ask_95 (by decide) ?_
    refine x_goto 100 dX6_ask_96 (by decide) ?_
    exact x_ireturn dX6_ask_100 rfl rfl (by decide) (by decide) ⟨_, by rw [c6]; rfl, rfl, f1.2.2.2.2.2.2.2.2.2, rfl, f1⟩
theorem c_mRepair {n : Nat} (hw : rK (s.1 0) n) (hk : s.2.1 0 ≤ 8) (p f : Int32) : xMet g l mX6_repair 5 0 0 [.ref m, .int p, .int f] (putMod h m s) (mOp h m s (repairM (s.1 0) p f)) xno := by
  have hok : rOk ((mN s 1 0).1 0) := hw.ok
  have e8 := nI_ix p
  have e9 := nI_ix f
  unfold repairM
  refine xMet.of (V := [some (.ref m), some (.int p), some (.int f), none, none, none]) moX6_repair (Nat.le_of_ble_eq_true rfl) rfl ?_
  refine x_aload_n dX6_repair_0 rfl ?_
  refine x_iload_n dX6_repair_1 rfl ?_
  refine x_iload_n dX6_repair_2 rfl ?_
  refine x_vi0 dX6_repair_3 cV_X6_260 (c_mAreBoth hw.ok) rfl rfl ⟨⟨by decide, by decide⟩, by decide, by decide⟩ (Nat.le_of_ble_eq_true rfl) (xrecv putMod_at.o rfl xcl5) ?_
  cases c0 : mOkPF (s.1 0) p f with
  | false =>
    rw [if_neg (by decide), if_neg (by decide)]
    refine x_if_ne_b 11 dX6_repair_6 (by decide) (fun c1 => ?_) (fun c1 => ?_)
    · cases c1
    · refine x_iconst (nI 0) dX6_repair_9 (by decide) ?_
      exact x_ireturn dX6_repair_10 rfl rfl (by decide) (by decide) (mOp.no rfl)
  | true =>
    obtain ⟨hp, hf, hp2, hf2⟩ := okPF_lt hw c0
    have hc := hw.copy hp hf
    have hs := mSrc_lt hw.ok (ix p) (ix f)
    rw [if_pos rfl, if_pos rfl]
    refine xP.weak (V' := [some (.ref m), some (.int (nI (ix p))), some (.int (nI (ix f))), none, none, none]) (by simp [xle, xset1, fin3, e8, e9]) ?_
    refine x_if_ne_b 11 dX6_repair_6 (by decide) (fun c1 => ?_) (fun c1 => ?_)
    rotate_left
    · cases c1
    refine x_aload_n dX6_repair_11 rfl ?_
    refine x_iload_n dX6_repair_12 rfl ?_
    refine x_iload_n dX6_repair_13 rfl ?_
    refine x_vi0 dX6_repair_14 cV_X6_182 (c_mCopyOf putMod_at hp hf) rfl rfl ⟨⟨by decide, by decide⟩, by decide, by decide⟩ (Nat.le_of_ble_eq_true rfl) (xrecv putMod_at.o rfl xcl5) ?_
    refine xP.eq (S' := [.int (nI (rC (s.1 0) (ix p) (ix f)))]) rfl rfl rfl rfl ?_
    refine x_istore_n dX6_repair_17 (by decide) rfl rfl ?_
    refine x_aload_n dX6_repair_18 rfl ?_
    refine x_iload_n dX6_repair_19 rfl ?_
    refine x_iload_n dX6_repair_20 rfl ?_
    refine x_vi0 dX6_repair_21 cV_X6_285 (c_mSourcesOf putMod_at hok hp hf) rfl rfl ⟨⟨by decide, by decide⟩, by decide, by decide⟩ (Nat.le_of_ble_eq_true rfl) (xrecv putMod_at.o rfl xcl5) ?_
    refine xP.eq (S' := [.int (nI (mSrc (s.1 0) (ix p) (ix f)))]) rfl rfl rfl rfl ?_
    refine x_istore dX6_repair_24 (by decide) rfl rfl ?_
    refine x_iload_n dX6_repair_26 rfl ?_
    refine x_if_ne_n 33 dX6_repair_27 (by decide) (by omega) (fun c2 => ?_) (fun c2 => ?_)
    rotate_left
    · rw [if_pos (by omega)]
      refine x_bipush (-11) dX6_repair_30 (by decide) ?_
      exact x_ireturn dX6_repair_32 rfl rfl (by decide) (by decide) (mOp.no rfl)
    rw [if_neg (by omega)]
    refine x_iload_n dX6_repair_33 rfl ?_
    refine x_si0 dX6_repair_34 cS_X6_214 (c_mIsBroken (show rC (s.1 0) (ix p) (ix f) < 2 ^ 24 by omega)) rfl rfl ⟨⟨by decide, by decide⟩, by decide, by decide⟩ (Nat.le_of_ble_eq_true rfl) ?_
    refine x_if_ne_b 43 dX6_repair_37 (by decide) (fun c3 => ?_) (fun c3 => ?_)
    rotate_left
    · rw [if_pos c3]
      refine x_bipush (-13) dX6_repair_40 (by decide) ?_
      exact x_ireturn dX6_repair_42 rfl rfl (by decide) (by decide) (mOp.no rfl)
    rw [if_neg (by rw [c3]; decide)]
    refine x_iload dX6_repair_43 rfl ?_
    refine x_if_ne_n 51 dX6_repair_45 (by decide) (by omega) (fun c4 => ?_) (fun c4 => ?_)
    rotate_left
    · rw [if_pos (by omega)]
      refine x_bipush (-14) dX6_repair_48 (by decide) ?_
      exact x_ireturn dX6_repair_50 rfl rfl (by decide) (by decide) (mOp.no rfl)
    rw [if_neg (by omega)]
    have f1 := kpM_th (s := s)
    have r1 : (kpM (mN s 1 0) 0).1 0 = s.1 0 := kpM_row (by decide)
    have ck := c_kp (g := g) (l := l) (h := h) (m := m) (s := mN s 1 0) hk
    generalize kpM (mN s 1 0) 0 = K at *
    have cg := c_mGets (g := g) (l := l) (putMod_at (h := h) (m := m) (s := K)) (by rw [r1]; exact hw.ok) hp hf
    rw [r1] at cg
    have cs := c_mSetsCopy (g := g) (l := l) (h := h) (m := m) (s := K) (p := ix p) (f := ix f) (x := mGets (s.1 0) (ix p) (ix f)) hp hf
    rw [r1] at cs
    refine x_aload_n dX6_repair_51 rfl ?_
    refine x_aload_n dX6_repair_52 rfl ?_
    refine x_getf dX6_repair_53 f_X6_7 putMod_at.o rfl ?_
    refine x_vv0 dX6_repair_56 cV_X6_63 (ck) rfl rfl ⟨⟨by decide, by decide⟩, by decide, by decide⟩ (Nat.le_of_ble_eq_true rfl) (xrecv putMod_at.o rfl xcl5) ?_
    refine x_aload_n dX6_repair_59 rfl ?_
    refine x_iload_n dX6_repair_60 rfl ?_
    refine x_iload_n dX6_repair_61 rfl ?_
    refine x_vi0 dX6_repair_62 cV_X6_291 (cg) rfl rfl ⟨⟨by decide, by decide⟩, by decide, by decide⟩ (Nat.le_of_ble_eq_true rfl) (xrecv putMod_at.o rfl xcl5) ?_
    refine x_istore dX6_repair_65 (by decide) rfl rfl ?_
    refine x_aload_n dX6_repair_67 rfl ?_
    refine x_iload_n dX6_repair_68 rfl ?_
    refine x_iload_n dX6_repair_69 rfl ?_
    refine x_iload dX6_repair_70 rfl ?_
    refine x_vv0 dX6_repair_72 cV_X6_172 (cs) rfl rfl ⟨⟨by decide, by decide⟩, by decide, by decide⟩ (Nat.le_of_ble_eq_true rfl) (xrecv putMod_at.o rfl xcl5) ?_
    refine x_aload_n dX6_repair_75 rfl ?_
    refine x_getf dX6_repair_76 f_X6_7 putMod_at.o rfl ?_
    refine x_iconst (nI 3) dX6_repair_79 (by decide) ?_
    refine x_dup2 dX6_repair_80 rfl rfl ?_
    refine x_iald_n dX6_repair_81 putMod_at.a (by omega) (by decide) ?_
    refine x_iconst (nI 1) dX6_repair_82 (by decide) ?_
    refine x_iadd_n dX6_repair_83 ?_
    refine xP.eq (S' := [.int (nI (s.1 0 3 + 1)), .int (nI 3), .ref (m + 1)]) rfl rfl (by show _ = [Value.int (nI (va_up (s.1 0) (125 + 19 * ix p + 9 + ix f) (mGets (s.1 0) (ix p) (ix f)) 3 + 1)), _, _]; rw [va_up_ne _ _ (by omega)]) rfl ?_
    refine xq_X6_a dX6_repair_84 (by decide) ?_
    refine x_iload dX6_repair_85 rfl ?_
    refine x_si0 dX6_repair_87 cS_X6_229 (c_mBits (show mSrc (s.1 0) (ix p) (ix f) < 65536 by omega)) rfl rfl ⟨⟨by decide, by decide⟩, by decide, by decide⟩ (Nat.le_of_ble_eq_true rfl) ?_
    exact x_ireturn dX6_repair_90 rfl rfl (by decide) (by decide) ⟨_, rfl, rfl, f1.2.2.2.2.2.2.2.2.2, rfl, f1⟩
end M24
