/-! ===== the model: what is tried, and put back ===== -/
/-- the same archive, as far as later answers show it -/
def mSame (s s' : Mo) : Prop := (∀ k, k < 353 → s'.1 0 k = s.1 0 k) ∧ s'.1 3 = s.1 3 ∧ s'.1 4 = s.1 4 ∧ s'.1 5 = s.1 5 ∧ s'.1 7 = s.1 7 ∧ s'.2.1 0 = s.2.1 0 ∧ s'.2.1 2 = s.2.1 2 ∧ s'.2.1 11 = s.2.1 11 ∧ s'.2.2.1 1 = s.2.2.1 1 ∧ s'.2.2.2.1 = s.2.2.2.1
/-- an answer v that leaves the archive as it was; k tells how it throws -/
def mAns (h : xH) (m : Nat) (s : Mo) (k : Nat) (v : Int32) (r : Option Value) (h' : xH) : Prop := ∃ s', r = some (.int v) ∧ h' = putMod h m s' ∧ mSame s s' ∧ s'.2.1 1 = k
theorem mSame.th {s : Mo} {k : Nat} : mSame s (mN s 1 k) := ⟨fun _ _ => rfl, rfl, rfl, rfl, rfl, rfl, rfl, rfl, rfl, rfl⟩
theorem mAns.det {h : xH} {m : Nat} {s : Mo} {k : Nat} {v : Int32} {r : Option Value} {h' : xH} (q : r = some (.int v) ∧ h' = putMod h m (mN s 1 k)) : mAns h m s k v r h' := ⟨_, q.1, q.2, mSame.th, rfl⟩
/-- s' is s but for the present row and what is not shown -/
def mFrm (s s' : Mo) : Prop := s'.1 2 = s.1 2 ∧ s'.1 3 = s.1 3 ∧ s'.1 4 = s.1 4 ∧ s'.1 5 = s.1 5 ∧ s'.1 7 = s.1 7 ∧ s'.2.1 0 = s.2.1 0 ∧ s'.2.1 2 = s.2.1 2 ∧ s'.2.1 11 = s.2.1 11 ∧ s'.2.2.1 1 = s.2.2.1 1 ∧ s'.2.2.2.1 = s.2.2.2.1 ∧ s'.2.1 1 = s.2.1 1
theorem mFrm.rf (s : Mo) : mFrm s s := ⟨rfl, rfl, rfl, rfl, rfl, rfl, rfl, rfl, rfl, rfl, rfl⟩
theorem mFrm.tr {a b c : Mo} (h1 : mFrm a b) (h2 : mFrm b c) : mFrm a c := ⟨h2.1.trans h1.1, h2.2.1.trans h1.2.1, h2.2.2.1.trans h1.2.2.1, h2.2.2.2.1.trans h1.2.2.2.1, h2.2.2.2.2.1.trans h1.2.2.2.2.1, h2.2.2.2.2.2.1.trans h1.2.2.2.2.2.1, h2.2.2.2.2.2.2.1.trans h1.2.2.2.2.2.2.1, h2.2.2.2.2.2.2.2.1.trans h1.2.2.2.2.2.2.2.1, h2.2.2.2.2.2.2.2.2.1.trans h1.2.2.2.2.2.2.2.2.1, h2.2.2.2.2.2.2.2.2.2.1.trans h1.2.2.2.2.2.2.2.2.2.1, h2.2.2.2.2.2.2.2.2.2.2.trans h1.2.2.2.2.2.2.2.2.2.2⟩
/-- the present one is laid aside to be tried with; put back -/
def trM (s : Mo) : Mo := mR s 2 (cpT (s.1 2) (s.1 0) 0 0 353)
def bkM (s : Mo) : Mo := mR s 0 (cpT (s.1 0) (s.1 2) 0 0 353)
theorem tr_same {s s' : Mo} (hf : mFrm (trM s) s') : mSame s (bkM s') := by
  obtain ⟨h1, h2, h3, h4, h5, h6, h7, h8, h9, h10, h11⟩ := hf
  refine ⟨fun k hk => ?_, h2, h3, h4, h5, h6, h7, h8, h9, h10⟩
  show cpT (s'.1 0) (s'.1 2) 0 0 353 k = s.1 0 k
  rw [h1]
  unfold cpT
  rw [if_pos (by omega)]
  show cpT (s.1 2) (s.1 0) 0 0 353 _ = _
  unfold cpT
  rw [if_pos (by omega)]
  rfl
section M21
variable {g : xG} {l : Launch} {h : xH} {m : Nat} {s : Mo}
theorem hset_tried {f : Nat → Nat} : hset (putMod h m s) (m + 3) (.inl (0, 353, .inl (fun q => nI (f q)))) = putMod h m (mR s 2 f) := hset_mod 3 (by decide) rfl (lt10 ⟨fun _ => rfl, fun _ => rfl, fun _ => rfl, fun q => absurd rfl q, fun _ => rfl, fun _ => rfl, fun _ => rfl, fun _ => rfl, fun _ => rfl, fun _ => rfl⟩)
theorem c_try : xDet g l mX6_copies 0 0 0 [.ref (m + 3), .int (nI 0), .ref (m + 1), .int (nI 0)] (putMod h m s) none (putMod h m (trM s)) := by
  have cc := c_mCopies (g := g) (l := l) (h := putMod h m s) (t := m + 3) (a := m + 1) (nt := 353) (na := 353) (ta := 0) (fa := 0) putMod_at.tried putMod_at.a (by omega) (by decide) (by decide) (by decide) (by decide)
  rw [hset_tried] at cc
  exact cc
theorem c_bck : xDet g l mX6_copies 0 0 0 [.ref (m + 1), .int (nI 0), .ref (m + 3), .int (nI 0)] (putMod h m s) none (putMod h m (bkM s)) := by
  have cc := c_mCopies (g := g) (l := l) (h := putMod h m s) (t := m + 1) (a := m + 3) (nt := 353) (na := 353) (ta := 0) (fa := 0) putMod_at.a putMod_at.tried (by omega) (by decide) (by decide) (by decide) (by decide)
  rw [hset_a] at cc
  exact cc
theorem c_mWouldSpread {n : Nat} (hw : rK (s.1 0) n) (hl : rL (s.1 0)) : xMet g l mX6_wouldSpread 7 0 0 [.ref m] (putMod h m s) (mAns h m s 0 (nI (spO (s.1 0) (s.1 0 2)).2)) xno := by
  refine xMet.of (V := [some (.ref m), none]) moX6_wouldSpread (Nat.le_of_ble_eq_true rfl) rfl ?_
  refine x_aload_n dX6_wouldSpread_0 rfl ?_
  refine x_iconst (nI 0) dX6_wouldSpread_1 (by decide) ?_
  refine xq_X6_thrown dX6_wouldSpread_2 f_X6_49 ?_
  refine x_aload_n dX6_wouldSpread_5 rfl ?_
  refine x_getf dX6_wouldSpread_6 f_X6_16 putMod_at.o rfl ?_
  refine x_iconst (nI 0) dX6_wouldSpread_9 (by decide) ?_
  refine x_aload_n dX6_wouldSpread_10 rfl ?_
  refine x_getf dX6_wouldSpread_11 f_X6_7 putMod_at.o rfl ?_
  refine x_iconst (nI 0) dX6_wouldSpread_14 (by decide) ?_
  refine x_sv0 dX6_wouldSpread_15 cS_X6_55 (c_try) rfl rfl ⟨⟨by decide, by decide⟩, by decide, by decide⟩ (Nat.le_of_ble_eq_true rfl) ?_
  refine x_aload_n dX6_wouldSpread_18 rfl ?_
  refine x_vi0 dX6_wouldSpread_19 cV_X6_315 (c_mSpreads (s := trM (mN s 1 0)) hw hl) rfl rfl ⟨⟨by decide, by decide⟩, by decide, by decide⟩ (Nat.le_of_ble_eq_true rfl) (xrecv putMod_at.o rfl xcl5) ?_
  refine x_istore_n dX6_wouldSpread_22 (by decide) rfl rfl ?_
  refine x_aload_n dX6_wouldSpread_23 rfl ?_
  refine x_getf dX6_wouldSpread_24 f_X6_7 putMod_at.o rfl ?_
  refine x_iconst (nI 0) dX6_wouldSpread_27 (by decide) ?_
  refine x_aload_n dX6_wouldSpread_28 rfl ?_
  refine x_getf dX6_wouldSpread_29 f_X6_16 putMod_at.o rfl ?_
  refine x_iconst (nI 0) dX6_wouldSpread_32 (by decide) ?_
  refine x_sv0 dX6_wouldSpread_33 cS_X6_55 (c_bck) rfl rfl ⟨⟨by decide, by decide⟩, by decide, by decide⟩ (Nat.le_of_ble_eq_true rfl) ?_
  refine x_iload_n dX6_wouldSpread_36 rfl ?_
  refine x_ireturn dX6_wouldSpread_37 rfl rfl (by decide) (by decide) ⟨_, rfl, rfl, ?_, rfl⟩
  exact tr_same (s := mN s 1 0) ⟨rfl, rfl, rfl, rfl, rfl, rfl, rfl, rfl, rfl, rfl, rfl⟩
/-! rounds to find -/
def rtN (q : (Nat → Nat) × Nat × Nat) : (Nat → Nat) × Nat × Nat := mrO (q.1, q.2.1, 0) (q.1 2)
def rtM : (Nat → Nat) × Nat × Nat → Nat → Nat → Int32
  | q, 0, i => if mAll q.1 1 = mAll q.1 3 then nI i else -1
  | q, f + 1, i => if mAll q.1 3 < mAll q.1 1 then rtM (rtN q) f (i + 1) else if mAll q.1 1 = mAll q.1 3 then nI i else -1
theorem rdM_step {s : Mo} {q q' : (Nat → Nat) × Nat × Nat} {u n : Nat} : mN (rdM (mN (rdM s q) 8 u) q') 8 n = mN (rdM s q') 8 n := by
  refine Prod.ext (funext fun i => ?_) (Prod.ext (funext fun i => ?_) rfl)
  · show va_up (va_up s.1 0 q.1) 0 q'.1 i = va_up s.1 0 q'.1 i
    unfold va_up
    split <;> rfl
  · show va_up (va_up s.2.1 8 u) 8 n i = va_up s.2.1 8 n i
    unfold va_up
    split <;> rfl
theorem c_mRoundsToFind {n : Nat} (hw : rK (s.1 0) n) (hn : n + 10000 < 2 ^ 23) (a : Int32) : xMet g l mX6_roundsToFind 4 0 0 [.ref m, .int a] (putMod h m s) (mAns h m s (if ix a < 2 ^ 31 then 0 else 1) (if ix a < 2 ^ 31 then rtM (s.1 0, ix a, 0) 60 0 else 0)) xno := by
  have e9 := nI_ix a
  refine xMet.of (V := [some (.ref m), some (.int a), none, none]) moX6_roundsToFind (Nat.le_of_ble_eq_true rfl) rfl ?_
  refine x_aload_n dX6_roundsToFind_0 rfl ?_
  refine x_iload_n dX6_roundsToFind_1 rfl ?_
  refine x_if_ge 9 dX6_roundsToFind_2 (by decide) (fun c1 => ?_) (fun c1 => ?_)
  rotate_left
  · rw [if_neg (by have := neg_ix.mp (Int32.not_le.mp c1); omega), if_neg (by have := neg_ix.mp (Int32.not_le.mp c1); omega)]
    refine x_iconst (nI 1) dX6_roundsToFind_5 (by decide) ?_
    refine x_goto 10 dX6_roundsToFind_6 (by decide) ?_
    refine xq_X6_thrown dX6_roundsToFind_10 f_X6_49 ?_
    refine x_aload_n dX6_roundsToFind_13 rfl ?_
    refine x_getf dX6_roundsToFind_14 f_X6_49 putMod_at.o rfl ?_
    refine xP.eq (S' := [.int (nI 1)]) rfl rfl rfl rfl ?_
    refine x_if_le_n 22 dX6_roundsToFind_17 (by decide) (by omega) (fun c9 => ?_) (fun c9 => ?_)
    · omega
    · refine x_iconst (nI 0) dX6_roundsToFind_20 (by decide) ?_
      exact x_ireturn dX6_roundsToFind_21 rfl rfl (by decide) (by decide) (mAns.det ⟨rfl, rfl⟩)
  have hx : ix a < 2 ^ 31 := Nat.lt_of_not_le fun q => absurd (neg_ix.mpr q) (Int32.not_lt.mpr c1)
  rw [if_pos hx, if_pos hx]
  refine xP.weak (V' := [some (.ref m), some (.int (nI (ix a))), none, none]) (by simp [xle, xset1, fin3, e9]) ?_
  refine x_iconst (nI 0) dX6_roundsToFind_9 (by decide) ?_
  refine xq_X6_thrown dX6_roundsToFind_10 f_X6_49 ?_
  refine x_aload_n dX6_roundsToFind_13 rfl ?_
  refine x_getf dX6_roundsToFind_14 f_X6_49 putMod_at.o rfl ?_
  refine xP.eq (S' := [.int (nI 0)]) rfl rfl rfl rfl ?_
  refine x_if_le_n 22 dX6_roundsToFind_17 (by decide) (by omega) (fun c9 => ?_) (fun c9 => ?_)
  rotate_left
  · omega
  refine x_aload_n dX6_roundsToFind_22 rfl ?_
  refine x_getf dX6_roundsToFind_23 f_X6_16 putMod_at.o rfl ?_
  refine x_iconst (nI 0) dX6_roundsToFind_26 (by decide) ?_
  refine x_aload_n dX6_roundsToFind_27 rfl ?_
  refine x_getf dX6_roundsToFind_28 f_X6_7 putMod_at.o rfl ?_
  refine x_iconst (nI 0) dX6_roundsToFind_31 (by decide) ?_
  refine x_sv0 dX6_roundsToFind_32 cS_X6_55 (c_try) rfl rfl ⟨⟨by decide, by decide⟩, by decide, by decide⟩ (Nat.le_of_ble_eq_true rfl) ?_
  refine x_aload_n dX6_roundsToFind_35 rfl ?_
  refine x_iload_n dX6_roundsToFind_36 rfl ?_
  refine x_i2l_n dX6_roundsToFind_37 (by omega) ?_
  refine xq_X6_x dX6_roundsToFind_38 f_X6_266 ?_
  refine x_iconst (nI 0) dX6_roundsToFind_41 (by decide) ?_
  refine x_istore_n dX6_roundsToFind_42 (by decide) rfl rfl ?_
  have fin : ∀ (S : Mo) (i : Nat) (v3 : Option Value), rOk (S.1 0) → mFrm (trM (mN s 1 0)) S → xP g l mX6_roundsToFind [] (xR 4 0 0) (xZ g (mAns h m s 0 (if mAll (S.1 0) 1 = mAll (S.1 0) 3 then nI i else -1)) xno 0 0) 76 [some (.ref m), some (.int (nI (ix a))), some (.int (nI i)), v3] [] (putMod h m S) 0 0 := by
    intro S i v3 hok hf
    have h1 := mAll_lt hok 1
    have h3 := mAll_lt hok 3
    have endx : ∀ (b : Bool) (v : Int32), (if b = true then nI i else -1) = v → xP g l mX6_roundsToFind [] (xR 4 0 0) (xZ g (mAns h m s 0 v) xno 0 0) 94 [some (.ref m), some (.int (nI (ix a))), some (.int (nI i)), v3] [.int (xb b)] (putMod h m S) 0 0 := by
      intro b v hv
      subst hv
      refine x_istore_n dX6_roundsToFind_94 (by decide) (by cases v3 <;> rfl) rfl ?_
      refine xP.weak (V' := [some (.ref m), some (.int (nI (ix a))), some (.int (nI i)), some (.int (xb b))]) (by cases v3 <;> simp [xle, xset1, fin3]) ?_
      refine x_aload_n dX6_roundsToFind_95 rfl ?_
      refine x_getf dX6_roundsToFind_96 f_X6_7 putMod_at.o rfl ?_
      refine x_iconst (nI 0) dX6_roundsToFind_99 (by decide) ?_
      refine x_aload_n dX6_roundsToFind_100 rfl ?_
      refine x_getf dX6_roundsToFind_101 f_X6_16 putMod_at.o rfl ?_
      refine x_iconst (nI 0) dX6_roundsToFind_104 (by decide) ?_
      refine x_sv0 dX6_roundsToFind_105 cS_X6_55 (c_bck) rfl rfl ⟨⟨by decide, by decide⟩, by decide, by decide⟩ (Nat.le_of_ble_eq_true rfl) ?_
      have hs := tr_same (s := mN s 1 0) hf
      refine x_iload_n dX6_roundsToFind_108 rfl ?_
      refine x_if_eq_b 116 dX6_roundsToFind_109 (by decide) (fun c5 => ?_) (fun c5 => ?_)
      · rw [c5, if_neg (by decide)]
        refine x_iconst (-1) dX6_roundsToFind_116 (by decide) ?_
        exact x_ireturn dX6_roundsToFind_117 rfl rfl (by decide) (by decide) ⟨_, rfl, rfl, hs, hf.2.2.2.2.2.2.2.2.2.2⟩
      · rw [c5, if_pos rfl]
        refine x_iload_n dX6_roundsToFind_112 rfl ?_
        refine x_goto 117 dX6_roundsToFind_113 (by decide) ?_
        exact x_ireturn dX6_roundsToFind_117 rfl rfl (by decide) (by decide) ⟨_, rfl, rfl, hs, hf.2.2.2.2.2.2.2.2.2.2⟩
    refine x_aload_n dX6_roundsToFind_76 rfl ?_
    refine x_iconst (nI 1) dX6_roundsToFind_77 (by decide) ?_
    refine x_vi0 dX6_roundsToFind_78 cV_X6_241 (c_mAllOf putMod_at hok (by decide)) rfl rfl ⟨⟨by decide, by decide⟩, by decide, by decide⟩ (Nat.le_of_ble_eq_true rfl) (xrecv putMod_at.o rfl xcl5) ?_
    refine x_aload_n dX6_roundsToFind_81 rfl ?_
    refine x_iconst (nI 3) dX6_roundsToFind_82 (by decide) ?_
    refine x_vi0 dX6_roundsToFind_83 cV_X6_241 (c_mAllOf putMod_at hok (by decide)) rfl rfl ⟨⟨by decide, by decide⟩, by decide, by decide⟩ (Nat.le_of_ble_eq_true rfl) (xrecv putMod_at.o rfl xcl5) ?_
    refine x_icmp_ne_n 93 dX6_roundsToFind_86 (by decide) (by omega) (by omega) (fun c4 => ?_) (fun c4 => ?_)
    · refine x_iconst (nI 0) dX6_roundsToFind_93 (by decide) ?_
      exact endx false _ (by rw [if_neg c4]; rfl)
    · refine x_iconst (nI 1) dX6_roundsToFind_89 (by decide) ?_
      refine x_goto 94 dX6_roundsToFind_90 (by decide) ?_
      exact endx true _ (by rw [if_pos rfl, if_pos (show mAll (S.1 0) 1 = mAll (S.1 0) 3 by omega)])
  have key : ∀ (f i : Nat) (q : (Nat → Nat) × Nat × Nat) (S : Mo) (v3 : Option Value), f + i = 60 → rK q.1 (n + 120 * i) → q.2.1 < 2 ^ 31 → S.1 0 = q.1 → S.2.2.2.2 = lN q.2.1 → mFrm (trM (mN s 1 0)) S → xP g l mX6_roundsToFind [] (xR 4 0 0) (xZ g (mAns h m s 0 (rtM q f i)) xno 0 0) 43 [some (.ref m), some (.int (nI (ix a))), some (.int (nI i)), v3] [] (putMod h m S) 0 0 := by
    intro f
    induction f with
    | zero =>
      intro i q S v3 hf hq hqx e1 e2 hS
      have hok : rOk (S.1 0) := by rw [e1]; exact hq.ok
      have k := fin S i v3 hok hS
      rw [rtM, ← e1]
      refine x_iload_n dX6_roundsToFind_43 rfl ?_
      refine x_bipush (nI 60) dX6_roundsToFind_44 (by decide) ?_
      refine x_icmp_ge_n 76 dX6_roundsToFind_46 (by decide) (by omega) (by omega) (fun c2 => ?_) (fun c2 => ?_)
      · exact k
      · omega
    | succ f ih =>
      intro i q S v3 hf hq hqx e1 e2 hS
      have hok : rOk (S.1 0) := by rw [e1]; exact hq.ok
      have h1 := mAll_lt hok 1
      have h3 := mAll_lt hok 3
      have k := fin S i v3 hok hS
      have hqS : rK (S.1 0) (n + 120 * i) := by rw [e1]; exact hq
      rw [rtM]
      refine x_iload_n dX6_roundsToFind_43 rfl ?_
      refine x_bipush (nI 60) dX6_roundsToFind_44 (by decide) ?_
      refine x_icmp_ge_n 76 dX6_roundsToFind_46 (by decide) (by omega) (by omega) (fun c2 => ?_) (fun c2 => ?_)
      · omega
      · refine x_aload_n dX6_roundsToFind_49 rfl ?_
        refine x_iconst (nI 1) dX6_roundsToFind_50 (by decide) ?_
        refine x_vi0 dX6_roundsToFind_51 cV_X6_241 (c_mAllOf putMod_at hok (by decide)) rfl rfl ⟨⟨by decide, by decide⟩, by decide, by decide⟩ (Nat.le_of_ble_eq_true rfl) (xrecv putMod_at.o rfl xcl5) ?_
        refine x_aload_n dX6_roundsToFind_54 rfl ?_
        refine x_iconst (nI 3) dX6_roundsToFind_55 (by decide) ?_
        refine x_vi0 dX6_roundsToFind_56 cV_X6_241 (c_mAllOf putMod_at hok (by decide)) rfl rfl ⟨⟨by decide, by decide⟩, by decide, by decide⟩ (Nat.le_of_ble_eq_true rfl) (xrecv putMod_at.o rfl xcl5) ?_
        refine x_icmp_le_n 76 dX6_roundsToFind_59 (by decide) (by omega) (by omega) (fun c3 => ?_) (fun c3 => ?_)
        · rw [← e1, if_neg (by omega)]
          exact k
        · rw [if_pos (by rw [← e1]; omega)]
          have hK : S.1 0 2 ≤ 12 := hqS.2.2 2 (by decide)
          have hr := mrO_rK (q := (S.1 0, q.2.1, 0)) hqS (S.1 0 2) hK (by omega)
          have er : mrO (S.1 0, q.2.1, 0) (S.1 0 2) = rtN q := by unfold rtN; rw [e1]
          have cr := c_mRounds (g := g) (l := l) (h := h) (m := m) (s := S) hqS (by omega) hqx e2
          have hx2 := mrO_x (q := (S.1 0, q.2.1, 0)) hqx (S.1 0 2)
          rw [er] at hr cr hx2
          refine x_aload_n dX6_roundsToFind_62 rfl ?_
          refine x_aload_n dX6_roundsToFind_63 rfl ?_
          refine x_vi0 dX6_roundsToFind_64 cV_X6_279 (cr) rfl rfl ⟨⟨by decide, by decide⟩, by decide, by decide⟩ (Nat.le_of_ble_eq_true rfl) (xrecv putMod_at.o rfl xcl5) ?_
          refine xq_X6_unused dX6_roundsToFind_67 f_X6_282 ?_
          refine x_iinc_n (k := 1) dX6_roundsToFind_70 rfl (by decide) (by decide) rfl rfl ?_
          refine x_goto 43 dX6_roundsToFind_73 (by decide) ?_
          refine xP.weak (by cases v3 <;> simp [xle, xset1, fin3]) (ih (i + 1) (rtN q) (mN (rdM S (rtN q)) 8 (rtN q).2.2) v3 (by omega) (hr.mono (by omega) (by omega)) hx2 rfl rfl ?_)
          exact hS.tr ⟨rfl, rfl, rfl, rfl, rfl, rfl, rfl, rfl, rfl, rfl, rfl⟩
  obtain ⟨N, hN⟩ : ∃ N, N = 60 := ⟨_, rfl⟩
  rw [← hN]
  exact xP.weak (by simp [xle, xset1, fin3]) (key N 0 (s.1 0, ix a, 0) (mX (trM (mN s 1 0)) (lN (ix a))) none (by omega) hw hx rfl rfl ⟨rfl, rfl, rfl, rfl, rfl, rfl, rfl, rfl, rfl, rfl, rfl⟩)
end M21
