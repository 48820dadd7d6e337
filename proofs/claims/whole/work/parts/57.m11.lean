/-! ===== the model: dangers; a sign is written; who is ahead ===== -/
def mDgB (A : Nat → Nat) (t : Bool) (p : Nat) : Bool := if t = true then mTru A p else mDan A p
def mDgs (A : Nat → Nat) (t : Bool) : Nat := fb_ct (mDgB A t) (A 2)
def syS (s : Mo) (c : Nat) : Mo := mN (mR s 7 (va_up (s.1 7) (s.2.1 11) c)) 11 (s.2.1 11 + 1)
section M11
variable {g : xG} {l : Launch} {h : xH} {m : Nat} {s : Mo}
theorem c_mDangers (hM : ModAt h m s) (hw : rOk (s.1 0)) (t : Bool) : xDet g l mX6_dangers 4 0 0 [.ref m, .int (xb t)] h (some (.int (nI (mDgs (s.1 0) t)))) h := by
  have hN : s.1 0 2 ≤ 12 := hw.2.2.1
  refine xMet.of (V := [some (.ref m), some (.int (xb t)), none, none]) moX6_dangers (Nat.le_of_ble_eq_true rfl) rfl ?_
  refine x_iconst (nI 0) dX6_dangers_0 (by decide) ?_
  refine x_istore_n dX6_dangers_1 (by decide) rfl rfl ?_
  refine x_iconst (nI 0) dX6_dangers_2 (by decide) ?_
  refine x_istore_n dX6_dangers_3 (by decide) rfl rfl ?_
  refine xP.weak (V' := [some (.ref m), some (.int (xb t)), some (.int (nI (fb_ct (mDgB (s.1 0) t) 0))), some (.int (nI 0))]) (by simp [xle, xset1, fin3]; first | rfl | exact ⟨rfl, rfl⟩) ?_
  refine xP.loop0 (fun i => [some (.ref m), some (.int (xb t)), some (.int (nI (fb_ct (mDgB (s.1 0) t) i))), some (.int (nI i))]) (s.1 0 2) ?_ ?_
  · intro i hi ih
    have add : ∀ b : Bool, mDgB (s.1 0) t i = b → xP g l mX6_dangers [] (xR 4 0 0) (xZ g (fun r' h' => r' = some (.int (nI (mDgs (s.1 0) t))) ∧ h' = h) xno 0 0) (if b = true then 36 else 40) [some (.ref m), some (.int (xb t)), some (.int (nI (fb_ct (mDgB (s.1 0) t) i))), some (.int (nI i))] [.int (nI (fb_ct (mDgB (s.1 0) t) i))] h 0 0 := by
      intro b hb
      cases b with
      | true =>
        rw [if_pos rfl]
        have e : fb_ct (mDgB (s.1 0) t) (i + 1) = fb_ct (mDgB (s.1 0) t) i + 1 := by rw [fb_ct_succ, if_pos hb]
        refine x_iconst (nI 1) dX6_dangers_36 (by decide) ?_
        refine x_goto 41 dX6_dangers_37 (by decide) ?_
        refine x_iadd_n dX6_dangers_41 ?_
        refine x_istore_n dX6_dangers_42 (by decide) rfl rfl ?_
        refine x_iinc_n (k := 1) dX6_dangers_43 rfl (by decide) (by decide) rfl rfl ?_
        refine x_goto 4 dX6_dangers_46 (by decide) ?_
        exact xP.weak (by simp [xle, xset1, xset2, fin3, e]) ih
      | false =>
        rw [if_neg (by decide)]
        have e : fb_ct (mDgB (s.1 0) t) (i + 1) = fb_ct (mDgB (s.1 0) t) i + 0 := by rw [fb_ct_succ, if_neg (by rw [hb]; decide)]
        refine x_iconst (nI 0) dX6_dangers_40 (by decide) ?_
        refine x_iadd_n dX6_dangers_41 ?_
        refine x_istore_n dX6_dangers_42 (by decide) rfl rfl ?_
        refine x_iinc_n (k := 1) dX6_dangers_43 rfl (by decide) (by decide) rfl rfl ?_
        refine x_goto 4 dX6_dangers_46 (by decide) ?_
        exact xP.weak (by simp [xle, xset1, xset2, fin3, e]) ih
    refine x_iload_n dX6_dangers_4 rfl ?_
    refine x_aload_n dX6_dangers_5 rfl ?_
    refine x_vi0 dX6_dangers_6 cV_X6_169 (c_mPictures hM) rfl rfl ⟨⟨by decide, by decide⟩, by decide, by decide⟩ (Nat.le_of_ble_eq_true rfl) (xrecv hM.o rfl xcl5) ?_
    refine x_icmp_ge_n 49 dX6_dangers_9 (by decide) (by omega) (by omega) (fun c0 => ?_) (fun c0 => ?_)
    · omega
    · refine x_iload_n dX6_dangers_12 rfl ?_
      refine x_iload_n dX6_dangers_13 rfl ?_
      refine x_if_eq_b 28 dX6_dangers_14 (by decide) (fun c1 => ?_) (fun c1 => ?_)
      · have hd : mDgB (s.1 0) t i = mDan (s.1 0) i := by unfold mDgB; rw [if_neg (by rw [c1]; decide)]
        refine x_aload_n dX6_dangers_28 rfl ?_
        refine x_iload_n dX6_dangers_29 rfl ?_
        refine x_vi0 dX6_dangers_30 cV_X6_238 (c_mInDanger hM hw (show i < 12 by omega)) rfl rfl ⟨⟨by decide, by decide⟩, by decide, by decide⟩ (Nat.le_of_ble_eq_true rfl) (xrecv hM.o rfl xcl5) ?_
        refine x_if_eq_b 40 dX6_dangers_33 (by decide) (fun c2 => ?_) (fun c2 => ?_)
        · exact add false (hd.trans c2)
        · exact add true (hd.trans c2)
      · have hd : mDgB (s.1 0) t i = mTru (s.1 0) i := by unfold mDgB; rw [if_pos c1]
        refine x_aload_n dX6_dangers_17 rfl ?_
        refine x_iload_n dX6_dangers_18 rfl ?_
        refine x_vi0 dX6_dangers_19 cV_X6_235 (c_mTruly hM hw (show i < 12 by omega)) rfl rfl ⟨⟨by decide, by decide⟩, by decide, by decide⟩ (Nat.le_of_ble_eq_true rfl) (xrecv hM.o rfl xcl5) ?_
        refine x_if_eq_b 40 dX6_dangers_22 (by decide) (fun c2 => ?_) (fun c2 => ?_)
        · exact add false (hd.trans c2)
        · refine x_goto 36 dX6_dangers_25 (by decide) ?_
          exact add true (hd.trans c2)
  · refine x_iload_n dX6_dangers_4 rfl ?_
    refine x_aload_n dX6_dangers_5 rfl ?_
    refine x_vi0 dX6_dangers_6 cV_X6_169 (c_mPictures hM) rfl rfl ⟨⟨by decide, by decide⟩, by decide, by decide⟩ (Nat.le_of_ble_eq_true rfl) (xrecv hM.o rfl xcl5) ?_
    refine x_icmp_ge_n 49 dX6_dangers_9 (by decide) (by omega) (by omega) (fun c0 => ?_) (fun c0 => ?_)
    · refine x_iload_n dX6_dangers_49 rfl ?_
      exact x_iret .int dX6_dangers_50 rfl rfl (by decide) (by decide) (rfl) (rfl)
    · omega
theorem c_mSays {c : Nat} (hl : s.2.1 11 < 1500) : xDet g l mX6_says 0 0 0 [.ref m, .int (nI c)] (putMod h m s) none (putMod h m (syS s c)) := by
  refine xMet.of (V := [some (.ref m), some (.int (nI c))]) moX6_says (Nat.le_of_ble_eq_true rfl) rfl ?_
  refine x_aload_n dX6_says_0 rfl ?_
  refine x_getf dX6_says_1 f_X6_39 putMod_at.o rfl ?_
  refine x_aload_n dX6_says_4 rfl ?_
  refine x_getf dX6_says_5 f_X6_324 putMod_at.o rfl ?_
  refine x_iload_n dX6_says_8 rfl ?_
  refine xq_X6_written dX6_says_9 (by omega) ?_
  refine x_aload_n dX6_says_10 rfl ?_
  refine x_dup dX6_says_11 rfl ?_
  refine x_getf dX6_says_12 f_X6_324 putMod_at.o rfl ?_
  refine x_iconst (nI 1) dX6_says_15 (by decide) ?_
  refine x_iadd_n dX6_says_16 ?_
  refine xq_X6_writtenMany dX6_says_17 f_X6_324 ?_
  exact x_vret dX6_says_20 rfl (by decide) (by decide) rfl (rfl)
end M11
