/-! ===== the model: numbers and ends ===== -/
def st1 (s : Mo) : Mo := if s.2.2.1 0 = 0 ∧ s.2.1 5 ≠ 1 then flS s (-2) else s
def st2 (lo hi : Nat) (s : Mo) : Mo := if s.2.2.1 0 = 0 ∧ isInB (nI (s.2.1 6)) (nI lo) (nI hi) = false then flS s (-3) else s
def stS (lo hi : Nat) (s : Mo) : Mo := st2 lo hi (st1 s)
def stV (s : Mo) : Nat := if s.2.2.1 0 = 0 then s.2.1 6 else 0
theorem flS_ok {s : Mo} {c : Int32} (hb : bOk s) (hl : lxOk s) : bOk (flS s c) ∧ lxOk (flS s c) := by
  unfold flS
  split
  · exact ⟨hb, hl⟩
  · exact ⟨hb, hl⟩
theorem st1_ok {s : Mo} (hb : bOk s) (hl : lxOk s) : bOk (st1 s) ∧ lxOk (st1 s) := by
  unfold st1
  split
  · exact flS_ok hb hl
  · exact ⟨hb, hl⟩
theorem st2_ok {s : Mo} {lo hi : Nat} (hb : bOk s) (hl : lxOk s) : bOk (st2 lo hi s) ∧ lxOk (st2 lo hi s) := by
  unfold st2
  split
  · exact flS_ok hb hl
  · exact ⟨hb, hl⟩
section M6
variable {g : xG} {l : Launch} {h : xH} {m : Nat} {s : Mo}
theorem c_mStands {lo hi : Nat} (hb : bOk s) (hl : lxOk s) : xDet g l mX6_stands 1 0 0 [.ref m, .int (nI lo), .int (nI hi)] (putMod h m s) (some (.int (nI (stV (stS lo hi s))))) (putMod h m (stS lo hi s)) := by
  have tail : ∀ s2 : Mo, lxOk s2 → xP g l mX6_stands [] (xR 1 0 0) (xZ g (fun r' h' => r' = some (.int (nI (stV s2))) ∧ h' = putMod h m s2) xno 0 0) 46 [some (.ref m), some (.int (nI lo)), some (.int (nI hi))] [] (putMod h m s2) 0 0 := by
    intro s2 h2
    unfold stV
    refine x_aload_n dX6_stands_46 rfl ?_
    refine x_getf dX6_stands_47 f_X6_107 putMod_at.o rfl ?_
    refine x_if_ne 60 dX6_stands_50 (by decide) (fun c1 => ?_) (fun c1 => ?_)
    · rw [if_neg c1]
      refine x_iconst (nI 0) dX6_stands_60 (by decide) ?_
      exact x_iret .int dX6_stands_61 rfl rfl (by decide) (by decide) (rfl) (rfl)
    · rw [if_pos c1]
      refine x_aload_n dX6_stands_53 rfl ?_
      refine x_getf dX6_stands_54 f_X6_88 putMod_at.o rfl ?_
      refine x_goto 61 dX6_stands_57 (by decide) ?_
      exact x_iret .int dX6_stands_61 rfl rfl (by decide) (by decide) (rfl) (rfl)
  have mid : ∀ s1 : Mo, bOk s1 → lxOk s1 → xP g l mX6_stands [] (xR 1 0 0) (xZ g (fun r' h' => r' = some (.int (nI (stV (st2 lo hi s1)))) ∧ h' = putMod h m (st2 lo hi s1)) xno 0 0) 21 [some (.ref m), some (.int (nI lo)), some (.int (nI hi))] [] (putMod h m s1) 0 0 := by
    intro s1 b1 l1
    refine x_aload_n dX6_stands_21 rfl ?_
    refine x_getf dX6_stands_22 f_X6_107 putMod_at.o rfl ?_
    refine x_if_ne 46 dX6_stands_25 (by decide) (fun c1 => ?_) (fun c1 => ?_)
    · have e : st2 lo hi s1 = s1 := by unfold st2; rw [if_neg (fun q => c1 q.1)]
      rw [e]
      exact tail s1 l1
    · refine x_aload_n dX6_stands_28 rfl ?_
      refine x_getf dX6_stands_29 f_X6_88 putMod_at.o rfl ?_
      refine x_iload_n dX6_stands_32 rfl ?_
      refine x_iload_n dX6_stands_33 rfl ?_
      refine x_si0 dX6_stands_34 cS_X6_59 (c_mIsIn) rfl rfl ⟨⟨by decide, by decide⟩, by decide, by decide⟩ (Nat.le_of_ble_eq_true rfl) ?_
      refine x_if_ne_b 46 dX6_stands_37 (by decide) (fun c2 => ?_) (fun c2 => ?_)
      · have e : st2 lo hi s1 = s1 := by unfold st2; rw [if_neg (fun q => by rw [c2] at q; cases q.2)]
        rw [e]
        exact tail s1 l1
      · have e : st2 lo hi s1 = flS s1 (-3) := by unfold st2; rw [if_pos ⟨c1, c2⟩]
        rw [e]
        refine x_aload_n dX6_stands_40 rfl ?_
        refine x_bipush (-3) dX6_stands_41 (by decide) ?_
        refine x_vv0 dX6_stands_43 cV_X6_122 (c_mFails) rfl rfl ⟨⟨by decide, by decide⟩, by decide, by decide⟩ (Nat.le_of_ble_eq_true rfl) (xrecv putMod_at.o rfl xcl5) ?_
        exact tail _ (flS_ok b1 l1).2
  have h1 := st1_ok hb hl
  unfold stS
  refine xMet.of (V := [some (.ref m), some (.int (nI lo)), some (.int (nI hi))]) moX6_stands (Nat.le_of_ble_eq_true rfl) rfl ?_
  have hk := hl.2.2.1
  refine x_aload_n dX6_stands_0 rfl ?_
  refine x_getf dX6_stands_1 f_X6_107 putMod_at.o rfl ?_
  refine x_if_ne 21 dX6_stands_4 (by decide) (fun c1 => ?_) (fun c1 => ?_)
  · have e : st1 s = s := by unfold st1; rw [if_neg (fun q => c1 q.1)]
    rw [e]
    exact mid s hb hl
  · refine x_aload_n dX6_stands_7 rfl ?_
    refine x_getf dX6_stands_8 f_X6_91 putMod_at.o rfl ?_
    refine x_iconst (nI 1) dX6_stands_11 (by decide) ?_
    refine x_icmp_eq_n 21 dX6_stands_12 (by decide) (by omega) (by omega) (fun c2 => ?_) (fun c2 => ?_)
    · have e : st1 s = s := by unfold st1; rw [if_neg (fun q => q.2 c2)]
      rw [e]
      exact mid s hb hl
    · have e : st1 s = flS s (-2) := by unfold st1; rw [if_pos ⟨c1, c2⟩]
      rw [e]
      refine x_aload_n dX6_stands_15 rfl ?_
      refine x_bipush (-2) dX6_stands_16 (by decide) ?_
      refine x_vv0 dX6_stands_18 cV_X6_122 (c_mFails) rfl rfl ⟨⟨by decide, by decide⟩, by decide, by decide⟩ (Nat.le_of_ble_eq_true rfl) (xrecv putMod_at.o rfl xcl5) ?_
      exact mid _ (flS_ok hb hl).1 (flS_ok hb hl).2
theorem c_mTakes {lo hi : Nat} (hb : bOk s) (hl : lxOk s) : xDet g l mX6_takes 3 0 0 [.ref m, .int (nI lo), .int (nI hi)] (putMod h m s) (some (.int (nI (stV (stS lo hi s))))) (putMod h m (nxS (stS lo hi s))) := by
  have h1 := st1_ok hb hl
  have h2 := st2_ok (lo := lo) (hi := hi) h1.1 h1.2
  unfold nxS
  refine xMet.of (V := [some (.ref m), some (.int (nI lo)), some (.int (nI hi)), none]) moX6_takes (Nat.le_of_ble_eq_true rfl) rfl ?_
  refine x_aload_n dX6_takes_0 rfl ?_
  refine x_iload_n dX6_takes_1 rfl ?_
  refine x_iload_n dX6_takes_2 rfl ?_
  refine x_vi0 dX6_takes_3 cV_X6_133 (c_mStands hb hl) rfl rfl ⟨⟨by decide, by decide⟩, by decide, by decide⟩ (Nat.le_of_ble_eq_true rfl) (xrecv putMod_at.o rfl xcl5) ?_
  have h3 : bOk (stS lo hi s) ∧ lxOk (stS lo hi s) := h2
  refine x_istore_n dX6_takes_6 (by decide) rfl rfl ?_
  refine x_aload_n dX6_takes_7 rfl ?_
  refine x_getf dX6_takes_8 f_X6_107 putMod_at.o rfl ?_
  refine x_if_ne 18 dX6_takes_11 (by decide) (fun c1 => ?_) (fun c1 => ?_)
  · rw [if_neg c1]
    refine x_iload_n dX6_takes_18 rfl ?_
    exact x_iret .int dX6_takes_19 rfl rfl (by decide) (by decide) (rfl) (rfl)
  · rw [if_pos c1]
    refine x_aload_n dX6_takes_14 rfl ?_
    refine x_vv0 dX6_takes_15 cV_X6_126 (c_mNext h3.1 (by have := h3.2.2.1; omega)) rfl rfl ⟨⟨by decide, by decide⟩, by decide, by decide⟩ (Nat.le_of_ble_eq_true rfl) (xrecv putMod_at.o rfl xcl5) ?_
    refine x_iload_n dX6_takes_18 rfl ?_
    exact x_iret .int dX6_takes_19 rfl rfl (by decide) (by decide) (rfl) (rfl)
def endB (s : Mo) : Bool := decide (s.2.1 5 = 2) && decide (seV (s.1 5) (s.2.1 2) (s.2.1 3) = nI 59)
theorem c_mMustEnd (hb : bOk s) (hl : lxOk s) : xDet g l mX6_mustEnd 4 0 0 [.ref m] (putMod h m s) none (putMod h m (muS (endB s) s)) := by
  have hk := hl.2.2.1
  have hp := hl.2.1
  have h1 := hl.1
  refine xMet.of (V := [some (.ref m)]) moX6_mustEnd (Nat.le_of_ble_eq_true rfl) rfl ?_
  refine x_aload_n dX6_mustEnd_0 rfl ?_
  refine x_aload_n dX6_mustEnd_1 rfl ?_
  refine x_getf dX6_mustEnd_2 f_X6_91 putMod_at.o rfl ?_
  refine x_iconst (nI 2) dX6_mustEnd_5 (by decide) ?_
  refine x_icmp_ne_n 26 dX6_mustEnd_6 (by decide) (by omega) (by omega) (fun c1 => ?_) (fun c1 => ?_)
  · have e : endB s = false := by unfold endB; rw [decide_eq_false c1, Bool.false_and]
    rw [e]
    refine x_iconst (nI 0) dX6_mustEnd_26 (by decide) ?_
    refine xP.eq (S' := [.int (xb false), .ref m]) rfl rfl rfl rfl ?_
    refine x_vv0 dX6_mustEnd_27 cV_X6_129 (c_mMust hb (by omega)) rfl rfl ⟨⟨by decide, by decide⟩, by decide, by decide⟩ (Nat.le_of_ble_eq_true rfl) (xrecv putMod_at.o rfl xcl5) ?_
    exact x_vret dX6_mustEnd_30 rfl (by decide) (by decide) rfl (rfl)
  · refine x_aload_n dX6_mustEnd_9 rfl ?_
    refine x_aload_n dX6_mustEnd_10 rfl ?_
    refine x_getf dX6_mustEnd_11 f_X6_85 putMod_at.o rfl ?_
    refine x_vi0 dX6_mustEnd_14 cV_X6_78 (c_mSee putMod_at hb (by omega)) rfl rfl ⟨⟨by decide, by decide⟩, by decide, by decide⟩ (Nat.le_of_ble_eq_true rfl) (xrecv putMod_at.o rfl xcl5) ?_
    refine x_bipush (nI 59) dX6_mustEnd_17 (by decide) ?_
    refine x_icmp_ne 26 dX6_mustEnd_19 (by decide) (fun c2 => ?_) (fun c2 => ?_)
    · have e : endB s = false := by unfold endB; rw [decide_eq_false c2, Bool.and_false]
      rw [e]
      refine x_iconst (nI 0) dX6_mustEnd_26 (by decide) ?_
      refine xP.eq (S' := [.int (xb false), .ref m]) rfl rfl rfl rfl ?_
      refine x_vv0 dX6_mustEnd_27 cV_X6_129 (c_mMust hb (by omega)) rfl rfl ⟨⟨by decide, by decide⟩, by decide, by decide⟩ (Nat.le_of_ble_eq_true rfl) (xrecv putMod_at.o rfl xcl5) ?_
      exact x_vret dX6_mustEnd_30 rfl (by decide) (by decide) rfl (rfl)
    · have e : endB s = true := by unfold endB; rw [decide_eq_true c1, decide_eq_true (Decidable.byContradiction fun q => q c2)]; rfl
      rw [e]
      refine x_iconst (nI 1) dX6_mustEnd_22 (by decide) ?_
      refine x_goto 27 dX6_mustEnd_23 (by decide) ?_
      refine xP.eq (S' := [.int (xb true), .ref m]) rfl rfl rfl rfl ?_
      refine x_vv0 dX6_mustEnd_27 cV_X6_129 (c_mMust hb (by omega)) rfl rfl ⟨⟨by decide, by decide⟩, by decide, by decide⟩ (Nat.le_of_ble_eq_true rfl) (xrecv putMod_at.o rfl xcl5) ?_
      exact x_vret dX6_mustEnd_30 rfl (by decide) (by decide) rfl (rfl)
end M6
