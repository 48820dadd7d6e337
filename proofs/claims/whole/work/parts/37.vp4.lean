/-! ===== VillagePhotos: trials ===== -/
def leastF (st : Ar) : Nat → Nat
  | 0 => 0
  | n + 1 => if n = 0 then 0 else if trustV st n < trustV st (leastF st n) then n else leastF st n
theorem fb_sm_le1 {f : Nat → Nat} (hf : ∀ k, f k ≤ 1) : ∀ n, fb_sm f n ≤ n := by
  intro n
  induction n with
  | zero => exact Nat.le_refl _
  | succ n ih =>
    have := hf n
    rw [fb_sm_succ]
    omega
theorem needOfV_le {st : Ar} (hw : aOk st) {f : Nat} : needOfV st f ≤ 12 := Nat.le_trans (fb_sm_le1 (fun p => by have := bit_lt (needV st p) f; omega) _) hw.2.2.1
theorem leastF_lt {st : Ar} : ∀ n, leastF st n ≤ n - 1 := by
  intro n
  induction n with
  | zero => exact Nat.le_refl _
  | succ n ih =>
    rw [leastF]
    split
    · omega
    · split <;> omega
def leastR (st : Ar) : Rs := (0, nI (leastF st (st.1 1)), none)
def mostR (st : Ar) : Rs := (0, (amax (needOfV st) (st.1 1)).2, none)
def wavesR (st : Ar) : Rs := (0, nI (wavN st), none)
def lostR (st : Ar) : Rs := (0, nI (brkV (wavE st)), none)
def spreadsR (st : Ar) : Rs := (0, nI (mcO st (st.1 2)).2, none)
def rtF : Ar × Nat → Nat → Nat → Int32
  | s, 0, i => if unsV s.1 = 0 then nI i else -1
  | s, f + 1, i => if unsV s.1 = 0 then nI i else rtF (rndO s (s.1.1 2)) f (i + 1)
def roundsR (st : Ar) (x : Int32) : Rs := if ix x < 2 ^ 31 then (0, rtF (st, ix x) 60 0, none) else (1, 0, none)
def dangV (st : Ar) : Nat := fb_ct (inDB (mcO st (st.1 2)).1) (st.1 2)
def bp1 (st : Ar) (one other : Nat) (s : Nat × Option Nat) : Nat × Option Nat := if (st.2.2 1 one).testBit other = true then s else if dangV (nbS st one other) < s.1 then (dangV (nbS st one other), some (10 * one + other)) else s
def bpI (st : Ar) (one : Nat) (s : Nat × Option Nat) : Nat → Nat × Option Nat
  | 0 => s
  | k + 1 => if k ≤ one then s else bp1 st one k (bpI st one s k)
def bpO (st : Ar) : Nat → Nat × Option Nat
  | 0 => (dangV st, none)
  | n + 1 => bpI st n (bpO st n) (st.1 1)
def pairR (st : Ar) : Rs := (0, oI (bpO st (st.1 1)).2, none)
section V4
variable {g : xG} {l : Launch} {h : xH} {v : Nat} {w : Wd}
theorem opQ.T (hW : WAt h v w) {x : Int32} {T : Ar} : opQ v w h (0, x, none) (some (.int x)) (putArch h (v + 13) T) := ⟨rfl, rfl, _, wTo.T hW T, rfl, rfl⟩
theorem c_tr (hW : WAt h v w) (T : Ar) : xDet g l mX0_takeFrom 1 0 0 [.ref (v + 13), .ref (v + 1)] (putArch h (v + 13) T) none (putArch h (v + 13) w.1.1) := c_takeFrom hW.present (Or.inl (by omega))
theorem c_tr0 (hW : WAt h v w) : xDet g l mX0_takeFrom 1 0 0 [.ref (v + 13), .ref (v + 1)] h none (putArch h (v + 13) w.1.1) := by
  have := c_tr (g := g) (l := l) hW w.1.2
  rw [hW.T_self] at this
  exact this
theorem c_errorPosition (hW : WAt h v w) : xMet g l mX5_errorPosition 0 0 0 [.ref v] h (fun r h' => r = some (.int w.2.2.2.1.2.1.2.2) ∧ h' = h) xno := by
  refine xMet.of (V := [some (.ref v)]) moX5_errorPosition (Nat.le_of_ble_eq_true rfl) rfl ?_
  refine x_aload_n dX5_errorPosition_0 rfl ?_
  refine x_getf dX5_errorPosition_1 f_X5_33 hW.o rfl ?_
  refine x_getf dX5_errorPosition_4 f_X5_93 hW.reader.o rfl ?_
  exact x_iret .int dX5_errorPosition_7 rfl rfl (by decide) (by decide) (rfl) (rfl)
theorem c_leastTrusted (hW : WAt h v w) (hw : aW w.1.1) (hc : aCn w.1.1 10000000) : xMet g l mX5_leastTrusted 1 0 0 [.ref v] h (opQ v w h (leastR w.1.1)) xno := by
  have hN : w.1.1.1 1 ≤ 10 := hw.1.2.1
  have hT : ∀ k, k < 10 → trustV w.1.1 k < 2 ^ 31 := fun k hk => trustV_lt hc hk
  refine xMet.of (V := [some (.ref v), none, none]) moX5_leastTrusted (Nat.le_of_ble_eq_true rfl) rfl ?_
  refine x_iconst (nI 0) dX5_leastTrusted_0 (by decide) ?_
  refine x_istore_n dX5_leastTrusted_1 (by decide) rfl rfl ?_
  refine x_iconst (nI 1) dX5_leastTrusted_2 (by decide) ?_
  refine x_istore_n dX5_leastTrusted_3 (by decide) rfl rfl ?_
  have key : ∀ f k, f + k = w.1.1.1 1 - 1 → xP g l mX5_leastTrusted [] (xR 1 0 0) (xZ g (opQ v w h (leastR w.1.1)) xno 0 0) 4 [some (.ref v), some (.int (nI (leastF w.1.1 (k + 1)))), some (.int (nI (k + 1)))] [] h 0 0 := by
    intro f
    induction f with
    | zero =>
      intro k hk
      refine x_iload_n dX5_leastTrusted_4 rfl ?_
      refine x_aload_n dX5_leastTrusted_5 rfl ?_
      refine x_getf dX5_leastTrusted_6 f_X5_12 hW.o rfl ?_
      refine x_getf dX5_leastTrusted_9 f_X5_99 hW.present.o rfl ?_
      refine x_icmp_ge_n 42 dX5_leastTrusted_12 (by decide) (by omega) (by omega) (fun c => ?_) (fun c => ?_)
      · refine x_iload_n dX5_leastTrusted_42 rfl ?_
        refine x_ireturn dX5_leastTrusted_43 rfl rfl (by decide) (by decide) (opQ.rf hW rfl ?_ rfl)
        show some (Value.int (nI (leastF w.1.1 (k + 1)))) = some (.int (nI (leastF w.1.1 (w.1.1.1 1))))
        by_cases e : w.1.1.1 1 = 0
        · have : k = 0 := by omega
          rw [e, this]
          rfl
        · rw [show w.1.1.1 1 = k + 1 by omega]
      · omega
    | succ f ih =>
      intro k hk
      have hl := leastF_lt (st := w.1.1) (k + 1)
      have h1 := hT (k + 1) (by omega)
      have h2 := hT (leastF w.1.1 (k + 1)) (by omega)
      refine x_iload_n dX5_leastTrusted_4 rfl ?_
      refine x_aload_n dX5_leastTrusted_5 rfl ?_
      refine x_getf dX5_leastTrusted_6 f_X5_12 hW.o rfl ?_
      refine x_getf dX5_leastTrusted_9 f_X5_99 hW.present.o rfl ?_
      refine x_icmp_ge_n 42 dX5_leastTrusted_12 (by decide) (by omega) (by omega) (fun c => ?_) (fun c => ?_)
      · omega
      · refine x_aload_n dX5_leastTrusted_15 rfl ?_
        refine x_getf dX5_leastTrusted_16 f_X5_12 hW.o rfl ?_
        refine x_iload_n dX5_leastTrusted_19 rfl ?_
        refine x_vi0 dX5_leastTrusted_20 cV_X5_151 (c_trustOf hW.present hc (f := k + 1) (by omega)) rfl rfl ⟨⟨by decide, by decide⟩, by decide, by decide⟩ (Nat.le_of_ble_eq_true rfl) (xrecv hW.present.o rfl xcl0) ?_
        refine x_aload_n dX5_leastTrusted_23 rfl ?_
        refine x_getf dX5_leastTrusted_24 f_X5_12 hW.o rfl ?_
        refine x_iload_n dX5_leastTrusted_27 rfl ?_
        refine x_vi0 dX5_leastTrusted_28 cV_X5_151 (c_trustOf hW.present hc (f := leastF w.1.1 (k + 1)) (by omega)) rfl rfl ⟨⟨by decide, by decide⟩, by decide, by decide⟩ (Nat.le_of_ble_eq_true rfl) (xrecv hW.present.o rfl xcl0) ?_
        refine x_icmp_ge_n 36 dX5_leastTrusted_31 (by decide) (by omega) (by omega) (fun c2 => ?_) (fun c2 => ?_)
        · refine x_iinc_n (k := 1) dX5_leastTrusted_36 rfl (by decide) (by decide) rfl rfl ?_
          refine x_goto 4 dX5_leastTrusted_39 (by decide) ?_
          refine xP.weak ?_ (ih (k + 1) (by omega))
          have : leastF w.1.1 (k + 1 + 1) = leastF w.1.1 (k + 1) := by rw [leastF, if_neg (by omega), if_neg (by omega)]
          simp [xle, xset1, fin3, this]
        · refine x_iload_n dX5_leastTrusted_34 rfl ?_
          refine x_istore_n dX5_leastTrusted_35 (by decide) rfl rfl ?_
          refine x_iinc_n (k := 1) dX5_leastTrusted_36 rfl (by decide) (by decide) rfl rfl ?_
          refine x_goto 4 dX5_leastTrusted_39 (by decide) ?_
          refine xP.weak ?_ (ih (k + 1) (by omega))
          have : leastF w.1.1 (k + 1 + 1) = k + 1 := by rw [leastF, if_neg (by omega), if_pos (by omega)]
          simp [xle, xset1, fin3, this]
  exact xP.weak (by simp [xle, xset1, fin3]; rfl) (key (w.1.1.1 1 - 1) 0 rfl)
theorem c_mostNeeded (hW : WAt h v w) (hw : aW w.1.1) : xMet g l mX5_mostNeeded 3 0 0 [.ref v] h (opQ v w h (mostR w.1.1)) xno := by
  have hN : w.1.1.1 1 ≤ 10 := hw.1.2.1
  have hb : ∀ k, needOfV w.1.1 k ≤ 12 := fun k => needOfV_le hw.1
  refine xMet.of (V := [some (.ref v), none, none, none, none]) moX5_mostNeeded (Nat.le_of_ble_eq_true rfl) rfl ?_
  refine x_iconst (-1) dX5_mostNeeded_0 (by decide) ?_
  refine x_istore_n dX5_mostNeeded_1 (by decide) rfl rfl ?_
  refine x_iconst (nI 0) dX5_mostNeeded_2 (by decide) ?_
  refine x_istore_n dX5_mostNeeded_3 (by decide) rfl rfl ?_
  refine x_iconst (nI 0) dX5_mostNeeded_4 (by decide) ?_
  refine x_istore_n dX5_mostNeeded_5 (by decide) rfl rfl ?_
  refine xP.weak (V' := [some (.ref v), some (.int (amax (needOfV w.1.1) 0).2), some (.int (nI (amax (needOfV w.1.1) 0).1)), some (.int (nI 0)), none]) (by simp [xle, xset1, fin3]; first | rfl | exact ⟨rfl, rfl⟩) ?_
  refine xP.loop0 (fun i => [some (.ref v), some (.int (amax (needOfV w.1.1) i).2), some (.int (nI (amax (needOfV w.1.1) i).1)), some (.int (nI i)), none]) (w.1.1.1 1) ?_ ?_
  · intro i hi ih
    have h1 := amax_le hb i
    have h2 := hb i
    refine x_iload_n dX5_mostNeeded_6 rfl ?_
    refine x_aload_n dX5_mostNeeded_7 rfl ?_
    refine x_getf dX5_mostNeeded_8 f_X5_12 hW.o rfl ?_
    refine x_getf dX5_mostNeeded_11 f_X5_99 hW.present.o rfl ?_
    refine x_icmp_ge_n 44 dX5_mostNeeded_14 (by decide) (by omega) (by omega) (fun c0 => ?_) (fun c0 => ?_)
    · omega
    · refine x_aload_n dX5_mostNeeded_17 rfl ?_
      refine x_getf dX5_mostNeeded_18 f_X5_12 hW.o rfl ?_
      refine x_iload_n dX5_mostNeeded_21 rfl ?_
      refine x_vi0 dX5_mostNeeded_22 cV_X5_227 (c_picturesThatNeed hW.present hw.1 (f := i) (by omega)) rfl rfl ⟨⟨by decide, by decide⟩, by decide, by decide⟩ (Nat.le_of_ble_eq_true rfl) (xrecv hW.present.o rfl xcl0) ?_
      refine x_istore dX5_mostNeeded_25 (by decide) rfl rfl ?_
      refine x_iload dX5_mostNeeded_27 rfl ?_
      refine x_iload_n dX5_mostNeeded_29 rfl ?_
      refine x_icmp_le_n 38 dX5_mostNeeded_30 (by decide) (by omega) (by omega) (fun c2 => ?_) (fun c2 => ?_)
      · refine x_iinc_n (k := 1) dX5_mostNeeded_38 rfl (by decide) (by decide) rfl rfl ?_
        refine x_goto 6 dX5_mostNeeded_41 (by decide) ?_
        have e : amax (needOfV w.1.1) (i + 1) = amax (needOfV w.1.1) i := by rw [amax, if_neg (by omega)]
        exact xP.weak (by simp [xle, xset1, xset2, fin3, e]) ih
      · refine x_iload dX5_mostNeeded_33 rfl ?_
        refine x_istore_n dX5_mostNeeded_35 (by decide) rfl rfl ?_
        refine x_iload_n dX5_mostNeeded_36 rfl ?_
        refine x_istore_n dX5_mostNeeded_37 (by decide) rfl rfl ?_
        refine x_iinc_n (k := 1) dX5_mostNeeded_38 rfl (by decide) (by decide) rfl rfl ?_
        refine x_goto 6 dX5_mostNeeded_41 (by decide) ?_
        have e : amax (needOfV w.1.1) (i + 1) = (needOfV w.1.1 i, nI i) := by rw [amax, if_pos (by omega)]
        exact xP.weak (by simp [xle, xset1, xset2, fin3, e]) ih
  · refine x_iload_n dX5_mostNeeded_6 rfl ?_
    refine x_aload_n dX5_mostNeeded_7 rfl ?_
    refine x_getf dX5_mostNeeded_8 f_X5_12 hW.o rfl ?_
    refine x_getf dX5_mostNeeded_11 f_X5_99 hW.present.o rfl ?_
    refine x_icmp_ge_n 44 dX5_mostNeeded_14 (by decide) (by omega) (by omega) (fun c0 => ?_) (fun c0 => ?_)
    · refine x_iload_n dX5_mostNeeded_44 rfl ?_
      exact x_ireturn dX5_mostNeeded_45 rfl rfl (by decide) (by decide) (opQ.rf hW rfl rfl rfl)
    · omega
theorem c_waves (hW : WAt h v w) (hw : aW w.1.1) : xMet g l mX5_waves 6 0 0 [.ref v] h (opQ v w h (wavesR w.1.1)) xno := by
  refine xMet.of (V := [some (.ref v)]) moX5_waves (Nat.le_of_ble_eq_true rfl) rfl ?_
  refine x_aload_n dX5_waves_0 rfl ?_
  refine x_getf dX5_waves_1 f_X5_16 hW.o rfl ?_
  refine x_aload_n dX5_waves_4 rfl ?_
  refine x_getf dX5_waves_5 f_X5_12 hW.o rfl ?_
  refine x_vv0 dX5_waves_8 cV_X5_87 (c_tr0 hW) rfl rfl ⟨⟨by decide, by decide⟩, by decide, by decide⟩ (Nat.le_of_ble_eq_true rfl) (xrecv hW.trial.o rfl xcl0) ?_
  refine x_aload_n dX5_waves_11 rfl ?_
  refine x_getf dX5_waves_12 f_X5_16 (hW.setT _).o rfl ?_
  refine x_vi0 dX5_waves_15 cV_X5_221 (c_repairInWaves hw.1) rfl rfl ⟨⟨by decide, by decide⟩, by decide, by decide⟩ (Nat.le_of_ble_eq_true rfl) (xrecv (hW.setT _).trial.o rfl xcl0) ?_
  exact x_ireturn dX5_waves_18 rfl rfl (by decide) (by decide) (opQ.T hW)
theorem c_lost (hW : WAt h v w) (hw : aW w.1.1) : xMet g l mX5_lost 6 0 0 [.ref v] h (opQ v w h (lostR w.1.1)) xno := by
  have hE : aOk (wavE w.1.1) := by
    unfold wavE
    split
    · exact waveS_ok hw.1 _
    · exact waveS_ok hw.1 _
  have hA2 : ArchAt (putArch h (v + 13) (wavE w.1.1)) (v + 13) (wavE w.1.1) := putArch_at
  have hO2 := (hW.setT (wavE w.1.1)).o
  unfold lostR
  refine xMet.of (V := [some (.ref v)]) moX5_lost (Nat.le_of_ble_eq_true rfl) rfl ?_
  refine x_aload_n dX5_lost_0 rfl ?_
  refine x_getf dX5_lost_1 f_X5_16 hW.o rfl ?_
  refine x_aload_n dX5_lost_4 rfl ?_
  refine x_getf dX5_lost_5 f_X5_12 hW.o rfl ?_
  refine x_vv0 dX5_lost_8 cV_X5_87 (c_tr0 hW) rfl rfl ⟨⟨by decide, by decide⟩, by decide, by decide⟩ (Nat.le_of_ble_eq_true rfl) (xrecv hW.trial.o rfl xcl0) ?_
  refine x_aload_n dX5_lost_11 rfl ?_
  refine x_getf dX5_lost_12 f_X5_16 (hW.setT _).o rfl ?_
  refine x_vi0 dX5_lost_15 cV_X5_221 (c_repairInWaves hw.1) rfl rfl ⟨⟨by decide, by decide⟩, by decide, by decide⟩ (Nat.le_of_ble_eq_true rfl) (xrecv (hW.setT _).trial.o rfl xcl0) ?_
  refine x_pop dX5_lost_18 rfl ?_
  generalize wavE w.1.1 = W9 at hE hA2 hO2 ⊢
  refine x_aload_n dX5_lost_19 rfl ?_
  refine x_getf dX5_lost_20 f_X5_16 hO2 rfl ?_
  refine x_vi0 dX5_lost_23 cV_X5_106 (c_brokenCopies hA2 hE) rfl rfl ⟨⟨by decide, by decide⟩, by decide, by decide⟩ (Nat.le_of_ble_eq_true rfl) (xrecv hA2.o rfl xcl0) ?_
  exact x_ireturn dX5_lost_26 rfl rfl (by decide) (by decide) (opQ.T hW)
theorem c_wouldSpread (hW : WAt h v w) (hw : aW w.1.1) (hc : aCn w.1.1 10000000) : xMet g l mX5_wouldSpread 6 0 0 [.ref v] h (opQ v w h (spreadsR w.1.1)) xno := by
  refine xMet.of (V := [some (.ref v)]) moX5_wouldSpread (Nat.le_of_ble_eq_true rfl) rfl ?_
  refine x_aload_n dX5_wouldSpread_0 rfl ?_
  refine x_getf dX5_wouldSpread_1 f_X5_16 hW.o rfl ?_
  refine x_aload_n dX5_wouldSpread_4 rfl ?_
  refine x_getf dX5_wouldSpread_5 f_X5_12 hW.o rfl ?_
  refine x_vv0 dX5_wouldSpread_8 cV_X5_87 (c_tr0 hW) rfl rfl ⟨⟨by decide, by decide⟩, by decide, by decide⟩ (Nat.le_of_ble_eq_true rfl) (xrecv hW.trial.o rfl xcl0) ?_
  refine x_aload_n dX5_wouldSpread_11 rfl ?_
  refine x_getf dX5_wouldSpread_12 f_X5_16 (hW.setT _).o rfl ?_
  refine x_vi0 dX5_wouldSpread_15 cV_X5_238 (c_makeCopies hw.1 hc) rfl rfl ⟨⟨by decide, by decide⟩, by decide, by decide⟩ (Nat.le_of_ble_eq_true rfl) (xrecv (hW.setT _).trial.o rfl xcl0) ?_
  exact x_ireturn dX5_wouldSpread_18 rfl rfl (by decide) (by decide) (opQ.T hW)
end V4
