/-! ===== VillagePhotos: what is asked for ===== -/
def ix (a : Int32) : Nat := a.toBitVec.toNat
/-- a number from 0 on, less than N -/
def okB (a : Int32) (N : Nat) : Bool := decide (ix a < N)
theorem ix_nI {n : Nat} (h : n < 2 ^ 32) : ix (nI n) = n := by
  show (BitVec.ofNat 32 n).toNat = n
  rw [BitVec.toNat_ofNat]
  exact Nat.mod_eq_of_lt h
theorem nI_ix (a : Int32) : nI (ix a) = a := by
  apply Int32.toBitVec_inj.mp
  show BitVec.ofNat 32 a.toBitVec.toNat = a.toBitVec
  rw [BitVec.ofNat_toNat, BitVec.setWidth_eq]
theorem ix_lt (a : Int32) : ix a < 2 ^ 32 := a.toBitVec.isLt
theorem neg_ix {a : Int32} : a < 0 ↔ 2 ^ 31 ≤ ix a := by
  have h := ix_lt a
  rw [Int32.lt_iff_toInt_lt]
  show a.toBitVec.toInt < 0 ↔ _
  rw [BitVec.toInt_eq_toNat_cond]
  show (if 2 * ix a < 2 ^ 32 then (ix a : Int) else (ix a : Int) - (2 ^ 32 : Nat)) < 0 ↔ _
  split <;> omega
theorem ix_ltn {a : Int32} {N : Nat} (hN : N < 2 ^ 31) (h : ¬ a < 0) : a < nI N ↔ ix a < N := by
  rw [neg_ix] at h
  have e := nI_ix a
  rw [← e]
  rw [nI_ltI (by omega) hN, ix_nI (by omega)]
theorem okB_no1 {a : Int32} {N : Nat} (hN : N < 2 ^ 31) (h : a < 0) : okB a N = false := by
  rw [neg_ix] at h
  unfold okB
  exact decide_eq_false (by omega)
theorem okB_no2 {a : Int32} {N : Nat} (hN : N < 2 ^ 31) (h : ¬ a < 0) (h2 : ¬ a < nI N) : okB a N = false := by
  rw [ix_ltn hN h] at h2
  unfold okB
  exact decide_eq_false h2
theorem okB_yes {a : Int32} {N : Nat} (hN : N < 2 ^ 31) (h : ¬ a < 0) (h2 : a < nI N) : okB a N = true := by
  rw [ix_ltn hN h] at h2
  unfold okB
  exact decide_eq_true h2
theorem okB_lt {a : Int32} {N : Nat} (h : okB a N = true) : ix a < N := by
  unfold okB at h
  exact of_decide_eq_true h
def nIOB : String := "java/lang/IndexOutOfBoundsException"
def nIAE : String := "java/lang/IllegalArgumentException"
def nISE : String := "java/lang/IllegalStateException"
/-- what an asking gives: how it throws (0: it doesn't), the answer, the present one behind it if that is kept -/
abbrev Rs := Nat × Int32 × Option Ar
def wSame (w w' : Wd) : Prop := w'.1.1 = w.1.1 ∧ w'.2 = w.2
def kpP (w : Wd) (P : Ar) (w' : Wd) : Prop := ∃ w1, kpW w w1 ∧ w' = sP w1 P
def wBy (w : Wd) (o : Option Ar) (w' : Wd) : Prop := match o with
  | none => wSame w w'
  | some P => kpP w P w'
def opQ (v : Nat) (w : Wd) (h : xH) (R : Rs) (r : Option Value) (h' : xH) : Prop := R.1 = 0 ∧ r = some (.int R.2.1) ∧ ∃ w', wTo v w h w' h' ∧ wBy w R.2.2 w'
def opX (v : Nat) (w : Wd) (h : xH) (ks : List String) (R : Rs) (E : String) (h' : xH) : Prop := 0 < R.1 ∧ ks[R.1 - 1]? = some E ∧ wTo v w h w h'
theorem wTo.thr {v : Nat} {w : Wd} {h : xH} (hW : WAt h v w) {n : Nat} (hn : h.2 ≤ n) : wTo v w h w (h.1, n) := ⟨hW.same hn fun _ _ => rfl, hn, fun _ _ q => ⟨rfl, q⟩⟩
theorem wSame.rf (w : Wd) : wSame w w := ⟨rfl, rfl⟩
section V1
variable {g : xG} {l : Launch} {h : xH} {v : Nat} {w : Wd}
theorem c_needFamily (hW : WAt h v w) (hw : aW w.1.1) (a : Int32) : xMet g l mX5_needFamily 6 1 6 [.ref v, .int a] h (fun r h' => r = none ∧ h' = h ∧ okB a (w.1.1.1 1) = true) (fun E h' => E = nIOB ∧ okB a (w.1.1.1 1) = false ∧ wTo v w h w h') := by
  have hN : w.1.1.1 1 ≤ 10 := hw.1.2.1
  refine xMet.of (V := [some (.ref v), some (.int a)]) moX5_needFamily (Nat.le_of_ble_eq_true rfl) rfl ?_
  refine x_iload_n dX5_needFamily_0 rfl ?_
  refine x_if_lt 15 dX5_needFamily_1 (by decide) (fun c1 => ?_) (fun c1 => ?_)
  · refine x_throwW (j := 16) th_OOB rfl rfl dX5_needFamily_15 dX5_needFamily_18 dX5_needFamily_19 dX5_needFamily_22 dX5_needFamily_25 (by decide) (Nat.le_of_ble_eq_true rfl) (by decide) (by decide) (by decide) (by decide) fun n hn => ⟨rfl, okB_no1 (by omega) c1, wTo.thr hW hn⟩
  · refine x_iload_n dX5_needFamily_4 rfl ?_
    refine x_aload_n dX5_needFamily_5 rfl ?_
    refine x_getf dX5_needFamily_6 f_X5_12 hW.o rfl ?_
    refine x_getf dX5_needFamily_9 f_X5_99 hW.present.o rfl ?_
    refine x_icmp_lt 26 dX5_needFamily_12 (by decide) (fun c2 => ?_) (fun c2 => ?_)
    · exact x_return dX5_needFamily_26 rfl (by decide) (by decide) ⟨rfl, rfl, okB_yes (by omega) c1 c2⟩
    · refine x_throwW (j := 16) th_OOB rfl rfl dX5_needFamily_15 dX5_needFamily_18 dX5_needFamily_19 dX5_needFamily_22 dX5_needFamily_25 (by decide) (Nat.le_of_ble_eq_true rfl) (by decide) (by decide) (by decide) (by decide) fun n hn => ⟨rfl, okB_no2 (by omega) c1 c2, wTo.thr hW hn⟩
theorem c_needPicture (hW : WAt h v w) (hw : aW w.1.1) (a : Int32) : xMet g l mX5_needPicture 6 1 6 [.ref v, .int a] h (fun r h' => r = none ∧ h' = h ∧ okB a (w.1.1.1 2) = true) (fun E h' => E = nIOB ∧ okB a (w.1.1.1 2) = false ∧ wTo v w h w h') := by
  have hN : w.1.1.1 2 ≤ 12 := hw.1.2.2.1
  refine xMet.of (V := [some (.ref v), some (.int a)]) moX5_needPicture (Nat.le_of_ble_eq_true rfl) rfl ?_
  refine x_iload_n dX5_needPicture_0 rfl ?_
  refine x_if_lt 15 dX5_needPicture_1 (by decide) (fun c1 => ?_) (fun c1 => ?_)
  · refine x_throwW (j := 18) th_OOB rfl rfl dX5_needPicture_15 dX5_needPicture_18 dX5_needPicture_19 dX5_needPicture_22 dX5_needPicture_25 (by decide) (Nat.le_of_ble_eq_true rfl) (by decide) (by decide) (by decide) (by decide) fun n hn => ⟨rfl, okB_no1 (by omega) c1, wTo.thr hW hn⟩
  · refine x_iload_n dX5_needPicture_4 rfl ?_
    refine x_aload_n dX5_needPicture_5 rfl ?_
    refine x_getf dX5_needPicture_6 f_X5_12 hW.o rfl ?_
    refine x_getf dX5_needPicture_9 f_X5_90 hW.present.o rfl ?_
    refine x_icmp_lt 26 dX5_needPicture_12 (by decide) (fun c2 => ?_) (fun c2 => ?_)
    · exact x_return dX5_needPicture_26 rfl (by decide) (by decide) ⟨rfl, rfl, okB_yes (by omega) c1 c2⟩
    · refine x_throwW (j := 18) th_OOB rfl rfl dX5_needPicture_15 dX5_needPicture_18 dX5_needPicture_19 dX5_needPicture_22 dX5_needPicture_25 (by decide) (Nat.le_of_ble_eq_true rfl) (by decide) (by decide) (by decide) (by decide) fun n hn => ⟨rfl, okB_no2 (by omega) c1 c2, wTo.thr hW hn⟩
def okPF (st : Ar) (p f : Int32) : Bool := okB p (st.1 2) && okB f (st.1 1)
theorem c_needBoth (hW : WAt h v w) (hw : aW w.1.1) (a b : Int32) : xMet g l mX5_needBoth 7 2 12 [.ref v, .int a, .int b] h (fun r h' => r = none ∧ h' = h ∧ okPF w.1.1 a b = true) (fun E h' => E = nIOB ∧ okPF w.1.1 a b = false ∧ wTo v w h w h') := by
  refine xMet.of (V := [some (.ref v), some (.int a), some (.int b)]) moX5_needBoth (Nat.le_of_ble_eq_true rfl) rfl ?_
  refine x_aload_n dX5_needBoth_0 rfl ?_
  refine x_iload_n dX5_needBoth_1 rfl ?_
  refine x_callV dX5_needBoth_2 cV_X5_159 (c_needPicture hW hw a) rfl rfl ⟨⟨by decide, by decide⟩, by decide, by decide⟩ (Nat.le_of_ble_eq_true rfl) (xrecv hW.o rfl xcl4) (fun E h9 q9 => x_out rfl (by decide) (by decide) ?_) (fun v9 h9 q9 => ?_)
  · exact ⟨q9.1, by unfold okPF; rw [q9.2.1]; rfl, q9.2.2⟩
  · obtain ⟨rfl, rfl, q3⟩ := q9
    refine x_aload_n dX5_needBoth_5 rfl ?_
    refine x_iload_n dX5_needBoth_6 rfl ?_
    refine x_callV dX5_needBoth_7 cV_X5_132 (c_needFamily hW hw b) rfl rfl ⟨⟨by decide, by decide⟩, by decide, by decide⟩ (Nat.le_of_ble_eq_true rfl) (xrecv hW.o rfl xcl4) (fun E h9 q9 => x_out rfl (by decide) (by decide) ?_) (fun v9 h9 q9 => ?_)
    · exact ⟨q9.1, by unfold okPF; rw [q9.2.1, Bool.and_false], q9.2.2⟩
    · obtain ⟨rfl, rfl, q4⟩ := q9
      exact x_return dX5_needBoth_10 rfl (by decide) (by decide) ⟨rfl, rfl, by unfold okPF; rw [q3, q4]; rfl⟩
theorem c_needSlot (hW : WAt h v w) (a : Int32) : xMet g l mX5_needSlot 6 1 6 [.int a] h (fun r h' => r = none ∧ h' = h ∧ okB a 2 = true) (fun E h' => E = nIOB ∧ okB a 2 = false ∧ wTo v w h w h') := by
  refine xMet.of (V := [some (.int a)]) moX5_needSlot (Nat.le_of_ble_eq_true rfl) rfl ?_
  refine x_iload_n dX5_needSlot_0 rfl ?_
  refine x_if_lt 9 dX5_needSlot_1 (by decide) (fun c1 => ?_) (fun c1 => ?_)
  · refine x_throwW (j := 29) th_OOB rfl rfl dX5_needSlot_9 dX5_needSlot_12 dX5_needSlot_13 dX5_needSlot_16 dX5_needSlot_19 (by decide) (Nat.le_of_ble_eq_true rfl) (by decide) (by decide) (by decide) (by decide) fun n hn => ⟨rfl, okB_no1 (by decide) c1, wTo.thr hW hn⟩
  · refine x_iload_n dX5_needSlot_4 rfl ?_
    refine x_iconst (nI 2) dX5_needSlot_5 (by decide) ?_
    refine x_icmp_lt 20 dX5_needSlot_6 (by decide) (fun c2 => ?_) (fun c2 => ?_)
    · exact x_return dX5_needSlot_20 rfl (by decide) (by decide) ⟨rfl, rfl, okB_yes (by decide) c1 c2⟩
    · refine x_throwW (j := 29) th_OOB rfl rfl dX5_needSlot_9 dX5_needSlot_12 dX5_needSlot_13 dX5_needSlot_16 dX5_needSlot_19 (by decide) (Nat.le_of_ble_eq_true rfl) (by decide) (by decide) (by decide) (by decide) fun n hn => ⟨rfl, okB_no2 (by decide) c1 c2, wTo.thr hW hn⟩
theorem c_needRoundNumber (hW : WAt h v w) (a : Int32) : xMet g l mX5_needRoundNumber 6 1 6 [.int a] h (fun r h' => r = none ∧ h' = h ∧ ix a < 2 ^ 31) (fun E h' => E = nIAE ∧ ¬ ix a < 2 ^ 31 ∧ wTo v w h w h') := by
  refine xMet.of (V := [some (.int a)]) moX5_needRoundNumber (Nat.le_of_ble_eq_true rfl) rfl ?_
  refine x_iload_n dX5_needRoundNumber_0 rfl ?_
  refine x_if_ge 15 dX5_needRoundNumber_1 (by decide) (fun c1 => ?_) (fun c1 => ?_)
  · exact x_return dX5_needRoundNumber_15 rfl (by decide) (by decide) ⟨rfl, rfl, Nat.lt_of_not_le fun q => absurd (neg_ix.mpr q) (Int32.not_lt.mpr c1)⟩
  · refine x_throwW (j := 22) th_IAE rfl rfl dX5_needRoundNumber_4 dX5_needRoundNumber_7 dX5_needRoundNumber_8 dX5_needRoundNumber_11 dX5_needRoundNumber_14 (by decide) (Nat.le_of_ble_eq_true rfl) (by decide) (by decide) (by decide) (by decide) fun n hn => ⟨rfl, fun q => absurd (neg_ix.mp (Int32.not_le.mp c1)) (by omega), wTo.thr hW hn⟩
end V1
