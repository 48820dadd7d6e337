/-! ===== VillagePhotos: texts ===== -/
def nzB (x k : Nat) : Bool := decide (byW x k ≠ 0)
def bnV (x : Nat) : Nat := fb_ct (nzB x) 4
def apF (x : Nat) (s : (Nat → Nat) × Tr) : (Nat → Nat) × Tr := pbS x 4 s
def apS (a b c d e : Int32) (s : (Nat → Nat) × Tr) : (Nat → Nat) × Tr := apF (ix e) (apF (ix d) (apF (ix c) (apF (ix b) (apF (ix a) s))))
def apN (a b c d e : Int32) : Nat := bnV (ix a) + bnV (ix b) + bnV (ix c) + bnV (ix d) + bnV (ix e)
def rdOk (w : Wd) : Prop := (∀ k, w.2.2.2.1.1 k < 256) ∧ w.2.2.2.1.2.1.1 ≤ 600
def writtenR (T : List Nat) (a : Int32) : Rs := if okB a T.length = true then (0, nI (T.getD (ix a) 0), none) else (1, 0, none)
theorem apF_ok {x : Nat} {s : (Nat → Nat) × Tr} (h : (∀ k, s.1 k < 256) ∧ s.2.1.1 ≤ 600) : (∀ k, (apF x s).1 k < 256) ∧ (apF x s).2.1.1 ≤ 600 := pbS_ok 4 h.1 h.2
section V9
variable {g : xG} {l : Launch} {h : xH} {v : Nat} {w : Wd}
theorem c_bytesIn {x : Nat} (hx : x < 2 ^ 32) : xDet g l mX5_bytesIn 0 0 0 [.int (nI x)] h (some (.int (nI (bnV x)))) h := by
  refine xMet.of (V := [some (.int (nI x)), none, none]) moX5_bytesIn (Nat.le_of_ble_eq_true rfl) rfl ?_
  refine x_iconst (nI 0) dX5_bytesIn_0 (by decide) ?_
  refine x_istore_n dX5_bytesIn_1 (by decide) rfl rfl ?_
  refine x_iconst (nI 0) dX5_bytesIn_2 (by decide) ?_
  refine x_istore_n dX5_bytesIn_3 (by decide) rfl rfl ?_
  refine xP.weak (V' := [some (.int (nI x)), some (.int (nI (fb_ct (nzB x) 0))), some (.int (nI 0))]) (by simp [xle, xset1, fin3]; first | rfl | exact ⟨rfl, rfl⟩) ?_
  refine xP.loop0 (fun i => [some (.int (nI x)), some (.int (nI (fb_ct (nzB x) i))), some (.int (nI i))]) 4 ?_ ?_
  · intro i hi ih
    have hl := fb_ct_le (nzB x) i
    have hy : byW x i < 256 := Nat.mod_lt _ (by decide)
    refine x_iload_n dX5_bytesIn_4 rfl ?_
    refine x_iconst (nI 4) dX5_bytesIn_5 (by decide) ?_
    refine x_icmp_ge_n 31 dX5_bytesIn_6 (by decide) (by omega) (by omega) (fun c0 => ?_) (fun c0 => ?_)
    · omega
    · refine x_iload_n dX5_bytesIn_9 rfl ?_
      refine x_bipush (nI 8) dX5_bytesIn_10 (by decide) ?_
      refine x_iload_n dX5_bytesIn_12 rfl ?_
      refine x_imul_n dX5_bytesIn_13 ?_
      refine x_iushr_n dX5_bytesIn_14 (by omega) (by omega) ?_
      refine x_sipush (nI 255) dX5_bytesIn_15 (by decide) ?_
      refine x_iand_n dX5_bytesIn_18 ?_
      rw [show x / 2 ^ (8 * i) &&& 255 = byW x i from Nat.and_two_pow_sub_one_eq_mod (n := 8) _]
      refine x_if_eq_n 25 dX5_bytesIn_19 (by decide) (by omega) (fun c1 => ?_) (fun c1 => ?_)
      · refine x_iinc_n (k := 1) dX5_bytesIn_25 rfl (by decide) (by decide) rfl rfl ?_
        refine x_goto 4 dX5_bytesIn_28 (by decide) ?_
        have e : fb_ct (nzB x) (i + 1) = fb_ct (nzB x) i := by rw [fb_ct_succ, if_neg (show ¬ nzB x i = true by unfold nzB; simpa using c1)]; rfl
        exact xP.weak (by simp [xle, xset1, fin3, e]) ih
      · refine x_iinc_n (k := 1) dX5_bytesIn_22 rfl (by decide) (by decide) rfl rfl ?_
        refine x_iinc_n (k := 1) dX5_bytesIn_25 rfl (by decide) (by decide) rfl rfl ?_
        refine x_goto 4 dX5_bytesIn_28 (by decide) ?_
        have e : fb_ct (nzB x) (i + 1) = fb_ct (nzB x) i + 1 := by rw [fb_ct_succ, if_pos (show nzB x i = true by unfold nzB; exact decide_eq_true (by omega))]
        exact xP.weak (by simp [xle, xset1, fin3, e]) ih
  · refine x_iload_n dX5_bytesIn_4 rfl ?_
    refine x_iconst (nI 4) dX5_bytesIn_5 (by decide) ?_
    refine x_icmp_ge_n 31 dX5_bytesIn_6 (by decide) (by omega) (by omega) (fun c0 => ?_) (fun c0 => ?_)
    · refine x_iload_n dX5_bytesIn_31 rfl ?_
      exact x_iret .int dX5_bytesIn_32 rfl rfl (by decide) (by decide) (rfl) (rfl)
    · omega
theorem bnV_le (x : Nat) : bnV x ≤ 4 := fb_ct_le _ _
theorem c_append (hW : WAt h v w) (hr : rdOk w) (a b c d e : Int32) : xMet g l mX5_append 6 1 6 [.ref v, .int a, .int b, .int c, .int d, .int e] h
    (fun r h' => w.2.2.2.1.2.1.1 + apN a b c d e ≤ 600 ∧ r = some (.int (nI (apS a b c d e w.2.2.2.1).2.1.1)) ∧ wTo v w h (sRd w (apS a b c d e w.2.2.2.1).1 (apS a b c d e w.2.2.2.1).2) h') (fun E h' => E = nISE ∧ ¬ w.2.2.2.1.2.1.1 + apN a b c d e ≤ 600 ∧ wTo v w h w h') := by
  refine xMet.of (V := [some (.ref v), some (.int a), some (.int b), some (.int c), some (.int d), some (.int e), none]) moX5_append (Nat.le_of_ble_eq_true rfl) rfl ?_
  have k1 := nI_ix a
  have k2 := nI_ix b
  have k3 := nI_ix c
  have k4 := nI_ix d
  have k5 := nI_ix e
  have hl := hr.2
  have b1 := bnV_le (ix a)
  have b2 := bnV_le (ix b)
  have b3 := bnV_le (ix c)
  have b4 := bnV_le (ix d)
  have b5 := bnV_le (ix e)
  refine xP.weak (V' := [some (.ref v), some (.int (nI (ix a))), some (.int (nI (ix b))), some (.int (nI (ix c))), some (.int (nI (ix d))), some (.int (nI (ix e))), none]) (by simp [xle, xset1, fin3, k1, k2, k3, k4, k5]) ?_
  refine x_iload_n dX5_append_0 rfl ?_
  refine x_si0 dX5_append_1 cS_X5_58 (c_bytesIn (ix_lt a)) rfl rfl ⟨⟨by decide, by decide⟩, by decide, by decide⟩ (Nat.le_of_ble_eq_true rfl) ?_
  refine x_iload_n dX5_append_4 rfl ?_
  refine x_si0 dX5_append_5 cS_X5_58 (c_bytesIn (ix_lt b)) rfl rfl ⟨⟨by decide, by decide⟩, by decide, by decide⟩ (Nat.le_of_ble_eq_true rfl) ?_
  refine x_iadd_n dX5_append_8 ?_
  refine x_iload_n dX5_append_9 rfl ?_
  refine x_si0 dX5_append_10 cS_X5_58 (c_bytesIn (ix_lt c)) rfl rfl ⟨⟨by decide, by decide⟩, by decide, by decide⟩ (Nat.le_of_ble_eq_true rfl) ?_
  refine x_iadd_n dX5_append_13 ?_
  refine x_iload dX5_append_14 rfl ?_
  refine x_si0 dX5_append_16 cS_X5_58 (c_bytesIn (ix_lt d)) rfl rfl ⟨⟨by decide, by decide⟩, by decide, by decide⟩ (Nat.le_of_ble_eq_true rfl) ?_
  refine x_iadd_n dX5_append_19 ?_
  refine x_iload dX5_append_20 rfl ?_
  refine x_si0 dX5_append_22 cS_X5_58 (c_bytesIn (ix_lt e)) rfl rfl ⟨⟨by decide, by decide⟩, by decide, by decide⟩ (Nat.le_of_ble_eq_true rfl) ?_
  refine x_iadd_n dX5_append_25 ?_
  refine x_istore dX5_append_26 (by decide) rfl rfl ?_
  refine x_aload_n dX5_append_28 rfl ?_
  refine x_getf dX5_append_29 f_X5_33 hW.o rfl ?_
  refine x_getf dX5_append_32 f_X5_62 hW.reader.o rfl ?_
  refine x_iload dX5_append_35 rfl ?_
  refine x_iadd_n dX5_append_37 ?_
  refine x_sipush (nI 600) dX5_append_38 (by decide) ?_
  refine x_icmp_le_n 54 dX5_append_41 (by decide) (by omega) (by omega) (fun c1 => ?_) (fun c1 => ?_)
  rotate_left
  · exact x_throw (j := 14) th_ISE rfl rfl dX5_append_44 dX5_append_47 dX5_append_48 dX5_append_50 dX5_append_53 (by decide) (Nat.le_of_ble_eq_true rfl) (by decide) (by decide) (by decide) (by decide) fun n hn => ⟨rfl, by unfold apN; omega, wTo.thr hW hn⟩
  have eR := hW.R_self
  have s1 := apF_ok (x := ix a) (s := w.2.2.2.1) hr
  have s2 := apF_ok (x := ix b) s1
  have s3 := apF_ok (x := ix c) s2
  have s4 := apF_ok (x := ix d) s3
  have hO : ∀ (b9 : Nat → Nat) (t9 : Tr), (putTr h (v + 28) b9 t9).1 v = some (.inr (4, [.ref (v + 1), .ref (v + 13), .ref (v + 25), .ref (v + 27), .ref (v + 28), .ref (v + 30)])) := fun b9 t9 => (hW.setR b9 t9).o
  rw [← eR]
  refine x_aload_n dX5_append_54 rfl ?_
  refine x_getf dX5_append_55 f_X5_33 (hO _ _) rfl ?_
  refine x_iload_n dX5_append_58 rfl ?_
  refine x_vv0 dX5_append_59 cV_X5_73 (c_putBytes (ix_lt a) hr.1 hr.2) rfl rfl ⟨⟨by decide, by decide⟩, by decide, by decide⟩ (Nat.le_of_ble_eq_true rfl) (xrecv putTr_at.o rfl xcl3) ?_
  refine xP.eq (h' := putTr h (v + 28) (apF (ix a) w.2.2.2.1).1 (apF (ix a) w.2.2.2.1).2) rfl rfl rfl rfl ?_
  refine x_aload_n dX5_append_62 rfl ?_
  refine x_getf dX5_append_63 f_X5_33 (hO _ _) rfl ?_
  refine x_iload_n dX5_append_66 rfl ?_
  refine x_vv0 dX5_append_67 cV_X5_73 (c_putBytes (ix_lt b) s1.1 s1.2) rfl rfl ⟨⟨by decide, by decide⟩, by decide, by decide⟩ (Nat.le_of_ble_eq_true rfl) (xrecv putTr_at.o rfl xcl3) ?_
  refine xP.eq (h' := putTr h (v + 28) (apF (ix b) (apF (ix a) w.2.2.2.1)).1 (apF (ix b) (apF (ix a) w.2.2.2.1)).2) rfl rfl rfl rfl ?_
  refine x_aload_n dX5_append_70 rfl ?_
  refine x_getf dX5_append_71 f_X5_33 (hO _ _) rfl ?_
  refine x_iload_n dX5_append_74 rfl ?_
  refine x_vv0 dX5_append_75 cV_X5_73 (c_putBytes (ix_lt c) s2.1 s2.2) rfl rfl ⟨⟨by decide, by decide⟩, by decide, by decide⟩ (Nat.le_of_ble_eq_true rfl) (xrecv putTr_at.o rfl xcl3) ?_
  refine xP.eq (h' := putTr h (v + 28) (apF (ix c) (apF (ix b) (apF (ix a) w.2.2.2.1))).1 (apF (ix c) (apF (ix b) (apF (ix a) w.2.2.2.1))).2) rfl rfl rfl rfl ?_
  refine x_aload_n dX5_append_78 rfl ?_
  refine x_getf dX5_append_79 f_X5_33 (hO _ _) rfl ?_
  refine x_iload dX5_append_82 rfl ?_
  refine x_vv0 dX5_append_84 cV_X5_73 (c_putBytes (ix_lt d) s3.1 s3.2) rfl rfl ⟨⟨by decide, by decide⟩, by decide, by decide⟩ (Nat.le_of_ble_eq_true rfl) (xrecv putTr_at.o rfl xcl3) ?_
  refine xP.eq (h' := putTr h (v + 28) (apF (ix d) (apF (ix c) (apF (ix b) (apF (ix a) w.2.2.2.1)))).1 (apF (ix d) (apF (ix c) (apF (ix b) (apF (ix a) w.2.2.2.1)))).2) rfl rfl rfl rfl ?_
  refine x_aload_n dX5_append_87 rfl ?_
  refine x_getf dX5_append_88 f_X5_33 (hO _ _) rfl ?_
  refine x_iload dX5_append_91 rfl ?_
  refine x_vv0 dX5_append_93 cV_X5_73 (c_putBytes (ix_lt e) s4.1 s4.2) rfl rfl ⟨⟨by decide, by decide⟩, by decide, by decide⟩ (Nat.le_of_ble_eq_true rfl) (xrecv putTr_at.o rfl xcl3) ?_
  refine xP.eq (h' := putTr h (v + 28) (apS a b c d e w.2.2.2.1).1 (apS a b c d e w.2.2.2.1).2) rfl rfl rfl rfl ?_
  refine x_aload_n dX5_append_96 rfl ?_
  refine x_getf dX5_append_97 f_X5_33 (hO _ _) rfl ?_
  refine x_getf dX5_append_100 f_X5_62 putTr_at.o rfl ?_
  rw [eR]
  exact x_ireturn dX5_append_103 rfl rfl (by decide) (by decide) ⟨by unfold apN; omega, rfl, wTo.R hW _ _⟩
theorem c_writePictures (hW : WAt h v w) (hw : aW w.1.1) : xMet g l mX5_writePictures 4 0 0 [.ref v] h (fun r h' => r = some (.int (nI (wTx w.1.1 (w.1.1.1 2)).length)) ∧ wTo v w h (sWr w (wrF w.2.2.2.2.1 w.2.2.2.2.2) (wTx w.1.1 (w.1.1.1 2))) h') xno := by
  have cw := c_writeAll (g := g) (l := l) (h := h) (w := v + 30) (f := w.2.2.2.2.1) (T := w.2.2.2.2.2) hW.present (Or.inr (by omega)) hw.1
  rw [hW.W_self] at cw
  refine xMet.of (V := [some (.ref v)]) moX5_writePictures (Nat.le_of_ble_eq_true rfl) rfl ?_
  refine x_aload_n dX5_writePictures_0 rfl ?_
  refine x_getf dX5_writePictures_1 f_X5_40 hW.o rfl ?_
  refine x_aload_n dX5_writePictures_4 rfl ?_
  refine x_getf dX5_writePictures_5 f_X5_12 hW.o rfl ?_
  refine x_vi0 dX5_writePictures_8 cV_X5_299 (cw) rfl rfl ⟨⟨by decide, by decide⟩, by decide, by decide⟩ (Nat.le_of_ble_eq_true rfl) (xrecv hW.writer.o rfl xcl2) ?_
  exact x_ireturn dX5_writePictures_11 rfl rfl (by decide) (by decide) ⟨rfl, wTo.W hW _ _⟩
theorem c_writtenByte (hW : WAt h v w) (hl : w.2.2.2.2.2.length ≤ 1332) (a : Int32) : xMet g l mX5_writtenByte 6 1 6 [.ref v, .int a] h (opQ v w h (writtenR w.2.2.2.2.2 a)) (opX v w h [nIOB] (writtenR w.2.2.2.2.2 a)) := by
  refine xMet.of (V := [some (.ref v), some (.int a)]) moX5_writtenByte (Nat.le_of_ble_eq_true rfl) rfl ?_
  unfold writtenR
  refine x_iload_n dX5_writtenByte_0 rfl ?_
  refine x_if_lt 15 dX5_writtenByte_1 (by decide) (fun c1 => ?_) (fun c1 => ?_)
  · rw [if_neg (by rw [okB_no1 (by omega) c1]; decide)]
    exact x_throwW (j := 31) th_OOB rfl rfl dX5_writtenByte_15 dX5_writtenByte_18 dX5_writtenByte_19 dX5_writtenByte_22 dX5_writtenByte_25 (by decide) (Nat.le_of_ble_eq_true rfl) (by decide) (by decide) (by decide) (by decide) fun n hn => opX.of (Or.inl rfl) rfl (wTo.thr hW hn)
  refine x_iload_n dX5_writtenByte_4 rfl ?_
  refine x_aload_n dX5_writtenByte_5 rfl ?_
  refine x_getf dX5_writtenByte_6 f_X5_40 hW.o rfl ?_
  refine x_getf dX5_writtenByte_9 f_X5_303 hW.writer.o rfl ?_
  refine x_icmp_lt 26 dX5_writtenByte_12 (by decide) (fun c2 => ?_) (fun c2 => ?_)
  rotate_left
  · rw [if_neg (by rw [okB_no2 (by omega) c1 c2]; decide)]
    exact x_throwW (j := 31) th_OOB rfl rfl dX5_writtenByte_15 dX5_writtenByte_18 dX5_writtenByte_19 dX5_writtenByte_22 dX5_writtenByte_25 (by decide) (Nat.le_of_ble_eq_true rfl) (by decide) (by decide) (by decide) (by decide) fun n hn => opX.of (Or.inl rfl) rfl (wTo.thr hW hn)
  have ho := okB_yes (by omega) c1 c2
  have hx := okB_lt ho
  rw [if_pos ho]
  have e4 := nI_ix a
  refine xP.weak (V' := [some (.ref v), some (.int (nI (ix a)))]) (by simp [xle, xset1, fin3, e4]) ?_
  refine x_aload_n dX5_writtenByte_26 rfl ?_
  refine x_getf dX5_writtenByte_27 f_X5_40 hW.o rfl ?_
  refine x_getf dX5_writtenByte_30 f_X5_306 hW.writer.o rfl ?_
  refine x_iload_n dX5_writtenByte_33 rfl ?_
  refine x_bald dX5_writtenByte_34 hW.writer.bytes (by omega) (by decide) ?_
  rw [show wrF w.2.2.2.2.1 w.2.2.2.2.2 (ix a) = nI (w.2.2.2.2.2.getD (ix a) 0) by unfold wrF; rw [if_pos hx]]
  exact x_ireturn dX5_writtenByte_35 rfl rfl (by decide) (by decide) (opQ.rf hW rfl rfl rfl)
def loadQ (v : Nat) (w : Wd) (h : xH) (R : Bool × Tr × Ar) (r : Option Value) (h' : xH) : Prop :=
  (R.1 = true ∧ r = some (.int (nI (R.2.2.1 2))) ∧ ∃ w', wTo v w h w' h' ∧ kpP (sRd (sT w R.2.2) w.2.2.2.1.1 R.2.1) R.2.2 w') ∨ (R.1 = false ∧ r = some (.int R.2.1.1.2.1) ∧ wTo v w h (sRd (sT w R.2.2) w.2.2.2.1.1 R.2.1) h')
theorem c_load {m9 m : Nat} (h9 : m9 = 11) (hm : m = 600) (hW : WAt h v w) (hh : hisOk w) (hr : rdOk w) : xMet g l mX5_load 8 12 244 [.ref v] h (loadQ v w h (rdTx w.2.2.2.1.1 m9 m w.2.2.2.1.2 w.1.2)) xno := by
  obtain ⟨R, hR⟩ : ∃ R, R = rdTx w.2.2.2.1.1 m9 m w.2.2.2.1.2 w.1.2 := ⟨_, rfl⟩
  have ct := c_readText (g := g) (l := l) (h := h) (o := v + 13) (r := v + 28) (b := w.2.2.2.1.1) (t := w.2.2.2.1.2) (st := w.1.2) h9 hm (Or.inr (by omega)) hr.1 hr.2
  rw [hW.T_self, hW.R_self, ← hR] at ct
  rw [← hR]
  have hto := (wTo.T hW R.2.2).tr (wTo.R (hW.setT R.2.2) w.2.2.2.1.1 R.2.1)
  have hO := hto.1
  refine xMet.of (V := [some (.ref v)]) moX5_load (Nat.le_of_ble_eq_true rfl) rfl ?_
  refine x_aload_n dX5_load_0 rfl ?_
  refine x_getf dX5_load_1 f_X5_33 hW.o rfl ?_
  refine x_aload_n dX5_load_4 rfl ?_
  refine x_getf dX5_load_5 f_X5_16 hW.o rfl ?_
  refine x_vi0 dX5_load_8 cV_X5_76 (ct) rfl rfl ⟨⟨by decide, by decide⟩, by decide, by decide⟩ (Nat.le_of_ble_eq_true rfl) (xrecv hW.reader.o rfl xcl3) ?_
  refine x_if_ne_b 22 dX5_load_11 (by decide) (fun c1 => ?_) (fun c1 => ?_)
  rotate_left
  · refine x_aload_n dX5_load_14 rfl ?_
    refine x_getf dX5_load_15 f_X5_33 hO.o rfl ?_
    refine x_getf dX5_load_18 f_X5_80 hO.reader.o rfl ?_
    exact x_ireturn dX5_load_21 rfl rfl (by decide) (by decide) (Or.inr ⟨c1, rfl, hto⟩)
  generalize putTr (putArch h (v + 13) R.2.2) (v + 28) w.2.2.2.1.1 R.2.1 = h0 at hto hO ⊢
  refine x_aload_n dX5_load_22 rfl ?_
  refine x_getf dX5_load_23 f_X5_22 hO.o rfl ?_
  refine x_aload_n dX5_load_26 rfl ?_
  refine x_getf dX5_load_27 f_X5_12 hO.o rfl ?_
  refine x_callV dX5_load_30 cV_X5_83 (c_keep hO hh.1 hh.2) rfl rfl ⟨⟨by decide, by decide⟩, by decide, by decide⟩ (Nat.le_of_ble_eq_true rfl) (xrecv hO.history rfl xcl1) (fun _ _ q => q.elim) (fun v9 h9 q9 => ?_)
  obtain ⟨rfl, w1, hto1, hk⟩ := q9
  have hW1 := hto1.1
  have eT : w1.1.2 = R.2.2 := congrArg Prod.snd hk.1
  have ct2 := c_takeFrom (g := g) (l := l) (o := v + 1) (st := w1.1.1) hW1.trial (Or.inr (by omega))
  rw [hW1.P_self, eT] at ct2
  refine x_aload_n dX5_load_33 rfl ?_
  refine x_getf dX5_load_34 f_X5_12 hW1.o rfl ?_
  refine x_aload_n dX5_load_37 rfl ?_
  refine x_getf dX5_load_38 f_X5_16 hW1.o rfl ?_
  refine x_vv0 dX5_load_41 cV_X5_87 (ct2) rfl rfl ⟨⟨by decide, by decide⟩, by decide, by decide⟩ (Nat.le_of_ble_eq_true rfl) (xrecv hW1.present.o rfl xcl0) ?_
  refine x_aload_n dX5_load_44 rfl ?_
  refine x_getf dX5_load_45 f_X5_12 (hW1.setP R.2.2).o rfl ?_
  refine x_getf dX5_load_48 f_X5_90 (hW1.setP R.2.2).present.o rfl ?_
  exact x_ireturn dX5_load_51 rfl rfl (by decide) (by decide) (Or.inl ⟨c1, rfl, _, hto.tr (hto1.tr (wTo.P hW1 R.2.2)), w1, hk, rfl⟩)
end V9
