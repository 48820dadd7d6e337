/-! ===== VillagePhotos: changes ===== -/
def askR (st : Ar) (p f q : Int32) : Rs :=
  if okPF st p f = true then
    if okB q (st.1 0) = true then
      if hasB st (ix p) (ix f) = true then
        if heldB st (ix p) (ix f) = true then (0, xb (rightB st (ix p) (ix f) (ix q)), some (ansS st (ix p) (ix f) (ix q)))
        else (0, -12, none)
      else (0, -11, none)
    else (1, 0, none)
  else (1, 0, none)
def waveR (st : Ar) : Rs := (0, nI (repO st (st.1 2)).2, some (repO st (st.1 2)).1)
def spreadR (st : Ar) : Rs := (0, nI (mcO st (st.1 2)).2, some (mcO st (st.1 2)).1)
def roundR (st : Ar) (x : Int32) : Rs := if ix x < 2 ^ 31 then (0, nI (brkV (rndO (st, ix x) (st.1 2)).1) - nI (brkV st), some (rndO (st, ix x) (st.1 2)).1) else (1, 0, none)
def repairR (st : Ar) (p f : Int32) : Rs :=
  if okPF st p f = true then
    if hasB st (ix p) (ix f) = true then
      if heldB st (ix p) (ix f) = true then (0, -13, none)
      else if srcV st (ix p) (ix f) = 0 then (0, -14, none)
      else (0, nI (popc (srcV st (ix p) (ix f))), some (mendS st (ix p) (ix f) (srcV st (ix p) (ix f))))
    else (0, -11, none)
  else (1, 0, none)
def harmOk (st : Ar) (t : Int32) : Bool := decide (0 < ix t) && decide (ix t < 2 ^ st.1 0)
def harmR (st : Ar) (f t : Int32) : Rs :=
  if okB f (st.1 1) = true then
    if harmOk st t = true then (0, nI (unsV (spoilS st (ix f) (ix t) (st.1 2))) - nI (unsV st), some (spoilS st (ix f) (ix t) (st.1 2)))
    else (2, 0, none)
  else (1, 0, none)
def joinR (st : Ar) (a : Int32) : Rs :=
  if 1 ≤ ix a ∧ ix a ≤ 20 then
    if st.1 1 < 10 then (0, nI (st.1 1), some (addFamS st (lN 27) (ix a))) else (0, -15, none)
  else (1, 0, none)
def meetR (st : Ar) (a b : Int32) : Rs :=
  if okB a (st.1 1) = true then
    if okB b (st.1 1) = true then
      if a = b then (2, 0, none)
      else if (st.2.2 1 (ix a)).testBit (ix b) = true then (0, -16, none)
      else (0, nI (pairsV (nbS st (ix a) (ix b))), some (nbS st (ix a) (ix b)))
    else (1, 0, none)
  else (1, 0, none)
def leaveR (st : Ar) (f : Int32) : Rs :=
  if okB f (st.1 1) = true then
    if 2 < st.1 1 then (0, nI (st.2.2 4 (ix f)), some (rmS st (ix f))) else (0, -17, none)
  else (1, 0, none)
def plS (st : Ar) (p x : Nat) : Ar := aF st 5 (va_up (st.2.2 5) p x)
def pledgeR (st : Ar) (p a : Int32) : Rs :=
  if okB p (st.1 2) = true then
    if 1 ≤ ix a ∧ ix a ≤ 10 then (0, nI (st.2.2 5 (ix p)), some (plS st (ix p) (ix a))) else (2, 0, none)
  else (1, 0, none)
def hisOk (w : Wd) : Prop := w.2.1.1 < 8 ∧ w.2.1.2 ≤ 8
section V6
variable {g : xG} {l : Launch} {h : xH} {v : Nat} {w : Wd}
theorem opX.mono {R R' : Rs} {ks : List String} {E : String} {h' : xH} (e : R = R') (q : opX v w h ks R E h') : opX v w h ks R' E h' := e ▸ q
theorem kp_end {w1 : Wd} {h1 : xH} (hto : wTo v w h w1 h1) (hk : kpW w w1) {x : Int32} {P : Ar} : opQ v w h (0, x, some P) (some (.int x)) (putArch h1 (v + 1) P) := ⟨rfl, rfl, _, hto.tr (wTo.P hto.1 P), w1, hk, rfl⟩

theorem c_wave (hW : WAt h v w) (hw : aW w.1.1) (hh : hisOk w) : xMet g l mX5_wave 6 12 244 [.ref v] h (opQ v w h (waveR w.1.1)) xno := by
  refine xMet.of (V := [some (.ref v)]) moX5_wave (Nat.le_of_ble_eq_true rfl) rfl ?_
  refine x_aload_n dX5_wave_0 rfl ?_
  refine x_getf dX5_wave_1 f_X5_22 hW.o rfl ?_
  refine x_aload_n dX5_wave_4 rfl ?_
  refine x_getf dX5_wave_5 f_X5_12 hW.o rfl ?_
  refine x_callV dX5_wave_8 cV_X5_83 (c_keep hW hh.1 hh.2) rfl rfl ⟨⟨by decide, by decide⟩, by decide, by decide⟩ (Nat.le_of_ble_eq_true rfl) (xrecv hW.history rfl xcl1) (fun _ _ q => q.elim) (fun v9 h9 q9 => ?_)
  obtain ⟨rfl, w1, hto, hk⟩ := q9
  have hW1 := hto.1
  have e1 : w1.1.1 = w.1.1 := congrArg Prod.fst hk.1
  have eP := hW1.P_self
  rw [e1] at eP
  rw [← eP]
  refine x_aload_n dX5_wave_11 rfl ?_
  refine x_getf dX5_wave_12 f_X5_12 (hW1.setP _).o rfl ?_
  refine x_vi0 dX5_wave_15 cV_X5_274 (c_repairAtOnce hw.1) rfl rfl ⟨⟨by decide, by decide⟩, by decide, by decide⟩ (Nat.le_of_ble_eq_true rfl) (xrecv (hW1.setP _).present.o rfl xcl0) ?_
  exact x_ireturn dX5_wave_18 rfl rfl (by decide) (by decide) (kp_end hto hk)
theorem c_spread (hW : WAt h v w) (hw : aW w.1.1) (hc : aCn w.1.1 10000000) (hh : hisOk w) : xMet g l mX5_spread 6 12 244 [.ref v] h (opQ v w h (spreadR w.1.1)) xno := by
  refine xMet.of (V := [some (.ref v)]) moX5_spread (Nat.le_of_ble_eq_true rfl) rfl ?_
  refine x_aload_n dX5_spread_0 rfl ?_
  refine x_getf dX5_spread_1 f_X5_22 hW.o rfl ?_
  refine x_aload_n dX5_spread_4 rfl ?_
  refine x_getf dX5_spread_5 f_X5_12 hW.o rfl ?_
  refine x_callV dX5_spread_8 cV_X5_83 (c_keep hW hh.1 hh.2) rfl rfl ⟨⟨by decide, by decide⟩, by decide, by decide⟩ (Nat.le_of_ble_eq_true rfl) (xrecv hW.history rfl xcl1) (fun _ _ q => q.elim) (fun v9 h9 q9 => ?_)
  obtain ⟨rfl, w1, hto, hk⟩ := q9
  have hW1 := hto.1
  have e1 : w1.1.1 = w.1.1 := congrArg Prod.fst hk.1
  have eP := hW1.P_self
  rw [e1] at eP
  rw [← eP]
  refine x_aload_n dX5_spread_11 rfl ?_
  refine x_getf dX5_spread_12 f_X5_12 (hW1.setP _).o rfl ?_
  refine x_vi0 dX5_spread_15 cV_X5_238 (c_makeCopies hw.1 hc) rfl rfl ⟨⟨by decide, by decide⟩, by decide, by decide⟩ (Nat.le_of_ble_eq_true rfl) (xrecv (hW1.setP _).present.o rfl xcl0) ?_
  exact x_ireturn dX5_spread_18 rfl rfl (by decide) (by decide) (kp_end hto hk)
theorem c_ask (hW : WAt h v w) (hw : aW w.1.1) (hh : hisOk w) (p f q : Int32) : xMet g l mX5_ask 8 15 262 [.ref v, .int p, .int f, .int q] h (opQ v w h (askR w.1.1 p f q)) (opX v w h [nIOB] (askR w.1.1 p f q)) := by
  refine xMet.of (V := [some (.ref v), some (.int p), some (.int f), some (.int q)]) moX5_ask (Nat.le_of_ble_eq_true rfl) rfl ?_
  refine x_aload_n dX5_ask_0 rfl ?_
  refine x_iload_n dX5_ask_1 rfl ?_
  refine x_iload_n dX5_ask_2 rfl ?_
  refine x_callV dX5_ask_3 cV_X5_183 (c_needBoth hW hw p f) rfl rfl ⟨⟨by decide, by decide⟩, by decide, by decide⟩ (Nat.le_of_ble_eq_true rfl) (xrecv hW.o rfl xcl4) (fun E h9 q9 => x_out rfl (by decide) (by decide) ?_) (fun v9 h9 q9 => ?_)
  · obtain ⟨rfl, q2, q3⟩ := q9
    unfold askR
    rw [if_neg (by rw [q2]; decide)]
    exact opX.of (Or.inl rfl) rfl q3
  obtain ⟨rfl, rfl, q3⟩ := q9
  obtain ⟨hp, hf, hp2, hf2⟩ := ok_PF hw q3
  have e1 := nI_ix p
  have e2 := nI_ix f
  have e3 := nI_ix q
  have hT : w.1.1.1 0 ≤ 16 := hw.1.1.2
  unfold askR
  rw [if_pos q3]
  refine x_iload_n dX5_ask_6 rfl ?_
  refine x_if_lt 21 dX5_ask_7 (by decide) (fun c1 => ?_) (fun c1 => ?_)
  · rw [if_neg (by rw [okB_no1 (by omega) c1]; decide)]
    exact x_throw (j := 23) th_OOB rfl rfl dX5_ask_21 dX5_ask_24 dX5_ask_25 dX5_ask_27 dX5_ask_30 (by decide) (Nat.le_of_ble_eq_true rfl) (by decide) (by decide) (by decide) (by decide) fun n hn => opX.of (Or.inl rfl) rfl (wTo.thr hW hn)
  refine x_iload_n dX5_ask_10 rfl ?_
  refine x_aload_n dX5_ask_11 rfl ?_
  refine x_getf dX5_ask_12 f_X5_12 hW.o rfl ?_
  refine x_getf dX5_ask_15 f_X5_96 hW.present.o rfl ?_
  refine x_icmp_lt 31 dX5_ask_18 (by decide) (fun c2 => ?_) (fun c2 => ?_)
  rotate_left
  · rw [if_neg (by rw [okB_no2 (by omega) c1 c2]; decide)]
    exact x_throw (j := 23) th_OOB rfl rfl dX5_ask_21 dX5_ask_24 dX5_ask_25 dX5_ask_27 dX5_ask_30 (by decide) (Nat.le_of_ble_eq_true rfl) (by decide) (by decide) (by decide) (by decide) fun n hn => opX.of (Or.inl rfl) rfl (wTo.thr hW hn)
  have hq0 := okB_yes (by omega) c1 c2
  have hq := okB_lt hq0
  rw [if_pos hq0]
  refine xP.weak (V' := [some (.ref v), some (.int (nI (ix p))), some (.int (nI (ix f))), some (.int (nI (ix q)))]) (by simp [xle, xset1, fin3, e1, e2, e3]) ?_
  refine x_aload_n dX5_ask_31 rfl ?_
  refine x_getf dX5_ask_32 f_X5_12 hW.o rfl ?_
  refine x_iload_n dX5_ask_35 rfl ?_
  refine x_iload_n dX5_ask_36 rfl ?_
  refine x_vi0 dX5_ask_37 cV_X5_187 (c_hasCopy hW.present hw.1 hp (show ix f < 32 by omega)) rfl rfl ⟨⟨by decide, by decide⟩, by decide, by decide⟩ (Nat.le_of_ble_eq_true rfl) (xrecv hW.present.o rfl xcl0) ?_
  refine x_if_ne_b 46 dX5_ask_40 (by decide) (fun c3 => ?_) (fun c3 => ?_)
  rotate_left
  · rw [if_neg (by rw [c3]; decide)]
    refine x_bipush (-11) dX5_ask_43 (by decide) ?_
    exact x_ireturn dX5_ask_45 rfl rfl (by decide) (by decide) (opQ.rf hW rfl rfl rfl)
  rw [if_pos c3]
  refine x_aload_n dX5_ask_46 rfl ?_
  refine x_getf dX5_ask_47 f_X5_12 hW.o rfl ?_
  refine x_iload_n dX5_ask_50 rfl ?_
  refine x_iload_n dX5_ask_51 rfl ?_
  refine x_vi0 dX5_ask_52 cV_X5_195 (c_isHeld hW.present (ix p) (ix f) hp (show ix f < 32 by omega) (hw.1.held hp)) rfl rfl ⟨⟨by decide, by decide⟩, by decide, by decide⟩ (Nat.le_of_ble_eq_true rfl) (xrecv hW.present.o rfl xcl0) ?_
  refine x_if_ne_b 61 dX5_ask_55 (by decide) (fun c4 => ?_) (fun c4 => ?_)
  rotate_left
  · rw [if_neg (show ¬ heldB w.1.1 (ix p) (ix f) = true by rw [show heldB w.1.1 (ix p) (ix f) = false from c4]; decide)]
    refine x_bipush (-12) dX5_ask_58 (by decide) ?_
    exact x_ireturn dX5_ask_60 rfl rfl (by decide) (by decide) (opQ.rf hW rfl rfl rfl)
  rw [if_pos (show heldB w.1.1 (ix p) (ix f) = true from c4)]
  refine x_aload_n dX5_ask_61 rfl ?_
  refine x_getf dX5_ask_62 f_X5_22 hW.o rfl ?_
  refine x_aload_n dX5_ask_65 rfl ?_
  refine x_getf dX5_ask_66 f_X5_12 hW.o rfl ?_
  refine x_callV dX5_ask_69 cV_X5_83 (c_keep hW hh.1 hh.2) rfl rfl ⟨⟨by decide, by decide⟩, by decide, by decide⟩ (Nat.le_of_ble_eq_true rfl) (xrecv hW.history rfl xcl1) (fun _ _ q => q.elim) (fun v9 h9 q9 => ?_)
  obtain ⟨rfl, w1, hto, hk⟩ := q9
  have hW1 := hto.1
  have e1 : w1.1.1 = w.1.1 := congrArg Prod.fst hk.1
  have eP := hW1.P_self
  rw [e1] at eP
  rw [← eP]
  refine x_aload_n dX5_ask_72 rfl ?_
  refine x_getf dX5_ask_73 f_X5_12 (hW1.setP _).o rfl ?_
  refine x_iload_n dX5_ask_76 rfl ?_
  refine x_iload_n dX5_ask_77 rfl ?_
  refine x_iload_n dX5_ask_78 rfl ?_
  refine x_vi0 dX5_ask_79 cV_X5_258 (c_answersRight hw.1 hp hf (show ix q < 16 by omega)) rfl rfl ⟨⟨by decide, by decide⟩, by decide, by decide⟩ (Nat.le_of_ble_eq_true rfl) (xrecv (hW1.setP _).present.o rfl xcl0) ?_
  refine x_if_eq_b 89 dX5_ask_82 (by decide) (fun c5 => ?_) (fun c5 => ?_)
  · refine x_iconst (nI 0) dX5_ask_89 (by decide) ?_
    rw [c5]
    exact x_ireturn dX5_ask_90 rfl rfl (by decide) (by decide) (kp_end hto hk)
  · refine x_iconst (nI 1) dX5_ask_85 (by decide) ?_
    refine x_goto 90 dX5_ask_86 (by decide) ?_
    rw [c5]
    exact x_ireturn dX5_ask_90 rfl rfl (by decide) (by decide) (kp_end hto hk)
theorem c_round (hW : WAt h v w) (hw : aW w.1.1) (hh : hisOk w) (x : Int32) : xMet g l mX5_round 7 13 250 [.ref v, .int x] h (opQ v w h (roundR w.1.1 x)) (opX v w h [nIAE] (roundR w.1.1 x)) := by
  refine xMet.of (V := [some (.ref v), some (.int x), none]) moX5_round (Nat.le_of_ble_eq_true rfl) rfl ?_
  refine x_iload_n dX5_round_0 rfl ?_
  refine x_callS dX5_round_1 cS_X5_209 (c_needRoundNumber hW x) rfl rfl ⟨⟨by decide, by decide⟩, by decide, by decide⟩ (Nat.le_of_ble_eq_true rfl) (fun E h9 q9 => x_out rfl (by decide) (by decide) ?_) (fun v9 h9 q9 => ?_)
  · obtain ⟨rfl, q2, q3⟩ := q9
    unfold roundR
    rw [if_neg q2]
    exact opX.of (Or.inl rfl) rfl q3
  obtain ⟨rfl, rfl, q3⟩ := q9
  have e2 := nI_ix x
  have hK : w.1.1.1 2 ≤ 12 := hw.1.2.2.1
  unfold roundR
  rw [if_pos q3]
  refine xP.weak (V' := [some (.ref v), some (.int (nI (ix x))), none]) (by simp [xle, xset1, fin3, e2]) ?_
  refine x_aload_n dX5_round_4 rfl ?_
  refine x_getf dX5_round_5 f_X5_22 hW.o rfl ?_
  refine x_aload_n dX5_round_8 rfl ?_
  refine x_getf dX5_round_9 f_X5_12 hW.o rfl ?_
  refine x_callV dX5_round_12 cV_X5_83 (c_keep hW hh.1 hh.2) rfl rfl ⟨⟨by decide, by decide⟩, by decide, by decide⟩ (Nat.le_of_ble_eq_true rfl) (xrecv hW.history rfl xcl1) (fun _ _ q => q.elim) (fun v9 h9 q9 => ?_)
  obtain ⟨rfl, w1, hto, hk⟩ := q9
  have hW1 := hto.1
  have e1 : w1.1.1 = w.1.1 := congrArg Prod.fst hk.1
  have eP := hW1.P_self
  rw [e1] at eP
  rw [← eP]
  have hr := rndO_ok (s := (w.1.1, ix x)) hw.1 (w.1.1.1 2) hK
  refine x_aload_n dX5_round_15 rfl ?_
  refine x_getf dX5_round_16 f_X5_12 (hW1.setP _).o rfl ?_
  refine x_vi0 dX5_round_19 cV_X5_106 (c_brokenCopies (hW1.setP _).present hw.1) rfl rfl ⟨⟨by decide, by decide⟩, by decide, by decide⟩ (Nat.le_of_ble_eq_true rfl) (xrecv (hW1.setP _).present.o rfl xcl0) ?_
  refine x_istore_n dX5_round_22 (by decide) rfl rfl ?_
  refine x_aload_n dX5_round_23 rfl ?_
  refine x_getf dX5_round_24 f_X5_12 (hW1.setP _).o rfl ?_
  refine x_iload_n dX5_round_27 rfl ?_
  refine x_vi0 dX5_round_28 cV_X5_212 (c_askRound hw.1 q3) rfl rfl ⟨⟨by decide, by decide⟩, by decide, by decide⟩ (Nat.le_of_ble_eq_true rfl) (xrecv (hW1.setP _).present.o rfl xcl0) ?_
  refine x_pop dX5_round_31 rfl ?_
  refine x_aload_n dX5_round_32 rfl ?_
  refine x_getf dX5_round_33 f_X5_12 (hW1.setP _).o rfl ?_
  refine x_vi0 dX5_round_36 cV_X5_106 (c_brokenCopies (hW1.setP _).present hr) rfl rfl ⟨⟨by decide, by decide⟩, by decide, by decide⟩ (Nat.le_of_ble_eq_true rfl) (xrecv (hW1.setP _).present.o rfl xcl0) ?_
  refine x_iload_n dX5_round_39 rfl ?_
  refine x_isub dX5_round_40 ?_
  exact x_ireturn dX5_round_41 rfl rfl (by decide) (by decide) (kp_end hto hk)
theorem c_repair (hW : WAt h v w) (hw : aW w.1.1) (hh : hisOk w) (p f : Int32) : xMet g l mX5_repair 8 14 256 [.ref v, .int p, .int f] h (opQ v w h (repairR w.1.1 p f)) (opX v w h [nIOB] (repairR w.1.1 p f)) := by
  refine xMet.of (V := [some (.ref v), some (.int p), some (.int f), none]) moX5_repair (Nat.le_of_ble_eq_true rfl) rfl ?_
  refine x_aload_n dX5_repair_0 rfl ?_
  refine x_iload_n dX5_repair_1 rfl ?_
  refine x_iload_n dX5_repair_2 rfl ?_
  refine x_callV dX5_repair_3 cV_X5_183 (c_needBoth hW hw p f) rfl rfl ⟨⟨by decide, by decide⟩, by decide, by decide⟩ (Nat.le_of_ble_eq_true rfl) (xrecv hW.o rfl xcl4) (fun E h9 q9 => x_out rfl (by decide) (by decide) ?_) (fun v9 h9 q9 => ?_)
  · obtain ⟨rfl, q2, q3⟩ := q9
    unfold repairR
    rw [if_neg (by rw [q2]; decide)]
    exact opX.of (Or.inl rfl) rfl q3
  obtain ⟨rfl, rfl, q3⟩ := q9
  obtain ⟨hp, hf, hp2, hf2⟩ := ok_PF hw q3
  have e3 := nI_ix p
  have e2 := nI_ix f
  have hs : srcV w.1.1 (ix p) (ix f) < 1024 := srcV_lt hw.1 hp
  unfold repairR
  rw [if_pos q3]
  refine xP.weak (V' := [some (.ref v), some (.int (nI (ix p))), some (.int (nI (ix f))), none]) (by simp [xle, xset1, fin3, e2, e3]) ?_
  refine x_aload_n dX5_repair_6 rfl ?_
  refine x_getf dX5_repair_7 f_X5_12 hW.o rfl ?_
  refine x_iload_n dX5_repair_10 rfl ?_
  refine x_iload_n dX5_repair_11 rfl ?_
  refine x_vi0 dX5_repair_12 cV_X5_187 (c_hasCopy hW.present hw.1 hp (show ix f < 32 by omega)) rfl rfl ⟨⟨by decide, by decide⟩, by decide, by decide⟩ (Nat.le_of_ble_eq_true rfl) (xrecv hW.present.o rfl xcl0) ?_
  refine x_if_ne_b 21 dX5_repair_15 (by decide) (fun c3 => ?_) (fun c3 => ?_)
  rotate_left
  · rw [if_neg (by rw [c3]; decide)]
    refine x_bipush (-11) dX5_repair_18 (by decide) ?_
    exact x_ireturn dX5_repair_20 rfl rfl (by decide) (by decide) (opQ.rf hW rfl rfl rfl)
  rw [if_pos c3]
  refine x_aload_n dX5_repair_21 rfl ?_
  refine x_getf dX5_repair_22 f_X5_12 hW.o rfl ?_
  refine x_iload_n dX5_repair_25 rfl ?_
  refine x_iload_n dX5_repair_26 rfl ?_
  refine x_vi0 dX5_repair_27 cV_X5_195 (c_isHeld hW.present (ix p) (ix f) hp (show ix f < 32 by omega) (hw.1.held hp)) rfl rfl ⟨⟨by decide, by decide⟩, by decide, by decide⟩ (Nat.le_of_ble_eq_true rfl) (xrecv hW.present.o rfl xcl0) ?_
  refine x_if_eq_b 36 dX5_repair_30 (by decide) (fun c4 => ?_) (fun c4 => ?_)
  rotate_left
  · rw [if_pos (show heldB w.1.1 (ix p) (ix f) = true from c4)]
    refine x_bipush (-13) dX5_repair_33 (by decide) ?_
    exact x_ireturn dX5_repair_35 rfl rfl (by decide) (by decide) (opQ.rf hW rfl rfl rfl)
  rw [if_neg (show ¬ heldB w.1.1 (ix p) (ix f) = true by rw [show heldB w.1.1 (ix p) (ix f) = false from c4]; decide)]
  refine x_aload_n dX5_repair_36 rfl ?_
  refine x_getf dX5_repair_37 f_X5_12 hW.o rfl ?_
  refine x_iload_n dX5_repair_40 rfl ?_
  refine x_iload_n dX5_repair_41 rfl ?_
  refine x_vi0 dX5_repair_42 cV_X5_215 (c_sourcesOf hW.present hp hf) rfl rfl ⟨⟨by decide, by decide⟩, by decide, by decide⟩ (Nat.le_of_ble_eq_true rfl) (xrecv hW.present.o rfl xcl0) ?_
  refine x_istore_n dX5_repair_45 (by decide) rfl rfl ?_
  refine x_iload_n dX5_repair_46 rfl ?_
  refine x_if_ne_n 53 dX5_repair_47 (by decide) (by omega) (fun c5 => ?_) (fun c5 => ?_)
  rotate_left
  · rw [if_pos c5]
    refine x_bipush (-14) dX5_repair_50 (by decide) ?_
    exact x_ireturn dX5_repair_52 rfl rfl (by decide) (by decide) (opQ.rf hW rfl rfl rfl)
  rw [if_neg (by omega)]
  refine x_aload_n dX5_repair_53 rfl ?_
  refine x_getf dX5_repair_54 f_X5_22 hW.o rfl ?_
  refine x_aload_n dX5_repair_57 rfl ?_
  refine x_getf dX5_repair_58 f_X5_12 hW.o rfl ?_
  refine x_callV dX5_repair_61 cV_X5_83 (c_keep hW hh.1 hh.2) rfl rfl ⟨⟨by decide, by decide⟩, by decide, by decide⟩ (Nat.le_of_ble_eq_true rfl) (xrecv hW.history rfl xcl1) (fun _ _ q => q.elim) (fun v9 h9 q9 => ?_)
  obtain ⟨rfl, w1, hto, hk⟩ := q9
  have hW1 := hto.1
  have e1 : w1.1.1 = w.1.1 := congrArg Prod.fst hk.1
  have eP := hW1.P_self
  rw [e1] at eP
  rw [← eP]
  refine x_aload_n dX5_repair_64 rfl ?_
  refine x_getf dX5_repair_65 f_X5_12 (hW1.setP _).o rfl ?_
  refine x_iload_n dX5_repair_68 rfl ?_
  refine x_iload_n dX5_repair_69 rfl ?_
  refine x_iload_n dX5_repair_70 rfl ?_
  refine x_vv0 dX5_repair_71 cV_X5_270 (c_mendCopy hw.1 hp hf hs) rfl rfl ⟨⟨by decide, by decide⟩, by decide, by decide⟩ (Nat.le_of_ble_eq_true rfl) (xrecv (hW1.setP _).present.o rfl xcl0) ?_
  refine x_iload_n dX5_repair_74 rfl ?_
  refine x_si0 dX5_repair_75 cS_X5_233 (c_bitCount (show srcV w.1.1 (ix p) (ix f) < 65536 by omega)) rfl rfl ⟨⟨by decide, by decide⟩, by decide, by decide⟩ (Nat.le_of_ble_eq_true rfl) ?_
  exact x_ireturn dX5_repair_78 rfl rfl (by decide) (by decide) (kp_end hto hk)
end V6
