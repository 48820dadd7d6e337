/-! ===== VillagePhotos: more changes ===== -/
theorem nI0_ix {z : Nat} (h : z < 2 ^ 32) : nI z = 0 ↔ z = 0 := by
  constructor
  · intro q
    have := congrArg ix q
    rw [ix_nI h] at this
    exact this
  · intro q; rw [q]; rfl
theorem andn_0 {x T : Nat} (hx : x < 2 ^ 32) (hT : T ≤ 16) : andn x (2 ^ T - 1) = 0 ↔ x < 2 ^ T := by
  have h16 : 2 ^ T ≤ 65536 := pow_le2 (a := T) (b := 16) hT
  constructor
  · intro q
    refine Nat.lt_pow_two_of_testBit x fun i hi => ?_
    by_cases h32 : i < 32
    · have hb := andn_bit (h := x) (s := 2 ^ T - 1) (by omega) h32
      rw [q, Nat.zero_testBit, Nat.testBit_two_pow_sub_one, decide_eq_false (by omega), Bool.not_false, Bool.and_true] at hb
      exact hb.symm
    · exact Nat.testBit_lt_two_pow (Nat.lt_of_lt_of_le hx (Nat.pow_le_pow_right (by decide) (by omega)))
  · intro q
    refine Nat.eq_of_testBit_eq fun i => ?_
    rw [Nat.zero_testBit]
    by_cases h32 : i < 32
    · rw [andn_bit (by omega) h32, Nat.testBit_two_pow_sub_one]
      by_cases hi : i < T
      · rw [decide_eq_true hi, Bool.not_true, Bool.and_false]
      · rw [Nat.testBit_lt_two_pow (Nat.lt_of_lt_of_le q (pow_le2 (by omega))), Bool.false_and]
    · exact Nat.testBit_lt_two_pow (Nat.lt_of_le_of_lt (andn_le _ _) (Nat.lt_of_lt_of_le hx (Nat.pow_le_pow_right (by decide) (by omega))))
theorem rng_no1 {a : Int32} {n : Nat} (h : a < nI 1) (hn : n < 2 ^ 31) : ¬ (1 ≤ ix a ∧ ix a ≤ n) := by
  intro q
  have e := nI_ix a
  rw [← e, nI_ltI (by omega) (by decide)] at h
  omega
theorem rng_no2 {a : Int32} {n : Nat} (h : ¬ a ≤ nI n) (hn : n < 2 ^ 31) : ¬ (1 ≤ ix a ∧ ix a ≤ n) := by
  intro q
  have e := nI_ix a
  rw [← e, nI_leI (by omega) hn] at h
  omega
theorem rng_yes {a : Int32} {n : Nat} (h1 : ¬ a < nI 1) (h : a ≤ nI n) (hn : n < 2 ^ 31) : 1 ≤ ix a ∧ ix a ≤ n := by
  have e := nI_ix a
  have hp : ¬ a < 0 := fun q => h1 (Int32.lt_trans q (by decide))
  rw [neg_ix] at hp
  rw [← e, nI_ltI (by omega) (by decide)] at h1
  rw [← e, nI_leI (by omega) hn] at h
  omega
section V7
variable {g : xG} {l : Launch} {h : xH} {v : Nat} {w : Wd}
theorem ok_F {st : Ar} {f : Int32} (hw : aW st) (h : okB f (st.1 1) = true) : ix f < 10 ∧ ix f < st.1 1 := by
  have h2 := okB_lt h
  have h3 : st.1 1 ≤ 10 := hw.1.2.1
  omega
theorem ok_P {st : Ar} {p : Int32} (hw : aW st) (h : okB p (st.1 2) = true) : ix p < 12 ∧ ix p < st.1 2 := by
  have h2 := okB_lt h
  have h3 : st.1 2 ≤ 12 := hw.1.2.2.1
  omega
theorem rm1 {f : Int32} : some (Value.int f) = some (Value.int (nI (ix f))) := by rw [nI_ix]
theorem c_harm (hW : WAt h v w) (hw : aW w.1.1) (hh : hisOk w) (f t : Int32) : xMet g l mX5_harm 7 14 256 [.ref v, .int f, .int t] h (opQ v w h (harmR w.1.1 f t)) (opX v w h [nIOB, nIAE] (harmR w.1.1 f t)) := by
  refine xMet.of (V := [some (.ref v), some (.int f), some (.int t), none]) moX5_harm (Nat.le_of_ble_eq_true rfl) rfl ?_
  refine x_aload_n dX5_harm_0 rfl ?_
  refine x_iload_n dX5_harm_1 rfl ?_
  refine x_callV dX5_harm_2 cV_X5_132 (c_needFamily hW hw f) rfl rfl ⟨⟨by decide, by decide⟩, by decide, by decide⟩ (Nat.le_of_ble_eq_true rfl) (xrecv hW.o rfl xcl4) (fun E h9 q9 => x_out rfl (by decide) (by decide) ?_) (fun v9 h9 q9 => ?_)
  · obtain ⟨rfl, q2, q3⟩ := q9
    unfold harmR
    rw [if_neg (by rw [q2]; decide)]
    exact opX.of (Or.inl rfl) rfl q3
  obtain ⟨rfl, rfl, q3⟩ := q9
  obtain ⟨hf, hf2⟩ := ok_F hw q3
  have e4 := nI_ix f
  have e5 := nI_ix t
  have hT : w.1.1.1 0 ≤ 16 := hw.1.1.2
  have h16 : 2 ^ w.1.1.1 0 ≤ 65536 := hw.1.T16
  unfold harmR
  rw [if_pos q3]
  refine xP.weak (V' := [some (.ref v), some (.int (nI (ix f))), some (.int (nI (ix t))), none]) (by simp [xle, xset1, fin3, e4, e5]) ?_
  have hz := nI0_ix (ix_lt t)
  have hax := andn_0 (ix_lt t) hT
  have hal : andn (ix t) (2 ^ w.1.1.1 0 - 1) < 2 ^ 32 := Nat.lt_of_le_of_lt (andn_le _ _) (ix_lt t)
  refine x_iload_n dX5_harm_5 rfl ?_
  refine x_if_eq 23 dX5_harm_6 (by decide) (fun c1 => ?_) (fun c1 => ?_)
  · have hc1 := hz.mp c1
    rw [if_neg (show ¬ harmOk w.1.1 t = true by unfold harmOk; rw [decide_eq_false (by omega), Bool.false_and]; decide)]
    exact x_throwW (j := 24) th_IAE rfl rfl dX5_harm_23 dX5_harm_26 dX5_harm_27 dX5_harm_30 dX5_harm_33 (by decide) (Nat.le_of_ble_eq_true rfl) (by decide) (by decide) (by decide) (by decide) fun n hn => opX.of (Or.inr (Or.inl rfl)) rfl (wTo.thr hW hn)
  have hc1 : 0 < ix t := Nat.pos_of_ne_zero fun q => c1 (hz.mpr q)
  refine x_iload_n dX5_harm_9 rfl ?_
  refine x_aload_n dX5_harm_10 rfl ?_
  refine x_getf dX5_harm_11 f_X5_12 hW.o rfl ?_
  refine x_vi0 dX5_harm_14 cV_X5_262 (c_allTiles hW.present hw.1) rfl rfl ⟨⟨by decide, by decide⟩, by decide, by decide⟩ (Nat.le_of_ble_eq_true rfl) (xrecv hW.present.o rfl xcl0) ?_
  refine x_iconst (-1) dX5_harm_17 (by decide) ?_
  refine x_inot_n dX5_harm_18 (by omega) ?_
  refine x_iand_n dX5_harm_19 ?_
  refine x_if_eq 34 dX5_harm_20 (by decide) (fun c2 => ?_) (fun c2 => ?_)
  rotate_left
  · have hc2 : ¬ ix t < 2 ^ w.1.1.1 0 := fun q => c2 ((nI0_ix hal).mpr (hax.mpr q))
    rw [if_neg (show ¬ harmOk w.1.1 t = true by unfold harmOk; rw [decide_eq_false hc2, Bool.and_false]; decide)]
    exact x_throwW (j := 24) th_IAE rfl rfl dX5_harm_23 dX5_harm_26 dX5_harm_27 dX5_harm_30 dX5_harm_33 (by decide) (Nat.le_of_ble_eq_true rfl) (by decide) (by decide) (by decide) (by decide) fun n hn => opX.of (Or.inr (Or.inl rfl)) rfl (wTo.thr hW hn)
  have hc2 := hax.mp ((nI0_ix hal).mp c2)
  rw [if_pos (show harmOk w.1.1 t = true by unfold harmOk; rw [decide_eq_true hc1, decide_eq_true hc2]; rfl)]
  refine x_aload_n dX5_harm_34 rfl ?_
  refine x_getf dX5_harm_35 f_X5_22 hW.o rfl ?_
  refine x_aload_n dX5_harm_38 rfl ?_
  refine x_getf dX5_harm_39 f_X5_12 hW.o rfl ?_
  refine x_callV dX5_harm_42 cV_X5_83 (c_keep hW hh.1 hh.2) rfl rfl ⟨⟨by decide, by decide⟩, by decide, by decide⟩ (Nat.le_of_ble_eq_true rfl) (xrecv hW.history rfl xcl1) (fun _ _ q => q.elim) (fun v9 h9 q9 => ?_)
  obtain ⟨rfl, w1, hto, hk⟩ := q9
  have hW1 := hto.1
  have e1 : w1.1.1 = w.1.1 := congrArg Prod.fst hk.1
  have eP := hW1.P_self
  rw [e1] at eP
  rw [← eP]
  have hK : w.1.1.1 2 ≤ 12 := hw.1.2.2.1
  have hs := hw.1.spoil hc2 hf (w.1.1.1 2) hK
  refine x_aload_n dX5_harm_45 rfl ?_
  refine x_getf dX5_harm_46 f_X5_12 (hW1.setP _).o rfl ?_
  refine x_vi0 dX5_harm_49 cV_X5_109 (c_unsoundCopies (hW1.setP _).present hw.1) rfl rfl ⟨⟨by decide, by decide⟩, by decide, by decide⟩ (Nat.le_of_ble_eq_true rfl) (xrecv (hW1.setP _).present.o rfl xcl0) ?_
  refine x_istore_n dX5_harm_52 (by decide) rfl rfl ?_
  refine x_aload_n dX5_harm_53 rfl ?_
  refine x_getf dX5_harm_54 f_X5_12 (hW1.setP _).o rfl ?_
  refine x_iload_n dX5_harm_57 rfl ?_
  refine x_iload_n dX5_harm_58 rfl ?_
  refine x_vv0 dX5_harm_59 cV_X5_267 (c_spoilCopiesOf hw.1 hf hc2) rfl rfl ⟨⟨by decide, by decide⟩, by decide, by decide⟩ (Nat.le_of_ble_eq_true rfl) (xrecv (hW1.setP _).present.o rfl xcl0) ?_
  refine x_aload_n dX5_harm_62 rfl ?_
  refine x_getf dX5_harm_63 f_X5_12 (hW1.setP _).o rfl ?_
  refine x_vi0 dX5_harm_66 cV_X5_109 (c_unsoundCopies (hW1.setP _).present hs) rfl rfl ⟨⟨by decide, by decide⟩, by decide, by decide⟩ (Nat.le_of_ble_eq_true rfl) (xrecv (hW1.setP _).present.o rfl xcl0) ?_
  refine x_iload_n dX5_harm_69 rfl ?_
  refine x_isub dX5_harm_70 ?_
  exact x_ireturn dX5_harm_71 rfl rfl (by decide) (by decide) (kp_end hto hk)
theorem c_join (hW : WAt h v w) (hw : aW w.1.1) (hh : hisOk w) (a : Int32) : xMet g l mX5_join 6 13 250 [.ref v, .int a] h (opQ v w h (joinR w.1.1 a)) (opX v w h [nIAE] (joinR w.1.1 a)) := by
  have hN : w.1.1.1 1 ≤ 10 := hw.1.2.1
  refine xMet.of (V := [some (.ref v), some (.int a)]) moX5_join (Nat.le_of_ble_eq_true rfl) rfl ?_
  unfold joinR
  refine x_iload_n dX5_join_0 rfl ?_
  refine x_iconst (nI 1) dX5_join_1 (by decide) ?_
  refine x_icmp_lt 11 dX5_join_2 (by decide) (fun c1 => ?_) (fun c1 => ?_)
  · rw [if_neg (rng_no1 c1 (by decide))]
    exact x_throwW (j := 25) th_IAE rfl rfl dX5_join_11 dX5_join_14 dX5_join_15 dX5_join_18 dX5_join_21 (by decide) (Nat.le_of_ble_eq_true rfl) (by decide) (by decide) (by decide) (by decide) fun n hn => opX.of (Or.inl rfl) rfl (wTo.thr hW hn)
  refine x_iload_n dX5_join_5 rfl ?_
  refine x_bipush (nI 20) dX5_join_6 (by decide) ?_
  refine x_icmp_le 22 dX5_join_8 (by decide) (fun c2 => ?_) (fun c2 => ?_)
  rotate_left
  · rw [if_neg (rng_no2 c2 (by decide))]
    exact x_throwW (j := 25) th_IAE rfl rfl dX5_join_11 dX5_join_14 dX5_join_15 dX5_join_18 dX5_join_21 (by decide) (Nat.le_of_ble_eq_true rfl) (by decide) (by decide) (by decide) (by decide) fun n hn => opX.of (Or.inl rfl) rfl (wTo.thr hW hn)
  have hr := rng_yes c1 c2 (by decide)
  rw [if_pos hr]
  have e4 := nI_ix a
  refine xP.weak (V' := [some (.ref v), some (.int (nI (ix a)))]) (by simp [xle, xset1, fin3, e4]) ?_
  refine x_aload_n dX5_join_22 rfl ?_
  refine x_getf dX5_join_23 f_X5_12 hW.o rfl ?_
  refine x_getf dX5_join_26 f_X5_99 hW.present.o rfl ?_
  refine x_bipush (nI 10) dX5_join_29 (by decide) ?_
  refine x_icmp_lt_n 37 dX5_join_31 (by decide) (by omega) (by omega) (fun c3 => ?_) (fun c3 => ?_)
  rotate_left
  · rw [if_neg (by omega)]
    refine x_bipush (-15) dX5_join_34 (by decide) ?_
    exact x_ireturn dX5_join_36 rfl rfl (by decide) (by decide) (opQ.rf hW rfl rfl rfl)
  rw [if_pos (by omega)]
  refine x_aload_n dX5_join_37 rfl ?_
  refine x_getf dX5_join_38 f_X5_22 hW.o rfl ?_
  refine x_aload_n dX5_join_41 rfl ?_
  refine x_getf dX5_join_42 f_X5_12 hW.o rfl ?_
  refine x_callV dX5_join_45 cV_X5_83 (c_keep hW hh.1 hh.2) rfl rfl ⟨⟨by decide, by decide⟩, by decide, by decide⟩ (Nat.le_of_ble_eq_true rfl) (xrecv hW.history rfl xcl1) (fun _ _ q => q.elim) (fun v9 h9 q9 => ?_)
  obtain ⟨rfl, w1, hto, hk⟩ := q9
  have hW1 := hto.1
  have e1 : w1.1.1 = w.1.1 := congrArg Prod.fst hk.1
  have eP := hW1.P_self
  rw [e1] at eP
  rw [← eP]
  refine x_aload_n dX5_join_48 rfl ?_
  refine x_getf dX5_join_49 f_X5_12 (hW1.setP _).o rfl ?_
  refine x_lconst (lN 0) dX5_join_52 (by decide) ?_
  refine x_bipush (nI 45) dX5_join_53 (by decide) ?_
  refine x_si0 dX5_join_55 cS_X5_48 (c_withSign (n := 0) (c := 45) (by decide) (Or.inl rfl)) rfl rfl ⟨⟨by decide, by decide⟩, by decide, by decide⟩ (Nat.le_of_ble_eq_true rfl) ?_
  rw [show 0 * 32 + codeV 45 = 27 from rfl]
  refine x_iload_n dX5_join_58 rfl ?_
  refine x_vv0 dX5_join_59 cV_X5_54 (c_addFamily _ (by omega)) rfl rfl ⟨⟨by decide, by decide⟩, by decide, by decide⟩ (Nat.le_of_ble_eq_true rfl) (xrecv (hW1.setP _).present.o rfl xcl0) ?_
  refine x_aload_n dX5_join_62 rfl ?_
  refine x_getf dX5_join_63 f_X5_12 (hW1.setP _).o rfl ?_
  refine x_getf dX5_join_66 f_X5_99 (hW1.setP _).present.o rfl ?_
  refine x_iconst (nI 1) dX5_join_69 (by decide) ?_
  refine x_isub_n dX5_join_70 (show 1 ≤ w.1.1.1 1 + 1 by omega) ?_
  exact x_ireturn dX5_join_71 rfl rfl (by decide) (by decide) (kp_end hto hk)
theorem c_meet (hW : WAt h v w) (hw : aW w.1.1) (hh : hisOk w) (a b : Int32) : xMet g l mX5_meet 7 15 262 [.ref v, .int a, .int b] h (opQ v w h (meetR w.1.1 a b)) (opX v w h [nIOB, nIAE] (meetR w.1.1 a b)) := by
  refine xMet.of (V := [some (.ref v), some (.int a), some (.int b)]) moX5_meet (Nat.le_of_ble_eq_true rfl) rfl ?_
  unfold meetR
  refine x_aload_n dX5_meet_0 rfl ?_
  refine x_iload_n dX5_meet_1 rfl ?_
  refine x_callV dX5_meet_2 cV_X5_132 (c_needFamily hW hw a) rfl rfl ⟨⟨by decide, by decide⟩, by decide, by decide⟩ (Nat.le_of_ble_eq_true rfl) (xrecv hW.o rfl xcl4) (fun E h9 q9 => x_out rfl (by decide) (by decide) ?_) (fun v9 h9 q9 => ?_)
  · obtain ⟨rfl, q2, q3⟩ := q9
    rw [if_neg (by rw [q2]; decide)]
    exact opX.of (Or.inl rfl) rfl q3
  obtain ⟨rfl, rfl, q3⟩ := q9
  rw [if_pos q3]
  refine x_aload_n dX5_meet_5 rfl ?_
  refine x_iload_n dX5_meet_6 rfl ?_
  refine x_callV dX5_meet_7 cV_X5_132 (c_needFamily hW hw b) rfl rfl ⟨⟨by decide, by decide⟩, by decide, by decide⟩ (Nat.le_of_ble_eq_true rfl) (xrecv hW.o rfl xcl4) (fun E h9 q9 => x_out rfl (by decide) (by decide) ?_) (fun v9 h9 q9 => ?_)
  · obtain ⟨rfl, q2, q4⟩ := q9
    rw [if_neg (by rw [q2]; decide)]
    exact opX.of (Or.inl rfl) rfl q4
  obtain ⟨rfl, rfl, q4⟩ := q9
  rw [if_pos q4]
  obtain ⟨ha, ha2⟩ := ok_F hw q3
  obtain ⟨hb, hb2⟩ := ok_F hw q4
  refine x_iload_n dX5_meet_10 rfl ?_
  refine x_iload_n dX5_meet_11 rfl ?_
  refine x_icmp_ne 26 dX5_meet_12 (by decide) (fun c1 => ?_) (fun c1 => ?_)
  rotate_left
  · rw [if_pos (Decidable.byContradiction fun q => q c1)]
    exact x_throwW (j := 26) th_IAE rfl rfl dX5_meet_15 dX5_meet_18 dX5_meet_19 dX5_meet_22 dX5_meet_25 (by decide) (Nat.le_of_ble_eq_true rfl) (by decide) (by decide) (by decide) (by decide) fun n hn => opX.of (Or.inr (Or.inl rfl)) rfl (wTo.thr hW hn)
  rw [if_neg c1]
  have e4 := nI_ix a
  have e5 := nI_ix b
  refine xP.weak (V' := [some (.ref v), some (.int (nI (ix a))), some (.int (nI (ix b)))]) (by simp [xle, xset1, fin3, e4, e5]) ?_
  refine x_aload_n dX5_meet_26 rfl ?_
  refine x_getf dX5_meet_27 f_X5_12 hW.o rfl ?_
  refine x_iload_n dX5_meet_30 rfl ?_
  refine x_iload_n dX5_meet_31 rfl ?_
  refine x_vi0 dX5_meet_32 cV_X5_244 (c_areNeighbours hW.present hw.1 ha (show ix b < 32 by omega)) rfl rfl ⟨⟨by decide, by decide⟩, by decide, by decide⟩ (Nat.le_of_ble_eq_true rfl) (xrecv hW.present.o rfl xcl0) ?_
  refine x_if_eq_b 41 dX5_meet_35 (by decide) (fun c2 => ?_) (fun c2 => ?_)
  rotate_left
  · rw [if_pos c2]
    refine x_bipush (-16) dX5_meet_38 (by decide) ?_
    exact x_ireturn dX5_meet_40 rfl rfl (by decide) (by decide) (opQ.rf hW rfl rfl rfl)
  rw [if_neg (by rw [c2]; decide)]
  refine x_aload_n dX5_meet_41 rfl ?_
  refine x_getf dX5_meet_42 f_X5_22 hW.o rfl ?_
  refine x_aload_n dX5_meet_45 rfl ?_
  refine x_getf dX5_meet_46 f_X5_12 hW.o rfl ?_
  refine x_callV dX5_meet_49 cV_X5_83 (c_keep hW hh.1 hh.2) rfl rfl ⟨⟨by decide, by decide⟩, by decide, by decide⟩ (Nat.le_of_ble_eq_true rfl) (xrecv hW.history rfl xcl1) (fun _ _ q => q.elim) (fun v9 h9 q9 => ?_)
  obtain ⟨rfl, w1, hto, hk⟩ := q9
  have hW1 := hto.1
  have e1 : w1.1.1 = w.1.1 := congrArg Prod.fst hk.1
  have eP := hW1.P_self
  rw [e1] at eP
  rw [← eP]
  have hnb := nbS_ok hw ha2 hb2
  refine x_aload_n dX5_meet_52 rfl ?_
  refine x_getf dX5_meet_53 f_X5_12 (hW1.setP _).o rfl ?_
  refine x_iload_n dX5_meet_56 rfl ?_
  refine x_iload_n dX5_meet_57 rfl ?_
  refine x_vv0 dX5_meet_58 cV_X5_247 (c_makeNeighbours ha hb) rfl rfl ⟨⟨by decide, by decide⟩, by decide, by decide⟩ (Nat.le_of_ble_eq_true rfl) (xrecv (hW1.setP _).present.o rfl xcl0) ?_
  refine x_aload_n dX5_meet_61 rfl ?_
  refine x_getf dX5_meet_62 f_X5_12 (hW1.setP _).o rfl ?_
  refine x_vi0 dX5_meet_65 cV_X5_124 (c_neighbourPairs (hW1.setP _).present hnb.1) rfl rfl ⟨⟨by decide, by decide⟩, by decide, by decide⟩ (Nat.le_of_ble_eq_true rfl) (xrecv (hW1.setP _).present.o rfl xcl0) ?_
  exact x_ireturn dX5_meet_68 rfl rfl (by decide) (by decide) (kp_end hto hk)
theorem c_leave (hW : WAt h v w) (hw : aW w.1.1) (hh : hisOk w) (f : Int32) : xMet g l mX5_leave 7 13 250 [.ref v, .int f] h (opQ v w h (leaveR w.1.1 f)) (opX v w h [nIOB] (leaveR w.1.1 f)) := by
  have hN : w.1.1.1 1 ≤ 10 := hw.1.2.1
  refine xMet.of (V := [some (.ref v), some (.int f), none]) moX5_leave (Nat.le_of_ble_eq_true rfl) rfl ?_
  refine x_aload_n dX5_leave_0 rfl ?_
  refine x_iload_n dX5_leave_1 rfl ?_
  refine x_callV dX5_leave_2 cV_X5_132 (c_needFamily hW hw f) rfl rfl ⟨⟨by decide, by decide⟩, by decide, by decide⟩ (Nat.le_of_ble_eq_true rfl) (xrecv hW.o rfl xcl4) (fun E h9 q9 => x_out rfl (by decide) (by decide) ?_) (fun v9 h9 q9 => ?_)
  · obtain ⟨rfl, q2, q3⟩ := q9
    unfold leaveR
    rw [if_neg (by rw [q2]; decide)]
    exact opX.of (Or.inl rfl) rfl q3
  obtain ⟨rfl, rfl, q3⟩ := q9
  obtain ⟨hf, hf2⟩ := ok_F hw q3
  have e4 := nI_ix f
  unfold leaveR
  rw [if_pos q3]
  refine xP.weak (V' := [some (.ref v), some (.int (nI (ix f))), none]) (by simp [xle, xset1, fin3, e4]) ?_
  refine x_aload_n dX5_leave_5 rfl ?_
  refine x_getf dX5_leave_6 f_X5_12 hW.o rfl ?_
  refine x_getf dX5_leave_9 f_X5_99 hW.present.o rfl ?_
  refine x_iconst (nI 2) dX5_leave_12 (by decide) ?_
  refine x_icmp_gt_n 19 dX5_leave_13 (by decide) (by omega) (by omega) (fun c1 => ?_) (fun c1 => ?_)
  rotate_left
  · rw [if_neg (by omega)]
    refine x_bipush (-17) dX5_leave_16 (by decide) ?_
    exact x_ireturn dX5_leave_18 rfl rfl (by decide) (by decide) (opQ.rf hW rfl rfl rfl)
  rw [if_pos c1]
  refine x_aload_n dX5_leave_19 rfl ?_
  refine x_getf dX5_leave_20 f_X5_22 hW.o rfl ?_
  refine x_aload_n dX5_leave_23 rfl ?_
  refine x_getf dX5_leave_24 f_X5_12 hW.o rfl ?_
  refine x_callV dX5_leave_27 cV_X5_83 (c_keep hW hh.1 hh.2) rfl rfl ⟨⟨by decide, by decide⟩, by decide, by decide⟩ (Nat.le_of_ble_eq_true rfl) (xrecv hW.history rfl xcl1) (fun _ _ q => q.elim) (fun v9 h9 q9 => ?_)
  obtain ⟨rfl, w1, hto, hk⟩ := q9
  have hW1 := hto.1
  have e1 : w1.1.1 = w.1.1 := congrArg Prod.fst hk.1
  have eP := hW1.P_self
  rw [e1] at eP
  rw [← eP]
  refine x_aload_n dX5_leave_30 rfl ?_
  refine x_getf dX5_leave_31 f_X5_12 (hW1.setP _).o rfl ?_
  refine x_getf dX5_leave_34 f_X5_139 (hW1.setP _).present.o rfl ?_
  refine x_iload_n dX5_leave_37 rfl ?_
  refine x_iald_n dX5_leave_38 (hW1.setP _).present.copies (by omega) (by decide) ?_
  refine x_istore_n dX5_leave_39 (by decide) rfl rfl ?_
  refine x_aload_n dX5_leave_40 rfl ?_
  refine x_getf dX5_leave_41 f_X5_12 (hW1.setP _).o rfl ?_
  refine x_iload_n dX5_leave_44 rfl ?_
  refine x_vv0 dX5_leave_45 cV_X5_281 (c_removeFamily hw.1 hf2 c1) rfl rfl ⟨⟨by decide, by decide⟩, by decide, by decide⟩ (Nat.le_of_ble_eq_true rfl) (xrecv (hW1.setP _).present.o rfl xcl0) ?_
  refine x_iload_n dX5_leave_48 rfl ?_
  exact x_ireturn dX5_leave_49 rfl rfl (by decide) (by decide) (kp_end hto hk)
theorem c_setPledge (hW : WAt h v w) (hw : aW w.1.1) (hh : hisOk w) (p a : Int32) : xMet g l mX5_setPledge 7 14 256 [.ref v, .int p, .int a] h (opQ v w h (pledgeR w.1.1 p a)) (opX v w h [nIOB, nIAE] (pledgeR w.1.1 p a)) := by
  refine xMet.of (V := [some (.ref v), some (.int p), some (.int a), none]) moX5_setPledge (Nat.le_of_ble_eq_true rfl) rfl ?_
  refine x_aload_n dX5_setPledge_0 rfl ?_
  refine x_iload_n dX5_setPledge_1 rfl ?_
  refine x_callV dX5_setPledge_2 cV_X5_159 (c_needPicture hW hw p) rfl rfl ⟨⟨by decide, by decide⟩, by decide, by decide⟩ (Nat.le_of_ble_eq_true rfl) (xrecv hW.o rfl xcl4) (fun E h9 q9 => x_out rfl (by decide) (by decide) ?_) (fun v9 h9 q9 => ?_)
  · obtain ⟨rfl, q2, q3⟩ := q9
    unfold pledgeR
    rw [if_neg (by rw [q2]; decide)]
    exact opX.of (Or.inl rfl) rfl q3
  obtain ⟨rfl, rfl, q3⟩ := q9
  obtain ⟨hp, hp2⟩ := ok_P hw q3
  have e4 := nI_ix p
  have e5 := nI_ix a
  unfold pledgeR
  rw [if_pos q3]
  refine x_iload_n dX5_setPledge_5 rfl ?_
  refine x_iconst (nI 1) dX5_setPledge_6 (by decide) ?_
  refine x_icmp_lt 16 dX5_setPledge_7 (by decide) (fun c1 => ?_) (fun c1 => ?_)
  · rw [if_neg (rng_no1 c1 (by decide))]
    exact x_throwW (j := 27) th_IAE rfl rfl dX5_setPledge_16 dX5_setPledge_19 dX5_setPledge_20 dX5_setPledge_23 dX5_setPledge_26 (by decide) (Nat.le_of_ble_eq_true rfl) (by decide) (by decide) (by decide) (by decide) fun n hn => opX.of (Or.inr (Or.inl rfl)) rfl (wTo.thr hW hn)
  refine x_iload_n dX5_setPledge_10 rfl ?_
  refine x_bipush (nI 10) dX5_setPledge_11 (by decide) ?_
  refine x_icmp_le 27 dX5_setPledge_13 (by decide) (fun c2 => ?_) (fun c2 => ?_)
  rotate_left
  · rw [if_neg (rng_no2 c2 (by decide))]
    exact x_throwW (j := 27) th_IAE rfl rfl dX5_setPledge_16 dX5_setPledge_19 dX5_setPledge_20 dX5_setPledge_23 dX5_setPledge_26 (by decide) (Nat.le_of_ble_eq_true rfl) (by decide) (by decide) (by decide) (by decide) fun n hn => opX.of (Or.inr (Or.inl rfl)) rfl (wTo.thr hW hn)
  have hr := rng_yes c1 c2 (by decide)
  rw [if_pos hr]
  refine xP.weak (V' := [some (.ref v), some (.int (nI (ix p))), some (.int (nI (ix a))), none]) (by simp [xle, xset1, fin3, e4, e5]) ?_
  refine x_aload_n dX5_setPledge_27 rfl ?_
  refine x_getf dX5_setPledge_28 f_X5_22 hW.o rfl ?_
  refine x_aload_n dX5_setPledge_31 rfl ?_
  refine x_getf dX5_setPledge_32 f_X5_12 hW.o rfl ?_
  refine x_callV dX5_setPledge_35 cV_X5_83 (c_keep hW hh.1 hh.2) rfl rfl ⟨⟨by decide, by decide⟩, by decide, by decide⟩ (Nat.le_of_ble_eq_true rfl) (xrecv hW.history rfl xcl1) (fun _ _ q => q.elim) (fun v9 h9 q9 => ?_)
  obtain ⟨rfl, w1, hto, hk⟩ := q9
  have hW1 := hto.1
  have e1 : w1.1.1 = w.1.1 := congrArg Prod.fst hk.1
  have eP := hW1.P_self
  rw [e1] at eP
  rw [← eP]
  refine x_aload_n dX5_setPledge_38 rfl ?_
  refine x_getf dX5_setPledge_39 f_X5_12 (hW1.setP _).o rfl ?_
  refine x_getf dX5_setPledge_42 f_X5_162 putArch_at.o rfl ?_
  refine x_iload_n dX5_setPledge_45 rfl ?_
  refine x_iald_n dX5_setPledge_46 putArch_at.pledges (by omega) (by decide) ?_
  refine x_istore_n dX5_setPledge_47 (by decide) rfl rfl ?_
  refine x_aload_n dX5_setPledge_48 rfl ?_
  refine x_getf dX5_setPledge_49 f_X5_12 (hW1.setP _).o rfl ?_
  refine x_getf dX5_setPledge_52 f_X5_162 putArch_at.o rfl ?_
  refine x_iload_n dX5_setPledge_55 rfl ?_
  refine x_iload_n dX5_setPledge_56 rfl ?_
  refine xq_X0_pledges dX5_setPledge_57 (by omega) ?_
  refine x_iload_n dX5_setPledge_58 rfl ?_
  exact x_ireturn dX5_setPledge_59 rfl rfl (by decide) (by decide) (kp_end hto hk)
end V7
