/-! ===== the model: chances, soundness, save, restore, undo ===== -/
theorem hoS_bit {A : Nat → Nat} {p k j : Nat} : ∀ n, (hoS A p k n).testBit j = (decide (j < n) && cSort (rC A p j) k) := by
  intro n
  induction n with
  | zero =>
    rw [decide_eq_false (Nat.not_lt_zero j), Bool.false_and]
    exact Nat.zero_testBit j
  | succ n ih =>
    rw [hoS, Nat.testBit_or, ih]
    by_cases e : j = n
    · subst e
      rw [decide_eq_false (Nat.lt_irrefl j), Bool.false_and, Bool.false_or, decide_eq_true (Nat.lt_succ_self j), Bool.true_and]
      cases h : cSort (rC A p j) k with
      | true => rw [if_pos rfl, Nat.testBit_two_pow, decide_eq_true rfl]
      | false => rw [if_neg (by decide), Nat.zero_testBit]
    · have h1 : (if cSort (rC A p n) k = true then 2 ^ n else 0).testBit j = false := by
        split
        · rw [Nat.testBit_two_pow, decide_eq_false (fun q => e q.symm)]
        · exact Nat.zero_testBit j
      rw [h1, Bool.or_false, decide_eq_decide.mpr (show j < n ↔ j < n + 1 by omega)]
theorem mHold_bit {A : Nat → Nat} {p k j : Nat} : (mHold A p k).testBit j = (decide (j < A 1) && cSort (rC A p j) k) := hoS_bit _
theorem snd_held {c : Nat} (h : cSnd c = true) : cHeld c = true := by
  unfold cSnd at h
  have := of_decide_eq_true h
  subst this
  rfl
theorem mAll_31 (A : Nat → Nat) : mAll A 3 ≤ mAll A 1 := fs_mono9 (fun p => fc_mono9 (fun j h => by
  rw [mHold_bit, Bool.and_eq_true] at h ⊢
  exact ⟨h.1, snd_held h.2⟩) 32) _
theorem mAll_120 {A : Nat → Nat} (hw : rOk A) (k : Nat) : mAll A k ≤ 120 := by
  have h1 : mAll A k ≤ A 2 * 10 := fb_sm_bound fun p _ => popc_le (n := 10) (mHold_lt hw p k) (by decide)
  have h2 : A 2 ≤ 12 := hw.2.2.1
  omega
def mSd (A : Nat → Nat) : UInt32 := if mAll A 1 = 0 then FP.fconst0 else sdV (mAll A 3) (mAll A 1)
def mChK (A : Nat → Nat) (p f q : Int32) : Nat := if mOkPF A p f = true then (if cHeld (rC A (ix p) (ix f)) = true then (if okB q (A 0 + 1) = true then 0 else 3) else 2) else 1
def mChV (A : Nat → Nat) (p f q : Nat) : UInt64 := FP.dsub FP.dconst1 (chR (A 0) (A 0 - popc (rC A p f &&& 65535)) q)
theorem chP_pos {T s k : Nat} (hT : T ≤ 16) (hs : s ≤ T) (hk : k ≤ s) : Op.cmpValue (FP.dcmp (chP T s k) FP.dconst0) .l = 1 := by
  cases k with
  | zero =>
    show Op.cmpValue (FP.dcmp FP.dconst1 FP.dconst0) .l = 1
    decide +kernel
  | succ k => exact (chOk_at hT hs (by omega)).2.2.2
theorem ch_zero : Op.cmpValue (FP.dcmp FP.dconst0 FP.dconst0) .l = 0 := by decide +kernel
def svM (s : Mo) (i : Nat) : Mo := mB (mR s 4 (cpT (s.1 4) (s.1 0) (353 * i) 0 353)) (va_up s.2.2.2.1 i true)
def restoreM (s : Mo) (i : Int32) : Ms := if okB i 2 = true then (if s.2.2.2.1 (ix i) = true then (0, nI (s.1 4 (353 * ix i + 1)), some (cpT (s.1 0) (s.1 4) 0 (353 * ix i) 353)) else (2, 0, none)) else (1, 0, none)
section M26
variable {g : xG} {l : Launch} {h : xH} {m : Nat} {s : Mo}
theorem c_mSoundness {n : Nat} (hw : rK (s.1 0) n) : xMet g l mX6_soundness 4 0 0 [.ref m] (putMod h m s) (fun r h' => r = some (.float (mSd (s.1 0))) ∧ h' = putMod h m (mN s 1 0)) xno := by
  have h1 := mAll_31 (s.1 0)
  have h2 := mAll_120 hw.ok 1
  have hok : rOk ((mN s 1 0).1 0) := hw.ok
  unfold mSd
  refine xMet.of (V := [some (.ref m), none]) moX6_soundness (Nat.le_of_ble_eq_true rfl) rfl ?_
  refine x_aload_n dX6_soundness_0 rfl ?_
  refine x_iconst (nI 0) dX6_soundness_1 (by decide) ?_
  refine xq_X6_thrown dX6_soundness_2 f_X6_49 ?_
  refine x_aload_n dX6_soundness_5 rfl ?_
  refine x_iconst (nI 1) dX6_soundness_6 (by decide) ?_
  refine x_vi0 dX6_soundness_7 cV_X6_241 (c_mAllOf putMod_at hok (show 1 < 4 by decide)) rfl rfl ⟨⟨by decide, by decide⟩, by decide, by decide⟩ (Nat.le_of_ble_eq_true rfl) (xrecv putMod_at.o rfl xcl5) ?_
  refine xP.eq (S' := [.int (nI (mAll (s.1 0) 1))]) rfl rfl rfl rfl ?_
  refine x_istore_n dX6_soundness_10 (by decide) rfl rfl ?_
  refine x_iload_n dX6_soundness_11 rfl ?_
  refine x_if_ne_n 19 dX6_soundness_12 (by decide) (by omega) (fun c1 => ?_) (fun c1 => ?_)
  · rw [if_neg (by omega)]
    have hs := sd_at (a := mAll (s.1 0) 3) h2 h1 (by omega)
    refine x_aload_n dX6_soundness_19 rfl ?_
    refine x_iconst (nI 3) dX6_soundness_20 (by decide) ?_
    refine x_vi0 dX6_soundness_21 cV_X6_241 (c_mAllOf putMod_at hok (show 3 < 4 by decide)) rfl rfl ⟨⟨by decide, by decide⟩, by decide, by decide⟩ (Nat.le_of_ble_eq_true rfl) (xrecv putMod_at.o rfl xcl5) ?_
    refine x_i2f dX6_soundness_24 ?_
    refine x_iload_n dX6_soundness_25 rfl ?_
    refine x_i2f dX6_soundness_26 ?_
    refine x_fdiv dX6_soundness_27 hs.1 ?_
    exact x_freturn dX6_soundness_28 rfl (by decide) (by decide) ⟨rfl, rfl⟩
  · rw [if_pos (by omega)]
    refine x_fconst0 dX6_soundness_15 ?_
    refine x_goto 28 dX6_soundness_16 (by decide) ?_
    exact x_freturn dX6_soundness_28 rfl (by decide) (by decide) ⟨rfl, rfl⟩
theorem c_mChance {n : Nat} (hw : rK (s.1 0) n) (p f q : Int32) (hb : mOkPF (s.1 0) p f = true → popc (rC (s.1 0) (ix p) (ix f) &&& 65535) ≤ s.1 0 0) : xMet g l mX6_chance 3 0 0 [.ref m, .int p, .int f, .int q] (putMod h m s)
    (fun r h' => ∃ v, r = some (.double v) ∧ (mChK (s.1 0) p f q = 0 → v = mChV (s.1 0) (ix p) (ix f) (ix q)) ∧ h' = putMod h m (mN s 1 (mChK (s.1 0) p f q))) xno := by
  have hT : s.1 0 0 ≤ 16 := hw.2.2 0 (by decide)
  have hok : rOk ((mN s 1 0).1 0) := hw.ok
  have e7 := nI_ix q
  have e8 := nI_ix p
  have e9 := nI_ix f
  unfold mChK
  refine xMet.of (V := [some (.ref m), some (.int p), some (.int f), some (.int q), none, none, none, none, none]) moX6_chance (Nat.le_of_ble_eq_true rfl) rfl ?_
  refine x_aload_n dX6_chance_0 rfl ?_
  refine x_iload_n dX6_chance_1 rfl ?_
  refine x_iload_n dX6_chance_2 rfl ?_
  refine x_vi0 dX6_chance_3 cV_X6_260 (c_mAreBoth hw.ok) rfl rfl ⟨⟨by decide, by decide⟩, by decide, by decide⟩ (Nat.le_of_ble_eq_true rfl) (xrecv putMod_at.o rfl xcl5) ?_
  cases c0 : mOkPF (s.1 0) p f with
  | false =>
    rw [if_neg (by decide), if_neg (by decide)]
    refine x_if_ne_b 11 dX6_chance_6 (by decide) (fun c1 => ?_) (fun c1 => ?_)
    · cases c1
    · refine x_dconst0 dX6_chance_9 ?_
      exact x_dreturn dX6_chance_10 rfl (by decide) (by decide) ⟨_, rfl, (fun q => by cases q), rfl⟩
  | true =>
    have hb := hb c0
    obtain ⟨hp, hf, hp2, hf2⟩ := okPF_lt hw c0
    have hc := hw.copy hp hf
    have ha : rC (s.1 0) (ix p) (ix f) &&& 65535 < 65536 := Nat.lt_of_le_of_lt Nat.and_le_right (by decide)
    rw [if_pos rfl, if_pos rfl]
    refine xP.weak (V' := [some (.ref m), some (.int (nI (ix p))), some (.int (nI (ix f))), some (.int q), none, none, none, none, none]) (by simp [xle, xset1, fin3, e8, e9]) ?_
    refine x_if_ne_b 11 dX6_chance_6 (by decide) (fun c1 => ?_) (fun c1 => ?_)
    rotate_left
    · cases c1
    refine x_aload_n dX6_chance_11 rfl ?_
    refine x_aload_n dX6_chance_12 rfl ?_
    refine x_iload_n dX6_chance_13 rfl ?_
    refine x_iload_n dX6_chance_14 rfl ?_
    refine x_vi0 dX6_chance_15 cV_X6_182 (c_mCopyOf putMod_at hp hf) rfl rfl ⟨⟨by decide, by decide⟩, by decide, by decide⟩ (Nat.le_of_ble_eq_true rfl) (xrecv putMod_at.o rfl xcl5) ?_
    refine xP.eq (S' := [.int (nI (rC (s.1 0) (ix p) (ix f))), .ref m]) rfl rfl rfl rfl ?_
    refine x_si0 dX6_chance_18 cS_X6_211 (c_mIsHeld (show rC (s.1 0) (ix p) (ix f) < 2 ^ 24 by omega)) rfl rfl ⟨⟨by decide, by decide⟩, by decide, by decide⟩ (Nat.le_of_ble_eq_true rfl) ?_
    refine x_if_ne_b 28 dX6_chance_21 (by decide) (fun c2 => ?_) (fun c2 => ?_)
    rotate_left
    · rw [if_neg (by rw [c2]; decide)]
      refine x_iconst (nI 2) dX6_chance_24 (by decide) ?_
      refine x_goto 47 dX6_chance_25 (by decide) ?_
      refine xq_X6_thrown dX6_chance_47 f_X6_49 ?_
      refine x_aload_n dX6_chance_50 rfl ?_
      refine x_getf dX6_chance_51 f_X6_49 putMod_at.o rfl ?_
      refine xP.eq (S' := [.int (nI 2)]) rfl rfl rfl rfl ?_
      refine x_if_le_n 59 dX6_chance_54 (by decide) (by omega) (fun c9 => ?_) (fun c9 => ?_)
      · omega
      · refine x_dconst0 dX6_chance_57 ?_
        exact x_dreturn dX6_chance_58 rfl (by decide) (by decide) ⟨_, rfl, (fun q => by cases q), by rw [mN_N]⟩
    rw [if_pos c2]
    refine x_iload_n dX6_chance_28 rfl ?_
    refine x_iconst (nI 0) dX6_chance_29 (by decide) ?_
    refine x_aload_n dX6_chance_30 rfl ?_
    refine x_getf dX6_chance_31 f_X6_7 putMod_at.o rfl ?_
    refine x_iconst (nI 0) dX6_chance_34 (by decide) ?_
    refine x_iald_n dX6_chance_35 putMod_at.a (by omega) (by decide) ?_
    refine xP.eq (S' := [.int (nI (s.1 0 0)), .int (nI 0), .int q, .ref m]) rfl rfl rfl rfl ?_
    refine x_si0 dX6_chance_36 cS_X6_59 (c_mIsIn) rfl rfl ⟨⟨by decide, by decide⟩, by decide, by decide⟩ (Nat.le_of_ble_eq_true rfl) ?_
    rw [isIn_le (by omega)]
    cases c3 : okB q (s.1 0 0 + 1) with
    | false =>
      rw [if_neg (by decide)]
      refine x_if_eq_b 46 dX6_chance_39 (by decide) (fun c4 => ?_) (fun c4 => ?_)
      rotate_left
      · cases c4
      refine x_iconst (nI 3) dX6_chance_46 (by decide) ?_
      refine xq_X6_thrown dX6_chance_47 f_X6_49 ?_
      refine x_aload_n dX6_chance_50 rfl ?_
      refine x_getf dX6_chance_51 f_X6_49 putMod_at.o rfl ?_
      refine xP.eq (S' := [.int (nI 3)]) rfl rfl rfl rfl ?_
      refine x_if_le_n 59 dX6_chance_54 (by decide) (by omega) (fun c9 => ?_) (fun c9 => ?_)
      · omega
      · refine x_dconst0 dX6_chance_57 ?_
        exact x_dreturn dX6_chance_58 rfl (by decide) (by decide) ⟨_, rfl, (fun q => by cases q), by rw [mN_N]⟩
    | true =>
      rw [if_pos rfl]
      have hq := okB_lt c3
      refine x_if_eq_b 46 dX6_chance_39 (by decide) (fun c4 => ?_) (fun c4 => ?_)
      · cases c4
      refine x_iconst (nI 0) dX6_chance_42 (by decide) ?_
      refine x_goto 47 dX6_chance_43 (by decide) ?_
      refine xq_X6_thrown dX6_chance_47 f_X6_49 ?_
      refine x_aload_n dX6_chance_50 rfl ?_
      refine x_getf dX6_chance_51 f_X6_49 putMod_at.o rfl ?_
      refine xP.eq (S' := [.int (nI 0)]) rfl rfl rfl rfl ?_
      refine x_if_le_n 59 dX6_chance_54 (by decide) (by omega) (fun c9 => ?_) (fun c9 => ?_)
      rotate_left
      · omega
      refine xP.eq (h' := putMod h m (mN s 1 0)) rfl rfl rfl (by rw [mN_N]) ?_
      refine xP.weak (V' := [some (.ref m), some (.int (nI (ix p))), some (.int (nI (ix f))), some (.int (nI (ix q))), none, none, none, none, none]) (by simp [xle, xset1, fin3, e7]) ?_
      refine x_aload_n dX6_chance_59 rfl ?_
      refine x_getf dX6_chance_60 f_X6_7 putMod_at.o rfl ?_
      refine x_iconst (nI 0) dX6_chance_63 (by decide) ?_
      refine x_iald_n dX6_chance_64 putMod_at.a (by omega) (by decide) ?_
      refine xP.eq (S' := [.int (nI (s.1 0 0))]) rfl rfl rfl rfl ?_
      refine x_istore dX6_chance_65 (by decide) rfl rfl ?_
      refine x_aload_n dX6_chance_67 rfl ?_
      refine x_iload_n dX6_chance_68 rfl ?_
      refine x_iload_n dX6_chance_69 rfl ?_
      refine x_vi0 dX6_chance_70 cV_X6_182 (c_mCopyOf putMod_at hp hf) rfl rfl ⟨⟨by decide, by decide⟩, by decide, by decide⟩ (Nat.le_of_ble_eq_true rfl) (xrecv putMod_at.o rfl xcl5) ?_
      refine xP.eq (S' := [.int (nI (rC (s.1 0) (ix p) (ix f)))]) rfl rfl rfl rfl ?_
      refine x_ldcw (v := nI 65535) dX6_chance_73 k_X6_263 ?_
      refine x_iand_n dX6_chance_76 ?_
      refine x_si0 dX6_chance_77 cS_X6_229 (c_mBits ha) rfl rfl ⟨⟨by decide, by decide⟩, by decide, by decide⟩ (Nat.le_of_ble_eq_true rfl) ?_
      refine x_istore dX6_chance_80 (by decide) rfl rfl ?_
      refine x_dconst1 dX6_chance_82 ?_
      refine x_dstore dX6_chance_83 (by decide) rfl rfl ?_
      refine x_iconst (nI 0) dX6_chance_85 (by decide) ?_
      refine x_istore dX6_chance_86 (by decide) rfl rfl ?_
      generalize hB : popc (rC (s.1 0) (ix p) (ix f) &&& 65535) = B at *
      generalize hTT : s.1 0 0 = T at *
      have endx : ∀ V v, V[6]? = some (some (.double v)) → v = chR T (T - B) (ix q) → xP g l mX6_chance [] (xR 3 0 0) (xZ g (fun r h' => ∃ v, r = some (.double v) ∧ ((0 : Nat) = 0 → v = mChV (s.1 0) (ix p) (ix f) (ix q)) ∧ h' = putMod h m (mN s 1 0)) xno 0 0) 143 V [] (putMod h m (mN s 1 0)) 0 0 := by
        intro V v hV hv
        subst hv
        refine x_dconst1 dX6_chance_143 ?_
        refine x_dload dX6_chance_144 hV ?_
        refine x_dsub dX6_chance_146 (chance_n hT (Nat.sub_le _ _)) ?_
        refine x_dreturn dX6_chance_147 rfl (by decide) (by decide) ⟨_, rfl, fun _ => ?_, rfl⟩
        unfold mChV
        rw [hB, hTT]
      have hsT : T - B ≤ T := Nat.sub_le _ _
      refine xP.weak (V' := [some (.ref m), some (.int (nI (ix p))), some (.int (nI (ix f))), some (.int (nI (ix q))), some (.int (nI T)), some (.int (nI B)), some (.double (chP T (T - B) 0)), none, some (.int (nI 0))]) (by simp [xle, xset1, xset2, fin3, chP]) ?_
      refine xP.loop0 (fun i => [some (.ref m), some (.int (nI (ix p))), some (.int (nI (ix f))), some (.int (nI (ix q))), some (.int (nI T)), some (.int (nI B)), some (.double (chP T (T - B) i)), none, some (.int (nI i))]) (if T - B < ix q then T - B else ix q) ?_ ?_
      · intro i hi ih
        have hi2 : i < ix q ∧ i < T - B := by split at hi <;> omega
        obtain ⟨k1, k2, k3, k4⟩ := chOk_at hT hsT hi2.2
        have kp := chP_pos hT hsT (show i ≤ T - B by omega)
        refine x_iload dX6_chance_88 rfl ?_
        refine x_iload_n dX6_chance_90 rfl ?_
        refine x_icmp_ge_n 143 dX6_chance_91 (by decide) (by omega) (by omega) (fun c5 => ?_) (fun c5 => ?_)
        · omega
        · refine x_dload dX6_chance_94 rfl ?_
          refine x_dconst0 dX6_chance_96 ?_
          refine x_dcmp dX6_chance_97 ?_
          rw [kp]
          refine x_if_le 143 dX6_chance_98 (by decide) (fun c6 => ?_) (fun c6 => ?_)
          · exact absurd c6 (by decide)
          · refine x_iload dX6_chance_101 rfl ?_
            refine x_iload dX6_chance_103 rfl ?_
            refine x_isub_n dX6_chance_105 (by omega) ?_
            refine x_iload dX6_chance_106 rfl ?_
            refine x_isub_n dX6_chance_108 (by omega) ?_
            refine x_if_ne_n 116 dX6_chance_109 (by decide) (by omega) (fun c7 => ?_) (fun c7 => ?_)
            · refine x_dload dX6_chance_116 rfl ?_
              refine x_iload dX6_chance_118 rfl ?_
              refine x_iload dX6_chance_120 rfl ?_
              refine x_isub_n dX6_chance_122 (by omega) ?_
              refine x_iload dX6_chance_123 rfl ?_
              refine x_isub_n dX6_chance_125 (by omega) ?_
              refine x_i2d dX6_chance_126 ?_
              refine x_iload dX6_chance_127 rfl ?_
              refine x_iload dX6_chance_129 rfl ?_
              refine x_isub_n dX6_chance_131 (by omega) ?_
              refine x_i2d dX6_chance_132 ?_
              refine x_ddiv dX6_chance_133 k1 ?_
              refine x_dmul dX6_chance_134 k2 ?_
              refine x_dstore dX6_chance_135 (by decide) rfl rfl ?_
              refine x_iinc_n (k := 1) dX6_chance_137 rfl (by decide) (by decide) rfl rfl ?_
              refine x_goto 88 dX6_chance_140 (by decide) ?_
              exact xP.weak (by simp [xle, xset1, xset2, fin3, chP]) ih
            · omega
      · by_cases hsq : T - B < ix q
        · rw [if_pos hsq]
          have kp := chP_pos hT hsT (Nat.le_refl (T - B))
          refine x_iload dX6_chance_88 rfl ?_
          refine x_iload_n dX6_chance_90 rfl ?_
          refine x_icmp_ge_n 143 dX6_chance_91 (by decide) (by omega) (by omega) (fun c5 => ?_) (fun c5 => ?_)
          · omega
          · refine x_dload dX6_chance_94 rfl ?_
            refine x_dconst0 dX6_chance_96 ?_
            refine x_dcmp dX6_chance_97 ?_
            rw [kp]
            refine x_if_le 143 dX6_chance_98 (by decide) (fun c6 => ?_) (fun c6 => ?_)
            · exact absurd c6 (by decide)
            · refine x_iload dX6_chance_101 rfl ?_
              refine x_iload dX6_chance_103 rfl ?_
              refine x_isub_n dX6_chance_105 (by omega) ?_
              refine x_iload dX6_chance_106 rfl ?_
              refine x_isub_n dX6_chance_108 (by omega) ?_
              refine x_if_ne_n 116 dX6_chance_109 (by decide) (by omega) (fun c7 => ?_) (fun c7 => ?_)
              · omega
              · refine x_dconst0 dX6_chance_112 ?_
                refine x_goto 135 dX6_chance_113 (by decide) ?_
                refine x_dstore dX6_chance_135 (by decide) rfl rfl ?_
                refine x_iinc_n (k := 1) dX6_chance_137 rfl (by decide) (by decide) rfl rfl ?_
                refine x_goto 88 dX6_chance_140 (by decide) ?_
                refine x_iload dX6_chance_88 rfl ?_
                refine x_iload_n dX6_chance_90 rfl ?_
                refine x_icmp_ge_n 143 dX6_chance_91 (by decide) (by omega) (by omega) (fun c8 => ?_) (fun c8 => ?_)
                · exact endx _ FP.dconst0 (by simp [xset1, xset2, fin3]) (by unfold chR; rw [if_pos hsq])
                · refine x_dload dX6_chance_94 rfl ?_
                  refine x_dconst0 dX6_chance_96 ?_
                  refine x_dcmp dX6_chance_97 ?_
                  rw [ch_zero]
                  refine x_if_le 143 dX6_chance_98 (by decide) (fun c10 => ?_) (fun c10 => ?_)
                  · exact endx _ FP.dconst0 (by simp [xset1, xset2, fin3]) (by unfold chR; rw [if_pos hsq])
                  · exact absurd (by decide) c10
        · rw [if_neg hsq]
          refine x_iload dX6_chance_88 rfl ?_
          refine x_iload_n dX6_chance_90 rfl ?_
          refine x_icmp_ge_n 143 dX6_chance_91 (by decide) (by omega) (by omega) (fun c5 => ?_) (fun c5 => ?_)
          · exact endx _ _ rfl (by unfold chR; rw [if_neg hsq])
          · omega
theorem hset_saved {f : Nat → Nat} : hset (putMod h m s) (m + 5) (.inl (0, 706, .inl (fun q => nI (f q)))) = putMod h m (mR s 4 f) := hset_mod 5 (by decide) rfl (lt10 ⟨fun _ => rfl, fun _ => rfl, fun _ => rfl, fun _ => rfl, fun _ => rfl, fun q => absurd rfl q, fun _ => rfl, fun _ => rfl, fun _ => rfl, fun _ => rfl⟩)
theorem hset_isSaved {i : Nat} : hset (putMod h m s) (m + 6) (.inl (3, 2, .inl (upd (fun q => xb (s.2.2.2.1 q)) i (vp_nar .boolean (nI 1))))) = putMod h m (mB s (va_up s.2.2.2.1 i true)) := by
  have e : upd (fun q => xb (s.2.2.2.1 q)) i (vp_nar .boolean (nI 1)) = fun q => xb (va_up s.2.2.2.1 i true q) := by
    funext q
    unfold upd va_up
    split
    · decide +kernel
    · rfl
  rw [e]
  exact hset_mod 6 (by decide) rfl (lt10 ⟨fun _ => rfl, fun _ => rfl, fun _ => rfl, fun _ => rfl, fun _ => rfl, fun _ => rfl, fun q => absurd rfl q, fun _ => rfl, fun _ => rfl, fun _ => rfl⟩)
theorem c_mSave (a : Int32) : xMet g l mX6_save 1 0 0 [.ref m, .int a] (putMod h m s) (fun r h' => r = none ∧ h' = putMod h m (if okB a 2 = true then svM (mN s 1 0) (ix a) else mN s 1 1)) xno := by
  have e9 := nI_ix a
  refine xMet.of (V := [some (.ref m), some (.int a)]) moX6_save (Nat.le_of_ble_eq_true rfl) rfl ?_
  refine x_aload_n dX6_save_0 rfl ?_
  refine x_iload_n dX6_save_1 rfl ?_
  refine x_iconst (nI 0) dX6_save_2 (by decide) ?_
  refine x_iconst (nI 1) dX6_save_3 (by decide) ?_
  refine x_si0 dX6_save_4 cS_X6_59 (c_mIsIn) rfl rfl ⟨⟨by decide, by decide⟩, by decide, by decide⟩ (Nat.le_of_ble_eq_true rfl) ?_
  rw [isIn_le (by decide)]
  cases c0 : okB a (1 + 1) with
  | false =>
    rw [if_neg (by decide)]
    refine x_if_eq_b 14 dX6_save_7 (by decide) (fun c1 => ?_) (fun c1 => ?_)
    rotate_left
    · cases c1
    refine x_iconst (nI 1) dX6_save_14 (by decide) ?_
    refine xq_X6_thrown dX6_save_15 f_X6_49 ?_
    refine x_aload_n dX6_save_18 rfl ?_
    refine x_getf dX6_save_19 f_X6_49 putMod_at.o rfl ?_
    refine xP.eq (S' := [.int (nI 1)]) rfl rfl rfl rfl ?_
    refine x_if_le_n 26 dX6_save_22 (by decide) (by omega) (fun c9 => ?_) (fun c9 => ?_)
    · omega
    · exact x_return dX6_save_25 rfl (by decide) (by decide) ⟨rfl, rfl⟩
  | true =>
    have hi : ix a < 2 := okB_lt c0
    rw [if_pos rfl]
    refine x_if_eq_b 14 dX6_save_7 (by decide) (fun c1 => ?_) (fun c1 => ?_)
    · cases c1
    refine x_iconst (nI 0) dX6_save_10 (by decide) ?_
    refine x_goto 15 dX6_save_11 (by decide) ?_
    refine xq_X6_thrown dX6_save_15 f_X6_49 ?_
    refine x_aload_n dX6_save_18 rfl ?_
    refine x_getf dX6_save_19 f_X6_49 putMod_at.o rfl ?_
    refine xP.eq (S' := [.int (nI 0)]) rfl rfl rfl rfl ?_
    refine x_if_le_n 26 dX6_save_22 (by decide) (by omega) (fun c9 => ?_) (fun c9 => ?_)
    rotate_left
    · omega
    refine xP.weak (V' := [some (.ref m), some (.int (nI (ix a)))]) (by simp [xle, xset1, fin3, e9]) ?_
    have cc := c_mCopies (g := g) (l := l) (h := putMod h m (mN s 1 0)) (t := m + 5) (a := m + 1) (nt := 706) (na := 353) (ta := 353 * ix a) (fa := 0) putMod_at.saved putMod_at.a (by omega) (by omega) (by decide) (by decide) (by decide)
    rw [hset_saved] at cc
    refine x_aload_n dX6_save_26 rfl ?_
    refine x_getf dX6_save_27 f_X6_22 putMod_at.o rfl ?_
    refine x_sipush (nI 353) dX6_save_30 (by decide) ?_
    refine x_iload_n dX6_save_33 rfl ?_
    refine x_imul_n dX6_save_34 ?_
    refine x_aload_n dX6_save_35 rfl ?_
    refine x_getf dX6_save_36 f_X6_7 putMod_at.o rfl ?_
    refine x_iconst (nI 0) dX6_save_39 (by decide) ?_
    refine x_sv0 dX6_save_40 cS_X6_55 (cc) rfl rfl ⟨⟨by decide, by decide⟩, by decide, by decide⟩ (Nat.le_of_ble_eq_true rfl) ?_
    refine x_aload_n dX6_save_43 rfl ?_
    refine x_getf dX6_save_44 f_X6_25 putMod_at.o rfl ?_
    refine x_iload_n dX6_save_47 rfl ?_
    refine x_iconst (nI 1) dX6_save_48 (by decide) ?_
    refine x_zast dX6_save_49 putMod_at.isSaved hi (by decide) ?_
    rw [hset_isSaved]
    exact x_return dX6_save_50 rfl (by decide) (by decide) ⟨rfl, rfl⟩
theorem c_mRestore (hk : s.2.1 0 ≤ 8) (a : Int32) : xMet g l mX6_restore 2 0 0 [.ref m, .int a] (putMod h m s) (mOp h m s (restoreM s a)) xno := by
  have e9 := nI_ix a
  unfold restoreM
  refine xMet.of (V := [some (.ref m), some (.int a)]) moX6_restore (Nat.le_of_ble_eq_true rfl) rfl ?_
  refine x_aload_n dX6_restore_0 rfl ?_
  refine x_iload_n dX6_restore_1 rfl ?_
  refine x_iconst (nI 0) dX6_restore_2 (by decide) ?_
  refine x_iconst (nI 1) dX6_restore_3 (by decide) ?_
  refine x_si0 dX6_restore_4 cS_X6_59 (c_mIsIn) rfl rfl ⟨⟨by decide, by decide⟩, by decide, by decide⟩ (Nat.le_of_ble_eq_true rfl) ?_
  rw [isIn_le (by decide)]
  cases c0 : okB a (1 + 1) with
  | false =>
    rw [if_neg (by decide)]
    refine x_if_ne_b 14 dX6_restore_7 (by decide) (fun c1 => ?_) (fun c1 => ?_)
    · cases c1
    refine x_iconst (nI 1) dX6_restore_10 (by decide) ?_
    refine x_goto 28 dX6_restore_11 (by decide) ?_
    refine xq_X6_thrown dX6_restore_28 f_X6_49 ?_
    refine x_aload_n dX6_restore_31 rfl ?_
    refine x_getf dX6_restore_32 f_X6_49 putMod_at.o rfl ?_
    refine xP.eq (S' := [.int (nI 1)]) rfl rfl rfl rfl ?_
    refine x_if_le_n 40 dX6_restore_35 (by decide) (by omega) (fun c9 => ?_) (fun c9 => ?_)
    · omega
    · refine x_iconst (nI 0) dX6_restore_38 (by decide) ?_
      exact x_ireturn dX6_restore_39 rfl rfl (by decide) (by decide) (mOp.no rfl)
  | true =>
    have hi : ix a < 2 := okB_lt c0
    rw [if_pos rfl]
    refine xP.weak (V' := [some (.ref m), some (.int (nI (ix a)))]) (by simp [xle, xset1, fin3, e9]) ?_
    refine x_if_ne_b 14 dX6_restore_7 (by decide) (fun c1 => ?_) (fun c1 => ?_)
    rotate_left
    · cases c1
    refine x_aload_n dX6_restore_14 rfl ?_
    refine x_getf dX6_restore_15 f_X6_25 putMod_at.o rfl ?_
    refine x_iload_n dX6_restore_18 rfl ?_
    refine x_zald dX6_restore_19 putMod_at.isSaved hi (by decide) ?_
    cases c2 : s.2.2.2.1 (ix a) with
    | false =>
      rw [if_neg (by decide)]
      refine x_if_eq_b 27 dX6_restore_20 (by decide) (fun c3 => ?_) (fun c3 => ?_)
      rotate_left
      · cases c3
      refine x_iconst (nI 2) dX6_restore_27 (by decide) ?_
      refine xq_X6_thrown dX6_restore_28 f_X6_49 ?_
      refine x_aload_n dX6_restore_31 rfl ?_
      refine x_getf dX6_restore_32 f_X6_49 putMod_at.o rfl ?_
      refine xP.eq (S' := [.int (nI 2)]) rfl rfl rfl rfl ?_
      refine x_if_le_n 40 dX6_restore_35 (by decide) (by omega) (fun c9 => ?_) (fun c9 => ?_)
      · omega
      · refine x_iconst (nI 0) dX6_restore_38 (by decide) ?_
        exact x_ireturn dX6_restore_39 rfl rfl (by decide) (by decide) (mOp.no rfl)
    | true =>
      rw [if_pos rfl]
      refine x_if_eq_b 27 dX6_restore_20 (by decide) (fun c3 => ?_) (fun c3 => ?_)
      · cases c3
      refine x_iconst (nI 0) dX6_restore_23 (by decide) ?_
      refine x_goto 28 dX6_restore_24 (by decide) ?_
      refine xq_X6_thrown dX6_restore_28 f_X6_49 ?_
      refine x_aload_n dX6_restore_31 rfl ?_
      refine x_getf dX6_restore_32 f_X6_49 putMod_at.o rfl ?_
      refine xP.eq (S' := [.int (nI 0)]) rfl rfl rfl rfl ?_
      refine x_if_le_n 40 dX6_restore_35 (by decide) (by omega) (fun c9 => ?_) (fun c9 => ?_)
      rotate_left
      · omega
      have f1 := kpM_th (s := s)
      have r4 : (kpM (mN s 1 0) 0).1 4 = s.1 4 := kpM_row (by decide)
      have r1 : (kpM (mN s 1 0) 0).1 0 = s.1 0 := kpM_row (by decide)
      have ck := c_kp (g := g) (l := l) (h := h) (m := m) (s := mN s 1 0) hk
      generalize kpM (mN s 1 0) 0 = K at *
      have cc := c_mCopies (g := g) (l := l) (h := putMod h m K) (t := m + 1) (a := m + 5) (nt := 353) (na := 706) (ta := 0) (fa := 353 * ix a) putMod_at.a putMod_at.saved (by omega) (by decide) (by omega) (by decide) (by decide)
      rw [hset_a] at cc
      refine x_aload_n dX6_restore_40 rfl ?_
      refine x_aload_n dX6_restore_41 rfl ?_
      refine x_getf dX6_restore_42 f_X6_7 putMod_at.o rfl ?_
      refine x_vv0 dX6_restore_45 cV_X6_63 (ck) rfl rfl ⟨⟨by decide, by decide⟩, by decide, by decide⟩ (Nat.le_of_ble_eq_true rfl) (xrecv putMod_at.o rfl xcl5) ?_
      refine x_aload_n dX6_restore_48 rfl ?_
      refine x_getf dX6_restore_49 f_X6_7 putMod_at.o rfl ?_
      refine x_iconst (nI 0) dX6_restore_52 (by decide) ?_
      refine x_aload_n dX6_restore_53 rfl ?_
      refine x_getf dX6_restore_54 f_X6_22 putMod_at.o rfl ?_
      refine x_sipush (nI 353) dX6_restore_57 (by decide) ?_
      refine x_iload_n dX6_restore_60 rfl ?_
      refine x_imul_n dX6_restore_61 ?_
      refine x_sv0 dX6_restore_62 cS_X6_55 (cc) rfl rfl ⟨⟨by decide, by decide⟩, by decide, by decide⟩ (Nat.le_of_ble_eq_true rfl) ?_
      refine x_aload_n dX6_restore_65 rfl ?_
      refine x_vi0 dX6_restore_66 cV_X6_67 (c_mFamilies putMod_at) rfl rfl ⟨⟨by decide, by decide⟩, by decide, by decide⟩ (Nat.le_of_ble_eq_true rfl) (xrecv putMod_at.o rfl xcl5) ?_
      refine x_ireturn dX6_restore_69 rfl rfl (by decide) (by decide) ⟨_, ?_, rfl, f1.2.2.2.2.2.2.2.2.2, ?_, f1⟩
      · show some (Value.int (nI (cpT (K.1 0) (K.1 4) 0 (353 * ix a) 353 1))) = _
        rw [r4]
        unfold cpT
        rw [if_pos (by omega), show 1 - 0 + 353 * ix a = 353 * ix a + 1 by omega]
      · show cpT (K.1 0) (K.1 4) 0 (353 * ix a) 353 = _
        rw [r1, r4]
end M26
