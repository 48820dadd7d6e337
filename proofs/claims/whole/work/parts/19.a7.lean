/-! ===== Archive: it is made; the chance ===== -/
def zeroS : Ar := (fun _ => 0, fun _ _ => 0, fun _ _ => 0)
def fldV (o j k : Nat) : Value := if k < 5 then .int (nI 0) else if k - 5 < j then .ref (o + 1 + (k - 5)) else .null
def flds (o j : Nat) : List Value := (List.range 16).map (fldV o j)
/-- an Archive that is being made: j rows of it are there -/
def hMk (hf : Nat → Option xE) (o j : Nat) : xH := (fun a => if a = o then some (.inr (0, flds o j)) else if o + 1 ≤ a ∧ a ≤ o + j then some (archE o zeroS (a - o)) else hf a, o + 1 + j)
theorem hMk_o {hf : Nat → Option xE} {o j : Nat} : (hnew (hMk hf o j) (archE o zeroS (j + 1))).1 o = some (.inr (0, flds o j)) := by
  unfold hnew hMk
  dsimp only
  rw [if_neg (by omega), if_pos rfl]
theorem hMk_step {hf : Nat → Option xE} {o j : Nat} {fs : List Value} (hfs : fs = flds o (j + 1)) : hset (hnew (hMk hf o j) (archE o zeroS (j + 1))) o (.inr (0, fs)) = hMk hf o (j + 1) := by
  subst hfs
  refine xH_ext (fun a => ?_) rfl
  unfold hset hnew hMk
  dsimp only
  by_cases h1 : a = o
  · simp only [if_pos h1]
  · simp only [if_neg h1]
    by_cases h2 : a = o + 1 + j
    · rw [if_pos h2, if_pos (by omega), show a - o = j + 1 by omega]
    · rw [if_neg h2]
      by_cases h3 : o + 1 ≤ a ∧ a ≤ o + j
      · rw [if_pos h3, if_pos (by omega)]
      · rw [if_neg h3, if_neg (by omega)]
theorem hMk_end {hf : Nat → Option xE} {o n : Nat} : hMk hf o 11 = ((putArch (hf, n) o zeroS).1, o + 12) := by
  refine xH_ext (fun a => ?_) rfl
  unfold hMk putArch
  dsimp only
  by_cases h1 : a = o
  · subst h1
    rw [if_pos rfl, if_pos (by omega), show a - a = 0 by omega]
    rfl
  · rw [if_neg h1]
    by_cases h3 : o + 1 ≤ a ∧ a ≤ o + 11
    · rw [if_pos h3, if_pos (by omega)]
    · rw [if_neg h3, if_neg (by omega)]
def chP (T s : Nat) : Nat → UInt64
  | 0 => FP.dconst1
  | k + 1 => FP.dmul (chP T s k) (FP.ddiv (FP.i2d (nI (s - k))) (FP.i2d (nI (T - k))))
def chR (T s q : Nat) : UInt64 := if s < q then FP.dconst0 else chP T s q
def nn64 (r : UInt64) : Bool := decide (r &&& 0x7fffffffffffffff ≤ 0x7ff0000000000000)
/-- every step of a chance is a number; the product stays above 0 -/
def chOk (T s k : Nat) : Bool := nn64 (FP.ddiv (FP.i2d (nI (s - k))) (FP.i2d (nI (T - k)))) && nn64 (chP T s (k + 1)) && nn64 (FP.dsub FP.dconst1 (chP T s (k + 1))) && (Op.cmpValue (FP.dcmp (chP T s (k + 1)) FP.dconst0) .l == 1)
theorem chOk_all : (List.range 17).all (fun T => (List.range (T + 1)).all (fun s => (List.range s).all (fun k => chOk T s k))) = true := by decide +kernel
theorem nn64_spec {r : UInt64} (h : nn64 r = true) : vf_n64 r := by
  unfold nn64 at h
  exact of_decide_eq_true (p := r &&& 0x7fffffffffffffff ≤ 0x7ff0000000000000) h
theorem chOk_at {T s k : Nat} (hT : T ≤ 16) (hs : s ≤ T) (hk : k < s) : vf_n64 (FP.ddiv (FP.i2d (nI (s - k))) (FP.i2d (nI (T - k)))) ∧ vf_n64 (chP T s (k + 1)) ∧ vf_n64 (FP.dsub FP.dconst1 (chP T s (k + 1))) ∧ Op.cmpValue (FP.dcmp (chP T s (k + 1)) FP.dconst0) .l = 1 := by
  have h1 := List.all_eq_true.mp chOk_all T (List.mem_range.mpr (by omega))
  have h2 := List.all_eq_true.mp h1 s (List.mem_range.mpr (by omega))
  have h3 := List.all_eq_true.mp h2 k (List.mem_range.mpr hk)
  unfold chOk at h3
  simp only [Bool.and_eq_true] at h3
  exact ⟨nn64_spec h3.1.1.1, nn64_spec h3.1.1.2, nn64_spec h3.1.2, eq_of_beq h3.2⟩
section A7
variable {g : xG} {l : Launch} {h : xH} {o : Nat} {st : Ar}
theorem c_chance (hA : ArchAt h o st) (hw : aOk st) {p f q : Nat} (hp : p < 12) (hf : f < 10) (hq : q ≤ st.1 0) : xDet g l mX0_chanceOfRightAnswers 2 0 0 [.ref o, .int (nI p), .int (nI f), .int (nI q)] h (some (.double (chR (st.1 0) (st.1 0 - popc (st.2.2 8 (10 * p + f))) q))) h := by
  have hT : 4 ≤ st.1 0 ∧ st.1 0 ≤ 16 := hw.1
  have hc := hw.cell (i := 10 * p + f) (by omega)
  have hpc : popc (st.2.2 8 (10 * p + f)) ≤ st.1 0 := popc_le (hw.2.2.2.2.2.1 _ (by omega)) (by omega)
  refine xMet.of (V := [some (.ref o), some (.int (nI p)), some (.int (nI f)), some (.int (nI q)), none, none, none, none]) moX0_chanceOfRightAnswers (Nat.le_of_ble_eq_true rfl) rfl ?_
  refine x_aload_n dX0_chanceOfRightAnswers_0 rfl ?_
  refine x_getf dX0_chanceOfRightAnswers_1 f_X0_46 hA.o rfl ?_
  refine x_aload_n dX0_chanceOfRightAnswers_4 rfl ?_
  refine x_iload_n dX0_chanceOfRightAnswers_5 rfl ?_
  refine x_iload_n dX0_chanceOfRightAnswers_6 rfl ?_
  refine x_vi0 dX0_chanceOfRightAnswers_7 cV_X0_108 (c_spoiledTiles hA p f hp hf) rfl rfl ⟨⟨by decide, by decide⟩, by decide, by decide⟩ (Nat.le_of_ble_eq_true rfl) (xrecv hA.o rfl xcl0) ?_
  refine x_si0 dX0_chanceOfRightAnswers_10 cS_X0_88 (c_bitCount hc) rfl rfl ⟨⟨by decide, by decide⟩, by decide, by decide⟩ (Nat.le_of_ble_eq_true rfl) ?_
  refine x_isub_n dX0_chanceOfRightAnswers_13 (by omega) ?_
  refine x_istore dX0_chanceOfRightAnswers_14 (by decide) rfl rfl ?_
  refine x_dconst1 dX0_chanceOfRightAnswers_16 ?_
  refine x_dstore dX0_chanceOfRightAnswers_17 (by decide) rfl rfl ?_
  refine x_iconst (nI 0) dX0_chanceOfRightAnswers_19 (by decide) ?_
  refine x_istore dX0_chanceOfRightAnswers_20 (by decide) rfl rfl ?_
  obtain ⟨s, hs⟩ : ∃ s, s = st.1 0 - popc (st.2.2 8 (10 * p + f)) := ⟨_, rfl⟩
  rw [← hs]
  have hsT : s ≤ st.1 0 := by omega
  refine xP.weak (V' := [some (.ref o), some (.int (nI p)), some (.int (nI f)), some (.int (nI q)), some (.int (nI s)), some (.double FP.dconst1), none, some (.int (nI 0))]) (by simp [xle, xset1, xset2, fin3]) ?_
  refine xP.loop0 (fun i => [some (.ref o), some (.int (nI p)), some (.int (nI f)), some (.int (nI q)), some (.int (nI s)), some (.double (chP (st.1 0) s i)), none, some (.int (nI i))]) (if s < q then s else q) ?_ ?_
  · intro i hi ih
    have hi2 : i < q ∧ i < s := by split at hi <;> omega
    obtain ⟨k1, k2, k3, k4⟩ := chOk_at hT.2 hsT hi2.2
    refine x_iload dX0_chanceOfRightAnswers_22 rfl ?_
    refine x_iload_n dX0_chanceOfRightAnswers_24 rfl ?_
    refine x_icmp_ge_n 74 dX0_chanceOfRightAnswers_25 (by decide) (by omega) (by omega) (fun c => ?_) (fun c => ?_)
    · omega
    · refine x_iload dX0_chanceOfRightAnswers_28 rfl ?_
      refine x_iload dX0_chanceOfRightAnswers_30 rfl ?_
      refine x_isub_n dX0_chanceOfRightAnswers_32 (by omega) ?_
      refine x_if_le_n 46 dX0_chanceOfRightAnswers_33 (by decide) (by omega) (fun c2 => ?_) (fun c2 => ?_)
      · omega
      · refine x_aload_n dX0_chanceOfRightAnswers_36 rfl ?_
        refine x_getf dX0_chanceOfRightAnswers_37 f_X0_46 hA.o rfl ?_
        refine x_iload dX0_chanceOfRightAnswers_40 rfl ?_
        refine x_isub_n dX0_chanceOfRightAnswers_42 (by omega) ?_
        refine x_if_gt_n 48 dX0_chanceOfRightAnswers_43 (by decide) (by omega) (fun c3 => ?_) (fun c3 => ?_)
        · refine x_dload dX0_chanceOfRightAnswers_48 rfl ?_
          refine x_iload dX0_chanceOfRightAnswers_50 rfl ?_
          refine x_iload dX0_chanceOfRightAnswers_52 rfl ?_
          refine x_isub_n dX0_chanceOfRightAnswers_54 (by omega) ?_
          refine x_i2d dX0_chanceOfRightAnswers_55 ?_
          refine x_aload_n dX0_chanceOfRightAnswers_56 rfl ?_
          refine x_getf dX0_chanceOfRightAnswers_57 f_X0_46 hA.o rfl ?_
          refine x_iload dX0_chanceOfRightAnswers_60 rfl ?_
          refine x_isub_n dX0_chanceOfRightAnswers_62 (by omega) ?_
          refine x_i2d dX0_chanceOfRightAnswers_63 ?_
          refine x_ddiv dX0_chanceOfRightAnswers_64 (k1) ?_
          refine x_dmul dX0_chanceOfRightAnswers_65 (k2) ?_
          refine x_dstore dX0_chanceOfRightAnswers_66 (by decide) rfl rfl ?_
          refine x_iinc_n (k := 1) dX0_chanceOfRightAnswers_68 rfl (by decide) (by decide) rfl rfl ?_
          refine x_goto 22 dX0_chanceOfRightAnswers_71 (by decide) ?_
          exact xP.weak (by simp [xle, xset1, xset2, fin3, chP]) ih
        · omega
  · by_cases hsq : s < q
    · rw [if_pos hsq]
      refine x_iload dX0_chanceOfRightAnswers_22 rfl ?_
      refine x_iload_n dX0_chanceOfRightAnswers_24 rfl ?_
      refine x_icmp_ge_n 74 dX0_chanceOfRightAnswers_25 (by decide) (by omega) (by omega) (fun c => ?_) (fun c => ?_)
      · omega
      · refine x_iload dX0_chanceOfRightAnswers_28 rfl ?_
        refine x_iload dX0_chanceOfRightAnswers_30 rfl ?_
        refine x_isub_n dX0_chanceOfRightAnswers_32 (by omega) ?_
        refine x_if_le_n 46 dX0_chanceOfRightAnswers_33 (by decide) (by omega) (fun c2 => ?_) (fun c2 => ?_)
        · refine x_dconst0 dX0_chanceOfRightAnswers_46 ?_
          refine x_dreturn dX0_chanceOfRightAnswers_47 rfl (by decide) (by decide) ⟨by unfold chR; rw [if_pos hsq], rfl⟩
        · omega
    · rw [if_neg hsq]
      refine x_iload dX0_chanceOfRightAnswers_22 rfl ?_
      refine x_iload_n dX0_chanceOfRightAnswers_24 rfl ?_
      refine x_icmp_ge_n 74 dX0_chanceOfRightAnswers_25 (by decide) (by omega) (by omega) (fun c => ?_) (fun c => ?_)
      · refine x_dload dX0_chanceOfRightAnswers_74 rfl ?_
        refine x_dreturn dX0_chanceOfRightAnswers_76 rfl (by decide) (by decide) ⟨by unfold chR; rw [if_neg hsq], rfl⟩
      · omega
theorem c_init {hf : Nat → Option xE} (ho : hf o = some (.inr (0, flds o 0))) : xDet g l mX0_init 1 11 228 [.ref o] (hf, o + 1) none ((putArch (hf, o + 1) o zeroS).1, o + 12) := by
  rw [← hMk_end]
  have e0 : ((hf, o + 1) : xH) = hMk hf o 0 := by
    refine xH_ext (fun a => ?_) rfl
    unfold hMk
    dsimp only
    by_cases h1 : a = o
    · rw [if_pos h1, h1, ho]
    · rw [if_neg h1, if_neg (by omega)]
  rw [e0]
  refine xMet.of (V := [some (.ref o)]) moX0_init (Nat.le_of_ble_eq_true rfl) rfl ?_
  refine x_aload_n dX0_init_0 rfl ?_
  refine x_objInit dX0_init_1 oi_X0_3 (by decide) (by decide) ?_
  refine x_aload_n dX0_init_4 rfl ?_
  refine x_bipush (nI 10) dX0_init_5 (by decide) ?_
  refine x_newarray (t := 2) (N := 10) (a0 := (10, .inr (.inl (fun _ => 0)))) dX0_init_7 aw_long rfl (by decide) (fun _ => rfl) (by decide) (by decide) (by decide) (by decide) ?_
  refine x_putF dX0_init_9 f_X0_9 (hMk_o (j := 0)) rfl rfl rfl rfl rfl (by simp [flds]) ?_
  refine xP.eq rfl rfl rfl (hMk_step (j := 0) rfl).symm ?_
  refine x_aload_n dX0_init_12 rfl ?_
  refine x_bipush (nI 10) dX0_init_13 (by decide) ?_
  refine x_newarray (t := 0) (N := 10) (a0 := (10, .inl (fun _ => nI 0))) dX0_init_15 aw_int rfl (by decide) (fun _ => rfl) (by decide) (by decide) (by decide) (by decide) ?_
  refine x_putF dX0_init_17 f_X0_15 (hMk_o (j := 1)) rfl rfl rfl rfl rfl (by simp [flds]) ?_
  refine xP.eq rfl rfl rfl (hMk_step (j := 1) rfl).symm ?_
  refine x_aload_n dX0_init_20 rfl ?_
  refine x_bipush (nI 10) dX0_init_21 (by decide) ?_
  refine x_newarray (t := 0) (N := 10) (a0 := (10, .inl (fun _ => nI 0))) dX0_init_23 aw_int rfl (by decide) (fun _ => rfl) (by decide) (by decide) (by decide) (by decide) ?_
  refine x_putF dX0_init_25 f_X0_19 (hMk_o (j := 2)) rfl rfl rfl rfl rfl (by simp [flds]) ?_
  refine xP.eq rfl rfl rfl (hMk_step (j := 2) rfl).symm ?_
  refine x_aload_n dX0_init_28 rfl ?_
  refine x_bipush (nI 10) dX0_init_29 (by decide) ?_
  refine x_newarray (t := 0) (N := 10) (a0 := (10, .inl (fun _ => nI 0))) dX0_init_31 aw_int rfl (by decide) (fun _ => rfl) (by decide) (by decide) (by decide) (by decide) ?_
  refine x_putF dX0_init_33 f_X0_22 (hMk_o (j := 3)) rfl rfl rfl rfl rfl (by simp [flds]) ?_
  refine xP.eq rfl rfl rfl (hMk_step (j := 3) rfl).symm ?_
  refine x_aload_n dX0_init_36 rfl ?_
  refine x_bipush (nI 10) dX0_init_37 (by decide) ?_
  refine x_newarray (t := 0) (N := 10) (a0 := (10, .inl (fun _ => nI 0))) dX0_init_39 aw_int rfl (by decide) (fun _ => rfl) (by decide) (by decide) (by decide) (by decide) ?_
  refine x_putF dX0_init_41 f_X0_25 (hMk_o (j := 4)) rfl rfl rfl rfl rfl (by simp [flds]) ?_
  refine xP.eq rfl rfl rfl (hMk_step (j := 4) rfl).symm ?_
  refine x_aload_n dX0_init_44 rfl ?_
  refine x_bipush (nI 10) dX0_init_45 (by decide) ?_
  refine x_newarray (t := 0) (N := 10) (a0 := (10, .inl (fun _ => nI 0))) dX0_init_47 aw_int rfl (by decide) (fun _ => rfl) (by decide) (by decide) (by decide) (by decide) ?_
  refine x_putF dX0_init_49 f_X0_28 (hMk_o (j := 5)) rfl rfl rfl rfl rfl (by simp [flds]) ?_
  refine xP.eq rfl rfl rfl (hMk_step (j := 5) rfl).symm ?_
  refine x_aload_n dX0_init_52 rfl ?_
  refine x_bipush (nI 12) dX0_init_53 (by decide) ?_
  refine x_newarray (t := 2) (N := 12) (a0 := (12, .inr (.inl (fun _ => 0)))) dX0_init_55 aw_long rfl (by decide) (fun _ => rfl) (by decide) (by decide) (by decide) (by decide) ?_
  refine x_putF dX0_init_57 f_X0_31 (hMk_o (j := 6)) rfl rfl rfl rfl rfl (by simp [flds]) ?_
  refine xP.eq rfl rfl rfl (hMk_step (j := 6) rfl).symm ?_
  refine x_aload_n dX0_init_60 rfl ?_
  refine x_bipush (nI 12) dX0_init_61 (by decide) ?_
  refine x_newarray (t := 0) (N := 12) (a0 := (12, .inl (fun _ => nI 0))) dX0_init_63 aw_int rfl (by decide) (fun _ => rfl) (by decide) (by decide) (by decide) (by decide) ?_
  refine x_putF dX0_init_65 f_X0_34 (hMk_o (j := 7)) rfl rfl rfl rfl rfl (by simp [flds]) ?_
  refine xP.eq rfl rfl rfl (hMk_step (j := 7) rfl).symm ?_
  refine x_aload_n dX0_init_68 rfl ?_
  refine x_bipush (nI 12) dX0_init_69 (by decide) ?_
  refine x_newarray (t := 0) (N := 12) (a0 := (12, .inl (fun _ => nI 0))) dX0_init_71 aw_int rfl (by decide) (fun _ => rfl) (by decide) (by decide) (by decide) (by decide) ?_
  refine x_putF dX0_init_73 f_X0_37 (hMk_o (j := 8)) rfl rfl rfl rfl rfl (by simp [flds]) ?_
  refine xP.eq rfl rfl rfl (hMk_step (j := 8) rfl).symm ?_
  refine x_aload_n dX0_init_76 rfl ?_
  refine x_bipush (nI 12) dX0_init_77 (by decide) ?_
  refine x_newarray (t := 0) (N := 12) (a0 := (12, .inl (fun _ => nI 0))) dX0_init_79 aw_int rfl (by decide) (fun _ => rfl) (by decide) (by decide) (by decide) (by decide) ?_
  refine x_putF dX0_init_81 f_X0_40 (hMk_o (j := 9)) rfl rfl rfl rfl rfl (by simp [flds]) ?_
  refine xP.eq rfl rfl rfl (hMk_step (j := 9) rfl).symm ?_
  refine x_aload_n dX0_init_84 rfl ?_
  refine x_bipush (nI 120) dX0_init_85 (by decide) ?_
  refine x_newarray (t := 0) (N := 120) (a0 := (120, .inl (fun _ => nI 0))) dX0_init_87 aw_int rfl (by decide) (fun _ => rfl) (by decide) (by decide) (by decide) (by decide) ?_
  refine x_putF dX0_init_89 f_X0_43 (hMk_o (j := 10)) rfl rfl rfl rfl rfl (by simp [flds]) ?_
  refine xP.eq rfl rfl rfl (hMk_step (j := 10) rfl).symm ?_
  exact x_vret dX0_init_92 rfl (by decide) (by decide) rfl (rfl)
end A7
