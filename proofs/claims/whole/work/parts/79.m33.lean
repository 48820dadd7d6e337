/-! ===== the model is made ===== -/
def m0 : Mo := (fun _ _ => 0, fun _ => 0, fun j => if j = 1 then -1 else 0, fun _ => false, 0)
def mfr (m j q : Nat) : Value := if q < j then .ref (m + 1 + q) else .null
def mfl (m j : Nat) (e : Int32) : List Value := [mfr m j 0, mfr m j 1, mfr m j 2, mfr m j 3, mfr m j 4, mfr m j 5, .int 0, .int 0, mfr m j 6, .int 0, .int 0, .int 0, .int 0, .int 0, .int 0, .int 0, .int e, .long 0, .int 0, mfr m j 7, .int 0, .int 0, mfr m j 8, .int 0]
/-- a model that is being made: j rows of it are there -/
def mMk (hf : Nat → Option xE) (m j : Nat) (e : Int32) : xH := (fun a => if a = m then some (.inr (5, mfl m j e)) else if m + 1 ≤ a ∧ a ≤ m + j then some (modE m m0 (a - m)) else hf a, m + 1 + j)
theorem mMk_o {hf : Nat → Option xE} {m j : Nat} {e : Int32} : (hnew (mMk hf m j e) (modE m m0 (j + 1))).1 m = some (.inr (5, mfl m j e)) := by
  unfold hnew mMk
  dsimp only
  rw [if_neg (by omega), if_pos rfl]
theorem mMk_step {hf : Nat → Option xE} {m j : Nat} {e : Int32} {fs : List Value} (hfs : fs = mfl m (j + 1) e) : hset (hnew (mMk hf m j e) (modE m m0 (j + 1))) m (.inr (5, fs)) = mMk hf m (j + 1) e := by
  subst hfs
  refine xH_ext (fun a => ?_) rfl
  unfold hset hnew mMk
  dsimp only
  by_cases h1 : a = m
  · simp only [if_pos h1]
  · simp only [if_neg h1]
    by_cases h2 : a = m + 1 + j
    · rw [if_pos h2, if_pos (by omega), show a - m = j + 1 by omega]
    · rw [if_neg h2]
      by_cases h3 : m + 1 ≤ a ∧ a ≤ m + j
      · rw [if_pos h3, if_pos (by omega)]
      · rw [if_neg h3, if_neg (by omega)]
theorem mMk_e {hf : Nat → Option xE} {m j : Nat} {e e' : Int32} : hset (mMk hf m j e) m (.inr (5, mfl m j e')) = mMk hf m j e' := by
  refine xH_ext (fun a => ?_) rfl
  unfold hset mMk
  dsimp only
  by_cases h1 : a = m
  · simp only [if_pos h1]
  · simp only [if_neg h1]
theorem mMk_end {hf : Nat → Option xE} {m n : Nat} : mMk hf m 9 (-1) = ((putMod (hf, n) m m0).1, m + 10) := by
  refine xH_ext (fun a => ?_) rfl
  unfold mMk putMod
  dsimp only
  by_cases h1 : a = m
  · subst h1
    rw [if_pos rfl, if_pos (by omega), show a - a = 0 by omega]
    rfl
  · rw [if_neg h1]
    by_cases h3 : m + 1 ≤ a ∧ a ≤ m + 9
    · rw [if_pos h3, if_pos (by omega)]
    · rw [if_neg h3, if_neg (by omega)]
/-- the model as it begins -/
def mA0 : Nat → Nat := va_up (va_up (va_up (va_up (va_up (va_up (fun _ => 0) 0 4) 1 2) 5 1) 9 97) 17 1) 21 98
def mS0 : Mo := mR m0 0 mA0
section M33
variable {g : xG} {l : Launch} {m : Nat}
theorem mR_at {s : Mo} {A : Nat → Nat} : (mR s 0 A).1 0 = A := rfl
theorem c_mInit {hf : Nat → Option xE} (ho : hf m = some (.inr (5, mfl m 0 0))) : xDet g l mX6_init 1 9 6811 [.ref m] (hf, m + 1) none ((putMod (hf, m + 10) m mS0).1, m + 10) := by
  have e0 : ((hf, m + 1) : xH) = mMk hf m 0 0 := by
    refine xH_ext (fun a => ?_) rfl
    unfold mMk
    dsimp only
    by_cases h1 : a = m
    · rw [if_pos h1, h1, ho]
    · rw [if_neg h1, if_neg (by omega)]
  rw [e0]
  refine xMet.of (V := [some (.ref m), none]) moX6_init (Nat.le_of_ble_eq_true rfl) rfl ?_
  refine x_aload_n dX6_init_0 rfl ?_
  refine x_objInit dX6_init_1 oi_X6_1 (by decide) (by decide) ?_
  refine x_aload_n dX6_init_4 rfl ?_
  refine x_sipush (nI 353) dX6_init_5 (by decide) ?_
  refine x_newarray (t := 0) (N := 353) (a0 := (353, .inl (fun _ => nI 0))) dX6_init_8 aw_int rfl (by decide) (fun _ => rfl) (by decide) (by decide) (by decide) (by decide) ?_
  refine x_putF dX6_init_10 f_X6_7 (mMk_o (j := 0) (e := 0)) rfl rfl rfl rfl rfl (by simp [mfl]) ?_
  refine xP.eq rfl rfl rfl (mMk_step (j := 0) (e := 0) rfl).symm ?_
  refine x_aload_n dX6_init_13 rfl ?_
  refine x_sipush (nI 353) dX6_init_14 (by decide) ?_
  refine x_newarray (t := 0) (N := 353) (a0 := (353, .inl (fun _ => nI 0))) dX6_init_17 aw_int rfl (by decide) (fun _ => rfl) (by decide) (by decide) (by decide) (by decide) ?_
  refine x_putF dX6_init_19 f_X6_13 (mMk_o (j := 1) (e := 0)) rfl rfl rfl rfl rfl (by simp [mfl]) ?_
  refine xP.eq rfl rfl rfl (mMk_step (j := 1) (e := 0) rfl).symm ?_
  refine x_aload_n dX6_init_22 rfl ?_
  refine x_sipush (nI 353) dX6_init_23 (by decide) ?_
  refine x_newarray (t := 0) (N := 353) (a0 := (353, .inl (fun _ => nI 0))) dX6_init_26 aw_int rfl (by decide) (fun _ => rfl) (by decide) (by decide) (by decide) (by decide) ?_
  refine x_putF dX6_init_28 f_X6_16 (mMk_o (j := 2) (e := 0)) rfl rfl rfl rfl rfl (by simp [mfl]) ?_
  refine xP.eq rfl rfl rfl (mMk_step (j := 2) (e := 0) rfl).symm ?_
  refine x_aload_n dX6_init_31 rfl ?_
  refine x_sipush (nI 2824) dX6_init_32 (by decide) ?_
  refine x_newarray (t := 0) (N := 2824) (a0 := (2824, .inl (fun _ => nI 0))) dX6_init_35 aw_int rfl (by decide) (fun _ => rfl) (by decide) (by decide) (by decide) (by decide) ?_
  refine x_putF dX6_init_37 f_X6_19 (mMk_o (j := 3) (e := 0)) rfl rfl rfl rfl rfl (by simp [mfl]) ?_
  refine xP.eq rfl rfl rfl (mMk_step (j := 3) (e := 0) rfl).symm ?_
  refine x_aload_n dX6_init_40 rfl ?_
  refine x_sipush (nI 706) dX6_init_41 (by decide) ?_
  refine x_newarray (t := 0) (N := 706) (a0 := (706, .inl (fun _ => nI 0))) dX6_init_44 aw_int rfl (by decide) (fun _ => rfl) (by decide) (by decide) (by decide) (by decide) ?_
  refine x_putF dX6_init_46 f_X6_22 (mMk_o (j := 4) (e := 0)) rfl rfl rfl rfl rfl (by simp [mfl]) ?_
  refine xP.eq rfl rfl rfl (mMk_step (j := 4) (e := 0) rfl).symm ?_
  refine x_aload_n dX6_init_49 rfl ?_
  refine x_iconst (nI 2) dX6_init_50 (by decide) ?_
  refine x_newarray (t := 3) (N := 2) (a0 := (2, .inl (fun _ => xb false))) dX6_init_51 aw_boolean rfl (by decide) (fun _ => rfl) (by decide) (by decide) (by decide) (by decide) ?_
  refine x_putF dX6_init_53 f_X6_25 (mMk_o (j := 5) (e := 0)) rfl rfl rfl rfl rfl (by simp [mfl]) ?_
  refine xP.eq rfl rfl rfl (mMk_step (j := 5) (e := 0) rfl).symm ?_
  refine x_aload_n dX6_init_56 rfl ?_
  refine x_sipush (nI 600) dX6_init_57 (by decide) ?_
  refine x_newarray (t := 0) (N := 600) (a0 := (600, .inl (fun _ => nI 0))) dX6_init_60 aw_int rfl (by decide) (fun _ => rfl) (by decide) (by decide) (by decide) (by decide) ?_
  refine x_putF dX6_init_62 f_X6_29 (mMk_o (j := 6) (e := 0)) rfl rfl rfl rfl rfl (by simp [mfl]) ?_
  refine xP.eq rfl rfl rfl (mMk_step (j := 6) (e := 0) rfl).symm ?_
  refine x_aload_n dX6_init_65 rfl ?_
  refine x_iconst (-1) dX6_init_66 (by decide) ?_
  refine x_putf dX6_init_67 f_X6_32 (fs := mfl m 7 0) (by unfold mMk; dsimp only; rw [if_pos rfl]) rfl rfl rfl (by simp [mfl]) ?_
  refine xP.eq rfl rfl rfl (mMk_e (j := 7) (e := 0) (e' := -1)).symm ?_
  refine x_aload_n dX6_init_70 rfl ?_
  refine x_bipush (nI 120) dX6_init_71 (by decide) ?_
  refine x_newarray (t := 0) (N := 120) (a0 := (120, .inl (fun _ => nI 0))) dX6_init_73 aw_int rfl (by decide) (fun _ => rfl) (by decide) (by decide) (by decide) (by decide) ?_
  refine x_putF dX6_init_75 f_X6_36 (mMk_o (j := 7) (e := -1)) rfl rfl rfl rfl rfl (by simp [mfl]) ?_
  refine xP.eq rfl rfl rfl (mMk_step (j := 7) (e := -1) rfl).symm ?_
  refine x_aload_n dX6_init_78 rfl ?_
  refine x_sipush (nI 1500) dX6_init_79 (by decide) ?_
  refine x_newarray (t := 0) (N := 1500) (a0 := (1500, .inl (fun _ => nI 0))) dX6_init_82 aw_int rfl (by decide) (fun _ => rfl) (by decide) (by decide) (by decide) (by decide) ?_
  refine x_putF dX6_init_84 f_X6_39 (mMk_o (j := 8) (e := -1)) rfl rfl rfl rfl rfl (by simp [mfl]) ?_
  refine xP.eq rfl rfl rfl (mMk_step (j := 8) (e := -1) rfl).symm ?_
  rw [mMk_end (n := m + 10)]
  refine xP.eq (h' := putMod (hf, m + 10) m m0) rfl rfl rfl rfl ?_
  have eb : beS m0 = m0 := by
    show mR m0 0 (fun q => if q < 353 then 0 else m0.1 0 q) = m0
    have : (fun q => if q < 353 then 0 else m0.1 0 q) = m0.1 0 := by funext q; split <;> rfl
    rw [this, mR_self]
  have cb : xDet g l mX6_begins 0 0 0 [.ref m] (putMod (hf, m + 10) m m0) none (putMod (hf, m + 10) m m0) := by
    have := c_mBegins (g := g) (l := l) (h := (hf, m + 10)) (m := m) (s := m0)
    rw [eb] at this
    exact this
  refine x_aload_n dX6_init_87 rfl ?_
  refine x_vv0 dX6_init_88 cV_X6_42 (cb) rfl rfl ⟨⟨by decide, by decide⟩, by decide, by decide⟩ (Nat.le_of_ble_eq_true rfl) (xrecv putMod_at.o rfl xcl5) ?_
  refine x_aload_n dX6_init_91 rfl ?_
  refine x_getf dX6_init_92 f_X6_7 putMod_at.o rfl ?_
  refine x_iconst (nI 0) dX6_init_95 (by decide) ?_
  refine x_iconst (nI 4) dX6_init_96 (by decide) ?_
  refine xq_X6_a dX6_init_97 (by decide) ?_
  refine x_aload_n dX6_init_98 rfl ?_
  refine x_getf dX6_init_99 f_X6_7 putMod_at.o rfl ?_
  refine x_iconst (nI 1) dX6_init_102 (by decide) ?_
  refine x_iconst (nI 2) dX6_init_103 (by decide) ?_
  refine xq_X6_a dX6_init_104 (by decide) ?_
  rw [mR_at, mR_R]
  have hs : ∀ (A : Nat → Nat) (f i x : Nat), f < 10 → i < 12 → xDet g l mX6_setsOf 0 0 0 [.ref m, .int (nI f), .int (nI i), .int (nI x)] (putMod (hf, m + 10) m (mR m0 0 A)) none (putMod (hf, m + 10) m (mR m0 0 (va_up A (5 + 12 * f + i) x))) := fun A f i x hf9 hi => by
    have := c_mSetsOf (g := g) (l := l) (h := (hf, m + 10)) (m := m) (s := mR m0 0 A) (f := f) (i := i) (x := x) hf9 hi
    rw [mR_R] at this
    exact this
  generalize hA : va_up (va_up (m0.1 0) 0 4) 1 2 = A0
  refine x_iconst (nI 0) dX6_init_105 (by decide) ?_
  refine x_istore_n dX6_init_106 (by decide) rfl rfl ?_
  refine x_iload_n dX6_init_107 rfl ?_
  refine x_iconst (nI 2) dX6_init_108 (by decide) ?_
  refine x_icmp_ge_n 135 dX6_init_109 (by decide) (by omega) (by omega) (fun c1 => ?_) (fun c1 => ?_)
  · omega
  refine x_aload_n dX6_init_112 rfl ?_
  refine x_iload_n dX6_init_113 rfl ?_
  refine x_iconst (nI 0) dX6_init_114 (by decide) ?_
  refine x_iconst (nI 1) dX6_init_115 (by decide) ?_
  refine x_vv0 dX6_init_116 cV_X6_45 (hs _ 0 0 1 (by decide) (by decide)) rfl rfl ⟨⟨by decide, by decide⟩, by decide, by decide⟩ (Nat.le_of_ble_eq_true rfl) (xrecv putMod_at.o rfl xcl5) ?_
  refine x_aload_n dX6_init_119 rfl ?_
  refine x_iload_n dX6_init_120 rfl ?_
  refine x_iconst (nI 4) dX6_init_121 (by decide) ?_
  refine x_bipush (nI 97) dX6_init_122 (by decide) ?_
  refine x_iload_n dX6_init_124 rfl ?_
  refine x_iadd_n dX6_init_125 ?_
  refine x_vv0 dX6_init_126 cV_X6_45 (hs _ 0 4 97 (by decide) (by decide)) rfl rfl ⟨⟨by decide, by decide⟩, by decide, by decide⟩ (Nat.le_of_ble_eq_true rfl) (xrecv putMod_at.o rfl xcl5) ?_
  refine x_iinc_n (k := 1) dX6_init_129 rfl (by decide) (by decide) rfl rfl ?_
  refine xP.weak (V' := [some (.ref m), some (.int (nI 1))]) (by simp [xle, xset1, fin3]) ?_
  refine x_goto 107 dX6_init_132 (by decide) ?_
  refine x_iload_n dX6_init_107 rfl ?_
  refine x_iconst (nI 2) dX6_init_108 (by decide) ?_
  refine x_icmp_ge_n 135 dX6_init_109 (by decide) (by omega) (by omega) (fun c2 => ?_) (fun c2 => ?_)
  · omega
  refine x_aload_n dX6_init_112 rfl ?_
  refine x_iload_n dX6_init_113 rfl ?_
  refine x_iconst (nI 0) dX6_init_114 (by decide) ?_
  refine x_iconst (nI 1) dX6_init_115 (by decide) ?_
  refine x_vv0 dX6_init_116 cV_X6_45 (hs _ 1 0 1 (by decide) (by decide)) rfl rfl ⟨⟨by decide, by decide⟩, by decide, by decide⟩ (Nat.le_of_ble_eq_true rfl) (xrecv putMod_at.o rfl xcl5) ?_
  refine x_aload_n dX6_init_119 rfl ?_
  refine x_iload_n dX6_init_120 rfl ?_
  refine x_iconst (nI 4) dX6_init_121 (by decide) ?_
  refine x_bipush (nI 97) dX6_init_122 (by decide) ?_
  refine x_iload_n dX6_init_124 rfl ?_
  refine x_iadd_n dX6_init_125 ?_
  refine x_vv0 dX6_init_126 cV_X6_45 (hs _ 1 4 98 (by decide) (by decide)) rfl rfl ⟨⟨by decide, by decide⟩, by decide, by decide⟩ (Nat.le_of_ble_eq_true rfl) (xrecv putMod_at.o rfl xcl5) ?_
  refine x_iinc_n (k := 1) dX6_init_129 rfl (by decide) (by decide) rfl rfl ?_
  refine xP.weak (V' := [some (.ref m), some (.int (nI 2))]) (by simp [xle, xset1, fin3]) ?_
  refine x_goto 107 dX6_init_132 (by decide) ?_
  refine x_iload_n dX6_init_107 rfl ?_
  refine x_iconst (nI 2) dX6_init_108 (by decide) ?_
  refine x_icmp_ge_n 135 dX6_init_109 (by decide) (by omega) (by omega) (fun c3 => ?_) (fun c3 => ?_)
  rotate_left
  · omega
  have fin : ((putMod (hf, m + 10) m mS0).1, m + 10) = putMod (hf, m + 10) m mS0 := rfl
  rw [fin]
  exact x_vret dX6_init_135 rfl (by decide) (by decide) rfl (by rw [← hA]; rfl)
end M33
