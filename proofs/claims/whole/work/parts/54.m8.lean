/-! ===== the model: names are put; the family that stands here; pairs; nothing ===== -/
def pnS (s : Mo) (to : Nat) : Mo := mR s 0 (cpT (s.1 0) (sgW s) to 0 8)
def fhS (s : Mo) : Mo := if namedV (mnS s) 9 (s.1 0 1) 12 = none then flS (mnS s) (-4) else mnS s
def fhV (s : Mo) : Option Nat := namedV (mnS s) 9 (s.1 0 1) 12
def beS (s : Mo) : Mo := mR s 0 (fun q => if q < 353 then 0 else s.1 0 q)
theorem mR_R {s : Mo} {j : Nat} {f f' : Nat → Nat} : mR (mR s j f) j f' = mR s j f' := by
  refine Prod.ext (funext fun i => ?_) rfl
  show va_up (va_up s.1 j f) j f' i = va_up s.1 j f' i
  unfold va_up
  split <;> rfl
theorem mR_self {s : Mo} {j : Nat} : mR s j (s.1 j) = s := by
  refine Prod.ext (funext fun i => ?_) rfl
  show va_up s.1 j (s.1 j) i = s.1 i
  unfold va_up
  split
  · rename_i e; rw [e]
  · rfl
theorem mnS_ok {s : Mo} (hb : bOk s) (hl : lxOk s) : bOk (mnS s) ∧ lxOk (mnS s) := by
  unfold mnS
  split
  · exact flS_ok hb hl
  · exact ⟨hb, hl⟩
theorem flS_row {s : Mo} {c : Int32} : (flS s c).1 = s.1 := by
  unfold flS
  split <;> rfl
theorem mnS_row {s : Mo} : (mnS s).1 = s.1 := by
  unfold mnS
  split
  · exact flS_row
  · rfl
section M8
variable {g : xG} {l : Launch} {h : xH} {m : Nat} {s : Mo}
theorem c_mBegins : xDet g l mX6_begins 0 0 0 [.ref m] (putMod h m s) none (putMod h m (beS s)) := by
  have hS : ∀ i, mR s 0 (va_up (fun q => if q < i then 0 else s.1 0 q) i 0) = mR s 0 (fun q => if q < i + 1 then 0 else s.1 0 q) := fun i => by
    congr 1
    funext q
    unfold va_up
    by_cases e : q = i
    · rw [if_pos e, if_pos (by omega)]
    · rw [if_neg e]
      dsimp only
      by_cases c : q < i
      · rw [if_pos c, if_pos (by omega)]
      · rw [if_neg c, if_neg (by omega)]
  refine xMet.of (V := [some (.ref m), none]) moX6_begins (Nat.le_of_ble_eq_true rfl) rfl ?_
  refine x_iconst (nI 0) dX6_begins_0 (by decide) ?_
  refine x_istore_n dX6_begins_1 (by decide) rfl rfl ?_
  have e0 : s = mR s 0 (fun q => if q < 0 then 0 else s.1 0 q) := by
    have : (fun q => if q < 0 then 0 else s.1 0 q) = s.1 0 := by funext q; rw [if_neg (Nat.not_lt_zero q)]
    rw [this, mR_self]
  refine xP.eq (h' := putMod h m (mR s 0 (fun q => if q < 0 then 0 else s.1 0 q))) rfl rfl rfl (by rw [← e0]) ?_
  refine xP.weak (V' := [some (.ref m), some (.int (nI 0))]) (by simp [xle, xset1, fin3]) ?_
  refine xP.loop (fun i => [some (.ref m), some (.int (nI i))]) (fun i => putMod h m (mR s 0 (fun q => if q < i then 0 else s.1 0 q))) 353 ?_ ?_
  · intro i hi ih
    refine x_iload_n dX6_begins_2 rfl ?_
    refine x_sipush (nI 353) dX6_begins_3 (by decide) ?_
    refine x_icmp_ge_n 22 dX6_begins_6 (by decide) (by omega) (by omega) (fun c0 => ?_) (fun c0 => ?_)
    · omega
    · refine x_aload_n dX6_begins_9 rfl ?_
      refine x_getf dX6_begins_10 f_X6_7 putMod_at.o rfl ?_
      refine x_iload_n dX6_begins_13 rfl ?_
      refine x_iconst (nI 0) dX6_begins_14 (by decide) ?_
      refine xq_X6_a dX6_begins_15 (by omega) ?_
      refine xP.eq (h' := putMod h m (mR s 0 (fun q => if q < i + 1 then 0 else s.1 0 q))) rfl rfl rfl (by rw [← hS i, ← mR_R (s := s) (j := 0) (f := fun q => if q < i then 0 else s.1 0 q)]; rfl) ?_
      refine x_iinc_n (k := 1) dX6_begins_16 rfl (by decide) (by decide) rfl rfl ?_
      refine x_goto 2 dX6_begins_19 (by decide) ?_
      exact xP.weak (by simp [xle, xset1, fin3]) ih
  · refine x_iload_n dX6_begins_2 rfl ?_
    refine x_sipush (nI 353) dX6_begins_3 (by decide) ?_
    refine x_icmp_ge_n 22 dX6_begins_6 (by decide) (by omega) (by omega) (fun c0 => ?_) (fun c0 => ?_)
    · exact x_vret dX6_begins_22 rfl (by decide) (by decide) rfl (rfl)
    · omega
theorem c_mPutsName (hb : bOk s) (hl : lxOk s) {to : Nat} (ht : to + 8 ≤ 353) : xDet g l mX6_putsName 0 0 0 [.ref m, .int (nI to)] (putMod h m s) none (putMod h m (pnS s to)) := by
  obtain ⟨h1, h2, h3, -⟩ := hl
  have hS : ∀ i, mR s 0 (va_up (cpT (s.1 0) (sgW s) to 0 i) (to + i) (sgW s i)) = mR s 0 (cpT (s.1 0) (sgW s) to 0 (i + 1)) := fun i => by
    have := cpT_up (s.1 0) (sgW s) to 0 i
    rw [Nat.zero_add] at this
    rw [this]
  refine xMet.of (V := [some (.ref m), some (.int (nI to)), none]) moX6_putsName (Nat.le_of_ble_eq_true rfl) rfl ?_
  refine x_iconst (nI 0) dX6_putsName_0 (by decide) ?_
  refine x_istore_n dX6_putsName_1 (by decide) rfl rfl ?_
  refine xP.eq (h' := putMod h m (mR s 0 (cpT (s.1 0) (sgW s) to 0 0))) rfl rfl rfl (by rw [cpT_0, mR_self]) ?_
  refine xP.weak (V' := [some (.ref m), some (.int (nI to)), some (.int (nI 0))]) (by simp [xle, xset1, fin3]) ?_
  refine xP.loop (fun i => [some (.ref m), some (.int (nI to)), some (.int (nI i))]) (fun i => putMod h m (mR s 0 (cpT (s.1 0) (sgW s) to 0 i))) 8 ?_ ?_
  · intro i hi ih
    have sto : xP g l mX6_putsName [] (xR 0 0 0) (xZ g (fun r' h' => r' = none ∧ h' = putMod h m (pnS s to)) xno 0 0) 43 [some (.ref m), some (.int (nI to)), some (.int (nI i))] [.int (nI (sgW s i)), .int (nI (to + i)), .ref (m + 1)] (putMod h m (mR s 0 (cpT (s.1 0) (sgW s) to 0 i))) 0 0 := by
      refine xq_X6_a dX6_putsName_43 (by omega) ?_
      refine xP.eq (h' := putMod h m (mR s 0 (cpT (s.1 0) (sgW s) to 0 (i + 1)))) rfl rfl rfl (by rw [← hS i, ← mR_R (s := s) (j := 0) (f := cpT (s.1 0) (sgW s) to 0 i)]; rfl) ?_
      refine x_iinc_n (k := 1) dX6_putsName_44 rfl (by decide) (by decide) rfl rfl ?_
      refine x_goto 2 dX6_putsName_47 (by decide) ?_
      exact xP.weak (by simp [xle, xset1, fin3]) ih
    refine x_iload_n dX6_putsName_2 rfl ?_
    refine x_bipush (nI 8) dX6_putsName_3 (by decide) ?_
    refine x_icmp_ge_n 50 dX6_putsName_5 (by decide) (by omega) (by omega) (fun c0 => ?_) (fun c0 => ?_)
    · omega
    · refine x_aload_n dX6_putsName_8 rfl ?_
      refine x_getf dX6_putsName_9 f_X6_7 putMod_at.o rfl ?_
      refine x_iload_n dX6_putsName_12 rfl ?_
      refine x_iload_n dX6_putsName_13 rfl ?_
      refine x_iadd_n dX6_putsName_14 ?_
      refine x_aload_n dX6_putsName_15 rfl ?_
      refine x_getf dX6_putsName_16 f_X6_85 putMod_at.o rfl ?_
      refine x_iload_n dX6_putsName_19 rfl ?_
      refine x_iadd_n dX6_putsName_20 ?_
      refine x_aload_n dX6_putsName_21 rfl ?_
      refine x_getf dX6_putsName_22 f_X6_82 putMod_at.o rfl ?_
      refine xP.eq (S' := [.int (nI (s.2.1 4)), .int (nI (s.2.1 3 + i)), .int (nI (to + i)), .ref (m + 1)]) rfl rfl rfl rfl ?_
      refine x_icmp_ge_n 42 dX6_putsName_25 (by decide) (by omega) (by omega) (fun c1 => ?_) (fun c1 => ?_)
      · have e : sgW s i = 0 := by unfold sgW; rw [if_neg (by omega)]
        rw [e] at sto
        refine x_iconst (nI 0) dX6_putsName_42 (by decide) ?_
        exact sto
      · have e : sgW s i = s.1 5 (s.2.1 3 + i) := by unfold sgW; rw [if_pos c1]
        rw [e] at sto
        refine x_aload_n dX6_putsName_28 rfl ?_
        refine x_getf dX6_putsName_29 f_X6_29 putMod_at.o rfl ?_
        refine x_aload_n dX6_putsName_32 rfl ?_
        refine x_getf dX6_putsName_33 f_X6_85 putMod_at.o rfl ?_
        refine x_iload_n dX6_putsName_36 rfl ?_
        refine x_iadd_n dX6_putsName_37 ?_
        refine xP.eq (S' := [.int (nI (s.2.1 3 + i)), .ref (m + 7), .int (nI (to + i)), .ref (m + 1)]) rfl rfl rfl rfl ?_
        refine x_iald_n dX6_putsName_38 (putMod_at.buffer) (by omega) (by decide) ?_
        refine x_goto 43 dX6_putsName_39 (by decide) ?_
        exact sto
  · refine x_iload_n dX6_putsName_2 rfl ?_
    refine x_bipush (nI 8) dX6_putsName_3 (by decide) ?_
    refine x_icmp_ge_n 50 dX6_putsName_5 (by decide) (by omega) (by omega) (fun c0 => ?_) (fun c0 => ?_)
    · exact x_vret dX6_putsName_50 rfl (by decide) (by decide) rfl (rfl)
    · omega
end M8
