/-! ===== the model: a question ===== -/
def rgt (A : Nat → Nat) (p f t : Nat) : Bool := !(rC A p f).testBit t
def ak1 (A : Nat → Nat) (f i : Nat) : Nat → Nat := va_up A (5 + 12 * f + i) (rF A f i + 1)
def ak2 (A : Nat → Nat) : Nat → Nat := va_up A 4 (A 4 + 1)
def ak3 (A : Nat → Nat) (p f : Nat) : Nat → Nat := va_up A (125 + 19 * p + 9 + f) (rC A p f ||| 131072)
def akA (A : Nat → Nat) (p f t : Nat) : Nat → Nat := if rgt A p f t = true then ak2 (ak1 A f 1) else ak3 (ak2 (ak1 A f 2)) p f
section M14
variable {g : xG} {l : Launch} {h : xH} {m : Nat} {s : Mo}
theorem c_mAsks (hw : rOk (s.1 0)) {p f t : Nat} (hp : p < 12) (hf : f < 10) (ht : t < 16) : xDet g l mX6_asks 1 0 0 [.ref m, .int (nI p), .int (nI f), .int (nI t)] (putMod h m s) (some (.int (xb (rgt (s.1 0) p f t)))) (putMod h m (mR s 0 (akA (s.1 0) p f t))) := by
  have hc := hw.2.2.2.1 p f hp hf
  have hb := bit_lt (rC (s.1 0) p f) t
  have e1 : ∀ i, mR s 0 (va_up (s.1 0) (5 + 12 * f + i) (rF (s.1 0) f i + 1)) = mR s 0 (ak1 (s.1 0) f i) := fun _ => rfl
  have mid : ∀ (r : Bool) (i : Nat) (A : Nat → Nat), i < 12 → A = ak2 (ak1 (s.1 0) f i) → xP g l mX6_asks [] (xR 1 0 0) (xZ g (fun r' h' => r' = some (.int (xb r)) ∧ h' = putMod h m (mR s 0 (if r = true then A else ak3 A p f))) xno 0 0) 32 [some (.ref m), some (.int (nI p)), some (.int (nI f)), some (.int (nI t)), some (.int (xb r)), some (.int (nI i))] [] (putMod h m s) 0 0 := by
    intro r i A hi hA
    refine x_aload_n dX6_asks_32 rfl ?_
    refine x_iload_n dX6_asks_33 rfl ?_
    refine x_iload dX6_asks_34 rfl ?_
    refine x_aload_n dX6_asks_36 rfl ?_
    refine x_iload_n dX6_asks_37 rfl ?_
    refine x_iload dX6_asks_38 rfl ?_
    refine x_vi0 dX6_asks_40 cV_X6_206 (c_mOfFamily putMod_at hf hi) rfl rfl ⟨⟨by decide, by decide⟩, by decide, by decide⟩ (Nat.le_of_ble_eq_true rfl) (xrecv putMod_at.o rfl xcl5) ?_
    refine x_iconst (nI 1) dX6_asks_43 (by decide) ?_
    refine x_iadd_n dX6_asks_44 ?_
    refine x_vv0 dX6_asks_45 cV_X6_45 (c_mSetsOf hf hi) rfl rfl ⟨⟨by decide, by decide⟩, by decide, by decide⟩ (Nat.le_of_ble_eq_true rfl) (xrecv putMod_at.o rfl xcl5) ?_
    rw [e1]
    refine x_aload_n dX6_asks_48 rfl ?_
    refine x_getf dX6_asks_49 f_X6_7 putMod_at.o rfl ?_
    refine x_iconst (nI 4) dX6_asks_52 (by decide) ?_
    refine x_dup2 dX6_asks_53 rfl rfl ?_
    refine x_iald_n dX6_asks_54 putMod_at.a (by omega) (by decide) ?_
    refine x_iconst (nI 1) dX6_asks_55 (by decide) ?_
    refine x_iadd_n dX6_asks_56 ?_
    refine xq_X6_a dX6_asks_57 (by decide) ?_
    refine xP.eq (h' := putMod h m (mR s 0 A)) rfl rfl rfl (by rw [hA, ← mR_R (s := s) (j := 0) (f := ak1 (s.1 0) f i)]; rfl) ?_
    refine x_iload dX6_asks_58 rfl ?_
    refine x_if_ne_b 78 dX6_asks_60 (by decide) (fun c1 => ?_) (fun c1 => ?_)
    · rw [c1, if_pos rfl]
      refine x_iload dX6_asks_78 rfl ?_
      exact x_bret dX6_asks_80 rfl (by decide) (by decide) (rfl) (rfl)
    · rw [c1, if_neg (by decide)]
      refine x_aload_n dX6_asks_63 rfl ?_
      refine x_iload_n dX6_asks_64 rfl ?_
      refine x_iload_n dX6_asks_65 rfl ?_
      refine x_aload_n dX6_asks_66 rfl ?_
      refine x_iload_n dX6_asks_67 rfl ?_
      refine x_iload_n dX6_asks_68 rfl ?_
      refine x_vi0 dX6_asks_69 cV_X6_182 (c_mCopyOf putMod_at hp hf) rfl rfl ⟨⟨by decide, by decide⟩, by decide, by decide⟩ (Nat.le_of_ble_eq_true rfl) (xrecv putMod_at.o rfl xcl5) ?_
      refine x_ldc (v := nI 131072) dX6_asks_72 k_X6_210 ?_
      refine x_ior_n dX6_asks_74 ?_
      refine x_vv0 dX6_asks_75 cV_X6_172 (c_mSetsCopy hp hf) rfl rfl ⟨⟨by decide, by decide⟩, by decide, by decide⟩ (Nat.le_of_ble_eq_true rfl) (xrecv putMod_at.o rfl xcl5) ?_
      rw [mR_R]
      refine x_iload dX6_asks_78 rfl ?_
      exact x_bret dX6_asks_80 rfl (by decide) (by decide) (rfl) (rfl)
  unfold akA
  refine xMet.of (V := [some (.ref m), some (.int (nI p)), some (.int (nI f)), some (.int (nI t)), none, none]) moX6_asks (Nat.le_of_ble_eq_true rfl) rfl ?_
  refine x_aload_n dX6_asks_0 rfl ?_
  refine x_iload_n dX6_asks_1 rfl ?_
  refine x_iload_n dX6_asks_2 rfl ?_
  refine x_vi0 dX6_asks_3 cV_X6_182 (c_mCopyOf putMod_at hp hf) rfl rfl ⟨⟨by decide, by decide⟩, by decide, by decide⟩ (Nat.le_of_ble_eq_true rfl) (xrecv putMod_at.o rfl xcl5) ?_
  refine x_iload_n dX6_asks_6 rfl ?_
  refine x_ishr_n dX6_asks_7 (by omega) (by omega) ?_
  refine x_iconst (nI 1) dX6_asks_8 (by decide) ?_
  refine x_iand_n dX6_asks_9 ?_
  refine x_if_ne_n 17 dX6_asks_10 (by decide) (by omega) (fun c1 => ?_) (fun c1 => ?_)
  · have e : rgt (s.1 0) p f t = false := by unfold rgt; rw [bit1 c1]; rfl
    rw [e]
    have k := mid false 2 (ak2 (ak1 (s.1 0) f 2)) (by decide) rfl
    rw [if_neg (by decide)] at k ⊢
    refine x_iconst (nI 0) dX6_asks_17 (by decide) ?_
    refine x_istore dX6_asks_18 (by decide) rfl rfl ?_
    refine x_iload dX6_asks_20 rfl ?_
    refine x_if_eq_n 29 dX6_asks_22 (by decide) (by omega) (fun c2 => ?_) (fun c2 => ?_)
    · refine x_iconst (nI 2) dX6_asks_29 (by decide) ?_
      refine x_istore dX6_asks_30 (by decide) rfl rfl ?_
      exact xP.weak (by simp [xle, xset1, fin3]; first | rfl | exact ⟨rfl, rfl⟩) k
    · omega
  · have e : rgt (s.1 0) p f t = true := by unfold rgt; rw [bit0 c1]; rfl
    rw [e]
    have k := mid true 1 (ak2 (ak1 (s.1 0) f 1)) (by decide) rfl
    rw [if_pos rfl] at k ⊢
    refine x_iconst (nI 1) dX6_asks_13 (by decide) ?_
    refine x_goto 18 dX6_asks_14 (by decide) ?_
    refine x_istore dX6_asks_18 (by decide) rfl rfl ?_
    refine x_iload dX6_asks_20 rfl ?_
    refine x_if_eq_n 29 dX6_asks_22 (by decide) (by omega) (fun c2 => ?_) (fun c2 => ?_)
    · omega
    · refine x_iconst (nI 1) dX6_asks_25 (by decide) ?_
      refine x_goto 30 dX6_asks_26 (by decide) ?_
      refine x_istore dX6_asks_30 (by decide) rfl rfl ?_
      exact xP.weak (by simp [xle, xset1, fin3]; first | rfl | exact ⟨rfl, rfl⟩) k
end M14
