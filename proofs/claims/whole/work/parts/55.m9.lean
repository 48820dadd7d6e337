/-! ===== the model: the family that stands here; pairs ===== -/
def jn1 (s : Mo) (a b : Nat) : Mo := mR s 0 (va_up (s.1 0) (5 + 12 * a + 3) (rF (s.1 0) a 3 ||| 2 ^ b))
def jnS (s : Mo) (a b : Nat) : Mo := jn1 (jn1 s a b) b a
theorem nmO_lt {s : Mo} {fr sz : Nat} : ∀ n i j, nmO s fr sz n i = some j → j < i + n := by
  intro n
  induction n with
  | zero => intro i j h; cases h
  | succ n ih =>
    intro i j h
    rw [nmO] at h
    split at h
    · cases h; omega
    · have := ih _ _ h; omega
theorem namedV_lt {s : Mo} {fr many sz j : Nat} (h : namedV s fr many sz = some j) : j < many := by
  unfold namedV at h
  split at h
  · have := nmO_lt _ _ _ h; omega
  · cases h
section M9
variable {g : xG} {l : Launch} {h : xH} {m : Nat} {s : Mo}
theorem c_mFamilyHere (hw : ∀ k, k < 353 → s.1 0 k < 2 ^ 24) (hN : s.1 0 1 ≤ 10) (hb : bOk s) (hl : lxOk s) : xDet g l mX6_familyHere 2 0 0 [.ref m] (putMod h m s) (some (.int (oI (fhV s)))) (putMod h m (fhS s)) := by
  have h1 := mnS_ok hb hl
  have e1 : (mnS s).1 = s.1 := mnS_row
  have cn : ∀ {h : xH}, xDet g l mX6_named 0 0 0 [.ref m, .int (nI 9), .int (nI (s.1 0 1)), .int (nI 12)] (putMod h m (mnS s)) (some (.int (oI (fhV s)))) (putMod h m (mnS s)) := fun {h} => c_mNamed putMod_at (by rw [e1]; exact hw) h1.1 h1.2 (by omega) (by decide) (by decide) (fun i hi => by omega)
  have cf : ∀ {h : xH}, xDet g l mX6_families 0 0 0 [.ref m] (putMod h m (mnS s)) (some (.int (nI (s.1 0 1)))) (putMod h m (mnS s)) := fun {h} => by
    have := c_mFamilies (g := g) (l := l) (putMod_at (h := h) (m := m) (s := mnS s))
    rw [e1] at this
    exact this
  have hlt : ∀ i, fhV s = some i → i < 100 := fun i q => by have := namedV_lt q; omega
  have ho := oI_none hlt
  have en : fhS s = if fhV s = none then flS (mnS s) (-4) else mnS s := rfl
  rw [en]
  refine xMet.of (V := [some (.ref m), none]) moX6_familyHere (Nat.le_of_ble_eq_true rfl) rfl ?_
  refine x_aload_n dX6_familyHere_0 rfl ?_
  refine x_vv0 dX6_familyHere_1 cV_X6_136 (c_mMustName hl) rfl rfl ⟨⟨by decide, by decide⟩, by decide, by decide⟩ (Nat.le_of_ble_eq_true rfl) (xrecv putMod_at.o rfl xcl5) ?_
  refine x_aload_n dX6_familyHere_4 rfl ?_
  refine x_bipush (nI 9) dX6_familyHere_5 (by decide) ?_
  refine x_aload_n dX6_familyHere_7 rfl ?_
  refine x_vi0 dX6_familyHere_8 cV_X6_67 (cf) rfl rfl ⟨⟨by decide, by decide⟩, by decide, by decide⟩ (Nat.le_of_ble_eq_true rfl) (xrecv putMod_at.o rfl xcl5) ?_
  refine x_bipush (nI 12) dX6_familyHere_11 (by decide) ?_
  refine x_vi0 dX6_familyHere_13 cV_X6_139 (cn) rfl rfl ⟨⟨by decide, by decide⟩, by decide, by decide⟩ (Nat.le_of_ble_eq_true rfl) (xrecv putMod_at.o rfl xcl5) ?_
  refine x_istore_n dX6_familyHere_16 (by decide) rfl rfl ?_
  refine x_iload_n dX6_familyHere_17 rfl ?_
  refine x_iconst (-1) dX6_familyHere_18 (by decide) ?_
  refine x_icmp_ne 28 dX6_familyHere_19 (by decide) (fun c1 => ?_) (fun c1 => ?_)
  · rw [if_neg (fun q => c1 (ho.mpr q))]
    refine x_iload_n dX6_familyHere_28 rfl ?_
    exact x_iret .int dX6_familyHere_29 rfl rfl (by decide) (by decide) (rfl) (rfl)
  · rw [if_pos (ho.mp (Decidable.byContradiction fun q => q c1))]
    refine x_aload_n dX6_familyHere_22 rfl ?_
    refine x_bipush (-4) dX6_familyHere_23 (by decide) ?_
    refine x_vv0 dX6_familyHere_25 cV_X6_122 (c_mFails) rfl rfl ⟨⟨by decide, by decide⟩, by decide, by decide⟩ (Nat.le_of_ble_eq_true rfl) (xrecv putMod_at.o rfl xcl5) ?_
    refine x_iload_n dX6_familyHere_28 rfl ?_
    exact x_iret .int dX6_familyHere_29 rfl rfl (by decide) (by decide) (rfl) (rfl)
theorem c_mJoinsNear (hw : rOk (s.1 0)) {a b : Nat} (ha : a < 10) (hb : b < 10) : xDet g l mX6_joinsNear 1 0 0 [.ref m, .int (nI a), .int (nI b)] (putMod h m s) none (putMod h m (jnS s a b)) := by
  have e1 : ∀ s' : Mo, mR s' 0 (va_up (s'.1 0) (5 + 12 * a + 3) (rF (s'.1 0) a 3 ||| 2 ^ b)) = jn1 s' a b := fun _ => rfl
  refine xMet.of (V := [some (.ref m), some (.int (nI a)), some (.int (nI b))]) moX6_joinsNear (Nat.le_of_ble_eq_true rfl) rfl ?_
  refine x_aload_n dX6_joinsNear_0 rfl ?_
  refine x_iload_n dX6_joinsNear_1 rfl ?_
  refine x_iconst (nI 3) dX6_joinsNear_2 (by decide) ?_
  refine x_aload_n dX6_joinsNear_3 rfl ?_
  refine x_iload_n dX6_joinsNear_4 rfl ?_
  refine x_iconst (nI 3) dX6_joinsNear_5 (by decide) ?_
  refine x_vi0 dX6_joinsNear_6 cV_X6_206 (c_mOfFamily putMod_at ha (show 3 < 12 by decide)) rfl rfl ⟨⟨by decide, by decide⟩, by decide, by decide⟩ (Nat.le_of_ble_eq_true rfl) (xrecv putMod_at.o rfl xcl5) ?_
  refine x_iconst (nI 1) dX6_joinsNear_9 (by decide) ?_
  refine x_iload_n dX6_joinsNear_10 rfl ?_
  refine x_ishl1_n dX6_joinsNear_11 (by omega) ?_
  refine x_ior_n dX6_joinsNear_12 ?_
  refine x_vv0 dX6_joinsNear_13 cV_X6_45 (c_mSetsOf ha (show 3 < 12 by decide)) rfl rfl ⟨⟨by decide, by decide⟩, by decide, by decide⟩ (Nat.le_of_ble_eq_true rfl) (xrecv putMod_at.o rfl xcl5) ?_
  refine xP.eq (h' := putMod h m (jn1 s a b)) rfl rfl rfl rfl ?_
  refine x_aload_n dX6_joinsNear_16 rfl ?_
  refine x_iload_n dX6_joinsNear_17 rfl ?_
  refine x_iconst (nI 3) dX6_joinsNear_18 (by decide) ?_
  refine x_aload_n dX6_joinsNear_19 rfl ?_
  refine x_iload_n dX6_joinsNear_20 rfl ?_
  refine x_iconst (nI 3) dX6_joinsNear_21 (by decide) ?_
  refine x_vi0 dX6_joinsNear_22 cV_X6_206 (c_mOfFamily putMod_at hb (show 3 < 12 by decide)) rfl rfl ⟨⟨by decide, by decide⟩, by decide, by decide⟩ (Nat.le_of_ble_eq_true rfl) (xrecv putMod_at.o rfl xcl5) ?_
  refine x_iconst (nI 1) dX6_joinsNear_25 (by decide) ?_
  refine x_iload_n dX6_joinsNear_26 rfl ?_
  refine x_ishl1_n dX6_joinsNear_27 (by omega) ?_
  refine x_ior_n dX6_joinsNear_28 ?_
  refine x_vv0 dX6_joinsNear_29 cV_X6_45 (c_mSetsOf hb (show 3 < 12 by decide)) rfl rfl ⟨⟨by decide, by decide⟩, by decide, by decide⟩ (Nat.le_of_ble_eq_true rfl) (xrecv putMod_at.o rfl xcl5) ?_
  exact x_vret dX6_joinsNear_32 rfl (by decide) (by decide) rfl (rfl)
end M9
