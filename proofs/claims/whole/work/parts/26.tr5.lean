/-! ===== TextReader: pairs, copies ===== -/
theorem rdFam_ok {b : Nat → Nat} {t : Tr} {st : Ar} (ht : trOk t) (hw : aW st) : trOk (rdFam b t st).2.1 ∧ aW (rdFam b t st).2.2 := by
  have h1 := ndN_ok (b := b) ht
  have h2 := ndD_ok (b := b) (lo := 1) (hi := 20) h1
  unfold rdFam
  split
  · exact ⟨ht, hw⟩
  · split
    · split
      · split
        · rename_i c1 c2 c3 c4
          exact ⟨semS_ok h2.1, addFam_ok hw _ (by omega) (h2.2 c4).2⟩
        · exact ⟨h2.1, hw⟩
      · exact ⟨h1, hw⟩
    · exact ⟨h1, hw⟩
def ndF (b : Nat → Nat) (f : Nat → Int64) (n : Nat) (t : Tr) : Option Nat × Tr :=
  if (ndN b t).1 = true then
    if plF f (ndN b t).2.2.2.2.2 n 0 = none then (none, trFail (ndN b t).2 (-4) (nI (ndN b t).2.2.2.1)) else (plF f (ndN b t).2.2.2.2.2 n 0, (ndN b t).2)
  else (none, (ndN b t).2)
theorem ndF_ok {b : Nat → Nat} {t : Tr} {f : Nat → Int64} {n : Nat} (ht : trOk t) : trOk (ndF b f n t).2 ∧ ∀ i, (ndF b f n t).1 = some i → i < n := by
  have h1 := ndN_ok (b := b) ht
  unfold ndF
  split
  · split
    · exact ⟨h1, fun i q => by cases q⟩
    · exact ⟨h1, fun i q => by have := plF_lt _ _ _ q; omega⟩
  · exact ⟨h1, fun i q => by cases q⟩
def rdN1 (b : Nat → Nat) (t : Tr) (st : Ar) : Bool × Tr × Ar :=
  match (ndF b (st.2.1 0) (st.1 1) t).1 with
  | none => (false, (ndF b (st.2.1 0) (st.1 1) t).2, st)
  | some i => match (ndF b (st.2.1 0) (st.1 1) (ndF b (st.2.1 0) (st.1 1) t).2).1 with
    | none => (false, (ndF b (st.2.1 0) (st.1 1) (ndF b (st.2.1 0) (st.1 1) t).2).2, st)
    | some j => if i = j ∨ (st.2.2 1 i).testBit j = true then (false, trFail (ndF b (st.2.1 0) (st.1 1) (ndF b (st.2.1 0) (st.1 1) t).2).2 (-5) (nI (ndF b (st.2.1 0) (st.1 1) (ndF b (st.2.1 0) (st.1 1) t).2).2.2.2.1), st)
      else ((semS b (ndF b (st.2.1 0) (st.1 1) (ndF b (st.2.1 0) (st.1 1) t).2).2).1, (semS b (ndF b (st.2.1 0) (st.1 1) (ndF b (st.2.1 0) (st.1 1) t).2).2).2, nbS st i j)
theorem rdN1_ok {b : Nat → Nat} {t : Tr} {st : Ar} (ht : trOk t) (hw : aW st) : trOk (rdN1 b t st).2.1 ∧ aW (rdN1 b t st).2.2 := by
  have h1 := ndF_ok (b := b) (f := st.2.1 0) (n := st.1 1) ht
  have h2 := ndF_ok (b := b) (f := st.2.1 0) (n := st.1 1) h1.1
  unfold rdN1
  split
  · exact ⟨h1.1, hw⟩
  · rename_i i e1
    split
    · exact ⟨h2.1, hw⟩
    · rename_i j e2
      split
      · exact ⟨h2.1, hw⟩
      · exact ⟨semS_ok h2.1, nbS_ok hw (h1.2 i e1) (h2.2 j e2)⟩
def rdNs (b : Nat → Nat) : Nat → Tr → Ar → Bool × Tr × Ar
  | 0, t, st => (true, t, st)
  | f + 1, t, st => if (tkW b W2 t).1 = true then
      if (rdN1 b (tkW b W2 t).2 st).1 = true then rdNs b f (rdN1 b (tkW b W2 t).2 st).2.1 (rdN1 b (tkW b W2 t).2 st).2.2 else rdN1 b (tkW b W2 t).2 st
    else (true, (tkW b W2 t).2, st)
section T5
variable {g : xG} {l : Launch} {h : xH} {o r : Nat} {b : Nat → Nat} {t : Tr} {st : Ar}
theorem c_needFamilyName (hw : aW st) (hd : r + 2 ≤ o ∨ o + 12 ≤ r) (hb : ∀ k, b k < 256) (ht : trOk t) : xDet g l mX4_needFamilyName 2 0 0 [.ref r, .ref o] (putTr (putArch h o st) r b t) (some (.int (oI (ndF b (st.2.1 0) (st.1 1) t).1))) (putTr (putArch h o st) r b (ndF b (st.2.1 0) (st.1 1) t).2) := by
  have hA : ∀ t', ArchAt (putTr (putArch h o st) r b t') o st := fun t' => putArch_at.tr hd
  have h1 := ndN_ok (b := b) ht
  have hN : st.1 1 ≤ 10 := hw.1.2.1
  unfold ndF
  refine xMet.of (V := [some (.ref r), some (.ref o), none]) moX4_needFamilyName (Nat.le_of_ble_eq_true rfl) rfl ?_
  refine x_aload_n dX4_needFamilyName_0 rfl ?_
  refine x_vi0 dX4_needFamilyName_1 cV_X4_87 (c_needName hb ht) rfl rfl ⟨⟨by decide, by decide⟩, by decide, by decide⟩ (Nat.le_of_ble_eq_true rfl) (xrecv putTr_at.o rfl xcl3) ?_
  refine x_if_ne_b 9 dX4_needFamilyName_4 (by decide) (fun c1 => ?_) (fun c1 => ?_)
  rotate_left
  · rw [if_neg (by rw [c1]; decide)]
    refine x_iconst (-1) dX4_needFamilyName_7 (by decide) ?_
    exact x_iret .int dX4_needFamilyName_8 rfl rfl (by decide) (by decide) (rfl) (rfl)
  rw [if_pos c1]
  refine x_aload_n dX4_needFamilyName_9 rfl ?_
  refine x_aload_n dX4_needFamilyName_10 rfl ?_
  refine x_getf dX4_needFamilyName_11 f_X4_90 (hA _).o rfl ?_
  refine x_aload_n dX4_needFamilyName_14 rfl ?_
  refine x_getf dX4_needFamilyName_15 f_X4_84 (hA _).o rfl ?_
  refine x_vi0 dX4_needFamilyName_18 cV_X4_94 (c_placeOf (hA _).familyNames (by omega) (by decide)) rfl rfl ⟨⟨by decide, by decide⟩, by decide, by decide⟩ (Nat.le_of_ble_eq_true rfl) (xrecv putTr_at.o rfl xcl3) ?_
  refine x_istore_n dX4_needFamilyName_21 (by decide) rfl rfl ?_
  refine x_iload_n dX4_needFamilyName_22 rfl ?_
  refine x_iconst (-1) dX4_needFamilyName_23 (by decide) ?_
  refine x_icmp_ne 38 dX4_needFamilyName_24 (by decide) (fun c2 => ?_) (fun c2 => ?_)
  · rw [if_neg (fun q => c2 ((oI_none (fun i q => by have := plF_lt _ _ _ q; omega)).mpr q))]
    refine x_iload_n dX4_needFamilyName_38 rfl ?_
    exact x_iret .int dX4_needFamilyName_39 rfl rfl (by decide) (by decide) (rfl) (rfl)
  · have e := (oI_none (fun i q => by have := plF_lt _ _ _ q; omega)).mp (Decidable.byContradiction fun q => q c2)
    rw [if_pos e]
    refine x_aload_n dX4_needFamilyName_27 rfl ?_
    refine x_bipush (-4) dX4_needFamilyName_28 (by decide) ?_
    refine x_aload_n dX4_needFamilyName_30 rfl ?_
    refine x_getf dX4_needFamilyName_31 f_X4_28 putTr_at.o rfl ?_
    refine x_vi0 dX4_needFamilyName_34 cV_X4_78 (c_fail) rfl rfl ⟨⟨by decide, by decide⟩, by decide, by decide⟩ (Nat.le_of_ble_eq_true rfl) (xrecv putTr_at.o rfl xcl3) ?_
    refine x_pop dX4_needFamilyName_37 rfl ?_
    refine x_iload_n dX4_needFamilyName_38 rfl ?_
    exact x_iret .int dX4_needFamilyName_39 rfl rfl (by decide) (by decide) (by rw [e]) (rfl)
theorem c_near1 (hw : aW st) (hd : r + 2 ≤ o ∨ o + 12 ≤ r) (hb : ∀ k, b k < 256) (ht : trOk t) {Z : List Frame → Array Value → State → State → Prop} {n : Nat}
    (kT : (rdN1 b t st).1 = true → xP g l mX4_readNeighbours [] (xR 5 0 0) Z 91 [some (.ref r), some (.ref o), some (.int (nI n)), none, none] [] (putTr (putArch h o (rdN1 b t st).2.2) r b (rdN1 b t st).2.1) 0 0)
    (kF : (rdN1 b t st).1 = false → ∀ V, xP g l mX4_readNeighbours [] (xR 5 0 0) Z 47 V [.int (nI 0)] (putTr (putArch h o (rdN1 b t st).2.2) r b (rdN1 b t st).2.1) 0 0)
    (kG : (rdN1 b t st).1 = false → ∀ V, xP g l mX4_readNeighbours [] (xR 5 0 0) Z 74 V [.int (xb false)] (putTr (putArch h o (rdN1 b t st).2.2) r b (rdN1 b t st).2.1) 0 0)
    (kH : (rdN1 b t st).1 = false → ∀ V, xP g l mX4_readNeighbours [] (xR 5 0 0) Z 90 V [.int (nI 0)] (putTr (putArch h o (rdN1 b t st).2.2) r b (rdN1 b t st).2.1) 0 0) :
    xP g l mX4_readNeighbours [] (xR 5 0 0) Z 18 [some (.ref r), some (.ref o), some (.int (nI n)), none, none] [] (putTr (putArch h o st) r b t) 0 0 := by
  have hA : ∀ t', ArchAt (putTr (putArch h o st) r b t') o st := fun t' => putArch_at.tr hd
  have h1 := ndF_ok (b := b) (f := st.2.1 0) (n := st.1 1) ht
  have h2 := ndF_ok (b := b) (f := st.2.1 0) (n := st.1 1) h1.1
  have hN : st.1 1 ≤ 10 := hw.1.2.1
  have c1 : ∀ {h : xH}, xDet g l mX4_needFamilyName 2 0 0 [.ref r, .ref o] (putTr (putArch h o st) r b t) (some (.int (oI (ndF b (st.2.1 0) (st.1 1) t).1))) (putTr (putArch h o st) r b (ndF b (st.2.1 0) (st.1 1) t).2) := fun {h} => c_needFamilyName hw hd hb ht
  have c2 : ∀ {h : xH}, xDet g l mX4_needFamilyName 2 0 0 [.ref r, .ref o] (putTr (putArch h o st) r b (ndF b (st.2.1 0) (st.1 1) t).2) (some (.int (oI (ndF b (st.2.1 0) (st.1 1) (ndF b (st.2.1 0) (st.1 1) t).2).1))) (putTr (putArch h o st) r b (ndF b (st.2.1 0) (st.1 1) (ndF b (st.2.1 0) (st.1 1) t).2).2) := fun {h} => c_needFamilyName hw hd hb h1.1
  unfold rdN1 at kT kF kG kH
  cases hx : (ndF b (st.2.1 0) (st.1 1) t).1 with
  | none =>
    simp only [hx] at c1 kT kF kG kH
    refine x_aload_n dX4_readNeighbours_18 rfl ?_
    refine x_aload_n dX4_readNeighbours_19 rfl ?_
    refine x_vi0 dX4_readNeighbours_20 cV_X4_104 (c1) rfl rfl ⟨⟨by decide, by decide⟩, by decide, by decide⟩ (Nat.le_of_ble_eq_true rfl) (xrecv putTr_at.o rfl xcl3) ?_
    refine x_istore_n dX4_readNeighbours_23 (by decide) rfl rfl ?_
    refine x_iload_n dX4_readNeighbours_24 rfl ?_
    refine x_iconst (-1) dX4_readNeighbours_25 (by decide) ?_
    refine x_icmp_ne 33 dX4_readNeighbours_26 (by decide) (fun c3 => ?_) (fun c3 => ?_)
    · exact absurd rfl c3
    · refine x_iconst (-1) dX4_readNeighbours_29 (by decide) ?_
      refine x_goto 38 dX4_readNeighbours_30 (by decide) ?_
      refine x_istore dX4_readNeighbours_38 (by decide) rfl rfl ?_
      refine x_iload dX4_readNeighbours_40 rfl ?_
      refine x_iconst (-1) dX4_readNeighbours_42 (by decide) ?_
      refine x_icmp_ne 48 dX4_readNeighbours_43 (by decide) (fun c4 => ?_) (fun c4 => ?_)
      · exact absurd rfl c4
      · refine x_iconst (nI 0) dX4_readNeighbours_46 (by decide) ?_
        exact kF trivial _
  | some i =>
    have hi := h1.2 i hx
    simp only [hx] at c1 kT kF kG kH
    cases hy : (ndF b (st.2.1 0) (st.1 1) (ndF b (st.2.1 0) (st.1 1) t).2).1 with
    | none =>
      simp only [hy] at c2 kT kF kG kH
      refine x_aload_n dX4_readNeighbours_18 rfl ?_
      refine x_aload_n dX4_readNeighbours_19 rfl ?_
      refine x_vi0 dX4_readNeighbours_20 cV_X4_104 (c1) rfl rfl ⟨⟨by decide, by decide⟩, by decide, by decide⟩ (Nat.le_of_ble_eq_true rfl) (xrecv putTr_at.o rfl xcl3) ?_
      refine x_istore_n dX4_readNeighbours_23 (by decide) rfl rfl ?_
      refine x_iload_n dX4_readNeighbours_24 rfl ?_
      refine x_iconst (-1) dX4_readNeighbours_25 (by decide) ?_
      refine x_icmp_ne 33 dX4_readNeighbours_26 (by decide) (fun c3 => ?_) (fun c3 => ?_)
      · refine x_aload_n dX4_readNeighbours_33 rfl ?_
        refine x_aload_n dX4_readNeighbours_34 rfl ?_
        refine x_vi0 dX4_readNeighbours_35 cV_X4_104 (c2) rfl rfl ⟨⟨by decide, by decide⟩, by decide, by decide⟩ (Nat.le_of_ble_eq_true rfl) (xrecv putTr_at.o rfl xcl3) ?_
        refine x_istore dX4_readNeighbours_38 (by decide) rfl rfl ?_
        refine x_iload dX4_readNeighbours_40 rfl ?_
        refine x_iconst (-1) dX4_readNeighbours_42 (by decide) ?_
        refine x_icmp_ne 48 dX4_readNeighbours_43 (by decide) (fun c4 => ?_) (fun c4 => ?_)
        · exact absurd rfl c4
        · refine x_iconst (nI 0) dX4_readNeighbours_46 (by decide) ?_
          exact kF trivial _
      · exact absurd c3 (by intro q; exact absurd ((oI_none (x := some i) (fun k q => by cases q; omega)).mp q) (by intro q9; cases q9))
    | some j =>
      have hj := h2.2 j hy
      simp only [hy] at c2 kT kF kG kH
      refine x_aload_n dX4_readNeighbours_18 rfl ?_
      refine x_aload_n dX4_readNeighbours_19 rfl ?_
      refine x_vi0 dX4_readNeighbours_20 cV_X4_104 (c1) rfl rfl ⟨⟨by decide, by decide⟩, by decide, by decide⟩ (Nat.le_of_ble_eq_true rfl) (xrecv putTr_at.o rfl xcl3) ?_
      refine x_istore_n dX4_readNeighbours_23 (by decide) rfl rfl ?_
      refine x_iload_n dX4_readNeighbours_24 rfl ?_
      refine x_iconst (-1) dX4_readNeighbours_25 (by decide) ?_
      refine x_icmp_ne 33 dX4_readNeighbours_26 (by decide) (fun c3 => ?_) (fun c3 => ?_)
      rotate_left
      · exact absurd c3 (by intro q; exact absurd ((oI_none (x := some i) (fun k q => by cases q; omega)).mp q) (by intro q9; cases q9))
      refine x_aload_n dX4_readNeighbours_33 rfl ?_
      refine x_aload_n dX4_readNeighbours_34 rfl ?_
      refine x_vi0 dX4_readNeighbours_35 cV_X4_104 (c2) rfl rfl ⟨⟨by decide, by decide⟩, by decide, by decide⟩ (Nat.le_of_ble_eq_true rfl) (xrecv putTr_at.o rfl xcl3) ?_
      refine x_istore dX4_readNeighbours_38 (by decide) rfl rfl ?_
      refine x_iload dX4_readNeighbours_40 rfl ?_
      refine x_iconst (-1) dX4_readNeighbours_42 (by decide) ?_
      refine x_icmp_ne 48 dX4_readNeighbours_43 (by decide) (fun c4 => ?_) (fun c4 => ?_)
      rotate_left
      · exact absurd c4 (by intro q; exact absurd ((oI_none (x := some j) (fun k q => by cases q; omega)).mp q) (by intro q9; cases q9))
      refine xP.weak (V' := [some (.ref r), some (.ref o), some (.int (nI n)), some (.int (nI i)), some (.int (nI j))]) (by simp [xle, xset1, fin3, oI]) ?_
      refine x_iload_n dX4_readNeighbours_48 rfl ?_
      refine x_iload dX4_readNeighbours_49 rfl ?_
      refine x_icmp_eq_n 64 dX4_readNeighbours_51 (by decide) (by omega) (by omega) (fun c5 => ?_) (fun c5 => ?_)
      · rw [if_pos (Or.inl c5)] at kG
        refine x_aload_n dX4_readNeighbours_64 rfl ?_
        refine x_bipush (-5) dX4_readNeighbours_65 (by decide) ?_
        refine x_aload_n dX4_readNeighbours_67 rfl ?_
        refine x_getf dX4_readNeighbours_68 f_X4_28 putTr_at.o rfl ?_
        refine x_vi0 dX4_readNeighbours_71 cV_X4_78 (c_fail) rfl rfl ⟨⟨by decide, by decide⟩, by decide, by decide⟩ (Nat.le_of_ble_eq_true rfl) (xrecv putTr_at.o rfl xcl3) ?_
        exact kG rfl _
      · refine x_aload_n dX4_readNeighbours_54 rfl ?_
        refine x_iload_n dX4_readNeighbours_55 rfl ?_
        refine x_iload dX4_readNeighbours_56 rfl ?_
        refine x_vi0 dX4_readNeighbours_58 cV_X4_108 (c_areNeighbours (hA _) hw.1 (show i < 10 by omega) (show j < 32 by omega)) rfl rfl ⟨⟨by decide, by decide⟩, by decide, by decide⟩ (Nat.le_of_ble_eq_true rfl) (xrecv (hA _).o rfl xcl0) ?_
        refine x_if_eq_b 75 dX4_readNeighbours_61 (by decide) (fun c6 => ?_) (fun c6 => ?_)
        · rw [if_neg (by rw [c6]; simp [c5])] at kT kF kG kH
          refine x_aload_n dX4_readNeighbours_75 rfl ?_
          refine x_iload_n dX4_readNeighbours_76 rfl ?_
          refine x_iload dX4_readNeighbours_77 rfl ?_
          refine x_vv0 dX4_readNeighbours_79 cV_X4_111 (arT hd (fun H => c_makeNeighbours (show i < 10 by omega) (show j < 10 by omega))) rfl rfl ⟨⟨by decide, by decide⟩, by decide, by decide⟩ (Nat.le_of_ble_eq_true rfl) (xrecv (hA _).o rfl xcl0) ?_
          refine x_aload_n dX4_readNeighbours_82 rfl ?_
          refine x_vi0 dX4_readNeighbours_83 cV_X4_67 (c_needSemicolon hb h2.1) rfl rfl ⟨⟨by decide, by decide⟩, by decide, by decide⟩ (Nat.le_of_ble_eq_true rfl) (xrecv putTr_at.o rfl xcl3) ?_
          refine x_if_ne_b 91 dX4_readNeighbours_86 (by decide) (fun c7 => ?_) (fun c7 => ?_)
          · exact xP.weak (by simp [xle, xset1, fin3]) (kT c7)
          · refine x_iconst (nI 0) dX4_readNeighbours_89 (by decide) ?_
            exact kH c7 _
        · rw [if_pos (Or.inr c6)] at kG
          refine x_aload_n dX4_readNeighbours_64 rfl ?_
          refine x_bipush (-5) dX4_readNeighbours_65 (by decide) ?_
          refine x_aload_n dX4_readNeighbours_67 rfl ?_
          refine x_getf dX4_readNeighbours_68 f_X4_28 putTr_at.o rfl ?_
          refine x_vi0 dX4_readNeighbours_71 cV_X4_78 (c_fail) rfl rfl ⟨⟨by decide, by decide⟩, by decide, by decide⟩ (Nat.le_of_ble_eq_true rfl) (xrecv putTr_at.o rfl xcl3) ?_
          exact kG rfl _
end T5
