/-! ===== TextReader: pictures, the whole text ===== -/
def rdCp (b : Nat → Nat) (p : Nat) (t : Tr) (st : Ar) : Bool × Tr × Ar :=
  match (ndF b (st.2.1 0) (st.1 1) t).1 with
  | none => (false, (ndF b (st.2.1 0) (st.1 1) t).2, st)
  | some f =>
    if hasB st p f = true then (false, trFail (ndF b (st.2.1 0) (st.1 1) t).2 (-5) (nI (ndF b (st.2.1 0) (st.1 1) t).2.2.2.1), st)
    else if leftV st f = 0 then (false, trFail (ndF b (st.2.1 0) (st.1 1) t).2 (-6) (nI (ndF b (st.2.1 0) (st.1 1) t).2.2.2.1), st)
    else if (tkW b W6 (ndF b (st.2.1 0) (st.1 1) t).2).1 = true then
      match (ndTl b (st.1 0) (st.1 0 + 1) 0 0 (tkW b W6 (ndF b (st.2.1 0) (st.1 1) t).2).2).1 with
      | none => (false, (ndTl b (st.1 0) (st.1 0 + 1) 0 0 (tkW b W6 (ndF b (st.2.1 0) (st.1 1) t).2).2).2, st)
      | some s => (true, (ndTl b (st.1 0) (st.1 0 + 1) 0 0 (tkW b W6 (ndF b (st.2.1 0) (st.1 1) t).2).2).2, addCopyS st p f s)
    else (true, (tkW b W6 (ndF b (st.2.1 0) (st.1 1) t).2).2, addCopyS st p f 0)
theorem rdCp_ok {b : Nat → Nat} {t : Tr} {st : Ar} {p : Nat} (hp : p < st.1 2) (ht : trOk t) (hw : aW st) : trOk (rdCp b p t st).2.1 ∧ aW (rdCp b p t st).2.2 ∧ (rdCp b p t st).2.2.1 2 = st.1 2 := by
  have h1 := ndF_ok (b := b) (f := st.2.1 0) (n := st.1 1) ht
  have h2 := (tkW_ok (b := b) (W := W6) h1.1).1
  have h3 := ndTl_ok (b := b) (T := st.1 0) (by have : 4 ≤ st.1 0 := hw.1.1.1; omega) (st.1 0 + 1) 0 0 _ (Nat.two_pow_pos _) h2
  unfold rdCp
  split
  · exact ⟨h1.1, hw, rfl⟩
  · rename_i f e1
    split
    · exact ⟨h1.1, hw, rfl⟩
    · split
      · exact ⟨h1.1, hw, rfl⟩
      · rename_i c1 c2
        have hl : st.2.2 4 f < st.2.2 0 f := by unfold leftV at c2; omega
        split
        · split
          · exact ⟨h3.1, hw, rfl⟩
          · rename_i s e2
            exact ⟨h3.1, addCopy_ok hw hp (h1.2 f e1) (h3.2 s e2) hl, rfl⟩
        · exact ⟨h2, addCopy_ok hw hp (h1.2 f e1) (Nat.two_pow_pos _) hl, rfl⟩
def rdBy (b : Nat → Nat) (p : Nat) : Nat → Tr → Ar → Bool × Tr × Ar
  | 0, t, st => (true, t, st)
  | f + 1, t, st => if (tkW b W5 t).1 = true then
      if (rdCp b p (tkW b W5 t).2 st).1 = true then rdBy b p f (rdCp b p (tkW b W5 t).2 st).2.1 (rdCp b p (tkW b W5 t).2 st).2.2 else rdCp b p (tkW b W5 t).2 st
    else (true, (tkW b W5 t).2, st)
theorem rdBy_ok {b : Nat → Nat} {p : Nat} : ∀ f {t : Tr} {st : Ar}, p < st.1 2 → trOk t → aW st → trOk (rdBy b p f t st).2.1 ∧ aW (rdBy b p f t st).2.2 := by
  intro f
  induction f with
  | zero => intro t st hp ht hw; exact ⟨ht, hw⟩
  | succ f ih =>
    intro t st hp ht hw
    have h1 := (tkW_ok (b := b) (W := W5) ht).1
    have h2 := rdCp_ok (b := b) hp h1 hw
    rw [rdBy]
    split
    · split
      · exact ih (by rw [h2.2.2]; exact hp) h2.1 h2.2.1
      · exact ⟨h2.1, h2.2.1⟩
    · exact ⟨h1, hw⟩
/-- the copies behind a picture's pledge, and the semicolon -/
def byS (b : Nat → Nat) (p m : Nat) (t : Tr) (st : Ar) : Bool × Tr × Ar :=
  if (rdBy b p m t st).1 = true then ((semS b (rdBy b p m t st).2.1).1, (semS b (rdBy b p m t st).2.1).2, (rdBy b p m t st).2.2) else rdBy b p m t st
theorem byS_ok {b : Nat → Nat} {p m : Nat} {t : Tr} {st : Ar} (hp : p < st.1 2) (ht : trOk t) (hw : aW st) : trOk (byS b p m t st).2.1 ∧ aW (byS b p m t st).2.2 := by
  have h4 := rdBy_ok (b := b) m hp ht hw
  unfold byS
  split
  · exact ⟨semS_ok h4.1, h4.2⟩
  · exact h4
def rdPic (b : Nat → Nat) (m : Nat) (t : Tr) (st : Ar) : Bool × Tr × Ar :=
  if 12 ≤ st.1 2 then (false, trFail t (-7) (nI t.2.2.1), st)
  else if (ndN b t).1 = true then
    if plF (st.2.1 1) (ndN b t).2.2.2.2.2 (st.1 2) 0 = none then
      if (ndW b W4 (ndN b t).2).1 = true then
        if (ndD b 1 10 (ndW b W4 (ndN b t).2).2).1 = true then
          byS b (st.1 2) m (ndD b 1 10 (ndW b W4 (ndN b t).2).2).2 (addPicS st (lN (ndN b t).2.2.2.2.2) (ndD b 1 10 (ndW b W4 (ndN b t).2).2).2.2.2.2.1)
        else (false, (ndD b 1 10 (ndW b W4 (ndN b t).2).2).2, st)
      else (false, (ndW b W4 (ndN b t).2).2, st)
    else (false, trFail (ndN b t).2 (-5) (nI (ndN b t).2.2.2.1), st)
  else (false, (ndN b t).2, st)
theorem rdPic_ok {b : Nat → Nat} {m : Nat} {t : Tr} {st : Ar} (ht : trOk t) (hw : aW st) : trOk (rdPic b m t st).2.1 ∧ aW (rdPic b m t st).2.2 := by
  have h1 := ndN_ok (b := b) ht
  have h2 := ndW_ok (b := b) (W := W4) h1
  have h3 := ndD_ok (b := b) (lo := 1) (hi := 10) h2
  unfold rdPic
  split
  · exact ⟨ht, hw⟩
  · split
    · split
      · split
        · split
          · rename_i c1 c2 c3 c4 c5
            exact byS_ok (Nat.lt_succ_self _) h3.1 (addPic_ok hw _ (by omega) (h3.2 c5).2)
          · exact ⟨h3.1, hw⟩
        · exact ⟨h2, hw⟩
      · exact ⟨h1, hw⟩
    · exact ⟨h1, hw⟩
section T7
variable {g : xG} {l : Launch} {h : xH} {o r : Nat} {b : Nat → Nat} {t : Tr} {st : Ar}
theorem c_readCopy {p : Nat} (hw : aW st) (hp : p < 12) (hd : r + 2 ≤ o ∨ o + 12 ≤ r) (hb : ∀ k, b k < 256) (ht : trOk t) : xDet g l mX4_readCopy 5 0 0 [.ref r, .ref o, .int (nI p)] (putTr (putArch h o st) r b t) (some (.int (xb (rdCp b p t st).1))) (putTr (putArch h o (rdCp b p t st).2.2) r b (rdCp b p t st).2.1) := by
  have hA : ∀ t', ArchAt (putTr (putArch h o st) r b t') o st := fun t' => putArch_at.tr hd
  have h1 := ndF_ok (b := b) (f := st.2.1 0) (n := st.1 1) ht
  have h2 := (tkW_ok (b := b) (W := W6) h1.1).1
  have hN : st.1 1 ≤ 10 := hw.1.2.1
  have hT : 4 ≤ st.1 0 ∧ st.1 0 ≤ 16 := hw.1.1
  have c1 : ∀ {h : xH}, xDet g l mX4_needFamilyName 2 0 0 [.ref r, .ref o] (putTr (putArch h o st) r b t) (some (.int (oI (ndF b (st.2.1 0) (st.1 1) t).1))) (putTr (putArch h o st) r b (ndF b (st.2.1 0) (st.1 1) t).2) := fun {h} => c_needFamilyName hw hd hb ht
  unfold rdCp
  refine xMet.of (V := [some (.ref r), some (.ref o), some (.int (nI p)), none, none]) moX4_readCopy (Nat.le_of_ble_eq_true rfl) rfl ?_
  cases hx : (ndF b (st.2.1 0) (st.1 1) t).1 with
  | none =>
    simp only [hx] at c1 ⊢
    refine x_aload_n dX4_readCopy_0 rfl ?_
    refine x_aload_n dX4_readCopy_1 rfl ?_
    refine x_vi0 dX4_readCopy_2 cV_X4_104 (c1) rfl rfl ⟨⟨by decide, by decide⟩, by decide, by decide⟩ (Nat.le_of_ble_eq_true rfl) (xrecv putTr_at.o rfl xcl3) ?_
    refine x_istore_n dX4_readCopy_5 (by decide) rfl rfl ?_
    refine x_iload_n dX4_readCopy_6 rfl ?_
    refine x_iconst (-1) dX4_readCopy_7 (by decide) ?_
    refine x_icmp_ne 13 dX4_readCopy_8 (by decide) (fun c3 => ?_) (fun c3 => ?_)
    · exact absurd rfl c3
    · refine x_iconst (nI 0) dX4_readCopy_11 (by decide) ?_
      exact x_iret .boolean dX4_readCopy_12 rfl rfl (by decide) (by decide) (rfl) (rfl)
  | some f =>
    have hf := h1.2 f hx
    simp only [hx] at c1 ⊢
    refine x_aload_n dX4_readCopy_0 rfl ?_
    refine x_aload_n dX4_readCopy_1 rfl ?_
    refine x_vi0 dX4_readCopy_2 cV_X4_104 (c1) rfl rfl ⟨⟨by decide, by decide⟩, by decide, by decide⟩ (Nat.le_of_ble_eq_true rfl) (xrecv putTr_at.o rfl xcl3) ?_
    refine x_istore_n dX4_readCopy_5 (by decide) rfl rfl ?_
    refine x_iload_n dX4_readCopy_6 rfl ?_
    refine x_iconst (-1) dX4_readCopy_7 (by decide) ?_
    refine x_icmp_ne 13 dX4_readCopy_8 (by decide) (fun c3 => ?_) (fun c3 => ?_)
    rotate_left
    · exact absurd c3 (by intro q; exact absurd ((oI_none (x := some f) (fun k q => by cases q; omega)).mp q) (by intro q9; cases q9))
    refine xP.weak (V' := [some (.ref r), some (.ref o), some (.int (nI p)), some (.int (nI f)), none]) (by simp [xle, xset1, fin3, oI]) ?_
    refine x_aload_n dX4_readCopy_13 rfl ?_
    refine x_iload_n dX4_readCopy_14 rfl ?_
    refine x_iload_n dX4_readCopy_15 rfl ?_
    refine x_vi0 dX4_readCopy_16 cV_X4_132 (c_hasCopy (hA _) hw.1 hp (show f < 32 by omega)) rfl rfl ⟨⟨by decide, by decide⟩, by decide, by decide⟩ (Nat.le_of_ble_eq_true rfl) (xrecv (hA _).o rfl xcl0) ?_
    refine x_if_eq_b 33 dX4_readCopy_19 (by decide) (fun c4 => ?_) (fun c4 => ?_)
    · rw [if_neg (by rw [c4]; decide)]
      have hl20 := hw.1.2.2.2.2.2.2.1 f (by omega)
      have hlv : leftV st f ≤ 20 := by unfold leftV; omega
      refine x_aload_n dX4_readCopy_33 rfl ?_
      refine x_iload_n dX4_readCopy_34 rfl ?_
      refine x_vi0 dX4_readCopy_35 cV_X4_135 (c_roomLeft (hA _) hw.1 (show f < 10 by omega)) rfl rfl ⟨⟨by decide, by decide⟩, by decide, by decide⟩ (Nat.le_of_ble_eq_true rfl) (xrecv (hA _).o rfl xcl0) ?_
      refine x_if_gt_n 52 dX4_readCopy_38 (by decide) (by omega) (fun c5 => ?_) (fun c5 => ?_)
      · rw [if_neg (by omega)]
        have fin : ∀ s, ∀ (t' : Tr) (v : Nat), v = s → xP g l mX4_readCopy [] (xR 5 0 0) (xZ g (fun r' h' => r' = some (.int (xb true)) ∧ h' = putTr (putArch h o (addCopyS st p f s)) r b t') xno 0 0) 83 [some (.ref r), some (.ref o), some (.int (nI p)), some (.int (nI f)), some (.int (nI v))] [] (putTr (putArch h o st) r b t') 0 0 := by
          intro s t' v hv
          subst hv
          refine x_aload_n dX4_readCopy_83 rfl ?_
          refine x_iload_n dX4_readCopy_84 rfl ?_
          refine x_iload_n dX4_readCopy_85 rfl ?_
          refine x_iload dX4_readCopy_86 rfl ?_
          refine x_vv0 dX4_readCopy_88 cV_X4_146 (arT hd (fun H => c_addCopy hp (show f < 10 by omega))) rfl rfl ⟨⟨by decide, by decide⟩, by decide, by decide⟩ (Nat.le_of_ble_eq_true rfl) (xrecv (hA _).o rfl xcl0) ?_
          refine x_iconst (nI 1) dX4_readCopy_91 (by decide) ?_
          exact x_iret .boolean dX4_readCopy_92 rfl rfl (by decide) (by decide) (rfl) (rfl)
        refine x_aload_n dX4_readCopy_52 rfl ?_
        refine x_ldcS (j := 6) rfl rfl rfl dX4_readCopy_53 ?_
        refine x_vi0 dX4_readCopy_55 cV_X4_47 (c_takeWord xw6 hb h1.1) rfl rfl ⟨⟨by decide, by decide⟩, by decide, by decide⟩ (Nat.le_of_ble_eq_true rfl) (xrecv putTr_at.o rfl xcl3) ?_
        refine x_if_eq_b 72 dX4_readCopy_58 (by decide) (fun c6 => ?_) (fun c6 => ?_)
        · rw [if_neg (by rw [c6]; decide)]
          refine x_iconst (nI 0) dX4_readCopy_72 (by decide) ?_
          refine x_istore dX4_readCopy_73 (by decide) rfl rfl ?_
          refine x_iload dX4_readCopy_75 rfl ?_
          refine x_iconst (-1) dX4_readCopy_77 (by decide) ?_
          refine x_icmp_ne 83 dX4_readCopy_78 (by decide) (fun c7 => ?_) (fun c7 => ?_)
          · exact fin 0 _ 0 rfl
          · exact absurd c7 (by decide)
        · rw [if_pos c6]
          have h3 := ndTl_ok (b := b) (T := st.1 0) (by omega) (st.1 0 + 1) 0 0 _ (Nat.two_pow_pos _) h2
          have c8 : ∀ {h : xH}, xDet g l mX4_needTiles 2 0 0 [.ref r, .int (nI (st.1 0))] (putTr h r b (tkW b W6 (ndF b (st.2.1 0) (st.1 1) t).2).2) (some (.int (oI (ndTl b (st.1 0) (st.1 0 + 1) 0 0 (tkW b W6 (ndF b (st.2.1 0) (st.1 1) t).2).2).1))) (putTr h r b (ndTl b (st.1 0) (st.1 0 + 1) 0 0 (tkW b W6 (ndF b (st.2.1 0) (st.1 1) t).2).2).2) := fun {h} => c_needTiles ⟨by omega, hT.2⟩ hb h2
          cases hy : (ndTl b (st.1 0) (st.1 0 + 1) 0 0 (tkW b W6 (ndF b (st.2.1 0) (st.1 1) t).2).2).1 with
          | none =>
            simp only [hy] at c8 ⊢
            refine x_aload_n dX4_readCopy_61 rfl ?_
            refine x_aload_n dX4_readCopy_62 rfl ?_
            refine x_getf dX4_readCopy_63 f_X4_141 (hA _).o rfl ?_
            refine x_vi0 dX4_readCopy_66 cV_X4_143 (c8) rfl rfl ⟨⟨by decide, by decide⟩, by decide, by decide⟩ (Nat.le_of_ble_eq_true rfl) (xrecv putTr_at.o rfl xcl3) ?_
            refine x_goto 73 dX4_readCopy_69 (by decide) ?_
            refine x_istore dX4_readCopy_73 (by decide) rfl rfl ?_
            refine x_iload dX4_readCopy_75 rfl ?_
            refine x_iconst (-1) dX4_readCopy_77 (by decide) ?_
            refine x_icmp_ne 83 dX4_readCopy_78 (by decide) (fun c7 => ?_) (fun c7 => ?_)
            · exact absurd rfl c7
            · refine x_iconst (nI 0) dX4_readCopy_81 (by decide) ?_
              exact x_iret .boolean dX4_readCopy_82 rfl rfl (by decide) (by decide) (rfl) (rfl)
          | some s =>
            have hs := h3.2 s hy
            have hs2 : 2 ^ st.1 0 ≤ 65536 := hw.1.T16
            simp only [hy] at c8 ⊢
            refine x_aload_n dX4_readCopy_61 rfl ?_
            refine x_aload_n dX4_readCopy_62 rfl ?_
            refine x_getf dX4_readCopy_63 f_X4_141 (hA _).o rfl ?_
            refine x_vi0 dX4_readCopy_66 cV_X4_143 (c8) rfl rfl ⟨⟨by decide, by decide⟩, by decide, by decide⟩ (Nat.le_of_ble_eq_true rfl) (xrecv putTr_at.o rfl xcl3) ?_
            refine x_goto 73 dX4_readCopy_69 (by decide) ?_
            refine x_istore dX4_readCopy_73 (by decide) rfl rfl ?_
            refine x_iload dX4_readCopy_75 rfl ?_
            refine x_iconst (-1) dX4_readCopy_77 (by decide) ?_
            refine x_icmp_ne 83 dX4_readCopy_78 (by decide) (fun c7 => ?_) (fun c7 => ?_)
            · exact fin s _ s rfl
            · exact absurd c7 (by intro q; have : ¬ nI s = -1 := (by intro q9; have := congrArg Int32.toInt q9; rw [nI_toInt (by omega)] at this; exact absurd this (by show ¬ ((s : Int) = -1); omega)); exact this q)
      · rw [if_pos (by omega)]
        refine x_aload_n dX4_readCopy_41 rfl ?_
        refine x_bipush (-6) dX4_readCopy_42 (by decide) ?_
        refine x_aload_n dX4_readCopy_44 rfl ?_
        refine x_getf dX4_readCopy_45 f_X4_28 putTr_at.o rfl ?_
        refine x_vi0 dX4_readCopy_48 cV_X4_78 (c_fail) rfl rfl ⟨⟨by decide, by decide⟩, by decide, by decide⟩ (Nat.le_of_ble_eq_true rfl) (xrecv putTr_at.o rfl xcl3) ?_
        exact x_bret dX4_readCopy_51 rfl (by decide) (by decide) (rfl) (rfl)
    · rw [if_pos c4]
      refine x_aload_n dX4_readCopy_22 rfl ?_
      refine x_bipush (-5) dX4_readCopy_23 (by decide) ?_
      refine x_aload_n dX4_readCopy_25 rfl ?_
      refine x_getf dX4_readCopy_26 f_X4_28 putTr_at.o rfl ?_
      refine x_vi0 dX4_readCopy_29 cV_X4_78 (c_fail) rfl rfl ⟨⟨by decide, by decide⟩, by decide, by decide⟩ (Nat.le_of_ble_eq_true rfl) (xrecv putTr_at.o rfl xcl3) ?_
      exact x_bret dX4_readCopy_32 rfl (by decide) (by decide) (rfl) (rfl)
end T7
