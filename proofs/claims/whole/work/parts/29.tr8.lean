/-! ===== TextReader: a picture, the head, the whole text ===== -/
def rdFs (b : Nat → Nat) : Nat → Nat → Tr → Ar → Bool × Tr × Ar
  | 0, _, t, st => (true, t, st)
  | f + 1, n, t, st => if (tkW b W1 t).1 = true then
      if (rdFam b (tkW b W1 t).2 st).1 = true then rdFs b f (n + 1) (rdFam b (tkW b W1 t).2 st).2.1 (rdFam b (tkW b W1 t).2 st).2.2 else rdFam b (tkW b W1 t).2 st
    else if n < 2 then (false, trFail (tkW b W1 t).2 (-2) (nI (tkW b W1 t).2.2.1), st) else (true, (tkW b W1 t).2, st)
def rdHead (b : Nat → Nat) (m : Nat) (t : Tr) (st : Ar) : Bool × Tr × Ar :=
  if (ndW b W0 t).1 = true then
    if (ndD b 4 16 (ndW b W0 t).2).1 = true then
      if (semS b (ndD b 4 16 (ndW b W0 t).2).2).1 = true then rdFs b m 0 (semS b (ndD b 4 16 (ndW b W0 t).2).2).2 (emptyS (semS b (ndD b 4 16 (ndW b W0 t).2).2).2.2.2.2.1)
      else (false, (semS b (ndD b 4 16 (ndW b W0 t).2).2).2, st)
    else (false, (ndD b 4 16 (ndW b W0 t).2).2, st)
  else (false, (ndW b W0 t).2, st)
theorem semS_num {b : Nat → Nat} {t : Tr} : (semS b t).2.2.2.2.1 = t.2.2.2.1 := by
  unfold semS
  split <;> rfl
theorem rdFs_ok {b : Nat → Nat} : ∀ f n {t : Tr} {st : Ar}, trOk t → aW st → trOk (rdFs b f n t st).2.1 ∧ aW (rdFs b f n t st).2.2 := by
  intro f
  induction f with
  | zero => intro n t st ht hw; exact ⟨ht, hw⟩
  | succ f ih =>
    intro n t st ht hw
    have h1 := (tkW_ok (b := b) (W := W1) ht).1
    have h2 := rdFam_ok (b := b) h1 hw
    rw [rdFs]
    split
    · split
      · exact ih _ h2.1 h2.2
      · exact h2
    · split
      · exact ⟨h1, hw⟩
      · exact ⟨h1, hw⟩
theorem rdHead_ok {b : Nat → Nat} {m : Nat} {t : Tr} {st : Ar} (ht : trOk t) : trOk (rdHead b m t st).2.1 ∧ ((rdHead b m t st).1 = true → aW (rdHead b m t st).2.2) := by
  have h1 := ndW_ok (b := b) (W := W0) ht
  have h2 := ndD_ok (b := b) (lo := 4) (hi := 16) h1
  have h3 := semS_ok (b := b) h2.1
  unfold rdHead
  split
  · split
    · split
      · rename_i c1 c2 c3
        have h4 := rdFs_ok (b := b) m 0 h3 (empty_ok (t := (semS b (ndD b 4 16 (ndW b W0 t).2).2).2.2.2.2.1) (by rw [semS_num]; exact (h2.2 c2).1) (by rw [semS_num]; exact (h2.2 c2).2))
        exact ⟨h4.1, fun _ => h4.2⟩
      · exact ⟨h3, fun q => by cases q⟩
    · exact ⟨h2.1, fun q => by cases q⟩
  · exact ⟨h1, fun q => by cases q⟩
def rdPs (b : Nat → Nat) (m : Nat) : Nat → Tr → Ar → Bool × Tr × Ar
  | 0, t, st => (true, t, st)
  | f + 1, t, st => if (tkW b W3 t).1 = true then
      if (rdPic b m (tkW b W3 t).2 st).1 = true then rdPs b m f (rdPic b m (tkW b W3 t).2 st).2.1 (rdPic b m (tkW b W3 t).2 st).2.2 else rdPic b m (tkW b W3 t).2 st
    else (true, (tkW b W3 t).2, st)
theorem rdPs_ok {b : Nat → Nat} {m : Nat} : ∀ f {t : Tr} {st : Ar}, trOk t → aW st → trOk (rdPs b m f t st).2.1 ∧ aW (rdPs b m f t st).2.2 := by
  intro f
  induction f with
  | zero => intro t st ht hw; exact ⟨ht, hw⟩
  | succ f ih =>
    intro t st ht hw
    have h1 := (tkW_ok (b := b) (W := W3) ht).1
    have h2 := rdPic_ok (b := b) (m := m) h1 hw
    rw [rdPs]
    split
    · split
      · exact ih h2.1 h2.2
      · exact h2
    · exact ⟨h1, hw⟩
section T8
variable {g : xG} {l : Launch} {h : xH} {o r : Nat} {b : Nat → Nat} {t : Tr} {st : Ar}
theorem c_readPicture {m : Nat} (hm : m = 600) (hw : aW st) (hd : r + 2 ≤ o ∨ o + 12 ≤ r) (hb : ∀ k, b k < 256) (ht : trOk t) : xDet g l mX4_readPicture 6 0 0 [.ref r, .ref o] (putTr (putArch h o st) r b t) (some (.int (xb (rdPic b m t st).1))) (putTr (putArch h o (rdPic b m t st).2.2) r b (rdPic b m t st).2.1) := by
  have hA : ∀ t', ArchAt (putTr (putArch h o st) r b t') o st := fun t' => putArch_at.tr hd
  have h1 := ndN_ok (b := b) ht
  have h2 := ndW_ok (b := b) (W := W4) h1
  have h3 := ndD_ok (b := b) (lo := 1) (hi := 10) h2
  have hK : st.1 2 ≤ 12 := hw.1.2.2.1
  unfold rdPic
  refine xMet.of (V := [some (.ref r), some (.ref o), none, none, none, none]) moX4_readPicture (Nat.le_of_ble_eq_true rfl) rfl ?_
  refine x_aload_n dX4_readPicture_0 rfl ?_
  refine x_getf dX4_readPicture_1 f_X4_115 (hA _).o rfl ?_
  refine x_istore_n dX4_readPicture_4 (by decide) rfl rfl ?_
  refine x_iload_n dX4_readPicture_5 rfl ?_
  refine x_bipush (nI 12) dX4_readPicture_6 (by decide) ?_
  refine x_icmp_lt_n 22 dX4_readPicture_8 (by decide) (by omega) (by omega) (fun c => ?_) (fun c => ?_)
  rotate_left
  · rw [if_pos c]
    refine x_aload_n dX4_readPicture_11 rfl ?_
    refine x_bipush (-7) dX4_readPicture_12 (by decide) ?_
    refine x_aload_n dX4_readPicture_14 rfl ?_
    refine x_getf dX4_readPicture_15 f_X4_28 putTr_at.o rfl ?_
    refine x_vi0 dX4_readPicture_18 cV_X4_78 (c_fail) rfl rfl ⟨⟨by decide, by decide⟩, by decide, by decide⟩ (Nat.le_of_ble_eq_true rfl) (xrecv putTr_at.o rfl xcl3) ?_
    exact x_bret dX4_readPicture_21 rfl (by decide) (by decide) (rfl) (rfl)
  rw [if_neg (by omega)]
  refine x_aload_n dX4_readPicture_22 rfl ?_
  refine x_vi0 dX4_readPicture_23 cV_X4_87 (c_needName hb ht) rfl rfl ⟨⟨by decide, by decide⟩, by decide, by decide⟩ (Nat.le_of_ble_eq_true rfl) (xrecv putTr_at.o rfl xcl3) ?_
  refine x_if_ne_b 31 dX4_readPicture_26 (by decide) (fun c1 => ?_) (fun c1 => ?_)
  rotate_left
  · rw [if_neg (by rw [c1]; decide)]
    refine x_iconst (nI 0) dX4_readPicture_29 (by decide) ?_
    exact x_iret .boolean dX4_readPicture_30 rfl rfl (by decide) (by decide) (rfl) (rfl)
  rw [if_pos c1]
  refine x_aload_n dX4_readPicture_31 rfl ?_
  refine x_aload_n dX4_readPicture_32 rfl ?_
  refine x_getf dX4_readPicture_33 f_X4_118 (hA _).o rfl ?_
  refine x_iload_n dX4_readPicture_36 rfl ?_
  refine x_vi0 dX4_readPicture_37 cV_X4_94 (c_placeOf (hA _).pictureNames (by omega) (by decide)) rfl rfl ⟨⟨by decide, by decide⟩, by decide, by decide⟩ (Nat.le_of_ble_eq_true rfl) (xrecv putTr_at.o rfl xcl3) ?_
  refine x_iconst (-1) dX4_readPicture_40 (by decide) ?_
  refine x_icmp_eq 55 dX4_readPicture_41 (by decide) (fun c2 => ?_) (fun c2 => ?_)
  rotate_left
  · rw [if_neg (fun q => c2 ((oI_none (fun i q => by have := plF_lt _ _ _ q; omega)).mpr q))]
    refine x_aload_n dX4_readPicture_44 rfl ?_
    refine x_bipush (-5) dX4_readPicture_45 (by decide) ?_
    refine x_aload_n dX4_readPicture_47 rfl ?_
    refine x_getf dX4_readPicture_48 f_X4_28 putTr_at.o rfl ?_
    refine x_vi0 dX4_readPicture_51 cV_X4_78 (c_fail) rfl rfl ⟨⟨by decide, by decide⟩, by decide, by decide⟩ (Nat.le_of_ble_eq_true rfl) (xrecv putTr_at.o rfl xcl3) ?_
    exact x_bret dX4_readPicture_54 rfl (by decide) (by decide) (rfl) (rfl)
  rw [if_pos ((oI_none (fun i q => by have := plF_lt _ _ _ q; omega)).mp c2)]
  refine x_aload_n dX4_readPicture_55 rfl ?_
  refine x_getf dX4_readPicture_56 f_X4_34 putTr_at.o rfl ?_
  refine x_lstore_n dX4_readPicture_59 (by decide) rfl rfl ?_
  refine x_aload_n dX4_readPicture_60 rfl ?_
  refine x_ldcS (j := 4) rfl rfl rfl dX4_readPicture_61 ?_
  refine x_vi0 dX4_readPicture_63 cV_X4_60 (c_needWord xw4 hb h1) rfl rfl ⟨⟨by decide, by decide⟩, by decide, by decide⟩ (Nat.le_of_ble_eq_true rfl) (xrecv putTr_at.o rfl xcl3) ?_
  refine x_if_eq_b 79 dX4_readPicture_66 (by decide) (fun c3 => ?_) (fun c3 => ?_)
  · rw [if_neg (by rw [c3]; decide)]
    refine x_iconst (nI 0) dX4_readPicture_79 (by decide) ?_
    exact x_iret .boolean dX4_readPicture_80 rfl rfl (by decide) (by decide) (rfl) (rfl)
  rw [if_pos c3]
  refine x_aload_n dX4_readPicture_69 rfl ?_
  refine x_iconst (nI 1) dX4_readPicture_70 (by decide) ?_
  refine x_bipush (nI 10) dX4_readPicture_71 (by decide) ?_
  refine x_vi0 dX4_readPicture_73 cV_X4_63 (c_needNumber hb h2 (by decide) (by decide)) rfl rfl ⟨⟨by decide, by decide⟩, by decide, by decide⟩ (Nat.le_of_ble_eq_true rfl) (xrecv putTr_at.o rfl xcl3) ?_
  refine x_if_ne_b 81 dX4_readPicture_76 (by decide) (fun c4 => ?_) (fun c4 => ?_)
  rotate_left
  · rw [if_neg (by rw [c4]; decide)]
    refine x_iconst (nI 0) dX4_readPicture_79 (by decide) ?_
    exact x_iret .boolean dX4_readPicture_80 rfl rfl (by decide) (by decide) (rfl) (rfl)
  rw [if_pos c4]
  refine x_aload_n dX4_readPicture_81 rfl ?_
  refine x_lload_n dX4_readPicture_82 rfl ?_
  refine x_aload_n dX4_readPicture_83 rfl ?_
  refine x_getf dX4_readPicture_84 f_X4_31 putTr_at.o rfl ?_
  refine x_vv0 dX4_readPicture_87 cV_X4_123 (arT hd (fun H => c_addPicture _ (by omega))) rfl rfl ⟨⟨by decide, by decide⟩, by decide, by decide⟩ (Nat.le_of_ble_eq_true rfl) (xrecv (hA _).o rfl xcl0) ?_
  refine x_iconst (nI 0) dX4_readPicture_90 (by decide) ?_
  refine x_istore dX4_readPicture_91 (by decide) rfl rfl ?_
  have hw2 := addPic_ok hw (lN (ndN b t).2.2.2.2.2) (r := (ndD b 1 10 (ndW b W4 (ndN b t).2).2).2.2.2.2.1) (by omega) (h3.2 c4).2
  unfold byS
  have key : ∀ (f n : Nat) (t : Tr) (s2 : Ar), f + n = 600 → st.1 2 < s2.1 2 → trOk t → aW s2 → xP g l mX4_readPicture [] (xR 6 0 0) (xZ g (fun r' h' => r' = some (.int (xb (if (rdBy b (st.1 2) f t s2).1 = true then ((semS b (rdBy b (st.1 2) f t s2).2.1).1, (semS b (rdBy b (st.1 2) f t s2).2.1).2, (rdBy b (st.1 2) f t s2).2.2) else rdBy b (st.1 2) f t s2).1)) ∧ h' = putTr (putArch h o (if (rdBy b (st.1 2) f t s2).1 = true then ((semS b (rdBy b (st.1 2) f t s2).2.1).1, (semS b (rdBy b (st.1 2) f t s2).2.1).2, (rdBy b (st.1 2) f t s2).2.2) else rdBy b (st.1 2) f t s2).2.2) r b (if (rdBy b (st.1 2) f t s2).1 = true then ((semS b (rdBy b (st.1 2) f t s2).2.1).1, (semS b (rdBy b (st.1 2) f t s2).2.1).2, (rdBy b (st.1 2) f t s2).2.2) else rdBy b (st.1 2) f t s2).2.1) xno 0 0) 93 [some (.ref r), some (.ref o), some (.int (nI (st.1 2))), none, none, some (.int (nI n))] [] (putTr (putArch h o s2) r b t) 0 0 := by
    have done : ∀ (n : Nat) (t : Tr) (s2 : Ar), trOk t → xP g l mX4_readPicture [] (xR 6 0 0) (xZ g (fun r' h' => r' = some (.int (xb (semS b t).1)) ∧ h' = putTr (putArch h o s2) r b (semS b t).2) xno 0 0) 127 [some (.ref r), some (.ref o), some (.int (nI (st.1 2))), none, none, some (.int (nI n))] [] (putTr (putArch h o s2) r b t) 0 0 := by
      intro n t s2 ht
      refine x_aload_n dX4_readPicture_127 rfl ?_
      refine x_vi0 dX4_readPicture_128 cV_X4_67 (c_needSemicolon hb ht) rfl rfl ⟨⟨by decide, by decide⟩, by decide, by decide⟩ (Nat.le_of_ble_eq_true rfl) (xrecv putTr_at.o rfl xcl3) ?_
      exact x_bret dX4_readPicture_131 rfl (by decide) (by decide) (rfl) (rfl)
    intro f
    induction f with
    | zero =>
      intro n t s2 hf hp ht hw
      rw [rdBy]
      refine x_iload dX4_readPicture_93 rfl ?_
      refine x_sipush (nI 600) dX4_readPicture_95 (by decide) ?_
      refine x_icmp_ge_n 127 dX4_readPicture_98 (by decide) (by omega) (by omega) (fun c => ?_) (fun c => ?_)
      · exact done n t s2 ht
      · omega
    | succ f ih =>
      intro n t s2 hf hp ht hw
      have q1 := (tkW_ok (b := b) (W := W5) ht).1
      have q2 := rdCp_ok (b := b) hp q1 hw
      rw [rdBy]
      refine x_iload dX4_readPicture_93 rfl ?_
      refine x_sipush (nI 600) dX4_readPicture_95 (by decide) ?_
      refine x_icmp_ge_n 127 dX4_readPicture_98 (by decide) (by omega) (by omega) (fun c8 => ?_) (fun c8 => ?_)
      · omega
      · refine x_aload_n dX4_readPicture_101 rfl ?_
        refine x_ldcS (j := 5) rfl rfl rfl dX4_readPicture_102 ?_
        refine x_vi0 dX4_readPicture_104 cV_X4_47 (c_takeWord xw5 hb ht) rfl rfl ⟨⟨by decide, by decide⟩, by decide, by decide⟩ (Nat.le_of_ble_eq_true rfl) (xrecv putTr_at.o rfl xcl3) ?_
        refine x_if_eq_b 127 dX4_readPicture_107 (by decide) (fun c5 => ?_) (fun c5 => ?_)
        · rw [if_neg (show ¬ (tkW b W5 t).1 = true by rw [c5]; decide)]
          exact done n _ s2 q1
        · rw [if_pos c5]
          refine x_aload_n dX4_readPicture_110 rfl ?_
          refine x_aload_n dX4_readPicture_111 rfl ?_
          refine x_iload_n dX4_readPicture_112 rfl ?_
          refine x_vi0 dX4_readPicture_113 cV_X4_128 (c_readCopy hw (by omega) hd hb q1) rfl rfl ⟨⟨by decide, by decide⟩, by decide, by decide⟩ (Nat.le_of_ble_eq_true rfl) (xrecv putTr_at.o rfl xcl3) ?_
          refine x_if_ne_b 121 dX4_readPicture_116 (by decide) (fun c6 => ?_) (fun c6 => ?_)
          · rw [if_pos c6]
            refine x_iinc_n (k := 1) dX4_readPicture_121 rfl (by decide) (by decide) rfl rfl ?_
            refine x_goto 93 dX4_readPicture_124 (by decide) ?_
            exact xP.weak (by simp [xle, xset1, fin3]) (ih (n + 1) _ _ (by omega) (by rw [q2.2.2]; exact hp) q2.1 q2.2.1)
          · rw [if_neg (show ¬ (rdCp b (st.1 2) (tkW b W5 t).2 s2).1 = true by rw [c6]; decide), if_neg (by rw [c6]; decide)]
            refine x_iconst (nI 0) dX4_readPicture_119 (by decide) ?_
            exact x_iret .boolean dX4_readPicture_120 rfl rfl (by decide) (by decide) (by rw [c6]; rfl) (rfl)
  have := key m 0 (ndD b 1 10 (ndW b W4 (ndN b t).2).2).2 (addPicS st (lN (ndN b t).2.2.2.2.2) (ndD b 1 10 (ndW b W4 (ndN b t).2).2).2.2.2.2.1) hm (Nat.lt_succ_self _) h3.1 hw2
  exact xP.weak (by simp [xle, xset1, xset2, fin3]) this
end T8
