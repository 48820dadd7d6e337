/-! ===== TextReader: the whole text; the bytes that come; its making, and the writer's ===== -/
def tr0 (t : Tr) : Tr := sEa (sEc (sPos t 0) (-1)) (-1)
/-- what ends a text -/
def finS (b : Nat → Nat) (P : Bool × Tr × Ar) : Bool × Tr × Ar := if P.1 = true then ((endS b P.2.1).1, sLen (endS b P.2.1).2 0, P.2.2) else (false, sLen P.2.1 0, P.2.2)
def rdTx (b : Nat → Nat) (m9 m : Nat) (t : Tr) (st : Ar) : Bool × Tr × Ar :=
  if (rdHead b m9 (tr0 t) st).1 = true then
    if (rdNs b m (rdHead b m9 (tr0 t) st).2.1 (rdHead b m9 (tr0 t) st).2.2).1 = true then
      finS b (rdPs b m m (rdNs b m (rdHead b m9 (tr0 t) st).2.1 (rdHead b m9 (tr0 t) st).2.2).2.1 (rdNs b m (rdHead b m9 (tr0 t) st).2.1 (rdHead b m9 (tr0 t) st).2.2).2.2)
    else (false, sLen (rdNs b m (rdHead b m9 (tr0 t) st).2.1 (rdHead b m9 (tr0 t) st).2.2).2.1 0, (rdNs b m (rdHead b m9 (tr0 t) st).2.1 (rdHead b m9 (tr0 t) st).2.2).2.2)
  else (false, sLen (rdHead b m9 (tr0 t) st).2.1 0, (rdHead b m9 (tr0 t) st).2.2)
section T9
variable {g : xG} {l : Launch} {h : xH} {o r : Nat} {b : Nat → Nat} {t : Tr} {st : Ar}
theorem c_readHead {m : Nat} (hm : m = 11) (hd : r + 2 ≤ o ∨ o + 12 ≤ r) (hb : ∀ k, b k < 256) (ht : trOk t) : xDet g l mX4_readHead 6 0 0 [.ref r, .ref o] (putTr (putArch h o st) r b t) (some (.int (xb (rdHead b m t st).1))) (putTr (putArch h o (rdHead b m t st).2.2) r b (rdHead b m t st).2.1) := by
  have hA : ∀ t' st', ArchAt (putTr (putArch h o st') r b t') o st' := fun t' st' => putArch_at.tr hd
  have h1 := ndW_ok (b := b) (W := W0) ht
  have h2 := ndD_ok (b := b) (lo := 4) (hi := 16) h1
  have h3 := semS_ok (b := b) h2.1
  unfold rdHead
  refine xMet.of (V := [some (.ref r), some (.ref o), none, none]) moX4_readHead (Nat.le_of_ble_eq_true rfl) rfl ?_
  refine x_aload_n dX4_readHead_0 rfl ?_
  refine x_ldcS (j := 0) rfl rfl rfl dX4_readHead_1 ?_
  refine x_vi0 dX4_readHead_3 cV_X4_60 (c_needWord xw0 hb ht) rfl rfl ⟨⟨by decide, by decide⟩, by decide, by decide⟩ (Nat.le_of_ble_eq_true rfl) (xrecv putTr_at.o rfl xcl3) ?_
  refine x_if_eq_b 26 dX4_readHead_6 (by decide) (fun c1 => ?_) (fun c1 => ?_)
  · rw [if_neg (by rw [c1]; decide)]
    refine x_iconst (nI 0) dX4_readHead_26 (by decide) ?_
    exact x_iret .boolean dX4_readHead_27 rfl rfl (by decide) (by decide) (rfl) (rfl)
  rw [if_pos c1]
  refine x_aload_n dX4_readHead_9 rfl ?_
  refine x_iconst (nI 4) dX4_readHead_10 (by decide) ?_
  refine x_bipush (nI 16) dX4_readHead_11 (by decide) ?_
  refine x_vi0 dX4_readHead_13 cV_X4_63 (c_needNumber hb h1 (by decide) (by decide)) rfl rfl ⟨⟨by decide, by decide⟩, by decide, by decide⟩ (Nat.le_of_ble_eq_true rfl) (xrecv putTr_at.o rfl xcl3) ?_
  refine x_if_eq_b 26 dX4_readHead_16 (by decide) (fun c2 => ?_) (fun c2 => ?_)
  · rw [if_neg (by rw [c2]; decide)]
    refine x_iconst (nI 0) dX4_readHead_26 (by decide) ?_
    exact x_iret .boolean dX4_readHead_27 rfl rfl (by decide) (by decide) (rfl) (rfl)
  rw [if_pos c2]
  refine x_aload_n dX4_readHead_19 rfl ?_
  refine x_vi0 dX4_readHead_20 cV_X4_67 (c_needSemicolon hb h2.1) rfl rfl ⟨⟨by decide, by decide⟩, by decide, by decide⟩ (Nat.le_of_ble_eq_true rfl) (xrecv putTr_at.o rfl xcl3) ?_
  refine x_if_ne_b 28 dX4_readHead_23 (by decide) (fun c3 => ?_) (fun c3 => ?_)
  rotate_left
  · rw [if_neg (by rw [c3]; decide)]
    refine x_iconst (nI 0) dX4_readHead_26 (by decide) ?_
    exact x_iret .boolean dX4_readHead_27 rfl rfl (by decide) (by decide) (rfl) (rfl)
  rw [if_pos c3]
  refine x_aload_n dX4_readHead_28 rfl ?_
  refine x_aload_n dX4_readHead_29 rfl ?_
  refine x_getf dX4_readHead_30 f_X4_31 putTr_at.o rfl ?_
  refine x_vv0 dX4_readHead_33 cV_X4_70 (arT hd (fun H => c_startEmpty)) rfl rfl ⟨⟨by decide, by decide⟩, by decide, by decide⟩ (Nat.le_of_ble_eq_true rfl) (xrecv (hA _ _).o rfl xcl0) ?_
  refine x_iconst (nI 0) dX4_readHead_36 (by decide) ?_
  refine x_istore_n dX4_readHead_37 (by decide) rfl rfl ?_
  have hw0 : aW (emptyS (semS b (ndD b 4 16 (ndW b W0 t).2).2).2.2.2.2.1) := empty_ok (by rw [semS_num]; exact (h2.2 c2).1) (by rw [semS_num]; exact (h2.2 c2).2)
  have key : ∀ (f n : Nat) (t : Tr) (st : Ar), f + n = 11 → trOk t → aW st → xP g l mX4_readHead [] (xR 6 0 0) (xZ g (fun r' h' => r' = some (.int (xb (rdFs b f n t st).1)) ∧ h' = putTr (putArch h o (rdFs b f n t st).2.2) r b (rdFs b f n t st).2.1) xno 0 0) 38 [some (.ref r), some (.ref o), some (.int (nI n)), none] [] (putTr (putArch h o st) r b t) 0 0 := by
    intro f
    induction f with
    | zero =>
      intro n t st hf ht hw
      refine x_iload_n dX4_readHead_38 rfl ?_
      refine x_bipush (nI 10) dX4_readHead_39 (by decide) ?_
      refine x_icmp_gt_n 93 dX4_readHead_41 (by decide) (by omega) (by omega) (fun c => ?_) (fun c => ?_)
      · refine x_iconst (nI 1) dX4_readHead_93 (by decide) ?_
        exact x_iret .boolean dX4_readHead_94 rfl rfl (by decide) (by decide) (rfl) (rfl)
      · omega
    | succ f ih =>
      intro n t st hf ht hw
      have q1 := (tkW_ok (b := b) (W := W1) ht).1
      have q2 := rdFam_ok (b := b) q1 hw
      rw [rdFs]
      refine x_iload_n dX4_readHead_38 rfl ?_
      refine x_bipush (nI 10) dX4_readHead_39 (by decide) ?_
      refine x_icmp_gt_n 93 dX4_readHead_41 (by decide) (by omega) (by omega) (fun c8 => ?_) (fun c8 => ?_)
      · omega
      · refine x_aload_n dX4_readHead_44 rfl ?_
        refine x_ldcS (j := 1) rfl rfl rfl dX4_readHead_45 ?_
        refine x_vi0 dX4_readHead_47 cV_X4_47 (c_takeWord xw1 hb ht) rfl rfl ⟨⟨by decide, by decide⟩, by decide, by decide⟩ (Nat.le_of_ble_eq_true rfl) (xrecv putTr_at.o rfl xcl3) ?_
        refine x_istore_n dX4_readHead_50 (by decide) rfl rfl ?_
        refine x_iload_n dX4_readHead_51 rfl ?_
        refine x_if_ne_b 71 dX4_readHead_52 (by decide) (fun c4 => ?_) (fun c4 => ?_)
        · rw [if_pos c4]
          refine x_iload_n dX4_readHead_71 rfl ?_
          refine x_if_ne_b 77 dX4_readHead_72 (by decide) (fun c5 => ?_) (fun c5 => ?_)
          · refine x_aload_n dX4_readHead_77 rfl ?_
            refine x_aload_n dX4_readHead_78 rfl ?_
            refine x_vi0 dX4_readHead_79 cV_X4_81 (c_readFamily hw hd hb q1) rfl rfl ⟨⟨by decide, by decide⟩, by decide, by decide⟩ (Nat.le_of_ble_eq_true rfl) (xrecv putTr_at.o rfl xcl3) ?_
            refine x_if_ne_b 87 dX4_readHead_82 (by decide) (fun c6 => ?_) (fun c6 => ?_)
            · rw [if_pos c6]
              refine x_iinc_n (k := 1) dX4_readHead_87 rfl (by decide) (by decide) rfl rfl ?_
              refine x_goto 38 dX4_readHead_90 (by decide) ?_
              exact xP.weak (by simp [xle, xset1, fin3]) (ih (n + 1) _ _ (by omega) q2.1 q2.2)
            · rw [if_neg (by rw [c6]; decide)]
              refine x_iconst (nI 0) dX4_readHead_85 (by decide) ?_
              exact x_iret .boolean dX4_readHead_86 rfl rfl (by decide) (by decide) (by rw [c6]; rfl) (rfl)
          · rw [c4] at c5; cases c5
        · rw [if_neg (by rw [c4]; decide)]
          refine x_iload_n dX4_readHead_55 rfl ?_
          refine x_iconst (nI 2) dX4_readHead_56 (by decide) ?_
          refine x_icmp_ge_n 71 dX4_readHead_57 (by decide) (by omega) (by omega) (fun c7 => ?_) (fun c7 => ?_)
          · rw [if_neg (by omega)]
            refine x_iload_n dX4_readHead_71 rfl ?_
            refine x_if_ne_b 77 dX4_readHead_72 (by decide) (fun c5 => ?_) (fun c5 => ?_)
            · rw [c4] at c5; cases c5
            · refine x_iconst (nI 1) dX4_readHead_75 (by decide) ?_
              exact x_iret .boolean dX4_readHead_76 rfl rfl (by decide) (by decide) (rfl) (rfl)
          · rw [if_pos (by omega)]
            refine x_aload_n dX4_readHead_60 rfl ?_
            refine x_bipush (-2) dX4_readHead_61 (by decide) ?_
            refine x_aload_n dX4_readHead_63 rfl ?_
            refine x_getf dX4_readHead_64 f_X4_25 putTr_at.o rfl ?_
            refine x_vi0 dX4_readHead_67 cV_X4_78 (c_fail) rfl rfl ⟨⟨by decide, by decide⟩, by decide, by decide⟩ (Nat.le_of_ble_eq_true rfl) (xrecv putTr_at.o rfl xcl3) ?_
            exact x_bret dX4_readHead_70 rfl (by decide) (by decide) (rfl) (rfl)
  exact xP.weak (by simp [xle, xset1, fin3]) (key m 0 _ _ hm h3 hw0)
theorem c_readText {m9 m : Nat} (hm9 : m9 = 11) (hm : m = 600) (hd : r + 2 ≤ o ∨ o + 12 ≤ r) (hb : ∀ k, b k < 256) (ht : t.1.1 ≤ 600) : xDet g l mX4_readText 7 0 0 [.ref r, .ref o] (putTr (putArch h o st) r b t) (some (.int (xb (rdTx b m9 m t st).1))) (putTr (putArch h o (rdTx b m9 m t st).2.2) r b (rdTx b m9 m t st).2.1) := by
  have hA : ∀ t' st', ArchAt (putTr (putArch h o st') r b t') o st' := fun t' st' => putArch_at.tr hd
  have h0 : trOk (tr0 t) := ⟨ht, Nat.zero_le _⟩
  have h1 := rdHead_ok (b := b) (m := m9) (st := st) h0
  unfold rdTx
  refine xMet.of (V := [some (.ref r), some (.ref o), none, none]) moX4_readText (Nat.le_of_ble_eq_true rfl) rfl ?_
  refine x_aload_n dX4_readText_0 rfl ?_
  refine x_iconst (nI 0) dX4_readText_1 (by decide) ?_
  refine xq_X4_position dX4_readText_2 f_X4_25 ?_
  refine x_aload_n dX4_readText_5 rfl ?_
  refine x_iconst (-1) dX4_readText_6 (by decide) ?_
  refine xq_X4_errorCode dX4_readText_7 f_X4_19 ?_
  refine x_aload_n dX4_readText_10 rfl ?_
  refine x_iconst (-1) dX4_readText_11 (by decide) ?_
  refine xq_X4_errorAt dX4_readText_12 f_X4_22 ?_
  refine xP.eq (h' := putTr (putArch h o st) r b (tr0 t)) rfl rfl rfl rfl ?_
  have fin : ∀ (t' : Tr) (s' : Ar) (x : Nat), x = 0 → ∀ v3, xP g l mX4_readText [] (xR 7 0 0) (xZ g (fun r' h' => r' = some (.int (xb false)) ∧ h' = putTr (putArch h o s') r b (sLen t' 0)) xno 0 0) 71 [some (.ref r), some (.ref o), some (.int (nI x)), v3] [] (putTr (putArch h o s') r b t') 0 0 := by
    intro t' s' x hx v3
    subst hx
    refine x_iload_n dX4_readText_71 rfl ?_
    refine x_if_eq_n 86 dX4_readText_72 (by decide) (by omega) (fun c1 => ?_) (fun c1 => ?_)
    · refine x_iconst (nI 0) dX4_readText_86 (by decide) ?_
      refine x_istore_n dX4_readText_87 (by decide) rfl rfl ?_
      refine x_aload_n dX4_readText_88 rfl ?_
      refine x_iconst (nI 0) dX4_readText_89 (by decide) ?_
      refine xq_X4_length dX4_readText_90 f_X4_15 ?_
      refine x_iload_n dX4_readText_93 rfl ?_
      exact x_iret .boolean dX4_readText_94 rfl rfl (by decide) (by decide) (rfl) (rfl)
    · omega
  have fin0 : ∀ (t' : Tr) (s' : Ar) (v2 v3 : Option Value), xP g l mX4_readText [] (xR 7 0 0) (xZ g (fun r' h' => r' = some (.int (xb false)) ∧ h' = putTr (putArch h o s') r b (sLen t' 0)) xno 0 0) 35 [some (.ref r), some (.ref o), v2, v3] [] (putTr (putArch h o s') r b t') 0 0 := by
    intro t' s' v2 v3
    refine x_iconst (nI 0) dX4_readText_35 (by decide) ?_
    refine x_istore_n dX4_readText_36 (by decide) (by cases v2 <;> cases v3 <;> rfl) rfl ?_
    refine x_iconst (nI 0) dX4_readText_37 (by decide) ?_
    refine x_istore_n dX4_readText_38 (by decide) (by cases v2 <;> cases v3 <;> rfl) rfl ?_
    refine x_iload_n dX4_readText_39 rfl ?_
    refine x_sipush (nI 600) dX4_readText_40 (by decide) ?_
    refine x_icmp_ge_n 71 dX4_readText_43 (by decide) (by omega) (by omega) (fun c1 => ?_) (fun c1 => ?_)
    · omega
    · refine x_iload_n dX4_readText_46 rfl ?_
      refine x_if_eq_n 71 dX4_readText_47 (by decide) (by omega) (fun c2 => ?_) (fun c2 => ?_)
      · exact xP.weak (by simp [xle, xset1, fin3]) (fin t' s' 0 rfl none)
      · omega
  refine x_aload_n dX4_readText_15 rfl ?_
  refine x_aload_n dX4_readText_16 rfl ?_
  refine x_vi0 dX4_readText_17 cV_X4_38 (c_readHead hm9 hd hb h0) rfl rfl ⟨⟨by decide, by decide⟩, by decide, by decide⟩ (Nat.le_of_ble_eq_true rfl) (xrecv putTr_at.o rfl xcl3) ?_
  refine x_if_eq_b 35 dX4_readText_20 (by decide) (fun c1 => ?_) (fun c1 => ?_)
  · rw [if_neg (by rw [c1]; decide)]
    exact fin0 _ _ _ _
  rw [if_pos c1]
  have hw1 := h1.2 c1
  have h2 := rdNs_ok (b := b) m h1.1 hw1
  refine x_aload_n dX4_readText_23 rfl ?_
  refine x_aload_n dX4_readText_24 rfl ?_
  refine x_vi0 dX4_readText_25 cV_X4_42 (c_readNeighbours hm hw1 hd hb h1.1) rfl rfl ⟨⟨by decide, by decide⟩, by decide, by decide⟩ (Nat.le_of_ble_eq_true rfl) (xrecv putTr_at.o rfl xcl3) ?_
  refine x_if_eq_b 35 dX4_readText_28 (by decide) (fun c2 => ?_) (fun c2 => ?_)
  · rw [if_neg (by rw [c2]; decide)]
    exact fin0 _ _ _ _
  rw [if_pos c2]
  refine x_iconst (nI 1) dX4_readText_31 (by decide) ?_
  refine x_goto 36 dX4_readText_32 (by decide) ?_
  refine x_istore_n dX4_readText_36 (by decide) rfl rfl ?_
  refine x_iconst (nI 0) dX4_readText_37 (by decide) ?_
  refine x_istore_n dX4_readText_38 (by decide) rfl rfl ?_
  have key : ∀ (f n : Nat) (t : Tr) (st : Ar), f + n = 600 → trOk t → aW st → xP g l mX4_readText [] (xR 7 0 0) (xZ g (fun r' h' => r' = some (.int (xb (finS b (rdPs b m f t st)).1)) ∧ h' = putTr (putArch h o (finS b (rdPs b m f t st)).2.2) r b (finS b (rdPs b m f t st)).2.1) xno 0 0) 39 [some (.ref r), some (.ref o), some (.int (nI 1)), some (.int (nI n))] [] (putTr (putArch h o st) r b t) 0 0 := by
    have done : ∀ (t : Tr) (st : Ar) (v3 : Option Value), trOk t → xP g l mX4_readText [] (xR 7 0 0) (xZ g (fun r' h' => r' = some (.int (xb (finS b (true, t, st)).1)) ∧ h' = putTr (putArch h o (finS b (true, t, st)).2.2) r b (finS b (true, t, st)).2.1) xno 0 0) 71 [some (.ref r), some (.ref o), some (.int (nI 1)), v3] [] (putTr (putArch h o st) r b t) 0 0 := by
      intro t st v3 ht
      unfold finS
      rw [if_pos rfl]
      dsimp only
      refine x_iload_n dX4_readText_71 rfl ?_
      refine x_if_eq_n 86 dX4_readText_72 (by decide) (by omega) (fun c3 => ?_) (fun c3 => ?_)
      · exact absurd c3 (by decide)
      · refine x_aload_n dX4_readText_75 rfl ?_
        refine x_vi0 dX4_readText_76 cV_X4_54 (c_needEnd hb ht) rfl rfl ⟨⟨by decide, by decide⟩, by decide, by decide⟩ (Nat.le_of_ble_eq_true rfl) (xrecv putTr_at.o rfl xcl3) ?_
        refine x_if_eq_b 86 dX4_readText_79 (by decide) (fun c4 => ?_) (fun c4 => ?_)
        · refine x_iconst (nI 0) dX4_readText_86 (by decide) ?_
          refine x_istore_n dX4_readText_87 (by decide) rfl rfl ?_
          refine x_aload_n dX4_readText_88 rfl ?_
          refine x_iconst (nI 0) dX4_readText_89 (by decide) ?_
          refine xq_X4_length dX4_readText_90 f_X4_15 ?_
          refine x_iload_n dX4_readText_93 rfl ?_
          exact x_iret .boolean dX4_readText_94 rfl rfl (by decide) (by decide) (by rw [c4]; rfl) (rfl)
        · refine x_iconst (nI 1) dX4_readText_82 (by decide) ?_
          refine x_goto 87 dX4_readText_83 (by decide) ?_
          refine x_istore_n dX4_readText_87 (by decide) rfl rfl ?_
          refine x_aload_n dX4_readText_88 rfl ?_
          refine x_iconst (nI 0) dX4_readText_89 (by decide) ?_
          refine xq_X4_length dX4_readText_90 f_X4_15 ?_
          refine x_iload_n dX4_readText_93 rfl ?_
          exact x_iret .boolean dX4_readText_94 rfl rfl (by decide) (by decide) (by rw [c4]; rfl) (rfl)
    intro f
    induction f with
    | zero =>
      intro n t st hf ht hw
      rw [rdPs]
      refine x_iload_n dX4_readText_39 rfl ?_
      refine x_sipush (nI 600) dX4_readText_40 (by decide) ?_
      refine x_icmp_ge_n 71 dX4_readText_43 (by decide) (by omega) (by omega) (fun c => ?_) (fun c => ?_)
      · exact done t st _ ht
      · omega
    | succ f ih =>
      intro n t st hf ht hw
      have q1 := (tkW_ok (b := b) (W := W3) ht).1
      have q2 := rdPic_ok (b := b) (m := m) q1 hw
      rw [rdPs]
      refine x_iload_n dX4_readText_39 rfl ?_
      refine x_sipush (nI 600) dX4_readText_40 (by decide) ?_
      refine x_icmp_ge_n 71 dX4_readText_43 (by decide) (by omega) (by omega) (fun c8 => ?_) (fun c8 => ?_)
      · omega
      · refine x_iload_n dX4_readText_46 rfl ?_
        refine x_if_eq_n 71 dX4_readText_47 (by decide) (by omega) (fun c3 => ?_) (fun c3 => ?_)
        · exact absurd c3 (by decide)
        · refine x_aload_n dX4_readText_50 rfl ?_
          refine x_ldcS (j := 3) rfl rfl rfl dX4_readText_51 ?_
          refine x_vi0 dX4_readText_53 cV_X4_47 (c_takeWord xw3 hb ht) rfl rfl ⟨⟨by decide, by decide⟩, by decide, by decide⟩ (Nat.le_of_ble_eq_true rfl) (xrecv putTr_at.o rfl xcl3) ?_
          refine x_if_eq_b 71 dX4_readText_56 (by decide) (fun c4 => ?_) (fun c4 => ?_)
          · rw [if_neg (show ¬ (tkW b W3 t).1 = true by rw [c4]; decide)]
            exact done _ st _ q1
          · rw [if_pos c4]
            refine x_aload_n dX4_readText_59 rfl ?_
            refine x_aload_n dX4_readText_60 rfl ?_
            refine x_vi0 dX4_readText_61 cV_X4_51 (c_readPicture hm hw hd hb q1) rfl rfl ⟨⟨by decide, by decide⟩, by decide, by decide⟩ (Nat.le_of_ble_eq_true rfl) (xrecv putTr_at.o rfl xcl3) ?_
            cases c5 : (rdPic b m (tkW b W3 t).2 st).1 with
            | true =>
              rw [if_pos rfl]
              refine x_istore_n dX4_readText_64 (by decide) rfl rfl ?_
              refine x_iinc_n (k := 1) dX4_readText_65 rfl (by decide) (by decide) rfl rfl ?_
              refine x_goto 39 dX4_readText_68 (by decide) ?_
              exact xP.weak (by simp [xle, xset1, fin3]; rfl) (ih (n + 1) _ _ (by omega) q2.1 q2.2)
            | false =>
              rw [if_neg (by decide)]
              unfold finS
              rw [if_neg (show ¬ (rdPic b m (tkW b W3 t).2 st).1 = true by rw [c5]; decide)]
              refine x_istore_n dX4_readText_64 (by decide) rfl rfl ?_
              refine x_iinc_n (k := 1) dX4_readText_65 rfl (by decide) (by decide) rfl rfl ?_
              refine x_goto 39 dX4_readText_68 (by decide) ?_
              refine x_iload_n dX4_readText_39 rfl ?_
              refine x_sipush (nI 600) dX4_readText_40 (by decide) ?_
              refine x_icmp_ge_n 71 dX4_readText_43 (by decide) (by omega) (by omega) (fun c6 => ?_) (fun c6 => ?_)
              · exact xP.weak (by simp [xle, xset1, fin3]; rfl) (fin _ _ 0 rfl none)
              · refine x_iload_n dX4_readText_46 rfl ?_
                refine x_if_eq_b 71 dX4_readText_47 (by decide) (fun c7 => ?_) (fun c7 => ?_)
                · exact xP.weak (by simp [xle, xset1, fin3]; rfl) (fin _ _ 0 rfl none)
                · cases c7
  exact xP.weak (by simp [xle, xset1, fin3]) (key m 0 _ _ hm h2.1 h2.2)
end T9
