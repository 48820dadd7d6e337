/-! ===== TextReader: neighbours, tiles, copies ===== -/
theorem rdNs_ok {b : Nat → Nat} : ∀ f {t : Tr} {st : Ar}, trOk t → aW st → trOk (rdNs b f t st).2.1 ∧ aW (rdNs b f t st).2.2 := by
  intro f
  induction f with
  | zero => intro t st ht hw; exact ⟨ht, hw⟩
  | succ f ih =>
    intro t st ht hw
    have h1 := (tkW_ok (b := b) (W := W2) ht).1
    have h2 := rdN1_ok (b := b) h1 hw
    rw [rdNs]
    split
    · split
      · exact ih h2.1 h2.2
      · exact h2
    · exact ⟨h1, hw⟩
section T6
variable {g : xG} {l : Launch} {h : xH} {o r : Nat} {b : Nat → Nat} {t : Tr} {st : Ar}
theorem c_readNeighbours {m : Nat} (hm : m = 600) (hw : aW st) (hd : r + 2 ≤ o ∨ o + 12 ≤ r) (hb : ∀ k, b k < 256) (ht : trOk t) : xDet g l mX4_readNeighbours 5 0 0 [.ref r, .ref o] (putTr (putArch h o st) r b t) (some (.int (xb (rdNs b m t st).1))) (putTr (putArch h o (rdNs b m t st).2.2) r b (rdNs b m t st).2.1) := by
  refine xMet.of (V := [some (.ref r), some (.ref o), none, none, none]) moX4_readNeighbours (Nat.le_of_ble_eq_true rfl) rfl ?_
  refine x_iconst (nI 0) dX4_readNeighbours_0 (by decide) ?_
  refine x_istore_n dX4_readNeighbours_1 (by decide) rfl rfl ?_
  have key : ∀ (f n : Nat) (t : Tr) (st : Ar), f + n = 600 → trOk t → aW st → xP g l mX4_readNeighbours [] (xR 5 0 0) (xZ g (fun r' h' => r' = some (.int (xb (rdNs b f t st).1)) ∧ h' = putTr (putArch h o (rdNs b f t st).2.2) r b (rdNs b f t st).2.1) xno 0 0) 2 [some (.ref r), some (.ref o), some (.int (nI n)), none, none] [] (putTr (putArch h o st) r b t) 0 0 := by
    intro f
    induction f with
    | zero =>
      intro n t st hf ht hw
      refine x_iload_n dX4_readNeighbours_2 rfl ?_
      refine x_sipush (nI 600) dX4_readNeighbours_3 (by decide) ?_
      refine x_icmp_ge_n 97 dX4_readNeighbours_6 (by decide) (by omega) (by omega) (fun c => ?_) (fun c => ?_)
      · refine x_iconst (nI 1) dX4_readNeighbours_97 (by decide) ?_
        exact x_iret .boolean dX4_readNeighbours_98 rfl rfl (by decide) (by decide) (rfl) (rfl)
      · omega
    | succ f ih =>
      intro n t st hf ht hw
      have h1 := (tkW_ok (b := b) (W := W2) ht).1
      have h2 := rdN1_ok (b := b) h1 hw
      rw [rdNs]
      refine x_iload_n dX4_readNeighbours_2 rfl ?_
      refine x_sipush (nI 600) dX4_readNeighbours_3 (by decide) ?_
      refine x_icmp_ge_n 97 dX4_readNeighbours_6 (by decide) (by omega) (by omega) (fun c => ?_) (fun c => ?_)
      · omega
      · refine x_aload_n dX4_readNeighbours_9 rfl ?_
        refine x_ldcS (j := 2) rfl rfl rfl dX4_readNeighbours_10 ?_
        refine x_vi0 dX4_readNeighbours_12 cV_X4_47 (c_takeWord xw2 hb ht) rfl rfl ⟨⟨by decide, by decide⟩, by decide, by decide⟩ (Nat.le_of_ble_eq_true rfl) (xrecv putTr_at.o rfl xcl3) ?_
        refine x_if_eq_b 97 dX4_readNeighbours_15 (by decide) (fun c1 => ?_) (fun c1 => ?_)
        · rw [if_neg (by rw [c1]; decide)]
          refine x_iconst (nI 1) dX4_readNeighbours_97 (by decide) ?_
          exact x_iret .boolean dX4_readNeighbours_98 rfl rfl (by decide) (by decide) (rfl) (rfl)
        · rw [if_pos c1]
          refine c_near1 hw hd hb h1 (fun c2 => ?_) (fun c2 V => ?_) (fun c2 V => ?_) (fun c2 V => ?_)
          · rw [if_pos c2]
            refine x_iinc_n (k := 1) dX4_readNeighbours_91 rfl (by decide) (by decide) rfl rfl ?_
            refine x_goto 2 dX4_readNeighbours_94 (by decide) ?_
            exact xP.weak (by simp [xle, xset1, fin3]) (ih (n + 1) _ _ (by omega) h2.1 h2.2)
          · rw [if_neg (by rw [c2]; decide)]
            exact x_iret .boolean dX4_readNeighbours_47 rfl rfl (by decide) (by decide) (by rw [c2]; rfl) (rfl)
          · rw [if_neg (by rw [c2]; decide)]
            exact x_bret dX4_readNeighbours_74 rfl (by decide) (by decide) (by rw [c2]) (rfl)
          · rw [if_neg (by rw [c2]; decide)]
            exact x_iret .boolean dX4_readNeighbours_90 rfl rfl (by decide) (by decide) (by rw [c2]; rfl) (rfl)
  exact xP.weak (by simp [xle, xset1, fin3]) (key m 0 t st hm ht hw)
def ndTl (b : Nat → Nat) (T : Nat) : Nat → Nat → Nat → Tr → Option Nat × Tr
  | 0, _, s, t => (some s, t)
  | f + 1, n, s, t =>
    if n = 0 ∨ digAt b t.1.1 (skp b t.1.1 t.2.1) = true then
      if (ndD b 0 (T - 1) (if n = 0 then t else trSk b t)).1 = true then
        if s.testBit (ndD b 0 (T - 1) (if n = 0 then t else trSk b t)).2.2.2.2.1 = true then (none, trFail (ndD b 0 (T - 1) (if n = 0 then t else trSk b t)).2 (-5) (nI (ndD b 0 (T - 1) (if n = 0 then t else trSk b t)).2.2.2.1))
        else ndTl b T f (n + 1) (s ||| 2 ^ (ndD b 0 (T - 1) (if n = 0 then t else trSk b t)).2.2.2.2.1) (ndD b 0 (T - 1) (if n = 0 then t else trSk b t)).2
      else (none, (ndD b 0 (T - 1) (if n = 0 then t else trSk b t)).2)
    else (some s, trSk b t)
theorem ndTl_ok {T : Nat} (hT : 1 ≤ T) : ∀ f n s t, s < 2 ^ T → trOk t → trOk (ndTl b T f n s t).2 ∧ ∀ x, (ndTl b T f n s t).1 = some x → x < 2 ^ T := by
  intro f
  induction f with
  | zero => intro n s t hs ht; exact ⟨ht, fun x q => by cases q; exact hs⟩
  | succ f ih =>
    intro n s t hs ht
    have h0 : trOk (if n = 0 then t else trSk b t) := by
      split
      · exact ht
      · exact trSk_ok ht
    have hsk : trOk (trSk b t) := trSk_ok ht
    rw [ndTl]
    generalize (if n = 0 then t else trSk b t) = t0 at h0 ⊢
    have h1 := ndD_ok (b := b) (lo := 0) (hi := T - 1) h0
    split
    · split
      · rename_i c
        split
        · exact ⟨h1.1, fun x q => by cases q⟩
        · exact ih _ _ _ (or_lt hs (by have := (h1.2 c).2; omega)) h1.1
      · exact ⟨h1.1, fun x q => by cases q⟩
    · exact ⟨hsk, fun x q => by cases q; exact hs⟩
theorem c_needTiles {T : Nat} (hT : 1 ≤ T ∧ T ≤ 16) (hb : ∀ k, b k < 256) (ht : trOk t) : xDet g l mX4_needTiles 2 0 0 [.ref r, .int (nI T)] (putTr h r b t) (some (.int (oI (ndTl b T (T + 1) 0 0 t).1))) (putTr h r b (ndTl b T (T + 1) 0 0 t).2) := by
  refine xMet.of (V := [some (.ref r), some (.int (nI T)), none, none]) moX4_needTiles (Nat.le_of_ble_eq_true rfl) rfl ?_
  refine x_iconst (nI 0) dX4_needTiles_0 (by decide) ?_
  refine x_istore_n dX4_needTiles_1 (by decide) rfl rfl ?_
  refine x_iconst (nI 0) dX4_needTiles_2 (by decide) ?_
  refine x_istore_n dX4_needTiles_3 (by decide) rfl rfl ?_
  have hT2 : 2 ^ T ≤ 65536 := pow_le2 (a := T) (b := 16) hT.2
  have key : ∀ (f n s : Nat) (t : Tr), f + n = T + 1 → s < 2 ^ T → trOk t → xP g l mX4_needTiles [] (xR 2 0 0) (xZ g (fun r' h' => r' = some (.int (oI (ndTl b T f n s t).1)) ∧ h' = putTr h r b (ndTl b T f n s t).2) xno 0 0) 4 [some (.ref r), some (.int (nI T)), some (.int (nI s)), some (.int (nI n))] [] (putTr h r b t) 0 0 := by
    intro f
    induction f with
    | zero =>
      intro n s t hf hs ht
      refine x_iload_n dX4_needTiles_4 rfl ?_
      refine x_iload_n dX4_needTiles_5 rfl ?_
      refine x_icmp_gt_n 72 dX4_needTiles_6 (by decide) (by omega) (by omega) (fun c => ?_) (fun c => ?_)
      · refine x_iload_n dX4_needTiles_72 rfl ?_
        exact x_iret .int dX4_needTiles_73 rfl rfl (by decide) (by decide) (rfl) (rfl)
      · omega
    | succ f ih =>
      intro n s t hf hs ht
      have h0 : trOk (if n = 0 then t else trSk b t) := by
        split
        · exact ht
        · exact trSk_ok ht
      rw [ndTl]
      have body : (n = 0 ∨ digAt b t.1.1 (skp b t.1.1 t.2.1) = true) → ∀ t0, t0 = (if n = 0 then t else trSk b t) → xP g l mX4_needTiles [] (xR 2 0 0) (xZ g (fun r' h' => r' = some (.int (oI (if n = 0 ∨ digAt b t.1.1 (skp b t.1.1 t.2.1) = true then
      if (ndD b 0 (T - 1) (if n = 0 then t else trSk b t)).1 = true then
        if s.testBit (ndD b 0 (T - 1) (if n = 0 then t else trSk b t)).2.2.2.2.1 = true then (none, trFail (ndD b 0 (T - 1) (if n = 0 then t else trSk b t)).2 (-5) (nI (ndD b 0 (T - 1) (if n = 0 then t else trSk b t)).2.2.2.1))
        else ndTl b T f (n + 1) (s ||| 2 ^ (ndD b 0 (T - 1) (if n = 0 then t else trSk b t)).2.2.2.2.1) (ndD b 0 (T - 1) (if n = 0 then t else trSk b t)).2
      else (none, (ndD b 0 (T - 1) (if n = 0 then t else trSk b t)).2)
    else (some s, trSk b t)).1)) ∧ h' = putTr h r b (if n = 0 ∨ digAt b t.1.1 (skp b t.1.1 t.2.1) = true then
      if (ndD b 0 (T - 1) (if n = 0 then t else trSk b t)).1 = true then
        if s.testBit (ndD b 0 (T - 1) (if n = 0 then t else trSk b t)).2.2.2.2.1 = true then (none, trFail (ndD b 0 (T - 1) (if n = 0 then t else trSk b t)).2 (-5) (nI (ndD b 0 (T - 1) (if n = 0 then t else trSk b t)).2.2.2.1))
        else ndTl b T f (n + 1) (s ||| 2 ^ (ndD b 0 (T - 1) (if n = 0 then t else trSk b t)).2.2.2.2.1) (ndD b 0 (T - 1) (if n = 0 then t else trSk b t)).2
      else (none, (ndD b 0 (T - 1) (if n = 0 then t else trSk b t)).2)
    else (some s, trSk b t)).2) xno 0 0) 20 [some (.ref r), some (.int (nI T)), some (.int (nI s)), some (.int (nI n))] [] (putTr h r b t0) 0 0 := by
        intro c0 t0 ht0
        rw [if_pos c0, ← ht0]
        rw [← ht0] at h0
        have h1 := ndD_ok (b := b) (lo := 0) (hi := T - 1) h0
        refine x_aload_n dX4_needTiles_20 rfl ?_
        refine x_iconst (nI 0) dX4_needTiles_21 (by decide) ?_
        refine x_iload_n dX4_needTiles_22 rfl ?_
        refine x_iconst (nI 1) dX4_needTiles_23 (by decide) ?_
        refine x_isub_n dX4_needTiles_24 (by omega) ?_
        refine x_vi0 dX4_needTiles_25 cV_X4_63 (c_needNumber hb h0 (by decide) (by omega)) rfl rfl ⟨⟨by decide, by decide⟩, by decide, by decide⟩ (Nat.le_of_ble_eq_true rfl) (xrecv putTr_at.o rfl xcl3) ?_
        refine x_if_ne_b 33 dX4_needTiles_28 (by decide) (fun c1 => ?_) (fun c1 => ?_)
        rotate_left
        · rw [if_neg (by rw [c1]; decide)]
          refine x_iconst (-1) dX4_needTiles_31 (by decide) ?_
          exact x_iret .int dX4_needTiles_32 rfl rfl (by decide) (by decide) (rfl) (rfl)
        rw [if_pos c1]
        have h2 := (h1.2 c1).2
        have hbt := bit_lt s (ndD b 0 (T - 1) t0).2.2.2.2.1
        refine x_iload_n dX4_needTiles_33 rfl ?_
        refine x_aload_n dX4_needTiles_34 rfl ?_
        refine x_getf dX4_needTiles_35 f_X4_31 putTr_at.o rfl ?_
        refine x_iushr_n dX4_needTiles_38 (by omega) (by omega) ?_
        refine x_iconst (nI 1) dX4_needTiles_39 (by decide) ?_
        refine x_iand_n dX4_needTiles_40 ?_
        refine x_if_eq_n 57 dX4_needTiles_41 (by decide) (by omega) (fun c2 => ?_) (fun c2 => ?_)
        · rw [if_neg (by rw [bit0 c2]; decide)]
          refine x_iload_n dX4_needTiles_57 rfl ?_
          refine x_iconst (nI 1) dX4_needTiles_58 (by decide) ?_
          refine x_aload_n dX4_needTiles_59 rfl ?_
          refine x_getf dX4_needTiles_60 f_X4_31 putTr_at.o rfl ?_
          refine x_ishl1_n dX4_needTiles_63 (by omega) ?_
          refine x_ior_n dX4_needTiles_64 ?_
          refine x_istore_n dX4_needTiles_65 (by decide) rfl rfl ?_
          refine x_iinc_n (k := 1) dX4_needTiles_66 rfl (by decide) (by decide) rfl rfl ?_
          refine x_goto 4 dX4_needTiles_69 (by decide) ?_
          exact xP.weak (by simp [xle, xset1, fin3]) (ih (n + 1) _ _ (by omega) (or_lt hs (by omega)) h1.1)
        · rw [if_pos (bit1 c2)]
          refine x_aload_n dX4_needTiles_44 rfl ?_
          refine x_bipush (-5) dX4_needTiles_45 (by decide) ?_
          refine x_aload_n dX4_needTiles_47 rfl ?_
          refine x_getf dX4_needTiles_48 f_X4_28 putTr_at.o rfl ?_
          refine x_vi0 dX4_needTiles_51 cV_X4_78 (c_fail) rfl rfl ⟨⟨by decide, by decide⟩, by decide, by decide⟩ (Nat.le_of_ble_eq_true rfl) (xrecv putTr_at.o rfl xcl3) ?_
          refine x_pop dX4_needTiles_54 rfl ?_
          refine x_iconst (-1) dX4_needTiles_55 (by decide) ?_
          exact x_iret .int dX4_needTiles_56 rfl rfl (by decide) (by decide) (rfl) (rfl)
      refine x_iload_n dX4_needTiles_4 rfl ?_
      refine x_iload_n dX4_needTiles_5 rfl ?_
      refine x_icmp_gt_n 72 dX4_needTiles_6 (by decide) (by omega) (by omega) (fun c0 => ?_) (fun c0 => ?_)
      · omega
      · refine x_iload_n dX4_needTiles_9 rfl ?_
        refine x_if_eq_n 20 dX4_needTiles_10 (by decide) (by omega) (fun c1 => ?_) (fun c1 => ?_)
        · exact body (Or.inl c1) t (by rw [if_pos c1])
        · refine x_aload_n dX4_needTiles_13 rfl ?_
          refine x_vi0 dX4_needTiles_14 cV_X4_150 (c_isDigitNext hb ht) rfl rfl ⟨⟨by decide, by decide⟩, by decide, by decide⟩ (Nat.le_of_ble_eq_true rfl) (xrecv putTr_at.o rfl xcl3) ?_
          refine x_if_eq_b 72 dX4_needTiles_17 (by decide) (fun c2 => ?_) (fun c2 => ?_)
          · rw [if_neg (by rw [c2]; simp; omega)]
            refine x_iload_n dX4_needTiles_72 rfl ?_
            exact x_iret .int dX4_needTiles_73 rfl rfl (by decide) (by decide) (rfl) (rfl)
          · exact body (Or.inr c2) (trSk b t) (by rw [if_neg (by omega)])
  exact xP.weak (by simp [xle, xset1, fin3]) (key (T + 1) 0 0 t rfl (Nat.two_pow_pos _) ht)
end T6
