/-! ===== TextReader: tokens ===== -/
def digAt (b : Nat → Nat) (n k : Nat) : Bool := decide (k < n) && isDg (b k)
section T2
variable {g : xG} {l : Launch} {h : xH} {r : Nat} {b : Nat → Nat} {t : Tr}
theorem c_wordEnd (hb : ∀ k, b k < 256) (ht : trOk t) : xDet g l mX4_wordEnd 0 0 0 [.ref r] (putTr h r b t) (some (.int (nI (wEnd b t.1.1 t.2.1)))) (putTr h r b t) := by
  obtain ⟨hl, hp⟩ := ht
  refine xMet.of (V := [some (.ref r), none]) moX4_wordEnd (Nat.le_of_ble_eq_true rfl) rfl ?_
  refine x_aload_n dX4_wordEnd_0 rfl ?_
  refine x_getf dX4_wordEnd_1 f_X4_25 putTr_at.o rfl ?_
  refine x_istore_n dX4_wordEnd_4 (by decide) rfl rfl ?_
  have key : ∀ (f k : Nat), f = t.1.1 - k → k ≤ t.1.1 → xP g l mX4_wordEnd [] (xR 0 0 0) (xZ g (fun r' h' => r' = some (.int (nI (runF (fun i => isLt (b i)) f k))) ∧ h' = putTr h r b t) xno 0 0) 5 [some (.ref r), some (.int (nI k))] [] (putTr h r b t) 0 0 := by
    intro f
    induction f with
    | zero =>
      intro k hf hk
      refine x_iload_n dX4_wordEnd_5 rfl ?_
      refine x_aload_n dX4_wordEnd_6 rfl ?_
      refine x_getf dX4_wordEnd_7 f_X4_15 putTr_at.o rfl ?_
      refine x_icmp_ge_n 43 dX4_wordEnd_10 (by decide) (by omega) (by omega) (fun c => ?_) (fun c => ?_)
      · refine x_aload_n dX4_wordEnd_43 rfl ?_
        refine x_getf dX4_wordEnd_44 f_X4_15 putTr_at.o rfl ?_
        exact x_iret .int dX4_wordEnd_47 rfl rfl (by decide) (by decide) (by rw [runF]; congr 3; omega) (rfl)
      · omega
    | succ f ih =>
      intro k hf hk
      rw [runF]
      have hl1 := sb_let (hb k)
      refine x_iload_n dX4_wordEnd_5 rfl ?_
      refine x_aload_n dX4_wordEnd_6 rfl ?_
      refine x_getf dX4_wordEnd_7 f_X4_15 putTr_at.o rfl ?_
      refine x_icmp_ge_n 43 dX4_wordEnd_10 (by decide) (by omega) (by omega) (fun c => ?_) (fun c => ?_)
      · omega
      · refine x_aload_n dX4_wordEnd_13 rfl ?_
        refine x_getf dX4_wordEnd_14 f_X4_9 putTr_at.o rfl ?_
        refine x_iload_n dX4_wordEnd_17 rfl ?_
        refine x_bald dX4_wordEnd_18 putTr_at.text (by omega) (by decide) ?_
        refine x_bipush (nI 97) dX4_wordEnd_19 (by decide) ?_
        refine x_icmp_lt 35 dX4_wordEnd_21 (by decide) (fun c1 => ?_) (fun c1 => ?_)
        · rw [if_neg (fun q => (hl1.mp q).1 c1)]
          refine x_iload_n dX4_wordEnd_35 rfl ?_
          exact x_iret .int dX4_wordEnd_36 rfl rfl (by decide) (by decide) (rfl) (rfl)
        · refine x_aload_n dX4_wordEnd_24 rfl ?_
          refine x_getf dX4_wordEnd_25 f_X4_9 putTr_at.o rfl ?_
          refine x_iload_n dX4_wordEnd_28 rfl ?_
          refine x_bald dX4_wordEnd_29 putTr_at.text (by omega) (by decide) ?_
          refine x_bipush (nI 122) dX4_wordEnd_30 (by decide) ?_
          refine x_icmp_le 37 dX4_wordEnd_32 (by decide) (fun c2 => ?_) (fun c2 => ?_)
          · rw [if_pos (hl1.mpr ⟨c1, c2⟩)]
            refine x_iinc_n (k := 1) dX4_wordEnd_37 rfl (by decide) (by decide) rfl rfl ?_
            refine x_goto 5 dX4_wordEnd_40 (by decide) ?_
            exact xP.weak (by simp [xle, xset1, fin3]) (ih (k + 1) (by omega) (by omega))
          · rw [if_neg (fun q => c2 (hl1.mp q).2)]
            refine x_iload_n dX4_wordEnd_35 rfl ?_
            exact x_iret .int dX4_wordEnd_36 rfl rfl (by decide) (by decide) (rfl) (rfl)
  exact key (t.1.1 - t.2.1) t.2.1 rfl hp
theorem c_isDigitAt (hb : ∀ k, b k < 256) (ht : t.1.1 ≤ 600) {k : Nat} (hk : k < 1000) : xDet g l mX4_isDigitAt 0 0 0 [.ref r, .int (nI k)] (putTr h r b t) (some (.int (xb (digAt b t.1.1 k)))) (putTr h r b t) := by
  have hd := sb_dig (hb k)
  have e0 : t.1.1 ≤ k → digAt b t.1.1 k = false := fun q => by unfold digAt; rw [decide_eq_false (by omega)]; rfl
  have e1 : isDg (b k) = false → digAt b t.1.1 k = false := fun q => by unfold digAt; rw [q, Bool.and_false]
  have e2 : k < t.1.1 → isDg (b k) = true → digAt b t.1.1 k = true := fun q1 q2 => by unfold digAt; rw [q2, decide_eq_true q1]; rfl
  refine xMet.of (V := [some (.ref r), some (.int (nI k))]) moX4_isDigitAt (Nat.le_of_ble_eq_true rfl) rfl ?_
  refine x_iload_n dX4_isDigitAt_0 rfl ?_
  refine x_aload_n dX4_isDigitAt_1 rfl ?_
  refine x_getf dX4_isDigitAt_2 f_X4_15 putTr_at.o rfl ?_
  refine x_icmp_ge_n 34 dX4_isDigitAt_5 (by decide) (by omega) (by omega) (fun c1 => ?_) (fun c1 => ?_)
  · refine x_iconst (nI 0) dX4_isDigitAt_34 (by decide) ?_
    exact x_iret .boolean dX4_isDigitAt_35 rfl rfl (by decide) (by decide) (bool0 (e0 c1)) (rfl)
  · refine x_aload_n dX4_isDigitAt_8 rfl ?_
    refine x_getf dX4_isDigitAt_9 f_X4_9 putTr_at.o rfl ?_
    refine x_iload_n dX4_isDigitAt_12 rfl ?_
    refine x_bald dX4_isDigitAt_13 putTr_at.text (by omega) (by decide) ?_
    refine x_bipush (nI 48) dX4_isDigitAt_14 (by decide) ?_
    refine x_icmp_lt 34 dX4_isDigitAt_16 (by decide) (fun c2 => ?_) (fun c2 => ?_)
    · refine x_iconst (nI 0) dX4_isDigitAt_34 (by decide) ?_
      exact x_iret .boolean dX4_isDigitAt_35 rfl rfl (by decide) (by decide) (bool0 (e1 (by rw [← Bool.not_eq_true]; exact fun q => (hd.mp q).1 c2))) (rfl)
    · refine x_aload_n dX4_isDigitAt_19 rfl ?_
      refine x_getf dX4_isDigitAt_20 f_X4_9 putTr_at.o rfl ?_
      refine x_iload_n dX4_isDigitAt_23 rfl ?_
      refine x_bald dX4_isDigitAt_24 putTr_at.text (by omega) (by decide) ?_
      refine x_bipush (nI 57) dX4_isDigitAt_25 (by decide) ?_
      refine x_icmp_gt 34 dX4_isDigitAt_27 (by decide) (fun c3 => ?_) (fun c3 => ?_)
      · refine x_iconst (nI 0) dX4_isDigitAt_34 (by decide) ?_
        exact x_iret .boolean dX4_isDigitAt_35 rfl rfl (by decide) (by decide) (bool0 (e1 (by rw [← Bool.not_eq_true]; exact fun q => (hd.mp q).2 c3))) (rfl)
      · refine x_iconst (nI 1) dX4_isDigitAt_30 (by decide) ?_
        refine x_goto 35 dX4_isDigitAt_31 (by decide) ?_
        exact x_iret .boolean dX4_isDigitAt_35 rfl rfl (by decide) (by decide) (bool1 (e2 c1 (hd.mpr ⟨c2, c3⟩))) (rfl)
theorem c_isDigitNext (hb : ∀ k, b k < 256) (ht : trOk t) : xDet g l mX4_isDigitNext 1 0 0 [.ref r] (putTr h r b t) (some (.int (xb (digAt b t.1.1 (skp b t.1.1 t.2.1))))) (putTr h r b (trSk b t)) := by
  have h1 := trSk_ok (b := b) ht
  obtain ⟨t1, ht1⟩ : ∃ t1, t1 = trSk b t := ⟨_, rfl⟩
  have e1 : t1.1.1 = t.1.1 := by rw [ht1]; rfl
  have e2 : t1.2.1 = skp b t.1.1 t.2.1 := by rw [ht1]; rfl
  rw [← ht1] at h1 ⊢
  rw [← e2, ← e1]
  refine xMet.of (V := [some (.ref r)]) moX4_isDigitNext (Nat.le_of_ble_eq_true rfl) rfl ?_
  refine x_aload_n dX4_isDigitNext_0 rfl ?_
  refine x_vv0 dX4_isDigitNext_1 cV_X4_153 (c_skipSpaces hb ht) rfl rfl ⟨⟨by decide, by decide⟩, by decide, by decide⟩ (Nat.le_of_ble_eq_true rfl) (xrecv putTr_at.o rfl xcl3) ?_
  rw [← ht1]
  refine x_aload_n dX4_isDigitNext_4 rfl ?_
  refine x_aload_n dX4_isDigitNext_5 rfl ?_
  refine x_getf dX4_isDigitNext_6 f_X4_25 putTr_at.o rfl ?_
  refine x_vi0 dX4_isDigitNext_9 cV_X4_174 (c_isDigitAt hb h1.1 (by have := h1.1; have := h1.2; omega)) rfl rfl ⟨⟨by decide, by decide⟩, by decide, by decide⟩ (Nat.le_of_ble_eq_true rfl) (xrecv putTr_at.o rfl xcl3) ?_
  exact x_bret dX4_isDigitNext_12 rfl (by decide) (by decide) (rfl) (rfl)
def semS (b : Nat → Nat) (t : Tr) : Bool × Tr := if (trSk b t).2.1 < t.1.1 ∧ b (trSk b t).2.1 = 59 then (true, sPos (trSk b t) ((trSk b t).2.1 + 1)) else (false, trFail (trSk b t) (-2) (nI (trSk b t).2.1))
theorem c_needSemicolon (hb : ∀ k, b k < 256) (ht : trOk t) : xDet g l mX4_needSemicolon 1 0 0 [.ref r] (putTr h r b t) (some (.int (xb (semS b t).1))) (putTr h r b (semS b t).2) := by
  have h1 := trSk_ok (b := b) ht
  obtain ⟨t1, ht1⟩ : ∃ t1, t1 = trSk b t := ⟨_, rfl⟩
  have e1 : t1.1.1 = t.1.1 := by rw [ht1]; rfl
  unfold semS
  rw [← ht1] at h1 ⊢
  obtain ⟨hl, hp⟩ := h1
  refine xMet.of (V := [some (.ref r)]) moX4_needSemicolon (Nat.le_of_ble_eq_true rfl) rfl ?_
  refine x_aload_n dX4_needSemicolon_0 rfl ?_
  refine x_vv0 dX4_needSemicolon_1 cV_X4_153 (c_skipSpaces hb ht) rfl rfl ⟨⟨by decide, by decide⟩, by decide, by decide⟩ (Nat.le_of_ble_eq_true rfl) (xrecv putTr_at.o rfl xcl3) ?_
  rw [← ht1]
  refine x_aload_n dX4_needSemicolon_4 rfl ?_
  refine x_getf dX4_needSemicolon_5 f_X4_25 putTr_at.o rfl ?_
  refine x_aload_n dX4_needSemicolon_8 rfl ?_
  refine x_getf dX4_needSemicolon_9 f_X4_15 putTr_at.o rfl ?_
  refine x_icmp_ge_n 29 dX4_needSemicolon_12 (by decide) (by omega) (by omega) (fun c => ?_) (fun c => ?_)
  · rw [if_neg (by omega)]
    refine x_aload_n dX4_needSemicolon_29 rfl ?_
    refine x_bipush (-2) dX4_needSemicolon_30 (by decide) ?_
    refine x_aload_n dX4_needSemicolon_32 rfl ?_
    refine x_getf dX4_needSemicolon_33 f_X4_25 putTr_at.o rfl ?_
    refine x_vi0 dX4_needSemicolon_36 cV_X4_78 (c_fail) rfl rfl ⟨⟨by decide, by decide⟩, by decide, by decide⟩ (Nat.le_of_ble_eq_true rfl) (xrecv putTr_at.o rfl xcl3) ?_
    exact x_bret dX4_needSemicolon_39 rfl (by decide) (by decide) (rfl) (rfl)
  · have hs := sb_eq (hb t1.2.1) (show 59 < 128 by decide)
    refine x_aload_n dX4_needSemicolon_15 rfl ?_
    refine x_getf dX4_needSemicolon_16 f_X4_9 putTr_at.o rfl ?_
    refine x_aload_n dX4_needSemicolon_19 rfl ?_
    refine x_getf dX4_needSemicolon_20 f_X4_25 putTr_at.o rfl ?_
    refine x_bald dX4_needSemicolon_23 putTr_at.text (by omega) (by decide) ?_
    refine x_bipush (nI 59) dX4_needSemicolon_24 (by decide) ?_
    refine x_icmp_eq 40 dX4_needSemicolon_26 (by decide) (fun c1 => ?_) (fun c1 => ?_)
    · rw [if_pos ⟨by omega, hs.mp c1⟩]
      refine x_aload_n dX4_needSemicolon_40 rfl ?_
      refine x_dup dX4_needSemicolon_41 rfl ?_
      refine x_getf dX4_needSemicolon_42 f_X4_25 putTr_at.o rfl ?_
      refine x_iconst (nI 1) dX4_needSemicolon_45 (by decide) ?_
      refine x_iadd_n dX4_needSemicolon_46 ?_
      refine xq_X4_position dX4_needSemicolon_47 f_X4_25 ?_
      refine x_iconst (nI 1) dX4_needSemicolon_50 (by decide) ?_
      exact x_iret .boolean dX4_needSemicolon_51 rfl rfl (by decide) (by decide) (rfl) (rfl)
    · rw [if_neg (fun q => c1 (hs.mpr q.2))]
      refine x_aload_n dX4_needSemicolon_29 rfl ?_
      refine x_bipush (-2) dX4_needSemicolon_30 (by decide) ?_
      refine x_aload_n dX4_needSemicolon_32 rfl ?_
      refine x_getf dX4_needSemicolon_33 f_X4_25 putTr_at.o rfl ?_
      refine x_vi0 dX4_needSemicolon_36 cV_X4_78 (c_fail) rfl rfl ⟨⟨by decide, by decide⟩, by decide, by decide⟩ (Nat.le_of_ble_eq_true rfl) (xrecv putTr_at.o rfl xcl3) ?_
      exact x_bret dX4_needSemicolon_39 rfl (by decide) (by decide) (rfl) (rfl)
def endS (b : Nat → Nat) (t : Tr) : Bool × Tr := if (trSk b t).2.1 < t.1.1 then (false, trFail (trSk b t) (-2) (nI (trSk b t).2.1)) else (true, trSk b t)
theorem c_needEnd (hb : ∀ k, b k < 256) (ht : trOk t) : xDet g l mX4_needEnd 1 0 0 [.ref r] (putTr h r b t) (some (.int (xb (endS b t).1))) (putTr h r b (endS b t).2) := by
  have h1 := trSk_ok (b := b) ht
  obtain ⟨t1, ht1⟩ : ∃ t1, t1 = trSk b t := ⟨_, rfl⟩
  have e1 : t1.1.1 = t.1.1 := by rw [ht1]; rfl
  unfold endS
  rw [← ht1] at h1 ⊢
  obtain ⟨hl, hp⟩ := h1
  refine xMet.of (V := [some (.ref r)]) moX4_needEnd (Nat.le_of_ble_eq_true rfl) rfl ?_
  refine x_aload_n dX4_needEnd_0 rfl ?_
  refine x_vv0 dX4_needEnd_1 cV_X4_153 (c_skipSpaces hb ht) rfl rfl ⟨⟨by decide, by decide⟩, by decide, by decide⟩ (Nat.le_of_ble_eq_true rfl) (xrecv putTr_at.o rfl xcl3) ?_
  rw [← ht1]
  refine x_aload_n dX4_needEnd_4 rfl ?_
  refine x_getf dX4_needEnd_5 f_X4_25 putTr_at.o rfl ?_
  refine x_aload_n dX4_needEnd_8 rfl ?_
  refine x_getf dX4_needEnd_9 f_X4_15 putTr_at.o rfl ?_
  refine x_icmp_ge_n 28 dX4_needEnd_12 (by decide) (by omega) (by omega) (fun c => ?_) (fun c => ?_)
  · rw [if_neg (by omega)]
    refine x_iconst (nI 1) dX4_needEnd_28 (by decide) ?_
    refine x_goto 33 dX4_needEnd_29 (by decide) ?_
    exact x_iret .boolean dX4_needEnd_33 rfl rfl (by decide) (by decide) (rfl) (rfl)
  · rw [if_pos (by omega)]
    refine x_aload_n dX4_needEnd_15 rfl ?_
    refine x_bipush (-2) dX4_needEnd_16 (by decide) ?_
    refine x_aload_n dX4_needEnd_18 rfl ?_
    refine x_getf dX4_needEnd_19 f_X4_25 putTr_at.o rfl ?_
    refine x_vi0 dX4_needEnd_22 cV_X4_78 (c_fail) rfl rfl ⟨⟨by decide, by decide⟩, by decide, by decide⟩ (Nat.le_of_ble_eq_true rfl) (xrecv putTr_at.o rfl xcl3) ?_
    refine x_if_eq_b 32 dX4_needEnd_25 (by decide) (fun c1 => ?_) (fun c1 => ?_)
    · refine x_iconst (nI 0) dX4_needEnd_32 (by decide) ?_
      exact x_iret .boolean dX4_needEnd_33 rfl rfl (by decide) (by decide) (rfl) (rfl)
    · cases c1
/-! words -/
def mtB (b : Nat → Nat) (p : Nat) (W : List Nat) : Bool := (List.range W.length).all fun k => b (p + k) == W.getD k 0
def tkW (b : Nat → Nat) (W : List Nat) (t : Tr) : Bool × Tr :=
  if wEnd b t.1.1 (trSk b t).2.1 - (trSk b t).2.1 = W.length ∧ mtB b (trSk b t).2.1 W = true then (true, sPos (sTok (trSk b t) (trSk b t).2.1) (wEnd b t.1.1 (trSk b t).2.1)) else (false, trSk b t)
def xWd (j : Nat) (W : List Nat) : Prop := ∃ q, xStr[j]? = some q ∧ q.2.2.2 = W.map nI ∧ W.length < 256 ∧ ∀ c ∈ W, c < 128
theorem xWd_get {W : List Nat} {k : Nat} (hk : k < W.length) : (W.map nI).getD k 0 = nI (W.getD k 0) := by
  simp [List.getD_eq_getElem?_getD, hk]
theorem c_takeWord {j : Nat} {W : List Nat} (hW : xWd j W) (hb : ∀ k, b k < 256) (ht : trOk t) : xDet g l mX4_takeWord 4 0 0 [.ref r, .ref (gS g j)] (putTr h r b t) (some (.int (xb (tkW b W t).1))) (putTr h r b (tkW b W t).2) := by
  obtain ⟨q, hq, hqW, hWl, hWc⟩ := hW
  have hlen : q.2.2.2.length = W.length := by rw [hqW, List.length_map]
  have h1 := trSk_ok (b := b) ht
  obtain ⟨t1, ht1⟩ : ∃ t1, t1 = trSk b t := ⟨_, rfl⟩
  have e1 : t1.1.1 = t.1.1 := by rw [ht1]; rfl
  unfold tkW
  rw [← ht1] at h1 ⊢
  have hwe := wEnd_le (b := b) h1.2
  have hL : ∀ {h' : xH}, xDet g l mJ0_length_8abf5 1 0 0 [.ref (gS g j)] h' (some (.int (nI W.length))) h' := fun {h'} => by rw [← hlen]; exact c_length hq (by rw [hlen]; exact hWl)
  refine xMet.of (V := [some (.ref r), some (.ref (gS g j)), none, none]) moX4_takeWord (Nat.le_of_ble_eq_true rfl) rfl ?_
  refine x_aload_n dX4_takeWord_0 rfl ?_
  refine x_vv0 dX4_takeWord_1 cV_X4_153 (c_skipSpaces hb ht) rfl rfl ⟨⟨by decide, by decide⟩, by decide, by decide⟩ (Nat.le_of_ble_eq_true rfl) (xrecv putTr_at.o rfl xcl3) ?_
  rw [← ht1]
  refine x_aload_n dX4_takeWord_4 rfl ?_
  refine x_vi0 dX4_takeWord_5 cV_X4_156 (c_wordEnd hb h1) rfl rfl ⟨⟨by decide, by decide⟩, by decide, by decide⟩ (Nat.le_of_ble_eq_true rfl) (xrecv putTr_at.o rfl xcl3) ?_
  refine x_istore_n dX4_takeWord_8 (by decide) rfl rfl ?_
  refine x_iload_n dX4_takeWord_9 rfl ?_
  refine x_aload_n dX4_takeWord_10 rfl ?_
  refine x_getf dX4_takeWord_11 f_X4_25 putTr_at.o rfl ?_
  refine x_isub_n dX4_takeWord_14 (by omega) ?_
  refine x_aload_n dX4_takeWord_15 rfl ?_
  refine x_viS0 hq rfl dX4_takeWord_16 cV_X4_160 hL rfl rfl ⟨⟨by decide, by decide⟩, by decide, by decide⟩ (Nat.le_of_ble_eq_true rfl) ?_
  rw [e1] at hwe ⊢
  obtain ⟨hl, hp⟩ := h1
  rw [e1] at hp hl
  refine x_icmp_eq_n 24 dX4_takeWord_19 (by decide) (by omega) (by omega) (fun c1 => ?_) (fun c1 => ?_)
  rotate_left
  · rw [if_neg (fun q => c1 q.1)]
    refine x_iconst (nI 0) dX4_takeWord_22 (by decide) ?_
    exact x_iret .boolean dX4_takeWord_23 rfl rfl (by decide) (by decide) (rfl) (rfl)
  have key : ∀ (f k : Nat), f + k = W.length → (∀ i, i < k → b (t1.2.1 + i) = W.getD i 0) → xP g l mX4_takeWord [] (xR 4 0 0) (xZ g (fun r' h' => r' = some (.int (xb (if wEnd b t.1.1 t1.2.1 - t1.2.1 = W.length ∧ mtB b t1.2.1 W = true then (true, sPos (sTok t1 t1.2.1) (wEnd b t.1.1 t1.2.1)) else (false, t1)).1)) ∧ h' = putTr h r b (if wEnd b t.1.1 t1.2.1 - t1.2.1 = W.length ∧ mtB b t1.2.1 W = true then (true, sPos (sTok t1 t1.2.1) (wEnd b t.1.1 t1.2.1)) else (false, t1)).2) xno 0 0) 26 [some (.ref r), some (.ref (gS g j)), some (.int (nI (wEnd b t.1.1 t1.2.1))), some (.int (nI k))] [] (putTr h r b t1) 0 0 := by
    intro f
    induction f with
    | zero =>
      intro k hf hm
      have hmt : mtB b t1.2.1 W = true := by
        unfold mtB
        rw [List.all_eq_true]
        intro i hi
        rw [List.mem_range] at hi
        simpa using hm i (by omega)
      rw [if_pos ⟨c1, hmt⟩]
      refine x_iload_n dX4_takeWord_26 rfl ?_
      refine x_aload_n dX4_takeWord_27 rfl ?_
      refine x_viS0 hq rfl dX4_takeWord_28 cV_X4_160 hL rfl rfl ⟨⟨by decide, by decide⟩, by decide, by decide⟩ (Nat.le_of_ble_eq_true rfl) ?_
      refine x_icmp_ge_n 61 dX4_takeWord_31 (by decide) (by omega) (by omega) (fun c => ?_) (fun c => ?_)
      · refine x_aload_n dX4_takeWord_61 rfl ?_
        refine x_aload_n dX4_takeWord_62 rfl ?_
        refine x_getf dX4_takeWord_63 f_X4_25 putTr_at.o rfl ?_
        refine xq_X4_tokenAt dX4_takeWord_66 f_X4_28 ?_
        refine x_aload_n dX4_takeWord_69 rfl ?_
        refine x_iload_n dX4_takeWord_70 rfl ?_
        refine xq_X4_position dX4_takeWord_71 f_X4_25 ?_
        refine x_iconst (nI 1) dX4_takeWord_74 (by decide) ?_
        exact x_iret .boolean dX4_takeWord_75 rfl rfl (by decide) (by decide) (rfl) (rfl)
      · omega
    | succ f ih =>
      intro k hf hm
      refine x_iload_n dX4_takeWord_26 rfl ?_
      refine x_aload_n dX4_takeWord_27 rfl ?_
      refine x_viS0 hq rfl dX4_takeWord_28 cV_X4_160 hL rfl rfl ⟨⟨by decide, by decide⟩, by decide, by decide⟩ (Nat.le_of_ble_eq_true rfl) ?_
      refine x_icmp_ge_n 61 dX4_takeWord_31 (by decide) (by omega) (by omega) (fun c => ?_) (fun c => ?_)
      · omega
      · have hc : W.getD k 0 < 128 := by
          rw [List.getD_eq_getElem?_getD, List.getElem?_eq_getElem (by omega), Option.getD_some]
          exact hWc _ (List.getElem_mem _)
        have hse := sb_eq (hb (t1.2.1 + k)) hc
        refine x_aload_n dX4_takeWord_34 rfl ?_
        refine x_getf dX4_takeWord_35 f_X4_9 putTr_at.o rfl ?_
        refine x_aload_n dX4_takeWord_38 rfl ?_
        refine x_getf dX4_takeWord_39 f_X4_25 putTr_at.o rfl ?_
        refine x_iload_n dX4_takeWord_42 rfl ?_
        refine x_iadd_n dX4_takeWord_43 ?_
        refine x_bald dX4_takeWord_44 putTr_at.text (by omega) (by decide) ?_
        refine x_aload_n dX4_takeWord_45 rfl ?_
        refine x_iload_n dX4_takeWord_46 rfl ?_
        refine x_viS0 hq rfl dX4_takeWord_47 cV_X4_164 (c_charAt hq (by rw [hlen]; exact hWl) (by rw [hlen]; omega) (by rw [hqW]; exact xWd_get (by omega)) hc) rfl rfl ⟨⟨by decide, by decide⟩, by decide, by decide⟩ (Nat.le_of_ble_eq_true rfl) ?_
        refine x_icmp_eq 55 dX4_takeWord_50 (by decide) (fun c2 => ?_) (fun c2 => ?_)
        · refine x_iinc_n (k := 1) dX4_takeWord_55 rfl (by decide) (by decide) rfl rfl ?_
          refine x_goto 26 dX4_takeWord_58 (by decide) ?_
          refine xP.weak (by simp [xle, xset1, fin3]) (ih (k + 1) (by omega) fun i hi => ?_)
          by_cases e : i = k
          · rw [e]; exact hse.mp c2
          · exact hm i (by omega)
        · have hmt : ¬ mtB b t1.2.1 W = true := by
            intro q9
            unfold mtB at q9
            rw [List.all_eq_true] at q9
            have := q9 k (List.mem_range.mpr (by omega))
            exact c2 (hse.mpr (by simpa using this))
          rw [if_neg (fun q => hmt q.2)]
          refine x_iconst (nI 0) dX4_takeWord_53 (by decide) ?_
          exact x_iret .boolean dX4_takeWord_54 rfl rfl (by decide) (by decide) (rfl) (rfl)
  refine x_iconst (nI 0) dX4_takeWord_24 (by decide) ?_
  refine x_istore_n dX4_takeWord_25 (by decide) rfl rfl ?_
  exact xP.weak (by simp [xle, xset1, fin3]) (key W.length 0 rfl (fun i hi => absurd hi (Nat.not_lt_zero i)))
end T2
