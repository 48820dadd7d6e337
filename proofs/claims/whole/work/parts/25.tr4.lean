/-! ===== TextReader: what is read ===== -/
/-- nothing stands beyond the families and the pictures that there are -/
def aZ (st : Ar) : Prop := (∀ f, st.1 1 ≤ f → f < 10 → st.2.2 1 f = 0 ∧ st.2.2 2 f = 0 ∧ st.2.2 3 f = 0 ∧ st.2.2 4 f = 0) ∧ ∀ p, st.1 2 ≤ p → p < 12 → st.2.2 6 p = 0 ∧ st.2.2 7 p = 0
def aW (st : Ar) : Prop := aOk st ∧ aZ st
theorem pow_le2 {a b : Nat} (h : a ≤ b) : 2 ^ a ≤ 2 ^ b := Nat.pow_le_pow_right (by decide) h
theorem addFam_ok {st : Ar} (hw : aW st) (nm : Int64) {r : Nat} (hN : st.1 1 < 10) (hr : r ≤ 20) : aW (addFamS st nm r) := by
  obtain ⟨⟨h1, h2, h3, h4, h5, h6, h7, h8⟩, z1, z2⟩ := hw
  have hp : 2 ^ st.1 1 ≤ 2 ^ (st.1 1 + 1) := pow_le2 (by omega)
  refine ⟨⟨h1, (hN : st.1 1 + 1 ≤ 10), h3, fun p q => ⟨Nat.lt_of_lt_of_le (h4 p q).1 hp, Nat.lt_of_lt_of_le (h4 p q).2 hp⟩, fun f q => Nat.lt_of_lt_of_le (h5 f q) hp, h6, fun f q => ?_, h8⟩, fun f q1 q2 => z1 f (Nat.le_of_succ_le q1) q2, z2⟩
  show va_up (st.2.2 0) (st.1 1) r f ≤ 20 ∧ st.2.2 4 f ≤ va_up (st.2.2 0) (st.1 1) r f
  have := h7 f q
  unfold va_up
  split
  · rename_i e
    have := (z1 f (by omega) q).2.2.2
    omega
  · exact this
theorem addPic_ok {st : Ar} (hw : aW st) (nm : Int64) {r : Nat} (hN : st.1 2 < 12) (hr : r ≤ 10) : aW (addPicS st nm r) := by
  obtain ⟨⟨h1, h2, h3, h4, h5, h6, h7, h8⟩, z1, z2⟩ := hw
  refine ⟨⟨h1, h2, (hN : st.1 2 + 1 ≤ 12), h4, h5, h6, h7, fun p q => ?_⟩, z1, fun p q1 q2 => z2 p (Nat.le_of_succ_le q1) q2⟩
  show va_up (st.2.2 5) (st.1 2) r p ≤ 10
  unfold va_up
  split
  · exact hr
  · exact h8 p q
theorem addCopy_ok {st : Ar} (hw : aW st) {p f sp : Nat} (hp : p < st.1 2) (hf : f < st.1 1) (hs : sp < 2 ^ st.1 0) (hl : st.2.2 4 f < st.2.2 0 f) : aW (addCopyS st p f sp) := by
  obtain ⟨⟨h1, h2, h3, h4, h5, h6, h7, h8⟩, z1, z2⟩ := hw
  refine ⟨⟨h1, h2, h3, fun i q => ⟨?_, (h4 i q).2⟩, h5, fun i q => ?_, fun i q => ?_, h8⟩, fun i q1 q2 => ⟨(z1 i q1 q2).1, (z1 i q1 q2).2.1, (z1 i q1 q2).2.2.1, ?_⟩, fun i q1 q2 => ⟨?_, (z2 i q1 q2).2⟩⟩
  · show va_up (st.2.2 6) p (st.2.2 6 p ||| 2 ^ f) i < 2 ^ st.1 1
    unfold va_up
    split
    · exact or_lt (h4 p (by omega)).1 hf
    · exact (h4 i q).1
  · show va_up (st.2.2 8) (10 * p + f) sp i < 2 ^ st.1 0
    unfold va_up
    split
    · exact hs
    · exact h6 i q
  · show st.2.2 0 i ≤ 20 ∧ va_up (st.2.2 4) f (st.2.2 4 f + 1) i ≤ st.2.2 0 i
    have := h7 i q
    unfold va_up
    split
    · rename_i e
      subst e
      omega
    · exact this
  · show va_up (st.2.2 4) f (st.2.2 4 f + 1) i = 0
    have q3 : st.1 1 ≤ i := q1
    rw [va_up_ne _ _ (by omega)]
    exact (z1 i q1 q2).2.2.2
  · show va_up (st.2.2 6) p (st.2.2 6 p ||| 2 ^ f) i = 0
    have q3 : st.1 2 ≤ i := q1
    rw [va_up_ne _ _ (by omega)]
    exact (z2 i q1 q2).1
theorem nbS1_ok {st : Ar} (hw : aW st) {a b : Nat} (ha : a < st.1 1) (hb : b < st.1 1) : aW (nbS1 st a b) := by
  obtain ⟨⟨h1, h2, h3, h4, h5, h6, h7, h8⟩, z1, z2⟩ := hw
  refine ⟨⟨h1, h2, h3, h4, fun i q => ?_, h6, h7, h8⟩, fun i q1 q2 => ⟨?_, (z1 i q1 q2).2⟩, z2⟩
  · show va_up (st.2.2 1) a (st.2.2 1 a ||| 2 ^ b) i < 2 ^ st.1 1
    unfold va_up
    split
    · exact or_lt (h5 a (by omega)) hb
    · exact h5 i q
  · show va_up (st.2.2 1) a (st.2.2 1 a ||| 2 ^ b) i = 0
    have q3 : st.1 1 ≤ i := q1
    rw [va_up_ne _ _ (by omega)]
    exact (z1 i q1 q2).1
theorem nbS_ok {st : Ar} (hw : aW st) {a b : Nat} (ha : a < st.1 1) (hb : b < st.1 1) : aW (nbS st a b) := nbS1_ok (nbS1_ok hw ha hb) hb ha
theorem empty_ok {t : Nat} (h1 : 4 ≤ t) (h2 : t ≤ 16) : aW (emptyS t) := by
  refine ⟨⟨⟨h1, h2⟩, Nat.zero_le _, Nat.zero_le _, fun _ _ => ⟨Nat.two_pow_pos _, Nat.two_pow_pos _⟩, fun _ _ => Nat.two_pow_pos _, fun _ _ => Nat.two_pow_pos _, fun _ _ => ⟨Nat.zero_le _, Nat.zero_le _⟩, fun _ _ => Nat.zero_le _⟩, fun _ _ _ => ⟨rfl, rfl, rfl, rfl⟩, fun _ _ _ => ⟨rfl, rfl⟩⟩
/-! the reader's states stay good -/
section K1
variable {b : Nat → Nat} {t : Tr}
theorem trFail_ok {c a : Int32} (h : trOk t) : trOk (trFail t c a) := h
theorem semS_ok (ht : trOk t) : trOk (semS b t).2 := by
  have h1 := trSk_ok (b := b) ht
  unfold semS
  split
  · rename_i c
    exact ⟨h1.1, c.1⟩
  · exact h1
theorem ndW_ok {W : List Nat} (ht : trOk t) : trOk (ndW b W t).2 := by
  have h1 := (tkW_ok (b := b) (W := W) ht).1
  unfold ndW
  split
  · exact h1
  · exact h1
theorem ndN_ok (ht : trOk t) : trOk (ndN b t).2 := by
  have h1 := trSk_ok (b := b) ht
  have h2 := wEnd_le (b := b) h1.2
  unfold ndN
  split
  · exact h1
  · exact ⟨h1.1, h2.2⟩
theorem ndD_ok {lo hi : Nat} (ht : trOk t) : trOk (ndD b lo hi t).2 ∧ ((ndD b lo hi t).1 = true → lo ≤ (ndD b lo hi t).2.2.2.2.1 ∧ (ndD b lo hi t).2.2.2.2.1 ≤ hi) := by
  have h1 := trSk_ok (b := b) ht
  have h2 := dgF_le (b := b) (t.1.1 - (trSk b t).2.1) (trSk b t).2.1 0
  have h3 : (trSk b t).2.1 ≤ t.1.1 := h1.2
  have h4 : (dgF b (t.1.1 - (trSk b t).2.1) (trSk b t).2.1 0).1 ≤ t.1.1 := by omega
  unfold ndD
  dsimp only
  split
  · split
    · rename_i c
      exact ⟨⟨h1.1, h4⟩, fun _ => c⟩
    · exact ⟨⟨h1.1, h4⟩, fun q => by cases q⟩
  · exact ⟨h1, fun q => by cases q⟩
end K1
theorem plF_lt {f : Nat → Int64} {x : Nat} : ∀ n k i, plF f x n k = some i → k ≤ i ∧ i < k + n := by
  intro n
  induction n with
  | zero => intro k i h; cases h
  | succ n ih =>
    intro k i h
    rw [plF] at h
    split at h
    · cases h; omega
    · have := ih _ _ h
      omega
theorem oI_none {x : Option Nat} (hx : ∀ i, x = some i → i < 100) : oI x = -1 ↔ x = none := by
  cases x with
  | none => exact ⟨fun _ => rfl, fun _ => rfl⟩
  | some i =>
    refine ⟨fun q => ?_, fun q => by cases q⟩
    have : ∀ j : Fin 100, ¬ nI j.val = -1 := by decide +kernel
    exact absurd q (this ⟨i, hx i rfl⟩)
def W0 : List Nat := [116, 105, 108, 101, 115]
def W1 : List Nat := [102, 97, 109, 105, 108, 121]
def W2 : List Nat := [110, 101, 97, 114]
def W3 : List Nat := [112, 105, 99, 116, 117, 114, 101]
def W4 : List Nat := [112, 108, 101, 100, 103, 101]
def W5 : List Nat := [98, 121]
def W6 : List Nat := [115, 112, 111, 105, 108, 101, 100]
theorem xw0 : xWd 0 W0 := ⟨_, rfl, by decide, by decide, by decide⟩
theorem xw1 : xWd 1 W1 := ⟨_, rfl, by decide, by decide, by decide⟩
theorem xw2 : xWd 2 W2 := ⟨_, rfl, by decide, by decide, by decide⟩
theorem xw3 : xWd 3 W3 := ⟨_, rfl, by decide, by decide, by decide⟩
theorem xw4 : xWd 4 W4 := ⟨_, rfl, by decide, by decide, by decide⟩
theorem xw5 : xWd 5 W5 := ⟨_, rfl, by decide, by decide, by decide⟩
theorem xw6 : xWd 6 W6 := ⟨_, rfl, by decide, by decide, by decide⟩
theorem arT {g : xG} {l : Launch} {h : xH} {o r fr mc ms : Nat} {M : xM} {As : List Value} {rv : Option Value} {st st' : Ar} {b : Nat → Nat} {t : Tr} (hd : r + 2 ≤ o ∨ o + 12 ≤ r) (c : ∀ H, xDet g l M fr mc ms As (putArch H o st) rv (putArch H o st')) : xDet g l M fr mc ms As (putTr (putArch h o st) r b t) rv (putTr (putArch h o st') r b t) := by
  have q := c (putTr (putArch h o st) r b t)
  rw [putArch_tr hd, putArch_tr hd, putArch_put, putArch_put] at q
  exact q
/-! a family -/
def rdFam (b : Nat → Nat) (t : Tr) (st : Ar) : Bool × Tr × Ar :=
  if 10 ≤ st.1 1 then (false, trFail t (-7) (nI t.2.2.1), st)
  else if (ndN b t).1 = true then
    if plF (st.2.1 0) (ndN b t).2.2.2.2.2 (st.1 1) 0 = none then
      if (ndD b 1 20 (ndN b t).2).1 = true then ((semS b (ndD b 1 20 (ndN b t).2).2).1, (semS b (ndD b 1 20 (ndN b t).2).2).2, addFamS st (lN (ndN b t).2.2.2.2.2) (ndD b 1 20 (ndN b t).2).2.2.2.2.1)
      else (false, (ndD b 1 20 (ndN b t).2).2, st)
    else (false, trFail (ndN b t).2 (-5) (nI (ndN b t).2.2.2.1), st)
  else (false, (ndN b t).2, st)
section T4
variable {g : xG} {l : Launch} {h : xH} {o r : Nat} {b : Nat → Nat} {t : Tr} {st : Ar}
theorem putTr_arch (hd : r + 2 ≤ o ∨ o + 12 ≤ r) : ArchAt (putTr (putArch h o st) r b t) o st := putArch_at.tr hd
theorem c_readFamily (hw : aW st) (hd : r + 2 ≤ o ∨ o + 12 ≤ r) (hb : ∀ k, b k < 256) (ht : trOk t) : xDet g l mX4_readFamily 2 0 0 [.ref r, .ref o] (putTr (putArch h o st) r b t) (some (.int (xb (rdFam b t st).1))) (putTr (putArch h o (rdFam b t st).2.2) r b (rdFam b t st).2.1) := by
  have hA : ∀ t', ArchAt (putTr (putArch h o st) r b t') o st := fun t' => putArch_at.tr hd
  have h1 := ndN_ok (b := b) ht
  have h2 := (ndD_ok (b := b) (lo := 1) (hi := 20) h1).1
  have hN : st.1 1 ≤ 10 := hw.1.2.1
  have hN : st.1 1 ≤ 10 := hw.1.2.1
  unfold rdFam
  refine xMet.of (V := [some (.ref r), some (.ref o), none, none]) moX4_readFamily (Nat.le_of_ble_eq_true rfl) rfl ?_
  refine x_aload_n dX4_readFamily_0 rfl ?_
  refine x_getf dX4_readFamily_1 f_X4_84 (hA _).o rfl ?_
  refine x_bipush (nI 10) dX4_readFamily_4 (by decide) ?_
  refine x_icmp_lt_n 20 dX4_readFamily_6 (by decide) (by omega) (by omega) (fun c => ?_) (fun c => ?_)
  rotate_left
  · rw [if_pos c]
    refine x_aload_n dX4_readFamily_9 rfl ?_
    refine x_bipush (-7) dX4_readFamily_10 (by decide) ?_
    refine x_aload_n dX4_readFamily_12 rfl ?_
    refine x_getf dX4_readFamily_13 f_X4_28 putTr_at.o rfl ?_
    refine x_vi0 dX4_readFamily_16 cV_X4_78 (c_fail) rfl rfl ⟨⟨by decide, by decide⟩, by decide, by decide⟩ (Nat.le_of_ble_eq_true rfl) (xrecv putTr_at.o rfl xcl3) ?_
    exact x_bret dX4_readFamily_19 rfl (by decide) (by decide) (rfl) (rfl)
  rw [if_neg (by omega)]
  refine x_aload_n dX4_readFamily_20 rfl ?_
  refine x_vi0 dX4_readFamily_21 cV_X4_87 (c_needName hb ht) rfl rfl ⟨⟨by decide, by decide⟩, by decide, by decide⟩ (Nat.le_of_ble_eq_true rfl) (xrecv putTr_at.o rfl xcl3) ?_
  refine x_if_ne_b 29 dX4_readFamily_24 (by decide) (fun c1 => ?_) (fun c1 => ?_)
  rotate_left
  · rw [if_neg (by rw [c1]; decide)]
    refine x_iconst (nI 0) dX4_readFamily_27 (by decide) ?_
    exact x_iret .boolean dX4_readFamily_28 rfl rfl (by decide) (by decide) (rfl) (rfl)
  rw [if_pos c1]
  refine x_aload_n dX4_readFamily_29 rfl ?_
  refine x_aload_n dX4_readFamily_30 rfl ?_
  refine x_getf dX4_readFamily_31 f_X4_90 (hA _).o rfl ?_
  refine x_aload_n dX4_readFamily_34 rfl ?_
  refine x_getf dX4_readFamily_35 f_X4_84 (hA _).o rfl ?_
  refine x_vi0 dX4_readFamily_38 cV_X4_94 (c_placeOf (hA _).familyNames (by omega) (by decide)) rfl rfl ⟨⟨by decide, by decide⟩, by decide, by decide⟩ (Nat.le_of_ble_eq_true rfl) (xrecv putTr_at.o rfl xcl3) ?_
  refine x_iconst (-1) dX4_readFamily_41 (by decide) ?_
  refine x_icmp_eq 56 dX4_readFamily_42 (by decide) (fun c2 => ?_) (fun c2 => ?_)
  rotate_left
  · rw [if_neg (fun q => c2 ((oI_none (fun i q => by have := plF_lt _ _ _ q; omega)).mpr q))]
    refine x_aload_n dX4_readFamily_45 rfl ?_
    refine x_bipush (-5) dX4_readFamily_46 (by decide) ?_
    refine x_aload_n dX4_readFamily_48 rfl ?_
    refine x_getf dX4_readFamily_49 f_X4_28 putTr_at.o rfl ?_
    refine x_vi0 dX4_readFamily_52 cV_X4_78 (c_fail) rfl rfl ⟨⟨by decide, by decide⟩, by decide, by decide⟩ (Nat.le_of_ble_eq_true rfl) (xrecv putTr_at.o rfl xcl3) ?_
    exact x_bret dX4_readFamily_55 rfl (by decide) (by decide) (rfl) (rfl)
  rw [if_pos ((oI_none (fun i q => by have := plF_lt _ _ _ q; omega)).mp c2)]
  refine x_aload_n dX4_readFamily_56 rfl ?_
  refine x_getf dX4_readFamily_57 f_X4_34 putTr_at.o rfl ?_
  refine x_lstore_n dX4_readFamily_60 (by decide) rfl rfl ?_
  refine x_aload_n dX4_readFamily_61 rfl ?_
  refine x_iconst (nI 1) dX4_readFamily_62 (by decide) ?_
  refine x_bipush (nI 20) dX4_readFamily_63 (by decide) ?_
  refine x_vi0 dX4_readFamily_65 cV_X4_63 (c_needNumber hb h1 (by decide) (by decide)) rfl rfl ⟨⟨by decide, by decide⟩, by decide, by decide⟩ (Nat.le_of_ble_eq_true rfl) (xrecv putTr_at.o rfl xcl3) ?_
  refine x_if_ne_b 73 dX4_readFamily_68 (by decide) (fun c3 => ?_) (fun c3 => ?_)
  rotate_left
  · rw [if_neg (by rw [c3]; decide)]
    refine x_iconst (nI 0) dX4_readFamily_71 (by decide) ?_
    exact x_iret .boolean dX4_readFamily_72 rfl rfl (by decide) (by decide) (rfl) (rfl)
  rw [if_pos c3]
  refine x_aload_n dX4_readFamily_73 rfl ?_
  refine x_lload_n dX4_readFamily_74 rfl ?_
  refine x_aload_n dX4_readFamily_75 rfl ?_
  refine x_getf dX4_readFamily_76 f_X4_31 putTr_at.o rfl ?_
  refine x_vv0 dX4_readFamily_79 cV_X4_98 (arT hd (fun H => c_addFamily _ (by omega))) rfl rfl ⟨⟨by decide, by decide⟩, by decide, by decide⟩ (Nat.le_of_ble_eq_true rfl) (xrecv (hA _).o rfl xcl0) ?_
  refine x_aload_n dX4_readFamily_82 rfl ?_
  refine x_vi0 dX4_readFamily_83 cV_X4_67 (c_needSemicolon hb h2) rfl rfl ⟨⟨by decide, by decide⟩, by decide, by decide⟩ (Nat.le_of_ble_eq_true rfl) (xrecv putTr_at.o rfl xcl3) ?_
  exact x_bret dX4_readFamily_86 rfl (by decide) (by decide) (rfl) (rfl)
end T4
